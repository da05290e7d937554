theorem dX12_holds__143 : decode cX12_holds_ 143 = .ok (.lstore 5, 2) := by decide +kernel
theorem dX12_holds__145 : decode cX12_holds_ 145 = .ok (.iinc 9 1, 3) := by decide +kernel
theorem dX12_holds__148 : decode cX12_holds_ 148 = .ok (.goto (-120), 3) := by decide +kernel
theorem dX12_holds__151 : decode cX12_holds_ 151 = .ok (.lload 5, 2) := by decide +kernel
theorem dX12_holds__153 : decode cX12_holds_ 153 = .ok (.iload 4, 2) := by decide +kernel
theorem dX12_holds__155 : decode cX12_holds_ 155 = .ok (.i2l, 1) := by decide +kernel
theorem dX12_holds__156 : decode cX12_holds_ 156 = .ok (.lsub, 1) := by decide +kernel
theorem dX12_holds__157 : decode cX12_holds_ 157 = .ok (.lstore 5, 2) := by decide +kernel
theorem dX12_holds__159 : decode cX12_holds_ 159 = .ok (.iconst 0, 1) := by decide +kernel
theorem dX12_holds__160 : decode cX12_holds_ 160 = .ok (.istore 9, 2) := by decide +kernel
theorem dX12_holds__162 : decode cX12_holds_ 162 = .ok (.iload 9, 2) := by decide +kernel
theorem dX12_holds__164 : decode cX12_holds_ 164 = .ok (.aload_n 0, 1) := by decide +kernel
theorem dX12_holds__165 : decode cX12_holds_ 165 = .ok (.getfield 471, 3) := by decide +kernel
theorem dX12_holds__168 : decode cX12_holds_ 168 = .ok (.if_icmp .ge 34, 3) := by decide +kernel
theorem dX12_holds__171 : decode cX12_holds_ 171 = .ok (.aload_n 0, 1) := by decide +kernel
theorem dX12_holds__172 : decode cX12_holds_ 172 = .ok (.getfield 244, 3) := by decide +kernel
theorem dX12_holds__175 : decode cX12_holds_ 175 = .ok (.iload 9, 2) := by decide +kernel
theorem dX12_holds__177 : decode cX12_holds_ 177 = .ok (.iaload, 1) := by decide +kernel
theorem dX12_holds__178 : decode cX12_holds_ 178 = .ok (.iload 7, 2) := by decide +kernel
theorem dX12_holds__180 : decode cX12_holds_ 180 = .ok (.if_icmp .ne 16, 3) := by decide +kernel
theorem dX12_holds__183 : decode cX12_holds_ 183 = .ok (.lload 5, 2) := by decide +kernel
theorem dX12_holds__185 : decode cX12_holds_ 185 = .ok (.aload_n 0, 1) := by decide +kernel
theorem dX12_holds__186 : decode cX12_holds_ 186 = .ok (.getfield 184, 3) := by decide +kernel
theorem dX12_holds__189 : decode cX12_holds_ 189 = .ok (.iload 9, 2) := by decide +kernel
theorem dX12_holds__191 : decode cX12_holds_ 191 = .ok (.iaload, 1) := by decide +kernel
theorem dX12_holds__192 : decode cX12_holds_ 192 = .ok (.i2l, 1) := by decide +kernel
theorem dX12_holds__193 : decode cX12_holds_ 193 = .ok (.lsub, 1) := by decide +kernel
theorem dX12_holds__194 : decode cX12_holds_ 194 = .ok (.lstore 5, 2) := by decide +kernel
theorem dX12_holds__196 : decode cX12_holds_ 196 = .ok (.iinc 9 1, 3) := by decide +kernel
theorem dX12_holds__199 : decode cX12_holds_ 199 = .ok (.goto (-37), 3) := by decide +kernel
theorem dX12_holds__202 : decode cX12_holds_ 202 = .ok (.lload 5, 2) := by decide +kernel
theorem dX12_holds__204 : decode cX12_holds_ 204 = .ok (.iload_n 3, 1) := by decide +kernel
theorem dX12_holds__205 : decode cX12_holds_ 205 = .ok (.i2l, 1) := by decide +kernel
theorem dX12_holds__206 : decode cX12_holds_ 206 = .ok (.lcmp, 1) := by decide +kernel
theorem dX12_holds__207 : decode cX12_holds_ 207 = .ok (.ifCond .ge 11, 3) := by decide +kernel
theorem dX12_holds__210 : decode cX12_holds_ 210 = .ok (.aload_n 0, 1) := by decide +kernel
theorem dX12_holds__211 : decode cX12_holds_ 211 = .ok (.iload 7, 2) := by decide +kernel
theorem dX12_holds__213 : decode cX12_holds_ 213 = .ok (.putfield 474, 3) := by decide +kernel
theorem dX12_holds__216 : decode cX12_holds_ 216 = .ok (.iconst 0, 1) := by decide +kernel
theorem dX12_holds__217 : decode cX12_holds_ 217 = .ok (.ireturn, 1) := by decide +kernel
theorem dX12_holds__218 : decode cX12_holds_ 218 = .ok (.iinc 7 1, 3) := by decide +kernel
theorem dX12_holds__221 : decode cX12_holds_ 221 = .ok (.goto (-211), 3) := by decide +kernel
theorem dX12_holds__224 : decode cX12_holds_ 224 = .ok (.iconst 0, 1) := by decide +kernel
theorem dX12_holds__225 : decode cX12_holds_ 225 = .ok (.istore 7, 2) := by decide +kernel
theorem dX12_holds__227 : decode cX12_holds_ 227 = .ok (.iload 7, 2) := by decide +kernel
theorem dX12_holds__229 : decode cX12_holds_ 229 = .ok (.aload_n 0, 1) := by decide +kernel
theorem dX12_holds__230 : decode cX12_holds_ 230 = .ok (.getfield 471, 3) := by decide +kernel
theorem dX12_holds__233 : decode cX12_holds_ 233 = .ok (.if_icmp .ge 44, 3) := by decide +kernel
theorem dX12_holds__236 : decode cX12_holds_ 236 = .ok (.aload_n 0, 1) := by decide +kernel
theorem dX12_holds__237 : decode cX12_holds_ 237 = .ok (.getfield 244, 3) := by decide +kernel
theorem dX12_holds__240 : decode cX12_holds_ 240 = .ok (.iload 7, 2) := by decide +kernel
theorem dX12_holds__242 : decode cX12_holds_ 242 = .ok (.iaload, 1) := by decide +kernel
theorem dX12_holds__243 : decode cX12_holds_ 243 = .ok (.iconst (-1), 1) := by decide +kernel
theorem dX12_holds__244 : decode cX12_holds_ 244 = .ok (.if_icmp .eq 27, 3) := by decide +kernel
theorem dX12_holds__247 : decode cX12_holds_ 247 = .ok (.lload 5, 2) := by decide +kernel
theorem dX12_holds__249 : decode cX12_holds_ 249 = .ok (.aload_n 0, 1) := by decide +kernel
theorem dX12_holds__250 : decode cX12_holds_ 250 = .ok (.getfield 187, 3) := by decide +kernel
theorem dX12_holds__253 : decode cX12_holds_ 253 = .ok (.iload 7, 2) := by decide +kernel
theorem dX12_holds__255 : decode cX12_holds_ 255 = .ok (.iaload, 1) := by decide +kernel
theorem dX12_holds__256 : decode cX12_holds_ 256 = .ok (.i2l, 1) := by decide +kernel
theorem dX12_holds__257 : decode cX12_holds_ 257 = .ok (.iload_n 2, 1) := by decide +kernel
theorem dX12_holds__258 : decode cX12_holds_ 258 = .ok (.aload_n 0, 1) := by decide +kernel
theorem dX12_holds__259 : decode cX12_holds_ 259 = .ok (.getfield 244, 3) := by decide +kernel
theorem dX12_holds__262 : decode cX12_holds_ 262 = .ok (.iload 7, 2) := by decide +kernel
theorem dX12_holds__264 : decode cX12_holds_ 264 = .ok (.iaload, 1) := by decide +kernel
theorem dX12_holds__265 : decode cX12_holds_ 265 = .ok (.isub, 1) := by decide +kernel
theorem dX12_holds__266 : decode cX12_holds_ 266 = .ok (.i2l, 1) := by decide +kernel
theorem dX12_holds__267 : decode cX12_holds_ 267 = .ok (.lmul, 1) := by decide +kernel
theorem dX12_holds__268 : decode cX12_holds_ 268 = .ok (.ladd, 1) := by decide +kernel
theorem dX12_holds__269 : decode cX12_holds_ 269 = .ok (.lstore 5, 2) := by decide +kernel
theorem dX12_holds__271 : decode cX12_holds_ 271 = .ok (.iinc 7 1, 3) := by decide +kernel
theorem dX12_holds__274 : decode cX12_holds_ 274 = .ok (.goto (-47), 3) := by decide +kernel
theorem dX12_holds__277 : decode cX12_holds_ 277 = .ok (.aload_n 0, 1) := by decide +kernel
theorem dX12_holds__278 : decode cX12_holds_ 278 = .ok (.lload 5, 2) := by decide +kernel
theorem dX12_holds__280 : decode cX12_holds_ 280 = .ok (.l2i, 1) := by decide +kernel
theorem dX12_holds__281 : decode cX12_holds_ 281 = .ok (.putfield 477, 3) := by decide +kernel
theorem dX12_holds__284 : decode cX12_holds_ 284 = .ok (.iconst 1, 1) := by decide +kernel
theorem dX12_holds__285 : decode cX12_holds_ 285 = .ok (.ireturn, 1) := by decide +kernel
theorem dX12_isPlan_0 : decode cX12_isPlan 0 = .ok (.iload_n 0, 1) := by decide +kernel
theorem dX12_isPlan_1 : decode cX12_isPlan 1 = .ok (.iconst 1, 1) := by decide +kernel
theorem dX12_isPlan_2 : decode cX12_isPlan 2 = .ok (.if_icmp .lt 35, 3) := by decide +kernel
theorem dX12_isPlan_5 : decode cX12_isPlan 5 = .ok (.iload_n 0, 1) := by decide +kernel
theorem dX12_isPlan_6 : decode cX12_isPlan 6 = .ok (.bipush 10, 2) := by decide +kernel
theorem dX12_isPlan_8 : decode cX12_isPlan 8 = .ok (.if_icmp .gt 29, 3) := by decide +kernel
theorem dX12_isPlan_11 : decode cX12_isPlan 11 = .ok (.iload_n 1, 1) := by decide +kernel
theorem dX12_isPlan_12 : decode cX12_isPlan 12 = .ok (.ifCond .lt 25, 3) := by decide +kernel
theorem dX12_isPlan_15 : decode cX12_isPlan 15 = .ok (.iload_n 1, 1) := by decide +kernel
theorem dX12_isPlan_16 : decode cX12_isPlan 16 = .ok (.ldc_w 469, 3) := by decide +kernel
theorem dX12_isPlan_19 : decode cX12_isPlan 19 = .ok (.if_icmp .gt 18, 3) := by decide +kernel
theorem dX12_isPlan_22 : decode cX12_isPlan 22 = .ok (.iload_n 2, 1) := by decide +kernel
theorem dX12_isPlan_23 : decode cX12_isPlan 23 = .ok (.ifCond .lt 14, 3) := by decide +kernel
theorem dX12_isPlan_26 : decode cX12_isPlan 26 = .ok (.iload_n 2, 1) := by decide +kernel
theorem dX12_isPlan_27 : decode cX12_isPlan 27 = .ok (.ldc_w 469, 3) := by decide +kernel
theorem dX12_isPlan_30 : decode cX12_isPlan 30 = .ok (.if_icmp .gt 7, 3) := by decide +kernel
theorem dX12_isPlan_33 : decode cX12_isPlan 33 = .ok (.iconst 1, 1) := by decide +kernel
theorem dX12_isPlan_34 : decode cX12_isPlan 34 = .ok (.goto 4, 3) := by decide +kernel
theorem dX12_isPlan_37 : decode cX12_isPlan 37 = .ok (.iconst 0, 1) := by decide +kernel
theorem dX12_isPlan_38 : decode cX12_isPlan 38 = .ok (.ireturn, 1) := by decide +kernel
theorem dX12_plan_0 : decode cX12_plan 0 = .ok (.iload_n 1, 1) := by decide +kernel
theorem dX12_plan_1 : decode cX12_plan 1 = .ok (.iload_n 2, 1) := by decide +kernel
theorem dX12_plan_2 : decode cX12_plan 2 = .ok (.iload_n 3, 1) := by decide +kernel
theorem dX12_plan_3 : decode cX12_plan 3 = .ok (.invokestatic 480, 3) := by decide +kernel
theorem dX12_plan_6 : decode cX12_plan 6 = .ok (.ifCond .ne 10, 3) := by decide +kernel
theorem dX12_plan_9 : decode cX12_plan 9 = .ok (.aload_n 0, 1) := by decide +kernel
theorem dX12_plan_10 : decode cX12_plan 10 = .ok (.bipush (-6), 2) := by decide +kernel
theorem dX12_plan_12 : decode cX12_plan 12 = .ok (.invokevirtual 267, 3) := by decide +kernel
theorem dX12_plan_15 : decode cX12_plan 15 = .ok (.ireturn, 1) := by decide +kernel
theorem dX12_plan_16 : decode cX12_plan 16 = .ok (.iconst 0, 1) := by decide +kernel
theorem dX12_plan_17 : decode cX12_plan 17 = .ok (.istore 4, 2) := by decide +kernel
theorem dX12_plan_19 : decode cX12_plan 19 = .ok (.iconst 0, 1) := by decide +kernel
theorem dX12_plan_20 : decode cX12_plan 20 = .ok (.istore 5, 2) := by decide +kernel
theorem dX12_plan_22 : decode cX12_plan 22 = .ok (.iload 5, 2) := by decide +kernel
theorem dX12_plan_24 : decode cX12_plan 24 = .ok (.aload_n 0, 1) := by decide +kernel
theorem dX12_plan_25 : decode cX12_plan 25 = .ok (.getfield 415, 3) := by decide +kernel
theorem dX12_plan_28 : decode cX12_plan 28 = .ok (.if_icmp .ge 28, 3) := by decide +kernel
theorem dX12_plan_31 : decode cX12_plan 31 = .ok (.aload_n 0, 1) := by decide +kernel
theorem dX12_plan_32 : decode cX12_plan 32 = .ok (.iload 5, 2) := by decide +kernel
theorem dX12_plan_34 : decode cX12_plan 34 = .ok (.iload_n 1, 1) := by decide +kernel
theorem dX12_plan_35 : decode cX12_plan 35 = .ok (.invokevirtual 484, 3) := by decide +kernel
theorem dX12_plan_38 : decode cX12_plan 38 = .ok (.ifCond .eq 12, 3) := by decide +kernel
theorem dX12_plan_41 : decode cX12_plan 41 = .ok (.iload 4, 2) := by decide +kernel
theorem dX12_plan_43 : decode cX12_plan 43 = .ok (.iconst 1, 1) := by decide +kernel
theorem dX12_plan_44 : decode cX12_plan 44 = .ok (.iload 5, 2) := by decide +kernel
theorem dX12_plan_46 : decode cX12_plan 46 = .ok (.ishl, 1) := by decide +kernel
theorem dX12_plan_47 : decode cX12_plan 47 = .ok (.ior, 1) := by decide +kernel
theorem dX12_plan_48 : decode cX12_plan 48 = .ok (.istore 4, 2) := by decide +kernel
theorem dX12_plan_50 : decode cX12_plan 50 = .ok (.iinc 5 1, 3) := by decide +kernel
theorem dX12_plan_53 : decode cX12_plan 53 = .ok (.goto (-31), 3) := by decide +kernel
theorem dX12_plan_56 : decode cX12_plan 56 = .ok (.iconst 0, 1) := by decide +kernel
theorem dX12_plan_57 : decode cX12_plan 57 = .ok (.istore 5, 2) := by decide +kernel
theorem dX12_plan_59 : decode cX12_plan 59 = .ok (.iconst 0, 1) := by decide +kernel
theorem dX12_plan_60 : decode cX12_plan 60 = .ok (.istore 6, 2) := by decide +kernel
theorem dX12_plan_62 : decode cX12_plan 62 = .ok (.iconst 0, 1) := by decide +kernel
theorem dX12_plan_63 : decode cX12_plan 63 = .ok (.istore 7, 2) := by decide +kernel
theorem dX12_plan_65 : decode cX12_plan 65 = .ok (.iconst 0, 1) := by decide +kernel
theorem dX12_plan_66 : decode cX12_plan 66 = .ok (.istore 8, 2) := by decide +kernel
theorem dX12_plan_68 : decode cX12_plan 68 = .ok (.iconst 0, 1) := by decide +kernel
theorem dX12_plan_69 : decode cX12_plan 69 = .ok (.istore 9, 2) := by decide +kernel
theorem dX12_plan_71 : decode cX12_plan 71 = .ok (.iload_n 1, 1) := by decide +kernel
theorem dX12_plan_72 : decode cX12_plan 72 = .ok (.iconst 1, 1) := by decide +kernel
theorem dX12_plan_73 : decode cX12_plan 73 = .ok (.iadd, 1) := by decide +kernel
theorem dX12_plan_74 : decode cX12_plan 74 = .ok (.istore 10, 2) := by decide +kernel
theorem dX12_plan_76 : decode cX12_plan 76 = .ok (.iconst 0, 1) := by decide +kernel
theorem dX12_plan_77 : decode cX12_plan 77 = .ok (.istore 11, 2) := by decide +kernel
theorem dX12_plan_79 : decode cX12_plan 79 = .ok (.iload 11, 2) := by decide +kernel
theorem dX12_plan_81 : decode cX12_plan 81 = .ok (.iconst 1, 1) := by decide +kernel
theorem dX12_plan_82 : decode cX12_plan 82 = .ok (.aload_n 0, 1) := by decide +kernel
theorem dX12_plan_83 : decode cX12_plan 83 = .ok (.getfield 415, 3) := by decide +kernel
theorem dX12_plan_86 : decode cX12_plan 86 = .ok (.ishl, 1) := by decide +kernel
theorem dX12_plan_87 : decode cX12_plan 87 = .ok (.if_icmp .ge 186, 3) := by decide +kernel
theorem dX12_plan_90 : decode cX12_plan 90 = .ok (.iload 11, 2) := by decide +kernel
theorem dX12_plan_92 : decode cX12_plan 92 = .ok (.iload 4, 2) := by decide +kernel
theorem dX12_plan_94 : decode cX12_plan 94 = .ok (.iconst (-1), 1) := by decide +kernel
theorem dX12_plan_95 : decode cX12_plan 95 = .ok (.ixor, 1) := by decide +kernel
theorem dX12_plan_96 : decode cX12_plan 96 = .ok (.iand, 1) := by decide +kernel
theorem dX12_plan_97 : decode cX12_plan 97 = .ok (.ifCond .eq 6, 3) := by decide +kernel
theorem dX12_plan_100 : decode cX12_plan 100 = .ok (.goto 167, 3) := by decide +kernel
theorem dX12_plan_103 : decode cX12_plan 103 = .ok (.iconst 0, 1) := by decide +kernel
theorem dX12_plan_104 : decode cX12_plan 104 = .ok (.istore 12, 2) := by decide +kernel
theorem dX12_plan_106 : decode cX12_plan 106 = .ok (.iload 12, 2) := by decide +kernel
theorem dX12_plan_108 : decode cX12_plan 108 = .ok (.aload_n 0, 1) := by decide +kernel
theorem dX12_plan_109 : decode cX12_plan 109 = .ok (.getfield 471, 3) := by decide +kernel
theorem dX12_plan_112 : decode cX12_plan 112 = .ok (.ifCond .le 8, 3) := by decide +kernel
theorem dX12_plan_115 : decode cX12_plan 115 = .ok (.iload 10, 2) := by decide +kernel
theorem dX12_plan_117 : decode cX12_plan 117 = .ok (.goto 4, 3) := by decide +kernel
theorem dX12_plan_120 : decode cX12_plan 120 = .ok (.iconst 1, 1) := by decide +kernel
theorem dX12_plan_121 : decode cX12_plan 121 = .ok (.if_icmp .ge 146, 3) := by decide +kernel
theorem dX12_plan_124 : decode cX12_plan 124 = .ok (.iconst 0, 1) := by decide +kernel
theorem dX12_plan_125 : decode cX12_plan 125 = .ok (.istore 13, 2) := by decide +kernel
theorem dX12_plan_127 : decode cX12_plan 127 = .ok (.iload 13, 2) := by decide +kernel
theorem dX12_plan_129 : decode cX12_plan 129 = .ok (.aload_n 0, 1) := by decide +kernel
theorem dX12_plan_130 : decode cX12_plan 130 = .ok (.getfield 471, 3) := by decide +kernel
theorem dX12_plan_133 : decode cX12_plan 133 = .ok (.iconst 1, 1) := by decide +kernel
theorem dX12_plan_134 : decode cX12_plan 134 = .ok (.if_icmp .le 8, 3) := by decide +kernel
theorem dX12_plan_137 : decode cX12_plan 137 = .ok (.iload 10, 2) := by decide +kernel
theorem dX12_plan_139 : decode cX12_plan 139 = .ok (.goto 4, 3) := by decide +kernel
theorem dX12_plan_142 : decode cX12_plan 142 = .ok (.iconst 1, 1) := by decide +kernel
theorem dX12_plan_143 : decode cX12_plan 143 = .ok (.if_icmp .ge 118, 3) := by decide +kernel
theorem dX12_plan_146 : decode cX12_plan 146 = .ok (.aload_n 0, 1) := by decide +kernel
theorem dX12_plan_147 : decode cX12_plan 147 = .ok (.getfield 244, 3) := by decide +kernel
theorem dX12_plan_150 : decode cX12_plan 150 = .ok (.iconst 0, 1) := by decide +kernel
theorem dX12_plan_151 : decode cX12_plan 151 = .ok (.aload_n 0, 1) := by decide +kernel
theorem dX12_plan_152 : decode cX12_plan 152 = .ok (.getfield 471, 3) := by decide +kernel
theorem dX12_plan_155 : decode cX12_plan 155 = .ok (.ifCond .le 14, 3) := by decide +kernel
theorem dX12_plan_158 : decode cX12_plan 158 = .ok (.iload 12, 2) := by decide +kernel
theorem dX12_plan_160 : decode cX12_plan 160 = .ok (.iload_n 1, 1) := by decide +kernel
theorem dX12_plan_161 : decode cX12_plan 161 = .ok (.if_icmp .ge 8, 3) := by decide +kernel
theorem dX12_plan_164 : decode cX12_plan 164 = .ok (.iload 12, 2) := by decide +kernel
theorem dX12_plan_166 : decode cX12_plan 166 = .ok (.goto 4, 3) := by decide +kernel
theorem dX12_plan_169 : decode cX12_plan 169 = .ok (.iconst (-1), 1) := by decide +kernel
theorem dX12_plan_170 : decode cX12_plan 170 = .ok (.iastore, 1) := by decide +kernel
theorem dX12_plan_171 : decode cX12_plan 171 = .ok (.aload_n 0, 1) := by decide +kernel
theorem dX12_plan_172 : decode cX12_plan 172 = .ok (.getfield 244, 3) := by decide +kernel
theorem dX12_plan_175 : decode cX12_plan 175 = .ok (.iconst 1, 1) := by decide +kernel
theorem dX12_plan_176 : decode cX12_plan 176 = .ok (.aload_n 0, 1) := by decide +kernel
theorem dX12_plan_177 : decode cX12_plan 177 = .ok (.getfield 471, 3) := by decide +kernel
theorem dX12_plan_180 : decode cX12_plan 180 = .ok (.iconst 1, 1) := by decide +kernel
theorem dX12_plan_181 : decode cX12_plan 181 = .ok (.if_icmp .le 14, 3) := by decide +kernel
theorem dX12_plan_184 : decode cX12_plan 184 = .ok (.iload 13, 2) := by decide +kernel
theorem dX12_plan_186 : decode cX12_plan 186 = .ok (.iload_n 1, 1) := by decide +kernel
theorem dX12_plan_187 : decode cX12_plan 187 = .ok (.if_icmp .ge 8, 3) := by decide +kernel
theorem dX12_plan_190 : decode cX12_plan 190 = .ok (.iload 13, 2) := by decide +kernel
theorem dX12_plan_192 : decode cX12_plan 192 = .ok (.goto 4, 3) := by decide +kernel
theorem dX12_plan_195 : decode cX12_plan 195 = .ok (.iconst (-1), 1) := by decide +kernel
theorem dX12_plan_196 : decode cX12_plan 196 = .ok (.iastore, 1) := by decide +kernel
theorem dX12_plan_197 : decode cX12_plan 197 = .ok (.aload_n 0, 1) := by decide +kernel
theorem dX12_plan_198 : decode cX12_plan 198 = .ok (.iload 11, 2) := by decide +kernel
theorem dX12_plan_200 : decode cX12_plan 200 = .ok (.iload_n 1, 1) := by decide +kernel
theorem dX12_plan_201 : decode cX12_plan 201 = .ok (.iload_n 2, 1) := by decide +kernel
theorem dX12_plan_202 : decode cX12_plan 202 = .ok (.iload_n 3, 1) := by decide +kernel
theorem dX12_plan_203 : decode cX12_plan 203 = .ok (.invokevirtual 487, 3) := by decide +kernel
theorem dX12_plan_206 : decode cX12_plan 206 = .ok (.ifCond .eq 49, 3) := by decide +kernel
theorem dX12_plan_209 : decode cX12_plan 209 = .ok (.iload 5, 2) := by decide +kernel
theorem dX12_plan_211 : decode cX12_plan 211 = .ok (.ifCond .eq 15, 3) := by decide +kernel
theorem dX12_plan_214 : decode cX12_plan 214 = .ok (.aload_n 0, 1) := by decide +kernel
theorem dX12_plan_215 : decode cX12_plan 215 = .ok (.getfield 477, 3) := by decide +kernel
theorem dX12_plan_218 : decode cX12_plan 218 = .ok (.iload 6, 2) := by decide +kernel
theorem dX12_plan_220 : decode cX12_plan 220 = .ok (.if_icmp .gt 6, 3) := by decide +kernel
theorem dX12_plan_223 : decode cX12_plan 223 = .ok (.goto 32, 3) := by decide +kernel
theorem dX12_plan_226 : decode cX12_plan 226 = .ok (.iconst 1, 1) := by decide +kernel
theorem dX12_plan_227 : decode cX12_plan 227 = .ok (.istore 5, 2) := by decide +kernel
theorem dX12_plan_229 : decode cX12_plan 229 = .ok (.aload_n 0, 1) := by decide +kernel
theorem dX12_plan_230 : decode cX12_plan 230 = .ok (.getfield 477, 3) := by decide +kernel
theorem dX12_plan_233 : decode cX12_plan 233 = .ok (.istore 6, 2) := by decide +kernel
theorem dX12_plan_235 : decode cX12_plan 235 = .ok (.iload 11, 2) := by decide +kernel
theorem dX12_plan_237 : decode cX12_plan 237 = .ok (.istore 7, 2) := by decide +kernel
theorem dX12_plan_239 : decode cX12_plan 239 = .ok (.aload_n 0, 1) := by decide +kernel
theorem dX12_plan_240 : decode cX12_plan 240 = .ok (.getfield 244, 3) := by decide +kernel
theorem dX12_plan_243 : decode cX12_plan 243 = .ok (.iconst 0, 1) := by decide +kernel
theorem dX12_plan_244 : decode cX12_plan 244 = .ok (.iaload, 1) := by decide +kernel
theorem dX12_plan_245 : decode cX12_plan 245 = .ok (.istore 8, 2) := by decide +kernel
theorem dX12_plan_247 : decode cX12_plan 247 = .ok (.aload_n 0, 1) := by decide +kernel
theorem dX12_plan_248 : decode cX12_plan 248 = .ok (.getfield 244, 3) := by decide +kernel
theorem dX12_plan_251 : decode cX12_plan 251 = .ok (.iconst 1, 1) := by decide +kernel
theorem dX12_plan_252 : decode cX12_plan 252 = .ok (.iaload, 1) := by decide +kernel
theorem dX12_plan_253 : decode cX12_plan 253 = .ok (.istore 9, 2) := by decide +kernel
theorem dX12_plan_255 : decode cX12_plan 255 = .ok (.iinc 13 1, 3) := by decide +kernel
theorem dX12_plan_258 : decode cX12_plan 258 = .ok (.goto (-131), 3) := by decide +kernel
theorem dX12_plan_261 : decode cX12_plan 261 = .ok (.iinc 12 1, 3) := by decide +kernel
theorem dX12_plan_264 : decode cX12_plan 264 = .ok (.goto (-158), 3) := by decide +kernel
theorem dX12_plan_267 : decode cX12_plan 267 = .ok (.iinc 11 1, 3) := by decide +kernel
theorem dX12_plan_270 : decode cX12_plan 270 = .ok (.goto (-191), 3) := by decide +kernel
theorem dX12_plan_273 : decode cX12_plan 273 = .ok (.iload 5, 2) := by decide +kernel
theorem dX12_plan_275 : decode cX12_plan 275 = .ok (.ifCond .ne 10, 3) := by decide +kernel
theorem dX12_plan_278 : decode cX12_plan 278 = .ok (.aload_n 0, 1) := by decide +kernel
theorem dX12_plan_279 : decode cX12_plan 279 = .ok (.bipush (-6), 2) := by decide +kernel
theorem dX12_plan_281 : decode cX12_plan 281 = .ok (.invokevirtual 267, 3) := by decide +kernel
theorem dX12_plan_284 : decode cX12_plan 284 = .ok (.ireturn, 1) := by decide +kernel
theorem dX12_plan_285 : decode cX12_plan 285 = .ok (.aload_n 0, 1) := by decide +kernel
theorem dX12_plan_286 : decode cX12_plan 286 = .ok (.iconst 1, 1) := by decide +kernel
theorem dX12_plan_287 : decode cX12_plan 287 = .ok (.putfield 490, 3) := by decide +kernel
theorem dX12_plan_290 : decode cX12_plan 290 = .ok (.aload_n 0, 1) := by decide +kernel
theorem dX12_plan_291 : decode cX12_plan 291 = .ok (.iload 7, 2) := by decide +kernel
theorem dX12_plan_293 : decode cX12_plan 293 = .ok (.putfield 493, 3) := by decide +kernel
theorem dX12_plan_296 : decode cX12_plan 296 = .ok (.aload_n 0, 1) := by decide +kernel
theorem dX12_plan_297 : decode cX12_plan 297 = .ok (.getfield 241, 3) := by decide +kernel
theorem dX12_plan_300 : decode cX12_plan 300 = .ok (.iconst 0, 1) := by decide +kernel
theorem dX12_plan_301 : decode cX12_plan 301 = .ok (.iload 8, 2) := by decide +kernel
theorem dX12_plan_303 : decode cX12_plan 303 = .ok (.iastore, 1) := by decide +kernel
theorem dX12_plan_304 : decode cX12_plan 304 = .ok (.aload_n 0, 1) := by decide +kernel
theorem dX12_plan_305 : decode cX12_plan 305 = .ok (.getfield 241, 3) := by decide +kernel
theorem dX12_plan_308 : decode cX12_plan 308 = .ok (.iconst 1, 1) := by decide +kernel
theorem dX12_plan_309 : decode cX12_plan 309 = .ok (.iload 9, 2) := by decide +kernel
theorem dX12_plan_311 : decode cX12_plan 311 = .ok (.iastore, 1) := by decide +kernel
theorem dX12_plan_312 : decode cX12_plan 312 = .ok (.aload_n 0, 1) := by decide +kernel
theorem dX12_plan_313 : decode cX12_plan 313 = .ok (.aload_n 0, 1) := by decide +kernel
theorem dX12_plan_314 : decode cX12_plan 314 = .ok (.getfield 471, 3) := by decide +kernel
theorem dX12_plan_317 : decode cX12_plan 317 = .ok (.putfield 496, 3) := by decide +kernel
theorem dX12_plan_320 : decode cX12_plan 320 = .ok (.iload 6, 2) := by decide +kernel
theorem dX12_plan_322 : decode cX12_plan 322 = .ok (.ireturn, 1) := by decide +kernel
theorem dX12_planned_0 : decode cX12_planned 0 = .ok (.aload_n 0, 1) := by decide +kernel
theorem dX12_planned_1 : decode cX12_planned 1 = .ok (.getfield 490, 3) := by decide +kernel
theorem dX12_planned_4 : decode cX12_planned 4 = .ok (.ifCond .eq 15, 3) := by decide +kernel
theorem dX12_planned_7 : decode cX12_planned 7 = .ok (.iload_n 1, 1) := by decide +kernel
theorem dX12_planned_8 : decode cX12_planned 8 = .ok (.ifCond .lt 11, 3) := by decide +kernel
theorem dX12_planned_11 : decode cX12_planned 11 = .ok (.iload_n 1, 1) := by decide +kernel
theorem dX12_planned_12 : decode cX12_planned 12 = .ok (.aload_n 0, 1) := by decide +kernel
theorem dX12_planned_13 : decode cX12_planned 13 = .ok (.getfield 496, 3) := by decide +kernel
theorem dX12_planned_16 : decode cX12_planned 16 = .ok (.if_icmp .le 5, 3) := by decide +kernel
theorem dX12_planned_19 : decode cX12_planned 19 = .ok (.iconst (-1), 1) := by decide +kernel
theorem dX12_planned_20 : decode cX12_planned 20 = .ok (.ireturn, 1) := by decide +kernel
theorem dX12_planned_21 : decode cX12_planned 21 = .ok (.iload_n 1, 1) := by decide +kernel
theorem dX12_planned_22 : decode cX12_planned 22 = .ok (.ifCond .ne 10, 3) := by decide +kernel
theorem dX12_planned_25 : decode cX12_planned 25 = .ok (.aload_n 0, 1) := by decide +kernel
theorem dX12_planned_26 : decode cX12_planned 26 = .ok (.getfield 493, 3) := by decide +kernel
theorem dX12_planned_29 : decode cX12_planned 29 = .ok (.goto 11, 3) := by decide +kernel
theorem dX12_planned_32 : decode cX12_planned 32 = .ok (.aload_n 0, 1) := by decide +kernel
theorem dX12_planned_33 : decode cX12_planned 33 = .ok (.getfield 241, 3) := by decide +kernel
theorem dX12_planned_36 : decode cX12_planned 36 = .ok (.iload_n 1, 1) := by decide +kernel
theorem dX12_planned_37 : decode cX12_planned 37 = .ok (.iconst 1, 1) := by decide +kernel
theorem dX12_planned_38 : decode cX12_planned 38 = .ok (.isub, 1) := by decide +kernel
theorem dX12_planned_39 : decode cX12_planned 39 = .ok (.iaload, 1) := by decide +kernel
theorem dX12_planned_40 : decode cX12_planned 40 = .ok (.ireturn, 1) := by decide +kernel
theorem dX12_judge_0 : decode cX12_judge 0 = .ok (.aload_n 0, 1) := by decide +kernel
theorem dX12_judge_1 : decode cX12_judge 1 = .ok (.iload_n 1, 1) := by decide +kernel
theorem dX12_judge_2 : decode cX12_judge 2 = .ok (.invokevirtual 300, 3) := by decide +kernel
theorem dX12_judge_5 : decode cX12_judge 5 = .ok (.istore 5, 2) := by decide +kernel
theorem dX12_judge_7 : decode cX12_judge 7 = .ok (.iload 5, 2) := by decide +kernel
theorem dX12_judge_9 : decode cX12_judge 9 = .ok (.ifCond .eq 10, 3) := by decide +kernel
theorem dX12_judge_12 : decode cX12_judge 12 = .ok (.aload_n 0, 1) := by decide +kernel
theorem dX12_judge_13 : decode cX12_judge 13 = .ok (.iload 5, 2) := by decide +kernel
theorem dX12_judge_15 : decode cX12_judge 15 = .ok (.invokevirtual 267, 3) := by decide +kernel
theorem dX12_judge_18 : decode cX12_judge 18 = .ok (.ireturn, 1) := by decide +kernel
theorem dX12_judge_19 : decode cX12_judge 19 = .ok (.aload_n 0, 1) := by decide +kernel
theorem dX12_judge_20 : decode cX12_judge 20 = .ok (.getfield 57, 3) := by decide +kernel
theorem dX12_judge_23 : decode cX12_judge 23 = .ok (.iload_n 1, 1) := by decide +kernel
theorem dX12_judge_24 : decode cX12_judge 24 = .ok (.iaload, 1) := by decide +kernel
theorem dX12_judge_25 : decode cX12_judge 25 = .ok (.iconst 1, 1) := by decide +kernel
theorem dX12_judge_26 : decode cX12_judge 26 = .ok (.aload_n 0, 1) := by decide +kernel
theorem dX12_judge_27 : decode cX12_judge 27 = .ok (.getfield 471, 3) := by decide +kernel
theorem dX12_judge_30 : decode cX12_judge 30 = .ok (.iadd, 1) := by decide +kernel
theorem dX12_judge_31 : decode cX12_judge 31 = .ok (.if_icmp .ge 10, 3) := by decide +kernel
theorem dX12_judge_34 : decode cX12_judge 34 = .ok (.aload_n 0, 1) := by decide +kernel
theorem dX12_judge_35 : decode cX12_judge 35 = .ok (.bipush (-5), 2) := by decide +kernel
theorem dX12_judge_37 : decode cX12_judge 37 = .ok (.invokevirtual 267, 3) := by decide +kernel
theorem dX12_judge_40 : decode cX12_judge 40 = .ok (.ireturn, 1) := by decide +kernel
theorem dX12_judge_41 : decode cX12_judge 41 = .ok (.iload_n 2, 1) := by decide +kernel
theorem dX12_judge_42 : decode cX12_judge 42 = .ok (.iload_n 3, 1) := by decide +kernel
theorem dX12_judge_43 : decode cX12_judge 43 = .ok (.iload 4, 2) := by decide +kernel
theorem dX12_judge_45 : decode cX12_judge 45 = .ok (.invokestatic 480, 3) := by decide +kernel
theorem dX12_judge_48 : decode cX12_judge 48 = .ok (.ifCond .ne 10, 3) := by decide +kernel
theorem dX12_judge_51 : decode cX12_judge 51 = .ok (.aload_n 0, 1) := by decide +kernel
theorem dX12_judge_52 : decode cX12_judge 52 = .ok (.bipush (-6), 2) := by decide +kernel
theorem dX12_judge_54 : decode cX12_judge 54 = .ok (.invokevirtual 267, 3) := by decide +kernel
theorem dX12_judge_57 : decode cX12_judge 57 = .ok (.ireturn, 1) := by decide +kernel
theorem dX12_judge_58 : decode cX12_judge 58 = .ok (.aload_n 0, 1) := by decide +kernel
theorem dX12_judge_59 : decode cX12_judge 59 = .ok (.getfield 63, 3) := by decide +kernel
theorem dX12_judge_62 : decode cX12_judge 62 = .ok (.bipush 80, 2) := by decide +kernel
theorem dX12_judge_64 : decode cX12_judge 64 = .ok (.iload_n 1, 1) := by decide +kernel
theorem dX12_judge_65 : decode cX12_judge 65 = .ok (.imul, 1) := by decide +kernel
theorem dX12_judge_66 : decode cX12_judge 66 = .ok (.laload, 1) := by decide +kernel
theorem dX12_judge_67 : decode cX12_judge 67 = .ok (.l2i, 1) := by decide +kernel
theorem dX12_judge_68 : decode cX12_judge 68 = .ok (.istore 6, 2) := by decide +kernel
theorem dX12_judge_70 : decode cX12_judge 70 = .ok (.iload 6, 2) := by decide +kernel
theorem dX12_judge_72 : decode cX12_judge 72 = .ok (.ifCond .lt 14, 3) := by decide +kernel
theorem dX12_judge_75 : decode cX12_judge 75 = .ok (.iload 6, 2) := by decide +kernel
theorem dX12_judge_77 : decode cX12_judge 77 = .ok (.iconst 1, 1) := by decide +kernel
theorem dX12_judge_78 : decode cX12_judge 78 = .ok (.aload_n 0, 1) := by decide +kernel
theorem dX12_judge_79 : decode cX12_judge 79 = .ok (.getfield 415, 3) := by decide +kernel
theorem dX12_judge_82 : decode cX12_judge 82 = .ok (.ishl, 1) := by decide +kernel
theorem dX12_judge_83 : decode cX12_judge 83 = .ok (.if_icmp .lt 10, 3) := by decide +kernel
theorem dX12_judge_86 : decode cX12_judge 86 = .ok (.aload_n 0, 1) := by decide +kernel
theorem dX12_judge_87 : decode cX12_judge 87 = .ok (.bipush (-6), 2) := by decide +kernel
theorem dX12_judge_89 : decode cX12_judge 89 = .ok (.invokevirtual 267, 3) := by decide +kernel
theorem dX12_judge_92 : decode cX12_judge 92 = .ok (.ireturn, 1) := by decide +kernel
theorem dX12_judge_93 : decode cX12_judge 93 = .ok (.iconst 0, 1) := by decide +kernel
theorem dX12_judge_94 : decode cX12_judge 94 = .ok (.istore 7, 2) := by decide +kernel
theorem dX12_judge_96 : decode cX12_judge 96 = .ok (.iload 7, 2) := by decide +kernel
theorem dX12_judge_98 : decode cX12_judge 98 = .ok (.aload_n 0, 1) := by decide +kernel
theorem dX12_judge_99 : decode cX12_judge 99 = .ok (.getfield 415, 3) := by decide +kernel
theorem dX12_judge_102 : decode cX12_judge 102 = .ok (.if_icmp .ge 37, 3) := by decide +kernel
theorem dX12_judge_105 : decode cX12_judge 105 = .ok (.iload 6, 2) := by decide +kernel
theorem dX12_judge_107 : decode cX12_judge 107 = .ok (.iload 7, 2) := by decide +kernel
theorem dX12_judge_109 : decode cX12_judge 109 = .ok (.ishr, 1) := by decide +kernel
theorem dX12_judge_110 : decode cX12_judge 110 = .ok (.iconst 1, 1) := by decide +kernel
theorem dX12_judge_111 : decode cX12_judge 111 = .ok (.iand, 1) := by decide +kernel
theorem dX12_judge_112 : decode cX12_judge 112 = .ok (.iconst 1, 1) := by decide +kernel
theorem dX12_judge_113 : decode cX12_judge 113 = .ok (.if_icmp .ne 20, 3) := by decide +kernel
theorem dX12_judge_116 : decode cX12_judge 116 = .ok (.aload_n 0, 1) := by decide +kernel
theorem dX12_judge_117 : decode cX12_judge 117 = .ok (.iload 7, 2) := by decide +kernel
theorem dX12_judge_119 : decode cX12_judge 119 = .ok (.iload_n 2, 1) := by decide +kernel
theorem dX12_judge_120 : decode cX12_judge 120 = .ok (.invokevirtual 484, 3) := by decide +kernel
theorem dX12_judge_123 : decode cX12_judge 123 = .ok (.ifCond .ne 10, 3) := by decide +kernel
theorem dX12_judge_126 : decode cX12_judge 126 = .ok (.aload_n 0, 1) := by decide +kernel
theorem dX12_judge_127 : decode cX12_judge 127 = .ok (.bipush (-6), 2) := by decide +kernel
theorem dX12_judge_129 : decode cX12_judge 129 = .ok (.invokevirtual 267, 3) := by decide +kernel
theorem dX12_judge_132 : decode cX12_judge 132 = .ok (.ireturn, 1) := by decide +kernel
theorem dX12_judge_133 : decode cX12_judge 133 = .ok (.iinc 7 1, 3) := by decide +kernel
theorem dX12_judge_136 : decode cX12_judge 136 = .ok (.goto (-40), 3) := by decide +kernel
theorem dX12_judge_139 : decode cX12_judge 139 = .ok (.iconst 0, 1) := by decide +kernel
theorem dX12_judge_140 : decode cX12_judge 140 = .ok (.istore 7, 2) := by decide +kernel
theorem dX12_judge_142 : decode cX12_judge 142 = .ok (.iload 7, 2) := by decide +kernel
theorem dX12_judge_144 : decode cX12_judge 144 = .ok (.aload_n 0, 1) := by decide +kernel
theorem dX12_judge_145 : decode cX12_judge 145 = .ok (.getfield 471, 3) := by decide +kernel
theorem dX12_judge_148 : decode cX12_judge 148 = .ok (.if_icmp .ge 60, 3) := by decide +kernel
theorem dX12_judge_151 : decode cX12_judge 151 = .ok (.aload_n 0, 1) := by decide +kernel
theorem dX12_judge_152 : decode cX12_judge 152 = .ok (.getfield 244, 3) := by decide +kernel
theorem dX12_judge_155 : decode cX12_judge 155 = .ok (.iload 7, 2) := by decide +kernel
theorem dX12_judge_157 : decode cX12_judge 157 = .ok (.aload_n 0, 1) := by decide +kernel
theorem dX12_judge_158 : decode cX12_judge 158 = .ok (.getfield 63, 3) := by decide +kernel
theorem dX12_judge_161 : decode cX12_judge 161 = .ok (.bipush 80, 2) := by decide +kernel
theorem dX12_judge_163 : decode cX12_judge 163 = .ok (.iload_n 1, 1) := by decide +kernel
theorem dX12_judge_164 : decode cX12_judge 164 = .ok (.imul, 1) := by decide +kernel
theorem dX12_judge_165 : decode cX12_judge 165 = .ok (.iconst 1, 1) := by decide +kernel
theorem dX12_judge_166 : decode cX12_judge 166 = .ok (.iadd, 1) := by decide +kernel
theorem dX12_judge_167 : decode cX12_judge 167 = .ok (.iload 7, 2) := by decide +kernel
theorem dX12_judge_169 : decode cX12_judge 169 = .ok (.iadd, 1) := by decide +kernel
theorem dX12_judge_170 : decode cX12_judge 170 = .ok (.laload, 1) := by decide +kernel
theorem dX12_judge_171 : decode cX12_judge 171 = .ok (.l2i, 1) := by decide +kernel
theorem dX12_judge_172 : decode cX12_judge 172 = .ok (.iastore, 1) := by decide +kernel
theorem dX12_judge_173 : decode cX12_judge 173 = .ok (.aload_n 0, 1) := by decide +kernel
theorem dX12_judge_174 : decode cX12_judge 174 = .ok (.getfield 244, 3) := by decide +kernel
theorem dX12_judge_177 : decode cX12_judge 177 = .ok (.iload 7, 2) := by decide +kernel
theorem dX12_judge_179 : decode cX12_judge 179 = .ok (.iaload, 1) := by decide +kernel
theorem dX12_judge_180 : decode cX12_judge 180 = .ok (.iconst (-1), 1) := by decide +kernel
theorem dX12_judge_181 : decode cX12_judge 181 = .ok (.if_icmp .lt 14, 3) := by decide +kernel
theorem dX12_judge_184 : decode cX12_judge 184 = .ok (.aload_n 0, 1) := by decide +kernel
theorem dX12_judge_185 : decode cX12_judge 185 = .ok (.getfield 244, 3) := by decide +kernel
theorem dX12_judge_188 : decode cX12_judge 188 = .ok (.iload 7, 2) := by decide +kernel
theorem dX12_judge_190 : decode cX12_judge 190 = .ok (.iaload, 1) := by decide +kernel
theorem dX12_judge_191 : decode cX12_judge 191 = .ok (.iload_n 2, 1) := by decide +kernel
theorem dX12_judge_192 : decode cX12_judge 192 = .ok (.if_icmp .lt 10, 3) := by decide +kernel
theorem dX12_judge_195 : decode cX12_judge 195 = .ok (.aload_n 0, 1) := by decide +kernel
theorem dX12_judge_196 : decode cX12_judge 196 = .ok (.bipush (-6), 2) := by decide +kernel
theorem dX12_judge_198 : decode cX12_judge 198 = .ok (.invokevirtual 267, 3) := by decide +kernel
theorem dX12_judge_201 : decode cX12_judge 201 = .ok (.ireturn, 1) := by decide +kernel
theorem dX12_judge_202 : decode cX12_judge 202 = .ok (.iinc 7 1, 3) := by decide +kernel
theorem dX12_judge_205 : decode cX12_judge 205 = .ok (.goto (-63), 3) := by decide +kernel
theorem dX12_judge_208 : decode cX12_judge 208 = .ok (.aload_n 0, 1) := by decide +kernel
theorem dX12_judge_209 : decode cX12_judge 209 = .ok (.iload 6, 2) := by decide +kernel
theorem dX12_judge_211 : decode cX12_judge 211 = .ok (.iload_n 2, 1) := by decide +kernel
theorem dX12_judge_212 : decode cX12_judge 212 = .ok (.iload_n 3, 1) := by decide +kernel
theorem dX12_judge_213 : decode cX12_judge 213 = .ok (.iload 4, 2) := by decide +kernel
theorem dX12_judge_215 : decode cX12_judge 215 = .ok (.invokevirtual 487, 3) := by decide +kernel
theorem dX12_judge_218 : decode cX12_judge 218 = .ok (.ifCond .eq 10, 3) := by decide +kernel
theorem dX12_judge_221 : decode cX12_judge 221 = .ok (.aload_n 0, 1) := by decide +kernel
theorem dX12_judge_222 : decode cX12_judge 222 = .ok (.getfield 477, 3) := by decide +kernel
theorem dX12_judge_225 : decode cX12_judge 225 = .ok (.goto 10, 3) := by decide +kernel
theorem dX12_judge_228 : decode cX12_judge 228 = .ok (.bipush (-10), 2) := by decide +kernel
theorem dX12_judge_230 : decode cX12_judge 230 = .ok (.aload_n 0, 1) := by decide +kernel
theorem dX12_judge_231 : decode cX12_judge 231 = .ok (.getfield 474, 3) := by decide +kernel
theorem dX12_judge_234 : decode cX12_judge 234 = .ok (.isub, 1) := by decide +kernel
theorem dX12_judge_235 : decode cX12_judge 235 = .ok (.ireturn, 1) := by decide +kernel
theorem dX12_room_0 : decode cX12_room 0 = .ok (.aload_n 0, 1) := by decide +kernel
theorem dX12_room_1 : decode cX12_room 1 = .ok (.getfield 499, 3) := by decide +kernel
theorem dX12_room_4 : decode cX12_room 4 = .ok (.bipush 9, 2) := by decide +kernel
theorem dX12_room_6 : decode cX12_room 6 = .ok (.if_icmp .ne 12, 3) := by decide +kernel
theorem dX12_room_9 : decode cX12_room 9 = .ok (.aload_n 0, 1) := by decide +kernel
theorem dX12_room_10 : decode cX12_room 10 = .ok (.bipush (-7), 2) := by decide +kernel
theorem dX12_room_12 : decode cX12_room 12 = .ok (.invokevirtual 267, 3) := by decide +kernel
theorem dX12_room_15 : decode cX12_room 15 = .ok (.goto 14, 3) := by decide +kernel
theorem dX12_room_18 : decode cX12_room 18 = .ok (.aload_n 0, 1) := by decide +kernel
theorem dX12_room_19 : decode cX12_room 19 = .ok (.dup, 1) := by decide +kernel
theorem dX12_room_20 : decode cX12_room 20 = .ok (.getfield 499, 3) := by decide +kernel
theorem dX12_room_23 : decode cX12_room 23 = .ok (.dup_x1, 1) := by decide +kernel
theorem dX12_room_24 : decode cX12_room 24 = .ok (.iconst 1, 1) := by decide +kernel
theorem dX12_room_25 : decode cX12_room 25 = .ok (.iadd, 1) := by decide +kernel
theorem dX12_room_26 : decode cX12_room 26 = .ok (.putfield 499, 3) := by decide +kernel
theorem dX12_room_29 : decode cX12_room 29 = .ok (.ireturn, 1) := by decide +kernel
theorem dX12_wish_0 : decode cX12_wish 0 = .ok (.aload_n 0, 1) := by decide +kernel
theorem dX12_wish_1 : decode cX12_wish 1 = .ok (.iload_n 1, 1) := by decide +kernel
theorem dX12_wish_2 : decode cX12_wish 2 = .ok (.invokevirtual 271, 3) := by decide +kernel
theorem dX12_wish_5 : decode cX12_wish 5 = .ok (.ifCond .ne 9, 3) := by decide +kernel
theorem dX12_wish_8 : decode cX12_wish 8 = .ok (.aload_n 0, 1) := by decide +kernel
theorem dX12_wish_9 : decode cX12_wish 9 = .ok (.iconst (-1), 1) := by decide +kernel
theorem dX12_wish_10 : decode cX12_wish 10 = .ok (.invokevirtual 267, 3) := by decide +kernel
theorem dX12_wish_13 : decode cX12_wish 13 = .ok (.ireturn, 1) := by decide +kernel
theorem dX12_wish_14 : decode cX12_wish 14 = .ok (.aload_n 0, 1) := by decide +kernel
theorem dX12_wish_15 : decode cX12_wish 15 = .ok (.iload_n 2, 1) := by decide +kernel
theorem dX12_wish_16 : decode cX12_wish 16 = .ok (.invokevirtual 300, 3) := by decide +kernel
theorem dX12_wish_19 : decode cX12_wish 19 = .ok (.istore_n 3, 1) := by decide +kernel
theorem dX12_wish_20 : decode cX12_wish 20 = .ok (.iload_n 3, 1) := by decide +kernel
theorem dX12_wish_21 : decode cX12_wish 21 = .ok (.ifCond .eq 9, 3) := by decide +kernel
theorem dX12_wish_24 : decode cX12_wish 24 = .ok (.aload_n 0, 1) := by decide +kernel
theorem dX12_wish_25 : decode cX12_wish 25 = .ok (.iload_n 3, 1) := by decide +kernel
theorem dX12_wish_26 : decode cX12_wish 26 = .ok (.invokevirtual 267, 3) := by decide +kernel
theorem dX12_wish_29 : decode cX12_wish 29 = .ok (.ireturn, 1) := by decide +kernel
theorem dX12_wish_30 : decode cX12_wish 30 = .ok (.aload_n 0, 1) := by decide +kernel
theorem dX12_wish_31 : decode cX12_wish 31 = .ok (.getfield 130, 3) := by decide +kernel
theorem dX12_wish_34 : decode cX12_wish 34 = .ok (.iload_n 1, 1) := by decide +kernel
theorem dX12_wish_35 : decode cX12_wish 35 = .ok (.aload_n 0, 1) := by decide +kernel
theorem dX12_wish_36 : decode cX12_wish 36 = .ok (.getfield 57, 3) := by decide +kernel
theorem dX12_wish_39 : decode cX12_wish 39 = .ok (.iload_n 2, 1) := by decide +kernel
theorem dX12_wish_40 : decode cX12_wish 40 = .ok (.iaload, 1) := by decide +kernel
theorem dX12_wish_41 : decode cX12_wish 41 = .ok (.iastore, 1) := by decide +kernel
theorem dX12_wish_42 : decode cX12_wish 42 = .ok (.iconst 0, 1) := by decide +kernel
theorem dX12_wish_43 : decode cX12_wish 43 = .ok (.istore 4, 2) := by decide +kernel
theorem dX12_wish_45 : decode cX12_wish 45 = .ok (.iload 4, 2) := by decide +kernel
theorem dX12_wish_47 : decode cX12_wish 47 = .ok (.aload_n 0, 1) := by decide +kernel
theorem dX12_wish_48 : decode cX12_wish 48 = .ok (.getfield 57, 3) := by decide +kernel
theorem dX12_wish_51 : decode cX12_wish 51 = .ok (.iload_n 2, 1) := by decide +kernel
theorem dX12_wish_52 : decode cX12_wish 52 = .ok (.iaload, 1) := by decide +kernel
theorem dX12_wish_53 : decode cX12_wish 53 = .ok (.if_icmp .ge 34, 3) := by decide +kernel
theorem dX12_wish_56 : decode cX12_wish 56 = .ok (.aload_n 0, 1) := by decide +kernel
theorem dX12_wish_57 : decode cX12_wish 57 = .ok (.getfield 127, 3) := by decide +kernel
theorem dX12_wish_60 : decode cX12_wish 60 = .ok (.bipush 80, 2) := by decide +kernel
theorem dX12_wish_62 : decode cX12_wish 62 = .ok (.iload_n 1, 1) := by decide +kernel
theorem dX12_wish_63 : decode cX12_wish 63 = .ok (.imul, 1) := by decide +kernel
theorem dX12_wish_64 : decode cX12_wish 64 = .ok (.iload 4, 2) := by decide +kernel
theorem dX12_wish_66 : decode cX12_wish 66 = .ok (.iadd, 1) := by decide +kernel
theorem dX12_wish_67 : decode cX12_wish 67 = .ok (.aload_n 0, 1) := by decide +kernel
theorem dX12_wish_68 : decode cX12_wish 68 = .ok (.getfield 63, 3) := by decide +kernel
theorem dX12_wish_71 : decode cX12_wish 71 = .ok (.bipush 80, 2) := by decide +kernel
theorem dX12_wish_73 : decode cX12_wish 73 = .ok (.iload_n 2, 1) := by decide +kernel
theorem dX12_wish_74 : decode cX12_wish 74 = .ok (.imul, 1) := by decide +kernel
theorem dX12_wish_75 : decode cX12_wish 75 = .ok (.iload 4, 2) := by decide +kernel
theorem dX12_wish_77 : decode cX12_wish 77 = .ok (.iadd, 1) := by decide +kernel
theorem dX12_wish_78 : decode cX12_wish 78 = .ok (.laload, 1) := by decide +kernel
theorem dX12_wish_79 : decode cX12_wish 79 = .ok (.l2i, 1) := by decide +kernel
theorem dX12_wish_80 : decode cX12_wish 80 = .ok (.iastore, 1) := by decide +kernel
theorem dX12_wish_81 : decode cX12_wish 81 = .ok (.iinc 4 1, 3) := by decide +kernel
theorem dX12_wish_84 : decode cX12_wish 84 = .ok (.goto (-39), 3) := by decide +kernel
theorem dX12_wish_87 : decode cX12_wish 87 = .ok (.aload_n 0, 1) := by decide +kernel
theorem dX12_wish_88 : decode cX12_wish 88 = .ok (.getfield 57, 3) := by decide +kernel
theorem dX12_wish_91 : decode cX12_wish 91 = .ok (.iload_n 2, 1) := by decide +kernel
theorem dX12_wish_92 : decode cX12_wish 92 = .ok (.iaload, 1) := by decide +kernel
theorem dX12_wish_93 : decode cX12_wish 93 = .ok (.ireturn, 1) := by decide +kernel
theorem dX12_whoHas_0 : decode cX12_whoHas 0 = .ok (.iconst 0, 1) := by decide +kernel
theorem dX12_whoHas_1 : decode cX12_whoHas 1 = .ok (.istore_n 2, 1) := by decide +kernel
theorem dX12_whoHas_2 : decode cX12_whoHas 2 = .ok (.iload_n 2, 1) := by decide +kernel
theorem dX12_whoHas_3 : decode cX12_whoHas 3 = .ok (.aload_n 0, 1) := by decide +kernel
theorem dX12_whoHas_4 : decode cX12_whoHas 4 = .ok (.getfield 256, 3) := by decide +kernel
theorem dX12_whoHas_7 : decode cX12_whoHas 7 = .ok (.if_icmp .ge 21, 3) := by decide +kernel
theorem dX12_whoHas_10 : decode cX12_whoHas 10 = .ok (.aload_n 0, 1) := by decide +kernel
theorem dX12_whoHas_11 : decode cX12_whoHas 11 = .ok (.getfield 133, 3) := by decide +kernel
theorem dX12_whoHas_14 : decode cX12_whoHas 14 = .ok (.iload_n 2, 1) := by decide +kernel
theorem dX12_whoHas_15 : decode cX12_whoHas 15 = .ok (.iaload, 1) := by decide +kernel
theorem dX12_whoHas_16 : decode cX12_whoHas 16 = .ok (.iload_n 1, 1) := by decide +kernel
theorem dX12_whoHas_17 : decode cX12_whoHas 17 = .ok (.if_icmp .ne 5, 3) := by decide +kernel
theorem dX12_whoHas_20 : decode cX12_whoHas 20 = .ok (.iload_n 2, 1) := by decide +kernel
theorem dX12_whoHas_21 : decode cX12_whoHas 21 = .ok (.ireturn, 1) := by decide +kernel
theorem dX12_whoHas_22 : decode cX12_whoHas 22 = .ok (.iinc 2 1, 3) := by decide +kernel
theorem dX12_whoHas_25 : decode cX12_whoHas 25 = .ok (.goto (-23), 3) := by decide +kernel
theorem dX12_whoHas_28 : decode cX12_whoHas 28 = .ok (.iconst (-1), 1) := by decide +kernel
theorem dX12_whoHas_29 : decode cX12_whoHas 29 = .ok (.ireturn, 1) := by decide +kernel
theorem dX12_choose_0 : decode cX12_choose 0 = .ok (.aload_n 0, 1) := by decide +kernel
theorem dX12_choose_1 : decode cX12_choose 1 = .ok (.invokevirtual 409, 3) := by decide +kernel
theorem dX12_choose_4 : decode cX12_choose 4 = .ok (.istore_n 1, 1) := by decide +kernel
theorem dX12_choose_5 : decode cX12_choose 5 = .ok (.iconst 0, 1) := by decide +kernel
theorem dX12_choose_6 : decode cX12_choose 6 = .ok (.istore_n 2, 1) := by decide +kernel
theorem dX12_choose_7 : decode cX12_choose 7 = .ok (.iload_n 2, 1) := by decide +kernel
theorem dX12_choose_8 : decode cX12_choose 8 = .ok (.iload_n 1, 1) := by decide +kernel
theorem dX12_choose_9 : decode cX12_choose 9 = .ok (.if_icmp .ge 26, 3) := by decide +kernel
theorem dX12_choose_12 : decode cX12_choose 12 = .ok (.aload_n 0, 1) := by decide +kernel
theorem dX12_choose_13 : decode cX12_choose 13 = .ok (.getfield 133, 3) := by decide +kernel
theorem dX12_choose_16 : decode cX12_choose 16 = .ok (.aload_n 0, 1) := by decide +kernel
theorem dX12_choose_17 : decode cX12_choose 17 = .ok (.getfield 109, 3) := by decide +kernel
theorem dX12_choose_20 : decode cX12_choose 20 = .ok (.aload_n 0, 1) := by decide +kernel
theorem dX12_choose_21 : decode cX12_choose 21 = .ok (.getfield 238, 3) := by decide +kernel
theorem dX12_choose_24 : decode cX12_choose 24 = .ok (.iload_n 2, 1) := by decide +kernel
theorem dX12_choose_25 : decode cX12_choose 25 = .ok (.iaload, 1) := by decide +kernel
theorem dX12_choose_26 : decode cX12_choose 26 = .ok (.iaload, 1) := by decide +kernel
theorem dX12_choose_27 : decode cX12_choose 27 = .ok (.iconst (-1), 1) := by decide +kernel
theorem dX12_choose_28 : decode cX12_choose 28 = .ok (.iastore, 1) := by decide +kernel
theorem dX12_choose_29 : decode cX12_choose 29 = .ok (.iinc 2 1, 3) := by decide +kernel
theorem dX12_choose_32 : decode cX12_choose 32 = .ok (.goto (-25), 3) := by decide +kernel
theorem dX12_choose_35 : decode cX12_choose 35 = .ok (.iconst 0, 1) := by decide +kernel
theorem dX12_choose_36 : decode cX12_choose 36 = .ok (.istore_n 2, 1) := by decide +kernel
theorem dX12_choose_37 : decode cX12_choose 37 = .ok (.iconst 0, 1) := by decide +kernel
theorem dX12_choose_38 : decode cX12_choose 38 = .ok (.istore_n 3, 1) := by decide +kernel
theorem dX12_choose_39 : decode cX12_choose 39 = .ok (.iload_n 3, 1) := by decide +kernel
theorem dX12_choose_40 : decode cX12_choose 40 = .ok (.iload_n 1, 1) := by decide +kernel
theorem dX12_choose_41 : decode cX12_choose 41 = .ok (.if_icmp .ge 116, 3) := by decide +kernel
theorem dX12_choose_44 : decode cX12_choose 44 = .ok (.aload_n 0, 1) := by decide +kernel
theorem dX12_choose_45 : decode cX12_choose 45 = .ok (.getfield 109, 3) := by decide +kernel
theorem dX12_choose_48 : decode cX12_choose 48 = .ok (.aload_n 0, 1) := by decide +kernel
theorem dX12_choose_49 : decode cX12_choose 49 = .ok (.getfield 238, 3) := by decide +kernel
theorem dX12_choose_52 : decode cX12_choose 52 = .ok (.iload_n 3, 1) := by decide +kernel
theorem dX12_choose_53 : decode cX12_choose 53 = .ok (.iaload, 1) := by decide +kernel
theorem dX12_choose_54 : decode cX12_choose 54 = .ok (.iaload, 1) := by decide +kernel
theorem dX12_choose_55 : decode cX12_choose 55 = .ok (.istore 4, 2) := by decide +kernel
theorem dX12_choose_57 : decode cX12_choose 57 = .ok (.iconst 0, 1) := by decide +kernel
theorem dX12_choose_58 : decode cX12_choose 58 = .ok (.istore 5, 2) := by decide +kernel
theorem dX12_choose_60 : decode cX12_choose 60 = .ok (.iload 5, 2) := by decide +kernel
theorem dX12_choose_62 : decode cX12_choose 62 = .ok (.aload_n 0, 1) := by decide +kernel
theorem dX12_choose_63 : decode cX12_choose 63 = .ok (.getfield 130, 3) := by decide +kernel
theorem dX12_choose_66 : decode cX12_choose 66 = .ok (.iload 4, 2) := by decide +kernel
theorem dX12_choose_68 : decode cX12_choose 68 = .ok (.iaload, 1) := by decide +kernel
theorem dX12_choose_69 : decode cX12_choose 69 = .ok (.if_icmp .ge 68, 3) := by decide +kernel
theorem dX12_choose_72 : decode cX12_choose 72 = .ok (.aload_n 0, 1) := by decide +kernel
theorem dX12_choose_73 : decode cX12_choose 73 = .ok (.getfield 133, 3) := by decide +kernel
theorem dX12_choose_76 : decode cX12_choose 76 = .ok (.iload 4, 2) := by decide +kernel
theorem dX12_choose_78 : decode cX12_choose 78 = .ok (.iaload, 1) := by decide +kernel
theorem dX12_choose_79 : decode cX12_choose 79 = .ok (.iconst (-1), 1) := by decide +kernel
theorem dX12_choose_80 : decode cX12_choose 80 = .ok (.if_icmp .ne 57, 3) := by decide +kernel
theorem dX12_choose_83 : decode cX12_choose 83 = .ok (.aload_n 0, 1) := by decide +kernel
theorem dX12_choose_84 : decode cX12_choose 84 = .ok (.getfield 127, 3) := by decide +kernel
theorem dX12_choose_87 : decode cX12_choose 87 = .ok (.bipush 80, 2) := by decide +kernel
theorem dX12_choose_89 : decode cX12_choose 89 = .ok (.iload 4, 2) := by decide +kernel
theorem dX12_choose_91 : decode cX12_choose 91 = .ok (.imul, 1) := by decide +kernel
theorem dX12_choose_92 : decode cX12_choose 92 = .ok (.iload 5, 2) := by decide +kernel
theorem dX12_choose_94 : decode cX12_choose 94 = .ok (.iadd, 1) := by decide +kernel
theorem dX12_choose_95 : decode cX12_choose 95 = .ok (.iaload, 1) := by decide +kernel
theorem dX12_choose_96 : decode cX12_choose 96 = .ok (.istore 6, 2) := by decide +kernel
theorem dX12_choose_98 : decode cX12_choose 98 = .ok (.iload 6, 2) := by decide +kernel
theorem dX12_choose_100 : decode cX12_choose 100 = .ok (.ifCond .lt 31, 3) := by decide +kernel
theorem dX12_choose_103 : decode cX12_choose 103 = .ok (.iload 6, 2) := by decide +kernel
theorem dX12_choose_105 : decode cX12_choose 105 = .ok (.aload_n 0, 1) := by decide +kernel
theorem dX12_choose_106 : decode cX12_choose 106 = .ok (.getfield 499, 3) := by decide +kernel
theorem dX12_choose_109 : decode cX12_choose 109 = .ok (.if_icmp .ge 22, 3) := by decide +kernel
theorem dX12_choose_112 : decode cX12_choose 112 = .ok (.aload_n 0, 1) := by decide +kernel
theorem dX12_choose_113 : decode cX12_choose 113 = .ok (.iload 6, 2) := by decide +kernel
theorem dX12_choose_115 : decode cX12_choose 115 = .ok (.invokevirtual 502, 3) := by decide +kernel
theorem dX12_choose_118 : decode cX12_choose 118 = .ok (.iconst (-1), 1) := by decide +kernel
theorem dX12_choose_119 : decode cX12_choose 119 = .ok (.if_icmp .ne 12, 3) := by decide +kernel
theorem dX12_choose_122 : decode cX12_choose 122 = .ok (.aload_n 0, 1) := by decide +kernel
theorem dX12_choose_123 : decode cX12_choose 123 = .ok (.getfield 133, 3) := by decide +kernel
theorem dX12_choose_126 : decode cX12_choose 126 = .ok (.iload 4, 2) := by decide +kernel
theorem dX12_choose_128 : decode cX12_choose 128 = .ok (.iload 6, 2) := by decide +kernel
theorem dX12_choose_130 : decode cX12_choose 130 = .ok (.iastore, 1) := by decide +kernel
theorem dX12_choose_131 : decode cX12_choose 131 = .ok (.iinc 5 1, 3) := by decide +kernel
theorem dX12_choose_134 : decode cX12_choose 134 = .ok (.goto (-74), 3) := by decide +kernel
theorem dX12_choose_137 : decode cX12_choose 137 = .ok (.aload_n 0, 1) := by decide +kernel
theorem dX12_choose_138 : decode cX12_choose 138 = .ok (.getfield 133, 3) := by decide +kernel
theorem dX12_choose_141 : decode cX12_choose 141 = .ok (.iload 4, 2) := by decide +kernel
theorem dX12_choose_143 : decode cX12_choose 143 = .ok (.iaload, 1) := by decide +kernel
theorem dX12_choose_144 : decode cX12_choose 144 = .ok (.iconst (-1), 1) := by decide +kernel
theorem dX12_choose_145 : decode cX12_choose 145 = .ok (.if_icmp .eq 6, 3) := by decide +kernel
theorem dX12_choose_148 : decode cX12_choose 148 = .ok (.iinc 2 1, 3) := by decide +kernel
theorem dX12_choose_151 : decode cX12_choose 151 = .ok (.iinc 3 1, 3) := by decide +kernel
theorem dX12_choose_154 : decode cX12_choose 154 = .ok (.goto (-115), 3) := by decide +kernel
theorem dX12_choose_157 : decode cX12_choose 157 = .ok (.iload_n 2, 1) := by decide +kernel
theorem dX12_choose_158 : decode cX12_choose 158 = .ok (.ireturn, 1) := by decide +kernel
theorem dX12_pointed_0 : decode cX12_pointed 0 = .ok (.iconst 0, 1) := by decide +kernel
theorem dX12_pointed_1 : decode cX12_pointed 1 = .ok (.istore_n 2, 1) := by decide +kernel
theorem dX12_pointed_2 : decode cX12_pointed 2 = .ok (.iload_n 2, 1) := by decide +kernel
theorem dX12_pointed_3 : decode cX12_pointed 3 = .ok (.aload_n 0, 1) := by decide +kernel
theorem dX12_pointed_4 : decode cX12_pointed 4 = .ok (.getfield 130, 3) := by decide +kernel
theorem dX12_pointed_7 : decode cX12_pointed 7 = .ok (.iload_n 1, 1) := by decide +kernel
theorem dX12_pointed_8 : decode cX12_pointed 8 = .ok (.iaload, 1) := by decide +kernel
theorem dX12_pointed_9 : decode cX12_pointed 9 = .ok (.if_icmp .ge 63, 3) := by decide +kernel
theorem dX12_pointed_12 : decode cX12_pointed 12 = .ok (.aload_n 0, 1) := by decide +kernel
theorem dX12_pointed_13 : decode cX12_pointed 13 = .ok (.getfield 127, 3) := by decide +kernel
theorem dX12_pointed_16 : decode cX12_pointed 16 = .ok (.bipush 80, 2) := by decide +kernel
theorem dX12_pointed_18 : decode cX12_pointed 18 = .ok (.iload_n 1, 1) := by decide +kernel
theorem dX12_pointed_19 : decode cX12_pointed 19 = .ok (.imul, 1) := by decide +kernel
theorem dX12_pointed_20 : decode cX12_pointed 20 = .ok (.iload_n 2, 1) := by decide +kernel
theorem dX12_pointed_21 : decode cX12_pointed 21 = .ok (.iadd, 1) := by decide +kernel
theorem dX12_pointed_22 : decode cX12_pointed 22 = .ok (.iaload, 1) := by decide +kernel
theorem dX12_pointed_23 : decode cX12_pointed 23 = .ok (.istore_n 3, 1) := by decide +kernel
theorem dX12_pointed_24 : decode cX12_pointed 24 = .ok (.iconst 0, 1) := by decide +kernel
theorem dX12_pointed_25 : decode cX12_pointed 25 = .ok (.istore 4, 2) := by decide +kernel
theorem dX12_pointed_27 : decode cX12_pointed 27 = .ok (.iload 4, 2) := by decide +kernel
theorem dX12_pointed_29 : decode cX12_pointed 29 = .ok (.aload_n 0, 1) := by decide +kernel
theorem dX12_pointed_30 : decode cX12_pointed 30 = .ok (.getfield 256, 3) := by decide +kernel
theorem dX12_pointed_33 : decode cX12_pointed 33 = .ok (.if_icmp .ge 33, 3) := by decide +kernel
theorem dX12_pointed_36 : decode cX12_pointed 36 = .ok (.aload_n 0, 1) := by decide +kernel
theorem dX12_pointed_37 : decode cX12_pointed 37 = .ok (.getfield 253, 3) := by decide +kernel
theorem dX12_pointed_40 : decode cX12_pointed 40 = .ok (.iload 4, 2) := by decide +kernel
theorem dX12_pointed_42 : decode cX12_pointed 42 = .ok (.baload, 1) := by decide +kernel
theorem dX12_pointed_43 : decode cX12_pointed 43 = .ok (.ifCond .eq 17, 3) := by decide +kernel
theorem dX12_pointed_46 : decode cX12_pointed 46 = .ok (.aload_n 0, 1) := by decide +kernel
theorem dX12_pointed_47 : decode cX12_pointed 47 = .ok (.getfield 247, 3) := by decide +kernel
theorem dX12_pointed_50 : decode cX12_pointed 50 = .ok (.iload 4, 2) := by decide +kernel
theorem dX12_pointed_52 : decode cX12_pointed 52 = .ok (.iaload, 1) := by decide +kernel
theorem dX12_pointed_53 : decode cX12_pointed 53 = .ok (.iload_n 3, 1) := by decide +kernel
theorem dX12_pointed_54 : decode cX12_pointed 54 = .ok (.if_icmp .ne 6, 3) := by decide +kernel
theorem dX12_pointed_57 : decode cX12_pointed 57 = .ok (.iload 4, 2) := by decide +kernel
theorem dX12_pointed_59 : decode cX12_pointed 59 = .ok (.ireturn, 1) := by decide +kernel
theorem dX12_pointed_60 : decode cX12_pointed 60 = .ok (.iinc 4 1, 3) := by decide +kernel
theorem dX12_pointed_63 : decode cX12_pointed 63 = .ok (.goto (-36), 3) := by decide +kernel
theorem dX12_pointed_66 : decode cX12_pointed 66 = .ok (.iinc 2 1, 3) := by decide +kernel
theorem dX12_pointed_69 : decode cX12_pointed 69 = .ok (.goto (-67), 3) := by decide +kernel
theorem dX12_pointed_72 : decode cX12_pointed 72 = .ok (.iload_n 1, 1) := by decide +kernel
theorem dX12_pointed_73 : decode cX12_pointed 73 = .ok (.ireturn, 1) := by decide +kernel
theorem dX12_exchange_0 : decode cX12_exchange 0 = .ok (.iconst 0, 1) := by decide +kernel
theorem dX12_exchange_1 : decode cX12_exchange 1 = .ok (.istore_n 1, 1) := by decide +kernel
theorem dX12_exchange_2 : decode cX12_exchange 2 = .ok (.iconst 0, 1) := by decide +kernel
theorem dX12_exchange_3 : decode cX12_exchange 3 = .ok (.istore_n 2, 1) := by decide +kernel
theorem dX12_exchange_4 : decode cX12_exchange 4 = .ok (.iload_n 2, 1) := by decide +kernel
theorem dX12_exchange_5 : decode cX12_exchange 5 = .ok (.aload_n 0, 1) := by decide +kernel
theorem dX12_exchange_6 : decode cX12_exchange 6 = .ok (.getfield 256, 3) := by decide +kernel
theorem dX12_exchange_9 : decode cX12_exchange 9 = .ok (.if_icmp .ge 54, 3) := by decide +kernel
theorem dX12_exchange_12 : decode cX12_exchange 12 = .ok (.aload_n 0, 1) := by decide +kernel
theorem dX12_exchange_13 : decode cX12_exchange 13 = .ok (.getfield 247, 3) := by decide +kernel
theorem dX12_exchange_16 : decode cX12_exchange 16 = .ok (.iload_n 2, 1) := by decide +kernel
theorem dX12_exchange_17 : decode cX12_exchange 17 = .ok (.aload_n 0, 1) := by decide +kernel
theorem dX12_exchange_18 : decode cX12_exchange 18 = .ok (.getfield 133, 3) := by decide +kernel
theorem dX12_exchange_21 : decode cX12_exchange 21 = .ok (.iload_n 2, 1) := by decide +kernel
theorem dX12_exchange_22 : decode cX12_exchange 22 = .ok (.iaload, 1) := by decide +kernel
theorem dX12_exchange_23 : decode cX12_exchange 23 = .ok (.iastore, 1) := by decide +kernel
theorem dX12_exchange_24 : decode cX12_exchange 24 = .ok (.aload_n 0, 1) := by decide +kernel
theorem dX12_exchange_25 : decode cX12_exchange 25 = .ok (.getfield 253, 3) := by decide +kernel
theorem dX12_exchange_28 : decode cX12_exchange 28 = .ok (.iload_n 2, 1) := by decide +kernel
theorem dX12_exchange_29 : decode cX12_exchange 29 = .ok (.aload_n 0, 1) := by decide +kernel
theorem dX12_exchange_30 : decode cX12_exchange 30 = .ok (.getfield 133, 3) := by decide +kernel
theorem dX12_exchange_33 : decode cX12_exchange 33 = .ok (.iload_n 2, 1) := by decide +kernel
theorem dX12_exchange_34 : decode cX12_exchange 34 = .ok (.iaload, 1) := by decide +kernel
theorem dX12_exchange_35 : decode cX12_exchange 35 = .ok (.iconst (-1), 1) := by decide +kernel
theorem dX12_exchange_36 : decode cX12_exchange 36 = .ok (.if_icmp .eq 7, 3) := by decide +kernel
theorem dX12_exchange_39 : decode cX12_exchange 39 = .ok (.iconst 1, 1) := by decide +kernel
theorem dX12_exchange_40 : decode cX12_exchange 40 = .ok (.goto 4, 3) := by decide +kernel
theorem dX12_exchange_43 : decode cX12_exchange 43 = .ok (.iconst 0, 1) := by decide +kernel
theorem dX12_exchange_44 : decode cX12_exchange 44 = .ok (.bastore, 1) := by decide +kernel
theorem dX12_exchange_45 : decode cX12_exchange 45 = .ok (.aload_n 0, 1) := by decide +kernel
theorem dX12_exchange_46 : decode cX12_exchange 46 = .ok (.getfield 253, 3) := by decide +kernel
theorem dX12_exchange_49 : decode cX12_exchange 49 = .ok (.iload_n 2, 1) := by decide +kernel
theorem dX12_exchange_50 : decode cX12_exchange 50 = .ok (.baload, 1) := by decide +kernel
theorem dX12_exchange_51 : decode cX12_exchange 51 = .ok (.ifCond .eq 6, 3) := by decide +kernel
theorem dX12_exchange_54 : decode cX12_exchange 54 = .ok (.iinc 1 1, 3) := by decide +kernel
theorem dX12_exchange_57 : decode cX12_exchange 57 = .ok (.iinc 2 1, 3) := by decide +kernel
theorem dX12_exchange_60 : decode cX12_exchange 60 = .ok (.goto (-56), 3) := by decide +kernel
theorem dX12_exchange_63 : decode cX12_exchange 63 = .ok (.iload_n 1, 1) := by decide +kernel
theorem dX12_exchange_64 : decode cX12_exchange 64 = .ok (.ifCond .le 141, 3) := by decide +kernel
theorem dX12_exchange_67 : decode cX12_exchange 67 = .ok (.iconst 0, 1) := by decide +kernel
theorem dX12_exchange_68 : decode cX12_exchange 68 = .ok (.istore_n 2, 1) := by decide +kernel
theorem dX12_exchange_69 : decode cX12_exchange 69 = .ok (.iload_n 2, 1) := by decide +kernel
theorem dX12_exchange_70 : decode cX12_exchange 70 = .ok (.aload_n 0, 1) := by decide +kernel
theorem dX12_exchange_71 : decode cX12_exchange 71 = .ok (.getfield 256, 3) := by decide +kernel
theorem dX12_exchange_74 : decode cX12_exchange 74 = .ok (.if_icmp .ge 29, 3) := by decide +kernel
theorem dX12_exchange_77 : decode cX12_exchange 77 = .ok (.aload_n 0, 1) := by decide +kernel
theorem dX12_exchange_78 : decode cX12_exchange 78 = .ok (.getfield 253, 3) := by decide +kernel
theorem dX12_exchange_81 : decode cX12_exchange 81 = .ok (.iload_n 2, 1) := by decide +kernel
theorem dX12_exchange_82 : decode cX12_exchange 82 = .ok (.baload, 1) := by decide +kernel
theorem dX12_exchange_83 : decode cX12_exchange 83 = .ok (.ifCond .eq 14, 3) := by decide +kernel
theorem dX12_exchange_86 : decode cX12_exchange 86 = .ok (.aload_n 0, 1) := by decide +kernel
theorem dX12_exchange_87 : decode cX12_exchange 87 = .ok (.getfield 250, 3) := by decide +kernel
theorem dX12_exchange_90 : decode cX12_exchange 90 = .ok (.iload_n 2, 1) := by decide +kernel
theorem dX12_exchange_91 : decode cX12_exchange 91 = .ok (.aload_n 0, 1) := by decide +kernel
theorem dX12_exchange_92 : decode cX12_exchange 92 = .ok (.iload_n 2, 1) := by decide +kernel
theorem dX12_exchange_93 : decode cX12_exchange 93 = .ok (.invokevirtual 505, 3) := by decide +kernel
theorem dX12_exchange_96 : decode cX12_exchange 96 = .ok (.iastore, 1) := by decide +kernel
theorem dX12_exchange_97 : decode cX12_exchange 97 = .ok (.iinc 2 1, 3) := by decide +kernel
theorem dX12_exchange_100 : decode cX12_exchange 100 = .ok (.goto (-31), 3) := by decide +kernel
theorem dX12_exchange_103 : decode cX12_exchange 103 = .ok (.iconst 0, 1) := by decide +kernel
theorem dX12_exchange_104 : decode cX12_exchange 104 = .ok (.istore_n 2, 1) := by decide +kernel
theorem dX12_exchange_105 : decode cX12_exchange 105 = .ok (.aload_n 0, 1) := by decide +kernel
theorem dX12_exchange_106 : decode cX12_exchange 106 = .ok (.getfield 253, 3) := by decide +kernel
theorem dX12_exchange_109 : decode cX12_exchange 109 = .ok (.iload_n 2, 1) := by decide +kernel
theorem dX12_exchange_110 : decode cX12_exchange 110 = .ok (.baload, 1) := by decide +kernel
theorem dX12_exchange_111 : decode cX12_exchange 111 = .ok (.ifCond .ne 9, 3) := by decide +kernel
theorem dX12_exchange_114 : decode cX12_exchange 114 = .ok (.iinc 2 1, 3) := by decide +kernel
theorem dX12_exchange_117 : decode cX12_exchange 117 = .ok (.goto (-12), 3) := by decide +kernel
theorem dX12_exchange_120 : decode cX12_exchange 120 = .ok (.iconst 0, 1) := by decide +kernel
theorem dX12_exchange_121 : decode cX12_exchange 121 = .ok (.istore_n 3, 1) := by decide +kernel
theorem dX12_exchange_122 : decode cX12_exchange 122 = .ok (.iload_n 3, 1) := by decide +kernel
theorem dX12_exchange_123 : decode cX12_exchange 123 = .ok (.aload_n 0, 1) := by decide +kernel
theorem dX12_exchange_124 : decode cX12_exchange 124 = .ok (.getfield 256, 3) := by decide +kernel
theorem dX12_exchange_127 : decode cX12_exchange 127 = .ok (.if_icmp .ge 16, 3) := by decide +kernel
theorem dX12_exchange_130 : decode cX12_exchange 130 = .ok (.aload_n 0, 1) := by decide +kernel
theorem dX12_exchange_131 : decode cX12_exchange 131 = .ok (.getfield 250, 3) := by decide +kernel
theorem dX12_exchange_134 : decode cX12_exchange 134 = .ok (.iload_n 2, 1) := by decide +kernel
theorem dX12_exchange_135 : decode cX12_exchange 135 = .ok (.iaload, 1) := by decide +kernel
theorem dX12_exchange_136 : decode cX12_exchange 136 = .ok (.istore_n 2, 1) := by decide +kernel
theorem dX12_exchange_137 : decode cX12_exchange 137 = .ok (.iinc 3 1, 3) := by decide +kernel
theorem dX12_exchange_140 : decode cX12_exchange 140 = .ok (.goto (-18), 3) := by decide +kernel
theorem dX12_exchange_143 : decode cX12_exchange 143 = .ok (.iload_n 2, 1) := by decide +kernel
theorem dX12_exchange_144 : decode cX12_exchange 144 = .ok (.istore_n 3, 1) := by decide +kernel
theorem dX12_exchange_145 : decode cX12_exchange 145 = .ok (.iconst 1, 1) := by decide +kernel
theorem dX12_exchange_146 : decode cX12_exchange 146 = .ok (.istore 4, 2) := by decide +kernel
theorem dX12_exchange_148 : decode cX12_exchange 148 = .ok (.iload 4, 2) := by decide +kernel
theorem dX12_exchange_150 : decode cX12_exchange 150 = .ok (.ifCond .eq 52, 3) := by decide +kernel
theorem dX12_exchange_153 : decode cX12_exchange 153 = .ok (.aload_n 0, 1) := by decide +kernel
theorem dX12_exchange_154 : decode cX12_exchange 154 = .ok (.getfield 133, 3) := by decide +kernel
theorem dX12_exchange_157 : decode cX12_exchange 157 = .ok (.iload_n 3, 1) := by decide +kernel
theorem dX12_exchange_158 : decode cX12_exchange 158 = .ok (.aload_n 0, 1) := by decide +kernel
theorem dX12_exchange_159 : decode cX12_exchange 159 = .ok (.getfield 247, 3) := by decide +kernel
theorem dX12_exchange_162 : decode cX12_exchange 162 = .ok (.aload_n 0, 1) := by decide +kernel
theorem dX12_exchange_163 : decode cX12_exchange 163 = .ok (.getfield 250, 3) := by decide +kernel
theorem dX12_exchange_166 : decode cX12_exchange 166 = .ok (.iload_n 3, 1) := by decide +kernel
theorem dX12_exchange_167 : decode cX12_exchange 167 = .ok (.iaload, 1) := by decide +kernel
theorem dX12_exchange_168 : decode cX12_exchange 168 = .ok (.iaload, 1) := by decide +kernel
theorem dX12_exchange_169 : decode cX12_exchange 169 = .ok (.iastore, 1) := by decide +kernel
theorem dX12_exchange_170 : decode cX12_exchange 170 = .ok (.aload_n 0, 1) := by decide +kernel
theorem dX12_exchange_171 : decode cX12_exchange 171 = .ok (.getfield 253, 3) := by decide +kernel
theorem dX12_exchange_174 : decode cX12_exchange 174 = .ok (.iload_n 3, 1) := by decide +kernel
theorem dX12_exchange_175 : decode cX12_exchange 175 = .ok (.iconst 0, 1) := by decide +kernel
theorem dX12_exchange_176 : decode cX12_exchange 176 = .ok (.bastore, 1) := by decide +kernel
theorem dX12_exchange_177 : decode cX12_exchange 177 = .ok (.iinc 1 (-1), 3) := by decide +kernel
theorem dX12_exchange_180 : decode cX12_exchange 180 = .ok (.aload_n 0, 1) := by decide +kernel
theorem dX12_exchange_181 : decode cX12_exchange 181 = .ok (.getfield 250, 3) := by decide +kernel
theorem dX12_exchange_184 : decode cX12_exchange 184 = .ok (.iload_n 3, 1) := by decide +kernel
theorem dX12_exchange_185 : decode cX12_exchange 185 = .ok (.iaload, 1) := by decide +kernel
theorem dX12_exchange_186 : decode cX12_exchange 186 = .ok (.istore_n 3, 1) := by decide +kernel
theorem dX12_exchange_187 : decode cX12_exchange 187 = .ok (.iload_n 3, 1) := by decide +kernel
theorem dX12_exchange_188 : decode cX12_exchange 188 = .ok (.iload_n 2, 1) := by decide +kernel
theorem dX12_exchange_189 : decode cX12_exchange 189 = .ok (.if_icmp .eq 7, 3) := by decide +kernel
theorem dX12_exchange_192 : decode cX12_exchange 192 = .ok (.iconst 1, 1) := by decide +kernel
theorem dX12_exchange_193 : decode cX12_exchange 193 = .ok (.goto 4, 3) := by decide +kernel
theorem dX12_exchange_196 : decode cX12_exchange 196 = .ok (.iconst 0, 1) := by decide +kernel
theorem dX12_exchange_197 : decode cX12_exchange 197 = .ok (.istore 4, 2) := by decide +kernel
theorem dX12_exchange_199 : decode cX12_exchange 199 = .ok (.goto (-51), 3) := by decide +kernel
theorem dX12_exchange_202 : decode cX12_exchange 202 = .ok (.goto (-139), 3) := by decide +kernel
theorem dX12_exchange_205 : decode cX12_exchange 205 = .ok (.iconst 0, 1) := by decide +kernel
theorem dX12_exchange_206 : decode cX12_exchange 206 = .ok (.istore_n 2, 1) := by decide +kernel
theorem dX12_exchange_207 : decode cX12_exchange 207 = .ok (.iconst 0, 1) := by decide +kernel
theorem dX12_exchange_208 : decode cX12_exchange 208 = .ok (.istore_n 3, 1) := by decide +kernel
theorem dX12_exchange_209 : decode cX12_exchange 209 = .ok (.iload_n 3, 1) := by decide +kernel
theorem dX12_exchange_210 : decode cX12_exchange 210 = .ok (.aload_n 0, 1) := by decide +kernel
theorem dX12_exchange_211 : decode cX12_exchange 211 = .ok (.getfield 256, 3) := by decide +kernel
theorem dX12_exchange_214 : decode cX12_exchange 214 = .ok (.if_icmp .ge 27, 3) := by decide +kernel
theorem dX12_exchange_217 : decode cX12_exchange 217 = .ok (.aload_n 0, 1) := by decide +kernel
theorem dX12_exchange_218 : decode cX12_exchange 218 = .ok (.getfield 133, 3) := by decide +kernel
theorem dX12_exchange_221 : decode cX12_exchange 221 = .ok (.iload_n 3, 1) := by decide +kernel
theorem dX12_exchange_222 : decode cX12_exchange 222 = .ok (.iaload, 1) := by decide +kernel
theorem dX12_exchange_223 : decode cX12_exchange 223 = .ok (.aload_n 0, 1) := by decide +kernel
theorem dX12_exchange_224 : decode cX12_exchange 224 = .ok (.getfield 247, 3) := by decide +kernel
theorem dX12_exchange_227 : decode cX12_exchange 227 = .ok (.iload_n 3, 1) := by decide +kernel
theorem dX12_exchange_228 : decode cX12_exchange 228 = .ok (.iaload, 1) := by decide +kernel
theorem dX12_exchange_229 : decode cX12_exchange 229 = .ok (.if_icmp .eq 6, 3) := by decide +kernel
theorem dX12_exchange_232 : decode cX12_exchange 232 = .ok (.iinc 2 1, 3) := by decide +kernel
theorem dX12_exchange_235 : decode cX12_exchange 235 = .ok (.iinc 3 1, 3) := by decide +kernel
theorem dX12_exchange_238 : decode cX12_exchange 238 = .ok (.goto (-29), 3) := by decide +kernel
theorem dX12_exchange_241 : decode cX12_exchange 241 = .ok (.iload_n 2, 1) := by decide +kernel
theorem dX12_exchange_242 : decode cX12_exchange 242 = .ok (.ireturn, 1) := by decide +kernel
theorem dX12_roomOf_0 : decode cX12_roomOf 0 = .ok (.aload_n 0, 1) := by decide +kernel
theorem dX12_roomOf_1 : decode cX12_roomOf 1 = .ok (.iload_n 1, 1) := by decide +kernel
theorem dX12_roomOf_2 : decode cX12_roomOf 2 = .ok (.invokevirtual 271, 3) := by decide +kernel
theorem dX12_roomOf_5 : decode cX12_roomOf 5 = .ok (.ifCond .eq 12, 3) := by decide +kernel
theorem dX12_roomOf_8 : decode cX12_roomOf 8 = .ok (.aload_n 0, 1) := by decide +kernel
theorem dX12_roomOf_9 : decode cX12_roomOf 9 = .ok (.getfield 133, 3) := by decide +kernel
theorem dX12_roomOf_12 : decode cX12_roomOf 12 = .ok (.iload_n 1, 1) := by decide +kernel
theorem dX12_roomOf_13 : decode cX12_roomOf 13 = .ok (.iaload, 1) := by decide +kernel
theorem dX12_roomOf_14 : decode cX12_roomOf 14 = .ok (.goto 4, 3) := by decide +kernel
theorem dX12_roomOf_17 : decode cX12_roomOf 17 = .ok (.iconst (-1), 1) := by decide +kernel
theorem dX12_roomOf_18 : decode cX12_roomOf 18 = .ok (.ireturn, 1) := by decide +kernel
theorem dX12_status_0 : decode cX12_status 0 = .ok (.iload_n 1, 1) := by decide +kernel
theorem dX12_status_1 : decode cX12_status 1 = .ok (.bipush 10, 2) := by decide +kernel
theorem dX12_status_3 : decode cX12_status 3 = .ok (.if_icmp .le 19, 3) := by decide +kernel
theorem dX12_status_6 : decode cX12_status 6 = .ok (.iload_n 1, 1) := by decide +kernel
theorem dX12_status_7 : decode cX12_status 7 = .ok (.bipush 18, 2) := by decide +kernel
theorem dX12_status_9 : decode cX12_status 9 = .ok (.if_icmp .ge 13, 3) := by decide +kernel
theorem dX12_status_12 : decode cX12_status 12 = .ok (.aload_n 0, 1) := by decide +kernel
theorem dX12_status_13 : decode cX12_status 13 = .ok (.getfield 190, 3) := by decide +kernel
theorem dX12_status_16 : decode cX12_status 16 = .ok (.iload_n 1, 1) := by decide +kernel
theorem dX12_status_17 : decode cX12_status 17 = .ok (.bipush 10, 2) := by decide +kernel
theorem dX12_status_19 : decode cX12_status 19 = .ok (.isub, 1) := by decide +kernel
theorem dX12_status_20 : decode cX12_status 20 = .ok (.iaload, 1) := by decide +kernel
theorem dX12_status_21 : decode cX12_status 21 = .ok (.ireturn, 1) := by decide +kernel
theorem dX12_status_22 : decode cX12_status 22 = .ok (.iconst 0, 1) := by decide +kernel
theorem dX12_status_23 : decode cX12_status 23 = .ok (.istore_n 2, 1) := by decide +kernel
theorem dX12_status_24 : decode cX12_status 24 = .ok (.iload_n 1, 1) := by decide +kernel
theorem dX12_status_25 : decode cX12_status 25 = .ok (.tableswitch 177 0 18 #[91, 96, 101, 106, 111, 142, 147, 152, 157, 162, 167, 177, 177, 177, 177, 177, 177, 177, 172], 91) := by decide +kernel
theorem dX12_status_116 : decode cX12_status 116 = .ok (.aload_n 0, 1) := by decide +kernel
theorem dX12_status_117 : decode cX12_status 117 = .ok (.getfield 256, 3) := by decide +kernel
theorem dX12_status_120 : decode cX12_status 120 = .ok (.ireturn, 1) := by decide +kernel
theorem dX12_status_121 : decode cX12_status 121 = .ok (.aload_n 0, 1) := by decide +kernel
theorem dX12_status_122 : decode cX12_status 122 = .ok (.getfield 279, 3) := by decide +kernel
theorem dX12_status_125 : decode cX12_status 125 = .ok (.ireturn, 1) := by decide +kernel
theorem dX12_status_126 : decode cX12_status 126 = .ok (.aload_n 0, 1) := by decide +kernel
theorem dX12_status_127 : decode cX12_status 127 = .ok (.getfield 303, 3) := by decide +kernel
theorem dX12_status_130 : decode cX12_status 130 = .ok (.ireturn, 1) := by decide +kernel
theorem dX12_status_131 : decode cX12_status 131 = .ok (.aload_n 0, 1) := by decide +kernel
theorem dX12_status_132 : decode cX12_status 132 = .ok (.getfield 259, 3) := by decide +kernel
theorem dX12_status_135 : decode cX12_status 135 = .ok (.ireturn, 1) := by decide +kernel
theorem dX12_status_136 : decode cX12_status 136 = .ok (.iconst 0, 1) := by decide +kernel
theorem dX12_status_137 : decode cX12_status 137 = .ok (.istore_n 3, 1) := by decide +kernel
theorem dX12_status_138 : decode cX12_status 138 = .ok (.iload_n 3, 1) := by decide +kernel
theorem dX12_status_139 : decode cX12_status 139 = .ok (.aload_n 0, 1) := by decide +kernel
theorem dX12_status_140 : decode cX12_status 140 = .ok (.getfield 259, 3) := by decide +kernel
theorem dX12_status_143 : decode cX12_status 143 = .ok (.if_icmp .ge 22, 3) := by decide +kernel
theorem dX12_status_146 : decode cX12_status 146 = .ok (.aload_n 0, 1) := by decide +kernel
theorem dX12_status_147 : decode cX12_status 147 = .ok (.getfield 109, 3) := by decide +kernel
theorem dX12_status_150 : decode cX12_status 150 = .ok (.iload_n 3, 1) := by decide +kernel
theorem dX12_status_151 : decode cX12_status 151 = .ok (.iaload, 1) := by decide +kernel
theorem dX12_status_152 : decode cX12_status 152 = .ok (.iconst (-1), 1) := by decide +kernel
theorem dX12_status_153 : decode cX12_status 153 = .ok (.if_icmp .eq 6, 3) := by decide +kernel
theorem dX12_status_156 : decode cX12_status 156 = .ok (.iinc 2 1, 3) := by decide +kernel
theorem dX12_status_159 : decode cX12_status 159 = .ok (.iinc 3 1, 3) := by decide +kernel
theorem dX12_status_162 : decode cX12_status 162 = .ok (.goto (-24), 3) := by decide +kernel
theorem dX12_status_165 : decode cX12_status 165 = .ok (.iload_n 2, 1) := by decide +kernel
theorem dX12_status_166 : decode cX12_status 166 = .ok (.ireturn, 1) := by decide +kernel
theorem dX12_status_167 : decode cX12_status 167 = .ok (.aload_n 0, 1) := by decide +kernel
theorem dX12_status_168 : decode cX12_status 168 = .ok (.getfield 415, 3) := by decide +kernel
theorem dX12_status_171 : decode cX12_status 171 = .ok (.ireturn, 1) := by decide +kernel
theorem dX12_status_172 : decode cX12_status 172 = .ok (.aload_n 0, 1) := by decide +kernel
theorem dX12_status_173 : decode cX12_status 173 = .ok (.getfield 428, 3) := by decide +kernel
theorem dX12_status_176 : decode cX12_status 176 = .ok (.ireturn, 1) := by decide +kernel
theorem dX12_status_177 : decode cX12_status 177 = .ok (.aload_n 0, 1) := by decide +kernel
theorem dX12_status_178 : decode cX12_status 178 = .ok (.getfield 447, 3) := by decide +kernel
theorem dX12_status_181 : decode cX12_status 181 = .ok (.ireturn, 1) := by decide +kernel
theorem dX12_status_182 : decode cX12_status 182 = .ok (.aload_n 0, 1) := by decide +kernel
theorem dX12_status_183 : decode cX12_status 183 = .ok (.getfield 262, 3) := by decide +kernel
theorem dX12_status_186 : decode cX12_status 186 = .ok (.ireturn, 1) := by decide +kernel
theorem dX12_status_187 : decode cX12_status 187 = .ok (.aload_n 0, 1) := by decide +kernel
theorem dX12_status_188 : decode cX12_status 188 = .ok (.getfield 453, 3) := by decide +kernel
theorem dX12_status_191 : decode cX12_status 191 = .ok (.ireturn, 1) := by decide +kernel
theorem dX12_status_192 : decode cX12_status 192 = .ok (.aload_n 0, 1) := by decide +kernel
theorem dX12_status_193 : decode cX12_status 193 = .ok (.getfield 499, 3) := by decide +kernel
theorem dX12_status_196 : decode cX12_status 196 = .ok (.ireturn, 1) := by decide +kernel
theorem dX12_status_197 : decode cX12_status 197 = .ok (.aload_n 0, 1) := by decide +kernel
theorem dX12_status_198 : decode cX12_status 198 = .ok (.getfield 392, 3) := by decide +kernel
theorem dX12_status_201 : decode cX12_status 201 = .ok (.ireturn, 1) := by decide +kernel
theorem dX12_status_202 : decode cX12_status 202 = .ok (.iconst (-1), 1) := by decide +kernel
theorem dX12_status_203 : decode cX12_status 203 = .ok (.ireturn, 1) := by decide +kernel
