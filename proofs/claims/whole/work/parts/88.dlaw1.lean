/-! ===== the law: its instructions, 1 ===== -/
theorem dLaw_0 : decode code 0 = .ok (.new 8, 3) := by decide +kernel
theorem dLaw_3 : decode code 3 = .ok (.dup, 1) := by decide +kernel
theorem dLaw_4 : decode code 4 = .ok (.invokespecial 57, 3) := by decide +kernel
theorem dLaw_7 : decode code 7 = .ok (.astore_n 1, 1) := by decide +kernel
theorem dLaw_8 : decode code 8 = .ok (.new 58, 3) := by decide +kernel
theorem dLaw_11 : decode code 11 = .ok (.dup, 1) := by decide +kernel
theorem dLaw_12 : decode code 12 = .ok (.invokespecial 60, 3) := by decide +kernel
theorem dLaw_15 : decode code 15 = .ok (.astore_n 2, 1) := by decide +kernel
theorem dLaw_16 : decode code 16 = .ok (.iconst 1, 1) := by decide +kernel
theorem dLaw_17 : decode code 17 = .ok (.newarray .long, 2) := by decide +kernel
theorem dLaw_19 : decode code 19 = .ok (.astore_n 3, 1) := by decide +kernel
theorem dLaw_20 : decode code 20 = .ok (.iconst 0, 1) := by decide +kernel
theorem dLaw_21 : decode code 21 = .ok (.istore 4, 2) := by decide +kernel
theorem dLaw_23 : decode code 23 = .ok (.iload 4, 2) := by decide +kernel
theorem dLaw_25 : decode code 25 = .ok (.aload_n 0, 1) := by decide +kernel
theorem dLaw_26 : decode code 26 = .ok (.arraylength, 1) := by decide +kernel
theorem dLaw_27 : decode code 27 = .ok (.bipush 6, 2) := by decide +kernel
theorem dLaw_29 : decode code 29 = .ok (.isub, 1) := by decide +kernel
theorem dLaw_30 : decode code 30 = .ok (.if_icmp .gt 846, 3) := by decide +kernel
theorem dLaw_33 : decode code 33 = .ok (.aload_n 0, 1) := by decide +kernel
theorem dLaw_34 : decode code 34 = .ok (.iload 4, 2) := by decide +kernel
theorem dLaw_36 : decode code 36 = .ok (.iaload, 1) := by decide +kernel
theorem dLaw_37 : decode code 37 = .ok (.bipush 15, 2) := by decide +kernel
theorem dLaw_39 : decode code 39 = .ok (.iand, 1) := by decide +kernel
theorem dLaw_40 : decode code 40 = .ok (.tableswitch 830 0 12 #[68, 188, 260, 328, 384, 439, 495, 562, 654, 690, 726, 739, 750], 68) := by decide +kernel
theorem dLaw_108 : decode code 108 = .ok (.aload_n 1, 1) := by decide +kernel
theorem dLaw_109 : decode code 109 = .ok (.aload_n 0, 1) := by decide +kernel
theorem dLaw_110 : decode code 110 = .ok (.iload 4, 2) := by decide +kernel
theorem dLaw_112 : decode code 112 = .ok (.iconst 1, 1) := by decide +kernel
theorem dLaw_113 : decode code 113 = .ok (.iadd, 1) := by decide +kernel
theorem dLaw_114 : decode code 114 = .ok (.iaload, 1) := by decide +kernel
theorem dLaw_115 : decode code 115 = .ok (.aload_n 0, 1) := by decide +kernel
theorem dLaw_116 : decode code 116 = .ok (.iload 4, 2) := by decide +kernel
theorem dLaw_118 : decode code 118 = .ok (.iconst 2, 1) := by decide +kernel
theorem dLaw_119 : decode code 119 = .ok (.iadd, 1) := by decide +kernel
theorem dLaw_120 : decode code 120 = .ok (.iaload, 1) := by decide +kernel
theorem dLaw_121 : decode code 121 = .ok (.ifCond .eq 7, 3) := by decide +kernel
theorem dLaw_124 : decode code 124 = .ok (.iconst 1, 1) := by decide +kernel
theorem dLaw_125 : decode code 125 = .ok (.goto 4, 3) := by decide +kernel
theorem dLaw_128 : decode code 128 = .ok (.iconst 0, 1) := by decide +kernel
theorem dLaw_129 : decode code 129 = .ok (.aload_n 0, 1) := by decide +kernel
theorem dLaw_130 : decode code 130 = .ok (.iload 4, 2) := by decide +kernel
theorem dLaw_132 : decode code 132 = .ok (.iconst 3, 1) := by decide +kernel
theorem dLaw_133 : decode code 133 = .ok (.iadd, 1) := by decide +kernel
theorem dLaw_134 : decode code 134 = .ok (.iaload, 1) := by decide +kernel
theorem dLaw_135 : decode code 135 = .ok (.i2l, 1) := by decide +kernel
theorem dLaw_136 : decode code 136 = .ok (.bipush 32, 2) := by decide +kernel
theorem dLaw_138 : decode code 138 = .ok (.lshl, 1) := by decide +kernel
theorem dLaw_139 : decode code 139 = .ok (.aload_n 0, 1) := by decide +kernel
theorem dLaw_140 : decode code 140 = .ok (.iload 4, 2) := by decide +kernel
theorem dLaw_142 : decode code 142 = .ok (.iconst 4, 1) := by decide +kernel
theorem dLaw_143 : decode code 143 = .ok (.iadd, 1) := by decide +kernel
theorem dLaw_144 : decode code 144 = .ok (.iaload, 1) := by decide +kernel
theorem dLaw_145 : decode code 145 = .ok (.i2l, 1) := by decide +kernel
theorem dLaw_146 : decode code 146 = .ok (.ldc2_w 61, 3) := by decide +kernel
theorem dLaw_149 : decode code 149 = .ok (.land, 1) := by decide +kernel
theorem dLaw_150 : decode code 150 = .ok (.lor, 1) := by decide +kernel
theorem dLaw_151 : decode code 151 = .ok (.aload_n 0, 1) := by decide +kernel
theorem dLaw_152 : decode code 152 = .ok (.iload 4, 2) := by decide +kernel
theorem dLaw_154 : decode code 154 = .ok (.iconst 5, 1) := by decide +kernel
theorem dLaw_155 : decode code 155 = .ok (.iadd, 1) := by decide +kernel
theorem dLaw_156 : decode code 156 = .ok (.iaload, 1) := by decide +kernel
theorem dLaw_157 : decode code 157 = .ok (.invokestatic 63, 3) := by decide +kernel
theorem dLaw_160 : decode code 160 = .ok (.istore 5, 2) := by decide +kernel
theorem dLaw_162 : decode code 162 = .ok (.aload_n 2, 1) := by decide +kernel
theorem dLaw_163 : decode code 163 = .ok (.aload_n 0, 1) := by decide +kernel
theorem dLaw_164 : decode code 164 = .ok (.iload 4, 2) := by decide +kernel
theorem dLaw_166 : decode code 166 = .ok (.iconst 1, 1) := by decide +kernel
theorem dLaw_167 : decode code 167 = .ok (.iadd, 1) := by decide +kernel
theorem dLaw_168 : decode code 168 = .ok (.iaload, 1) := by decide +kernel
theorem dLaw_169 : decode code 169 = .ok (.aload_n 0, 1) := by decide +kernel
theorem dLaw_170 : decode code 170 = .ok (.iload 4, 2) := by decide +kernel
theorem dLaw_172 : decode code 172 = .ok (.iconst 2, 1) := by decide +kernel
theorem dLaw_173 : decode code 173 = .ok (.iadd, 1) := by decide +kernel
theorem dLaw_174 : decode code 174 = .ok (.iaload, 1) := by decide +kernel
theorem dLaw_175 : decode code 175 = .ok (.ifCond .eq 7, 3) := by decide +kernel
theorem dLaw_178 : decode code 178 = .ok (.iconst 1, 1) := by decide +kernel
theorem dLaw_179 : decode code 179 = .ok (.goto 4, 3) := by decide +kernel
theorem dLaw_182 : decode code 182 = .ok (.iconst 0, 1) := by decide +kernel
theorem dLaw_183 : decode code 183 = .ok (.aload_n 0, 1) := by decide +kernel
theorem dLaw_184 : decode code 184 = .ok (.iload 4, 2) := by decide +kernel
theorem dLaw_186 : decode code 186 = .ok (.iconst 3, 1) := by decide +kernel
theorem dLaw_187 : decode code 187 = .ok (.iadd, 1) := by decide +kernel
theorem dLaw_188 : decode code 188 = .ok (.iaload, 1) := by decide +kernel
theorem dLaw_189 : decode code 189 = .ok (.i2l, 1) := by decide +kernel
theorem dLaw_190 : decode code 190 = .ok (.bipush 32, 2) := by decide +kernel
theorem dLaw_192 : decode code 192 = .ok (.lshl, 1) := by decide +kernel
theorem dLaw_193 : decode code 193 = .ok (.aload_n 0, 1) := by decide +kernel
theorem dLaw_194 : decode code 194 = .ok (.iload 4, 2) := by decide +kernel
theorem dLaw_196 : decode code 196 = .ok (.iconst 4, 1) := by decide +kernel
theorem dLaw_197 : decode code 197 = .ok (.iadd, 1) := by decide +kernel
theorem dLaw_198 : decode code 198 = .ok (.iaload, 1) := by decide +kernel
theorem dLaw_199 : decode code 199 = .ok (.i2l, 1) := by decide +kernel
theorem dLaw_200 : decode code 200 = .ok (.ldc2_w 61, 3) := by decide +kernel
theorem dLaw_203 : decode code 203 = .ok (.land, 1) := by decide +kernel
theorem dLaw_204 : decode code 204 = .ok (.lor, 1) := by decide +kernel
theorem dLaw_205 : decode code 205 = .ok (.aload_n 0, 1) := by decide +kernel
theorem dLaw_206 : decode code 206 = .ok (.iload 4, 2) := by decide +kernel
theorem dLaw_208 : decode code 208 = .ok (.iconst 5, 1) := by decide +kernel
theorem dLaw_209 : decode code 209 = .ok (.iadd, 1) := by decide +kernel
theorem dLaw_210 : decode code 210 = .ok (.iaload, 1) := by decide +kernel
theorem dLaw_211 : decode code 211 = .ok (.invokevirtual 68, 3) := by decide +kernel
theorem dLaw_214 : decode code 214 = .ok (.aload_n 2, 1) := by decide +kernel
theorem dLaw_215 : decode code 215 = .ok (.invokevirtual 69, 3) := by decide +kernel
theorem dLaw_218 : decode code 218 = .ok (.iload 5, 2) := by decide +kernel
theorem dLaw_220 : decode code 220 = .ok (.if_icmp .eq 5, 3) := by decide +kernel
theorem dLaw_223 : decode code 223 = .ok (.iconst 0, 1) := by decide +kernel
theorem dLaw_224 : decode code 224 = .ok (.ireturn, 1) := by decide +kernel
theorem dLaw_225 : decode code 225 = .ok (.goto 645, 3) := by decide +kernel
theorem dLaw_228 : decode code 228 = .ok (.aload_n 1, 1) := by decide +kernel
