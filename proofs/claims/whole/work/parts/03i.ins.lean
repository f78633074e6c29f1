/-! each instruction's row -/
theorem s0_0 (j : Nat) : q_ins 0 j = q_at q_c0 j := rfl
theorem s0_1 (j : Nat) : q_ins 0 (j + 16) = q_at q_c0_1 j := s0_0 (j + 16)
theorem s0_2 (j : Nat) : q_ins 0 (j + 32) = q_at q_c0_2 j := s0_1 (j + 16)
theorem s0_3 (j : Nat) : q_ins 0 (j + 48) = q_at q_c0_3 j := s0_2 (j + 16)
theorem s0_4 (j : Nat) : q_ins 0 (j + 64) = q_at q_c0_4 j := s0_3 (j + 16)
theorem s0_5 (j : Nat) : q_ins 0 (j + 80) = q_at q_c0_5 j := s0_4 (j + 16)
theorem s0_6 (j : Nat) : q_ins 0 (j + 96) = q_at q_c0_6 j := s0_5 (j + 16)
theorem s0_7 (j : Nat) : q_ins 0 (j + 112) = q_at q_c0_7 j := s0_6 (j + 16)
theorem s0_8 (j : Nat) : q_ins 0 (j + 128) = q_at q_c0_8 j := s0_7 (j + 16)
theorem s0_9 (j : Nat) : q_ins 0 (j + 144) = q_at q_c0_9 j := s0_8 (j + 16)
theorem s0_10 (j : Nat) : q_ins 0 (j + 160) = q_at q_c0_10 j := s0_9 (j + 16)
theorem s0_11 (j : Nat) : q_ins 0 (j + 176) = q_at q_c0_11 j := s0_10 (j + 16)
theorem s0_12 (j : Nat) : q_ins 0 (j + 192) = q_at q_c0_12 j := s0_11 (j + 16)
theorem s0_13 (j : Nat) : q_ins 0 (j + 208) = q_at q_c0_13 j := s0_12 (j + 16)
theorem s0_14 (j : Nat) : q_ins 0 (j + 224) = q_at q_c0_14 j := s0_13 (j + 16)
theorem s0_15 (j : Nat) : q_ins 0 (j + 240) = q_at q_c0_15 j := s0_14 (j + 16)
theorem s0_16 (j : Nat) : q_ins 0 (j + 256) = q_at q_c0_16 j := s0_15 (j + 16)
theorem s0_17 (j : Nat) : q_ins 0 (j + 272) = q_at q_c0_17 j := s0_16 (j + 16)
theorem s0_18 (j : Nat) : q_ins 0 (j + 288) = q_at q_c0_18 j := s0_17 (j + 16)
theorem s0_19 (j : Nat) : q_ins 0 (j + 304) = q_at q_c0_19 j := s0_18 (j + 16)
theorem s0_20 (j : Nat) : q_ins 0 (j + 320) = q_at q_c0_20 j := s0_19 (j + 16)
theorem s0_21 (j : Nat) : q_ins 0 (j + 336) = q_at q_c0_21 j := s0_20 (j + 16)
theorem s0_22 (j : Nat) : q_ins 0 (j + 352) = q_at q_c0_22 j := s0_21 (j + 16)
theorem s0_23 (j : Nat) : q_ins 0 (j + 368) = q_at q_c0_23 j := s0_22 (j + 16)
theorem s0_24 (j : Nat) : q_ins 0 (j + 384) = q_at q_c0_24 j := s0_23 (j + 16)
theorem s0_25 (j : Nat) : q_ins 0 (j + 400) = q_at q_c0_25 j := s0_24 (j + 16)
theorem s0_26 (j : Nat) : q_ins 0 (j + 416) = q_at q_c0_26 j := s0_25 (j + 16)
theorem s0_27 (j : Nat) : q_ins 0 (j + 432) = q_at q_c0_27 j := s0_26 (j + 16)
theorem s0_28 (j : Nat) : q_ins 0 (j + 448) = q_at q_c0_28 j := s0_27 (j + 16)
theorem s0_29 (j : Nat) : q_ins 0 (j + 464) = q_at q_c0_29 j := s0_28 (j + 16)
theorem s0_30 (j : Nat) : q_ins 0 (j + 480) = q_at q_c0_30 j := s0_29 (j + 16)
theorem s0_31 (j : Nat) : q_ins 0 (j + 496) = q_at q_c0_31 j := s0_30 (j + 16)
theorem s0_32 (j : Nat) : q_ins 0 (j + 512) = q_at q_c0_32 j := s0_31 (j + 16)
theorem s0_33 (j : Nat) : q_ins 0 (j + 528) = q_at q_c0_33 j := s0_32 (j + 16)
theorem s0_34 (j : Nat) : q_ins 0 (j + 544) = q_at q_c0_34 j := s0_33 (j + 16)
theorem s0_35 (j : Nat) : q_ins 0 (j + 560) = q_at q_c0_35 j := s0_34 (j + 16)
theorem s0_36 (j : Nat) : q_ins 0 (j + 576) = q_at q_c0_36 j := s0_35 (j + 16)
theorem s0_37 (j : Nat) : q_ins 0 (j + 592) = q_at q_c0_37 j := s0_36 (j + 16)
theorem s0_38 (j : Nat) : q_ins 0 (j + 608) = q_at q_c0_38 j := s0_37 (j + 16)
theorem s0_39 (j : Nat) : q_ins 0 (j + 624) = q_at q_c0_39 j := s0_38 (j + 16)
theorem s0_40 (j : Nat) : q_ins 0 (j + 640) = q_at q_c0_40 j := s0_39 (j + 16)
theorem s0_41 (j : Nat) : q_ins 0 (j + 656) = q_at q_c0_41 j := s0_40 (j + 16)
theorem s0_42 (j : Nat) : q_ins 0 (j + 672) = q_at q_c0_42 j := s0_41 (j + 16)
theorem s0_43 (j : Nat) : q_ins 0 (j + 688) = q_at q_c0_43 j := s0_42 (j + 16)
theorem s0_44 (j : Nat) : q_ins 0 (j + 704) = q_at q_c0_44 j := s0_43 (j + 16)
theorem s0_45 (j : Nat) : q_ins 0 (j + 720) = q_at q_c0_45 j := s0_44 (j + 16)
theorem s0_46 (j : Nat) : q_ins 0 (j + 736) = q_at q_c0_46 j := s0_45 (j + 16)
theorem s0_47 (j : Nat) : q_ins 0 (j + 752) = q_at q_c0_47 j := s0_46 (j + 16)
theorem s0_48 (j : Nat) : q_ins 0 (j + 768) = q_at q_c0_48 j := s0_47 (j + 16)
theorem s0_49 (j : Nat) : q_ins 0 (j + 784) = q_at q_c0_49 j := s0_48 (j + 16)
theorem s0_50 (j : Nat) : q_ins 0 (j + 800) = q_at q_c0_50 j := s0_49 (j + 16)
theorem s0_51 (j : Nat) : q_ins 0 (j + 816) = q_at q_c0_51 j := s0_50 (j + 16)
theorem s0_52 (j : Nat) : q_ins 0 (j + 832) = q_at q_c0_52 j := s0_51 (j + 16)
theorem i0_0 : q_ins 0 0 = some (.new 7, 3, (95, 9, 7, 0, 0)) := s0_0 0
theorem i0_3 : q_ins 0 3 = some (.dup, 1, (0, 0, 0, 0, 0)) := s0_0 3
theorem i0_4 : q_ins 0 4 = some (.invokespecial 9, 3, (0, 1, 1, 1, 0)) := s0_0 4
theorem i0_7 : q_ins 0 7 = some (.astore_n 1, 1, (0, 0, 0, 0, 0)) := s0_0 7
theorem i0_8 : q_ins 0 8 = some (.new 10, 3, (995, 10, 37, 0, 0)) := s0_0 8
theorem i0_11 : q_ins 0 11 = some (.dup, 1, (0, 0, 0, 0, 0)) := s0_0 11
theorem i0_12 : q_ins 0 12 = some (.invokespecial 12, 3, (1, 115, 1, 1, 0)) := s0_0 12
theorem i0_15 : q_ins 0 15 = some (.astore_n 2, 1, (0, 0, 0, 0, 0)) := s0_0 15
theorem i0_16 : q_ins 0 16 = some (.iconst 0, 1, (0, 0, 0, 0, 0)) := s0_1 0
theorem i0_17 : q_ins 0 17 = some (.istore_n 3, 1, (0, 0, 0, 0, 0)) := s0_1 1
theorem i0_18 : q_ins 0 18 = some (.iload_n 3, 1, (0, 0, 0, 0, 0)) := s0_1 2
theorem i0_19 : q_ins 0 19 = some (.aload_n 0, 1, (0, 0, 0, 0, 0)) := s0_1 3
theorem i0_20 : q_ins 0 20 = some (.arraylength, 1, (0, 0, 0, 0, 0)) := s0_1 4
theorem i0_21 : q_ins 0 21 = some (.bipush 6, 2, (0, 0, 0, 0, 0)) := s0_1 5
theorem i0_23 : q_ins 0 23 = some (.isub, 1, (0, 0, 0, 0, 0)) := s0_1 7
theorem i0_24 : q_ins 0 24 = some (.if_icmp .gt 818, 3, (0, 0, 0, 0, 0)) := s0_1 8
theorem i0_27 : q_ins 0 27 = some (.aload_n 0, 1, (0, 0, 0, 0, 0)) := s0_1 11
theorem i0_28 : q_ins 0 28 = some (.iload_n 3, 1, (0, 0, 0, 0, 0)) := s0_1 12
theorem i0_29 : q_ins 0 29 = some (.iaload, 1, (0, 0, 0, 0, 0)) := s0_1 13
theorem i0_30 : q_ins 0 30 = some (.bipush 31, 2, (0, 0, 0, 0, 0)) := s0_1 14
theorem i0_32 : q_ins 0 32 = some (.iand, 1, (0, 0, 0, 0, 0)) := s0_2 0
theorem i0_33 : q_ins 0 33 = some (.tableswitch 803 0 25 #[119, 162, 195, 218, 281, 304, 317, 340, 363, 396, 445, 458, 481, 494, 527, 560, 583, 606, 639, 662, 685, 708, 731, 754, 767, 780], 119, (0, 0, 0, 0, 0)) := s0_2 1
theorem i0_152 : q_ins 0 152 = some (.aload_n 1, 1, (0, 0, 0, 0, 0)) := s0_9 8
theorem i0_153 : q_ins 0 153 = some (.aload_n 0, 1, (0, 0, 0, 0, 0)) := s0_9 9
theorem i0_154 : q_ins 0 154 = some (.iload_n 3, 1, (0, 0, 0, 0, 0)) := s0_9 10
theorem i0_155 : q_ins 0 155 = some (.iconst 1, 1, (0, 0, 0, 0, 0)) := s0_9 11
theorem i0_156 : q_ins 0 156 = some (.iadd, 1, (0, 0, 0, 0, 0)) := s0_9 12
theorem i0_157 : q_ins 0 157 = some (.iaload, 1, (0, 0, 0, 0, 0)) := s0_9 13
theorem i0_158 : q_ins 0 158 = some (.aload_n 0, 1, (0, 0, 0, 0, 0)) := s0_9 14
theorem i0_159 : q_ins 0 159 = some (.iload_n 3, 1, (0, 0, 0, 0, 0)) := s0_9 15
theorem i0_160 : q_ins 0 160 = some (.iconst 2, 1, (0, 0, 0, 0, 0)) := s0_10 0
theorem i0_161 : q_ins 0 161 = some (.iadd, 1, (0, 0, 0, 0, 0)) := s0_10 1
theorem i0_162 : q_ins 0 162 = some (.iaload, 1, (0, 0, 0, 0, 0)) := s0_10 2
theorem i0_163 : q_ins 0 163 = some (.aload_n 0, 1, (0, 0, 0, 0, 0)) := s0_10 3
theorem i0_164 : q_ins 0 164 = some (.iload_n 3, 1, (0, 0, 0, 0, 0)) := s0_10 4
theorem i0_165 : q_ins 0 165 = some (.iconst 3, 1, (0, 0, 0, 0, 0)) := s0_10 5
theorem i0_166 : q_ins 0 166 = some (.iadd, 1, (0, 0, 0, 0, 0)) := s0_10 6
theorem i0_167 : q_ins 0 167 = some (.iaload, 1, (0, 0, 0, 0, 0)) := s0_10 7
theorem i0_168 : q_ins 0 168 = some (.invokevirtual 13, 3, (2, 11, 4, 0, 9)) := s0_10 8
theorem i0_171 : q_ins 0 171 = some (.aload_n 2, 1, (0, 0, 0, 0, 0)) := s0_10 11
theorem i0_172 : q_ins 0 172 = some (.aload_n 0, 1, (0, 0, 0, 0, 0)) := s0_10 12
theorem i0_173 : q_ins 0 173 = some (.iload_n 3, 1, (0, 0, 0, 0, 0)) := s0_10 13
theorem i0_174 : q_ins 0 174 = some (.iconst 1, 1, (0, 0, 0, 0, 0)) := s0_10 14
theorem i0_175 : q_ins 0 175 = some (.iadd, 1, (0, 0, 0, 0, 0)) := s0_10 15
theorem i0_176 : q_ins 0 176 = some (.iaload, 1, (0, 0, 0, 0, 0)) := s0_11 0
theorem i0_177 : q_ins 0 177 = some (.aload_n 0, 1, (0, 0, 0, 0, 0)) := s0_11 1
theorem i0_178 : q_ins 0 178 = some (.iload_n 3, 1, (0, 0, 0, 0, 0)) := s0_11 2
theorem i0_179 : q_ins 0 179 = some (.iconst 2, 1, (0, 0, 0, 0, 0)) := s0_11 3
theorem i0_180 : q_ins 0 180 = some (.iadd, 1, (0, 0, 0, 0, 0)) := s0_11 4
theorem i0_181 : q_ins 0 181 = some (.iaload, 1, (0, 0, 0, 0, 0)) := s0_11 5
theorem i0_182 : q_ins 0 182 = some (.aload_n 0, 1, (0, 0, 0, 0, 0)) := s0_11 6
theorem i0_183 : q_ins 0 183 = some (.iload_n 3, 1, (0, 0, 0, 0, 0)) := s0_11 7
theorem i0_184 : q_ins 0 184 = some (.iconst 3, 1, (0, 0, 0, 0, 0)) := s0_11 8
theorem i0_185 : q_ins 0 185 = some (.iadd, 1, (0, 0, 0, 0, 0)) := s0_11 9
theorem i0_186 : q_ins 0 186 = some (.iaload, 1, (0, 0, 0, 0, 0)) := s0_11 10
theorem i0_187 : q_ins 0 187 = some (.invokevirtual 17, 3, (3, 117, 4, 0, 10)) := s0_11 11
theorem i0_190 : q_ins 0 190 = some (.if_icmp .eq 646, 3, (0, 0, 0, 0, 0)) := s0_11 14
theorem i0_193 : q_ins 0 193 = some (.iconst 0, 1, (0, 0, 0, 0, 0)) := s0_12 1
theorem i0_194 : q_ins 0 194 = some (.ireturn, 1, (0, 0, 0, 0, 0)) := s0_12 2
theorem i0_195 : q_ins 0 195 = some (.aload_n 1, 1, (0, 0, 0, 0, 0)) := s0_12 3
theorem i0_196 : q_ins 0 196 = some (.aload_n 0, 1, (0, 0, 0, 0, 0)) := s0_12 4
theorem i0_197 : q_ins 0 197 = some (.iload_n 3, 1, (0, 0, 0, 0, 0)) := s0_12 5
theorem i0_198 : q_ins 0 198 = some (.iconst 1, 1, (0, 0, 0, 0, 0)) := s0_12 6
theorem i0_199 : q_ins 0 199 = some (.iadd, 1, (0, 0, 0, 0, 0)) := s0_12 7
theorem i0_200 : q_ins 0 200 = some (.iaload, 1, (0, 0, 0, 0, 0)) := s0_12 8
theorem i0_201 : q_ins 0 201 = some (.aload_n 0, 1, (0, 0, 0, 0, 0)) := s0_12 9
theorem i0_202 : q_ins 0 202 = some (.iload_n 3, 1, (0, 0, 0, 0, 0)) := s0_12 10
theorem i0_203 : q_ins 0 203 = some (.iconst 2, 1, (0, 0, 0, 0, 0)) := s0_12 11
theorem i0_204 : q_ins 0 204 = some (.iadd, 1, (0, 0, 0, 0, 0)) := s0_12 12
theorem i0_205 : q_ins 0 205 = some (.iaload, 1, (0, 0, 0, 0, 0)) := s0_12 13
theorem i0_206 : q_ins 0 206 = some (.invokevirtual 18, 3, (4, 14, 3, 0, 9)) := s0_12 14
theorem i0_209 : q_ins 0 209 = some (.aload_n 2, 1, (0, 0, 0, 0, 0)) := s0_13 1
theorem i0_210 : q_ins 0 210 = some (.aload_n 0, 1, (0, 0, 0, 0, 0)) := s0_13 2
theorem i0_211 : q_ins 0 211 = some (.iload_n 3, 1, (0, 0, 0, 0, 0)) := s0_13 3
theorem i0_212 : q_ins 0 212 = some (.iconst 1, 1, (0, 0, 0, 0, 0)) := s0_13 4
theorem i0_213 : q_ins 0 213 = some (.iadd, 1, (0, 0, 0, 0, 0)) := s0_13 5
theorem i0_214 : q_ins 0 214 = some (.iaload, 1, (0, 0, 0, 0, 0)) := s0_13 6
theorem i0_215 : q_ins 0 215 = some (.aload_n 0, 1, (0, 0, 0, 0, 0)) := s0_13 7
theorem i0_216 : q_ins 0 216 = some (.iload_n 3, 1, (0, 0, 0, 0, 0)) := s0_13 8
theorem i0_217 : q_ins 0 217 = some (.iconst 2, 1, (0, 0, 0, 0, 0)) := s0_13 9
theorem i0_218 : q_ins 0 218 = some (.iadd, 1, (0, 0, 0, 0, 0)) := s0_13 10
theorem i0_219 : q_ins 0 219 = some (.iaload, 1, (0, 0, 0, 0, 0)) := s0_13 11
theorem i0_220 : q_ins 0 220 = some (.invokevirtual 22, 3, (5, 120, 3, 0, 10)) := s0_13 12
theorem i0_223 : q_ins 0 223 = some (.if_icmp .eq 613, 3, (0, 0, 0, 0, 0)) := s0_13 15
theorem i0_226 : q_ins 0 226 = some (.iconst 0, 1, (0, 0, 0, 0, 0)) := s0_14 2
theorem i0_227 : q_ins 0 227 = some (.ireturn, 1, (0, 0, 0, 0, 0)) := s0_14 3
theorem i0_228 : q_ins 0 228 = some (.aload_n 1, 1, (0, 0, 0, 0, 0)) := s0_14 4
theorem i0_229 : q_ins 0 229 = some (.aload_n 0, 1, (0, 0, 0, 0, 0)) := s0_14 5
theorem i0_230 : q_ins 0 230 = some (.iload_n 3, 1, (0, 0, 0, 0, 0)) := s0_14 6
theorem i0_231 : q_ins 0 231 = some (.iconst 1, 1, (0, 0, 0, 0, 0)) := s0_14 7
theorem i0_232 : q_ins 0 232 = some (.iadd, 1, (0, 0, 0, 0, 0)) := s0_14 8
theorem i0_233 : q_ins 0 233 = some (.iaload, 1, (0, 0, 0, 0, 0)) := s0_14 9
theorem i0_234 : q_ins 0 234 = some (.invokevirtual 23, 3, (6, 17, 2, 0, 9)) := s0_14 10
theorem i0_237 : q_ins 0 237 = some (.aload_n 2, 1, (0, 0, 0, 0, 0)) := s0_14 13
theorem i0_238 : q_ins 0 238 = some (.aload_n 0, 1, (0, 0, 0, 0, 0)) := s0_14 14
theorem i0_239 : q_ins 0 239 = some (.iload_n 3, 1, (0, 0, 0, 0, 0)) := s0_14 15
theorem i0_240 : q_ins 0 240 = some (.iconst 1, 1, (0, 0, 0, 0, 0)) := s0_15 0
theorem i0_241 : q_ins 0 241 = some (.iadd, 1, (0, 0, 0, 0, 0)) := s0_15 1
theorem i0_242 : q_ins 0 242 = some (.iaload, 1, (0, 0, 0, 0, 0)) := s0_15 2
theorem i0_243 : q_ins 0 243 = some (.invokevirtual 27, 3, (7, 121, 2, 0, 10)) := s0_15 3
theorem i0_246 : q_ins 0 246 = some (.if_icmp .eq 590, 3, (0, 0, 0, 0, 0)) := s0_15 6
theorem i0_249 : q_ins 0 249 = some (.iconst 0, 1, (0, 0, 0, 0, 0)) := s0_15 9
theorem i0_250 : q_ins 0 250 = some (.ireturn, 1, (0, 0, 0, 0, 0)) := s0_15 10
theorem i0_251 : q_ins 0 251 = some (.aload_n 1, 1, (0, 0, 0, 0, 0)) := s0_15 11
theorem i0_252 : q_ins 0 252 = some (.aload_n 0, 1, (0, 0, 0, 0, 0)) := s0_15 12
theorem i0_253 : q_ins 0 253 = some (.iload_n 3, 1, (0, 0, 0, 0, 0)) := s0_15 13
theorem i0_254 : q_ins 0 254 = some (.iconst 1, 1, (0, 0, 0, 0, 0)) := s0_15 14
theorem i0_255 : q_ins 0 255 = some (.iadd, 1, (0, 0, 0, 0, 0)) := s0_15 15
theorem i0_256 : q_ins 0 256 = some (.iaload, 1, (0, 0, 0, 0, 0)) := s0_16 0
theorem i0_257 : q_ins 0 257 = some (.aload_n 0, 1, (0, 0, 0, 0, 0)) := s0_16 1
theorem i0_258 : q_ins 0 258 = some (.iload_n 3, 1, (0, 0, 0, 0, 0)) := s0_16 2
theorem i0_259 : q_ins 0 259 = some (.iconst 2, 1, (0, 0, 0, 0, 0)) := s0_16 3
theorem i0_260 : q_ins 0 260 = some (.iadd, 1, (0, 0, 0, 0, 0)) := s0_16 4
theorem i0_261 : q_ins 0 261 = some (.iaload, 1, (0, 0, 0, 0, 0)) := s0_16 5
theorem i0_262 : q_ins 0 262 = some (.aload_n 0, 1, (0, 0, 0, 0, 0)) := s0_16 6
theorem i0_263 : q_ins 0 263 = some (.iload_n 3, 1, (0, 0, 0, 0, 0)) := s0_16 7
theorem i0_264 : q_ins 0 264 = some (.iconst 3, 1, (0, 0, 0, 0, 0)) := s0_16 8
theorem i0_265 : q_ins 0 265 = some (.iadd, 1, (0, 0, 0, 0, 0)) := s0_16 9
theorem i0_266 : q_ins 0 266 = some (.iaload, 1, (0, 0, 0, 0, 0)) := s0_16 10
theorem i0_267 : q_ins 0 267 = some (.aload_n 0, 1, (0, 0, 0, 0, 0)) := s0_16 11
theorem i0_268 : q_ins 0 268 = some (.iload_n 3, 1, (0, 0, 0, 0, 0)) := s0_16 12
theorem i0_269 : q_ins 0 269 = some (.iconst 4, 1, (0, 0, 0, 0, 0)) := s0_16 13
theorem i0_270 : q_ins 0 270 = some (.iadd, 1, (0, 0, 0, 0, 0)) := s0_16 14
theorem i0_271 : q_ins 0 271 = some (.iaload, 1, (0, 0, 0, 0, 0)) := s0_16 15
theorem i0_272 : q_ins 0 272 = some (.aload_n 0, 1, (0, 0, 0, 0, 0)) := s0_17 0
theorem i0_273 : q_ins 0 273 = some (.iload_n 3, 1, (0, 0, 0, 0, 0)) := s0_17 1
theorem i0_274 : q_ins 0 274 = some (.iconst 5, 1, (0, 0, 0, 0, 0)) := s0_17 2
theorem i0_275 : q_ins 0 275 = some (.iadd, 1, (0, 0, 0, 0, 0)) := s0_17 3
theorem i0_276 : q_ins 0 276 = some (.iaload, 1, (0, 0, 0, 0, 0)) := s0_17 4
theorem i0_277 : q_ins 0 277 = some (.invokevirtual 28, 3, (8, 18, 6, 0, 9)) := s0_17 5
theorem i0_280 : q_ins 0 280 = some (.aload_n 2, 1, (0, 0, 0, 0, 0)) := s0_17 8
theorem i0_281 : q_ins 0 281 = some (.aload_n 0, 1, (0, 0, 0, 0, 0)) := s0_17 9
theorem i0_282 : q_ins 0 282 = some (.iload_n 3, 1, (0, 0, 0, 0, 0)) := s0_17 10
theorem i0_283 : q_ins 0 283 = some (.iconst 1, 1, (0, 0, 0, 0, 0)) := s0_17 11
theorem i0_284 : q_ins 0 284 = some (.iadd, 1, (0, 0, 0, 0, 0)) := s0_17 12
theorem i0_285 : q_ins 0 285 = some (.iaload, 1, (0, 0, 0, 0, 0)) := s0_17 13
theorem i0_286 : q_ins 0 286 = some (.aload_n 0, 1, (0, 0, 0, 0, 0)) := s0_17 14
theorem i0_287 : q_ins 0 287 = some (.iload_n 3, 1, (0, 0, 0, 0, 0)) := s0_17 15
theorem i0_288 : q_ins 0 288 = some (.iconst 2, 1, (0, 0, 0, 0, 0)) := s0_18 0
theorem i0_289 : q_ins 0 289 = some (.iadd, 1, (0, 0, 0, 0, 0)) := s0_18 1
theorem i0_290 : q_ins 0 290 = some (.iaload, 1, (0, 0, 0, 0, 0)) := s0_18 2
theorem i0_291 : q_ins 0 291 = some (.aload_n 0, 1, (0, 0, 0, 0, 0)) := s0_18 3
theorem i0_292 : q_ins 0 292 = some (.iload_n 3, 1, (0, 0, 0, 0, 0)) := s0_18 4
theorem i0_293 : q_ins 0 293 = some (.iconst 3, 1, (0, 0, 0, 0, 0)) := s0_18 5
theorem i0_294 : q_ins 0 294 = some (.iadd, 1, (0, 0, 0, 0, 0)) := s0_18 6
theorem i0_295 : q_ins 0 295 = some (.iaload, 1, (0, 0, 0, 0, 0)) := s0_18 7
theorem i0_296 : q_ins 0 296 = some (.aload_n 0, 1, (0, 0, 0, 0, 0)) := s0_18 8
theorem i0_297 : q_ins 0 297 = some (.iload_n 3, 1, (0, 0, 0, 0, 0)) := s0_18 9
theorem i0_298 : q_ins 0 298 = some (.iconst 4, 1, (0, 0, 0, 0, 0)) := s0_18 10
theorem i0_299 : q_ins 0 299 = some (.iadd, 1, (0, 0, 0, 0, 0)) := s0_18 11
theorem i0_300 : q_ins 0 300 = some (.iaload, 1, (0, 0, 0, 0, 0)) := s0_18 12
theorem i0_301 : q_ins 0 301 = some (.aload_n 0, 1, (0, 0, 0, 0, 0)) := s0_18 13
theorem i0_302 : q_ins 0 302 = some (.iload_n 3, 1, (0, 0, 0, 0, 0)) := s0_18 14
theorem i0_303 : q_ins 0 303 = some (.iconst 5, 1, (0, 0, 0, 0, 0)) := s0_18 15
theorem i0_304 : q_ins 0 304 = some (.iadd, 1, (0, 0, 0, 0, 0)) := s0_19 0
theorem i0_305 : q_ins 0 305 = some (.iaload, 1, (0, 0, 0, 0, 0)) := s0_19 1
theorem i0_306 : q_ins 0 306 = some (.invokevirtual 32, 3, (9, 122, 6, 0, 10)) := s0_19 2
theorem i0_309 : q_ins 0 309 = some (.if_icmp .eq 527, 3, (0, 0, 0, 0, 0)) := s0_19 5
theorem i0_312 : q_ins 0 312 = some (.iconst 0, 1, (0, 0, 0, 0, 0)) := s0_19 8
theorem i0_313 : q_ins 0 313 = some (.ireturn, 1, (0, 0, 0, 0, 0)) := s0_19 9
theorem i0_314 : q_ins 0 314 = some (.aload_n 1, 1, (0, 0, 0, 0, 0)) := s0_19 10
theorem i0_315 : q_ins 0 315 = some (.aload_n 0, 1, (0, 0, 0, 0, 0)) := s0_19 11
theorem i0_316 : q_ins 0 316 = some (.iload_n 3, 1, (0, 0, 0, 0, 0)) := s0_19 12
theorem i0_317 : q_ins 0 317 = some (.iconst 1, 1, (0, 0, 0, 0, 0)) := s0_19 13
theorem i0_318 : q_ins 0 318 = some (.iadd, 1, (0, 0, 0, 0, 0)) := s0_19 14
theorem i0_319 : q_ins 0 319 = some (.iaload, 1, (0, 0, 0, 0, 0)) := s0_19 15
theorem i0_320 : q_ins 0 320 = some (.invokevirtual 33, 3, (10, 20, 2, 0, 9)) := s0_20 0
theorem i0_323 : q_ins 0 323 = some (.aload_n 2, 1, (0, 0, 0, 0, 0)) := s0_20 3
theorem i0_324 : q_ins 0 324 = some (.aload_n 0, 1, (0, 0, 0, 0, 0)) := s0_20 4
theorem i0_325 : q_ins 0 325 = some (.iload_n 3, 1, (0, 0, 0, 0, 0)) := s0_20 5
theorem i0_326 : q_ins 0 326 = some (.iconst 1, 1, (0, 0, 0, 0, 0)) := s0_20 6
theorem i0_327 : q_ins 0 327 = some (.iadd, 1, (0, 0, 0, 0, 0)) := s0_20 7
theorem i0_328 : q_ins 0 328 = some (.iaload, 1, (0, 0, 0, 0, 0)) := s0_20 8
theorem i0_329 : q_ins 0 329 = some (.invokevirtual 37, 3, (11, 124, 2, 0, 10)) := s0_20 9
theorem i0_332 : q_ins 0 332 = some (.if_icmp .eq 504, 3, (0, 0, 0, 0, 0)) := s0_20 12
theorem i0_335 : q_ins 0 335 = some (.iconst 0, 1, (0, 0, 0, 0, 0)) := s0_20 15
theorem i0_336 : q_ins 0 336 = some (.ireturn, 1, (0, 0, 0, 0, 0)) := s0_21 0
theorem i0_337 : q_ins 0 337 = some (.aload_n 1, 1, (0, 0, 0, 0, 0)) := s0_21 1
theorem i0_338 : q_ins 0 338 = some (.invokevirtual 38, 3, (12, 21, 1, 0, 9)) := s0_21 2
theorem i0_341 : q_ins 0 341 = some (.aload_n 2, 1, (0, 0, 0, 0, 0)) := s0_21 5
theorem i0_342 : q_ins 0 342 = some (.invokevirtual 42, 3, (13, 125, 1, 0, 10)) := s0_21 6
theorem i0_345 : q_ins 0 345 = some (.if_icmp .eq 491, 3, (0, 0, 0, 0, 0)) := s0_21 9
theorem i0_348 : q_ins 0 348 = some (.iconst 0, 1, (0, 0, 0, 0, 0)) := s0_21 12
theorem i0_349 : q_ins 0 349 = some (.ireturn, 1, (0, 0, 0, 0, 0)) := s0_21 13
theorem i0_350 : q_ins 0 350 = some (.aload_n 1, 1, (0, 0, 0, 0, 0)) := s0_21 14
theorem i0_351 : q_ins 0 351 = some (.aload_n 0, 1, (0, 0, 0, 0, 0)) := s0_21 15
theorem i0_352 : q_ins 0 352 = some (.iload_n 3, 1, (0, 0, 0, 0, 0)) := s0_22 0
theorem i0_353 : q_ins 0 353 = some (.iconst 1, 1, (0, 0, 0, 0, 0)) := s0_22 1
theorem i0_354 : q_ins 0 354 = some (.iadd, 1, (0, 0, 0, 0, 0)) := s0_22 2
theorem i0_355 : q_ins 0 355 = some (.iaload, 1, (0, 0, 0, 0, 0)) := s0_22 3
theorem i0_356 : q_ins 0 356 = some (.invokevirtual 43, 3, (14, 57, 2, 0, 9)) := s0_22 4
theorem i0_359 : q_ins 0 359 = some (.aload_n 2, 1, (0, 0, 0, 0, 0)) := s0_22 7
theorem i0_360 : q_ins 0 360 = some (.aload_n 0, 1, (0, 0, 0, 0, 0)) := s0_22 8
theorem i0_361 : q_ins 0 361 = some (.iload_n 3, 1, (0, 0, 0, 0, 0)) := s0_22 9
theorem i0_362 : q_ins 0 362 = some (.iconst 1, 1, (0, 0, 0, 0, 0)) := s0_22 10
theorem i0_363 : q_ins 0 363 = some (.iadd, 1, (0, 0, 0, 0, 0)) := s0_22 11
theorem i0_364 : q_ins 0 364 = some (.iaload, 1, (0, 0, 0, 0, 0)) := s0_22 12
theorem i0_365 : q_ins 0 365 = some (.invokevirtual 46, 3, (15, 155, 2, 0, 10)) := s0_22 13
theorem i0_368 : q_ins 0 368 = some (.if_icmp .eq 468, 3, (0, 0, 0, 0, 0)) := s0_23 0
theorem i0_371 : q_ins 0 371 = some (.iconst 0, 1, (0, 0, 0, 0, 0)) := s0_23 3
theorem i0_372 : q_ins 0 372 = some (.ireturn, 1, (0, 0, 0, 0, 0)) := s0_23 4
theorem i0_373 : q_ins 0 373 = some (.aload_n 1, 1, (0, 0, 0, 0, 0)) := s0_23 5
theorem i0_374 : q_ins 0 374 = some (.aload_n 0, 1, (0, 0, 0, 0, 0)) := s0_23 6
theorem i0_375 : q_ins 0 375 = some (.iload_n 3, 1, (0, 0, 0, 0, 0)) := s0_23 7
theorem i0_376 : q_ins 0 376 = some (.iconst 1, 1, (0, 0, 0, 0, 0)) := s0_23 8
theorem i0_377 : q_ins 0 377 = some (.iadd, 1, (0, 0, 0, 0, 0)) := s0_23 9
theorem i0_378 : q_ins 0 378 = some (.iaload, 1, (0, 0, 0, 0, 0)) := s0_23 10
theorem i0_379 : q_ins 0 379 = some (.invokevirtual 47, 3, (16, 58, 2, 0, 9)) := s0_23 11
theorem i0_382 : q_ins 0 382 = some (.aload_n 2, 1, (0, 0, 0, 0, 0)) := s0_23 14
theorem i0_383 : q_ins 0 383 = some (.aload_n 0, 1, (0, 0, 0, 0, 0)) := s0_23 15
theorem i0_384 : q_ins 0 384 = some (.iload_n 3, 1, (0, 0, 0, 0, 0)) := s0_24 0
theorem i0_385 : q_ins 0 385 = some (.iconst 1, 1, (0, 0, 0, 0, 0)) := s0_24 1
theorem i0_386 : q_ins 0 386 = some (.iadd, 1, (0, 0, 0, 0, 0)) := s0_24 2
theorem i0_387 : q_ins 0 387 = some (.iaload, 1, (0, 0, 0, 0, 0)) := s0_24 3
theorem i0_388 : q_ins 0 388 = some (.invokevirtual 50, 3, (17, 156, 2, 0, 10)) := s0_24 4
theorem i0_391 : q_ins 0 391 = some (.if_icmp .eq 445, 3, (0, 0, 0, 0, 0)) := s0_24 7
theorem i0_394 : q_ins 0 394 = some (.iconst 0, 1, (0, 0, 0, 0, 0)) := s0_24 10
theorem i0_395 : q_ins 0 395 = some (.ireturn, 1, (0, 0, 0, 0, 0)) := s0_24 11
theorem i0_396 : q_ins 0 396 = some (.aload_n 1, 1, (0, 0, 0, 0, 0)) := s0_24 12
theorem i0_397 : q_ins 0 397 = some (.aload_n 0, 1, (0, 0, 0, 0, 0)) := s0_24 13
theorem i0_398 : q_ins 0 398 = some (.iload_n 3, 1, (0, 0, 0, 0, 0)) := s0_24 14
theorem i0_399 : q_ins 0 399 = some (.iconst 1, 1, (0, 0, 0, 0, 0)) := s0_24 15
theorem i0_400 : q_ins 0 400 = some (.iadd, 1, (0, 0, 0, 0, 0)) := s0_25 0
theorem i0_401 : q_ins 0 401 = some (.iaload, 1, (0, 0, 0, 0, 0)) := s0_25 1
theorem i0_402 : q_ins 0 402 = some (.aload_n 0, 1, (0, 0, 0, 0, 0)) := s0_25 2
theorem i0_403 : q_ins 0 403 = some (.iload_n 3, 1, (0, 0, 0, 0, 0)) := s0_25 3
theorem i0_404 : q_ins 0 404 = some (.iconst 2, 1, (0, 0, 0, 0, 0)) := s0_25 4
theorem i0_405 : q_ins 0 405 = some (.iadd, 1, (0, 0, 0, 0, 0)) := s0_25 5
theorem i0_406 : q_ins 0 406 = some (.iaload, 1, (0, 0, 0, 0, 0)) := s0_25 6
theorem i0_407 : q_ins 0 407 = some (.invokevirtual 51, 3, (18, 60, 3, 0, 9)) := s0_25 7
theorem i0_410 : q_ins 0 410 = some (.aload_n 2, 1, (0, 0, 0, 0, 0)) := s0_25 10
theorem i0_411 : q_ins 0 411 = some (.aload_n 0, 1, (0, 0, 0, 0, 0)) := s0_25 11
theorem i0_412 : q_ins 0 412 = some (.iload_n 3, 1, (0, 0, 0, 0, 0)) := s0_25 12
theorem i0_413 : q_ins 0 413 = some (.iconst 1, 1, (0, 0, 0, 0, 0)) := s0_25 13
theorem i0_414 : q_ins 0 414 = some (.iadd, 1, (0, 0, 0, 0, 0)) := s0_25 14
theorem i0_415 : q_ins 0 415 = some (.iaload, 1, (0, 0, 0, 0, 0)) := s0_25 15
theorem i0_416 : q_ins 0 416 = some (.aload_n 0, 1, (0, 0, 0, 0, 0)) := s0_26 0
theorem i0_417 : q_ins 0 417 = some (.iload_n 3, 1, (0, 0, 0, 0, 0)) := s0_26 1
theorem i0_418 : q_ins 0 418 = some (.iconst 2, 1, (0, 0, 0, 0, 0)) := s0_26 2
theorem i0_419 : q_ins 0 419 = some (.iadd, 1, (0, 0, 0, 0, 0)) := s0_26 3
theorem i0_420 : q_ins 0 420 = some (.iaload, 1, (0, 0, 0, 0, 0)) := s0_26 4
theorem i0_421 : q_ins 0 421 = some (.invokevirtual 55, 3, (19, 178, 3, 0, 10)) := s0_26 5
theorem i0_424 : q_ins 0 424 = some (.if_icmp .eq 412, 3, (0, 0, 0, 0, 0)) := s0_26 8
theorem i0_427 : q_ins 0 427 = some (.iconst 0, 1, (0, 0, 0, 0, 0)) := s0_26 11
theorem i0_428 : q_ins 0 428 = some (.ireturn, 1, (0, 0, 0, 0, 0)) := s0_26 12
theorem i0_429 : q_ins 0 429 = some (.aload_n 1, 1, (0, 0, 0, 0, 0)) := s0_26 13
theorem i0_430 : q_ins 0 430 = some (.aload_n 0, 1, (0, 0, 0, 0, 0)) := s0_26 14
theorem i0_431 : q_ins 0 431 = some (.iload_n 3, 1, (0, 0, 0, 0, 0)) := s0_26 15
theorem i0_432 : q_ins 0 432 = some (.iconst 1, 1, (0, 0, 0, 0, 0)) := s0_27 0
theorem i0_433 : q_ins 0 433 = some (.iadd, 1, (0, 0, 0, 0, 0)) := s0_27 1
theorem i0_434 : q_ins 0 434 = some (.iaload, 1, (0, 0, 0, 0, 0)) := s0_27 2
theorem i0_435 : q_ins 0 435 = some (.aload_n 0, 1, (0, 0, 0, 0, 0)) := s0_27 3
theorem i0_436 : q_ins 0 436 = some (.iload_n 3, 1, (0, 0, 0, 0, 0)) := s0_27 4
theorem i0_437 : q_ins 0 437 = some (.iconst 2, 1, (0, 0, 0, 0, 0)) := s0_27 5
theorem i0_438 : q_ins 0 438 = some (.iadd, 1, (0, 0, 0, 0, 0)) := s0_27 6
theorem i0_439 : q_ins 0 439 = some (.iaload, 1, (0, 0, 0, 0, 0)) := s0_27 7
theorem i0_440 : q_ins 0 440 = some (.ifCond .eq 7, 3, (0, 0, 0, 0, 0)) := s0_27 8
theorem i0_443 : q_ins 0 443 = some (.iconst 1, 1, (0, 0, 0, 0, 0)) := s0_27 11
theorem i0_444 : q_ins 0 444 = some (.goto 4, 3, (0, 0, 0, 0, 0)) := s0_27 12
theorem i0_447 : q_ins 0 447 = some (.iconst 0, 1, (0, 0, 0, 0, 0)) := s0_27 15
theorem i0_448 : q_ins 0 448 = some (.invokevirtual 56, 3, (20, 65, 3, 0, 9)) := s0_28 0
theorem i0_451 : q_ins 0 451 = some (.aload_n 2, 1, (0, 0, 0, 0, 0)) := s0_28 3
theorem i0_452 : q_ins 0 452 = some (.aload_n 0, 1, (0, 0, 0, 0, 0)) := s0_28 4
theorem i0_453 : q_ins 0 453 = some (.iload_n 3, 1, (0, 0, 0, 0, 0)) := s0_28 5
theorem i0_454 : q_ins 0 454 = some (.iconst 1, 1, (0, 0, 0, 0, 0)) := s0_28 6
theorem i0_455 : q_ins 0 455 = some (.iadd, 1, (0, 0, 0, 0, 0)) := s0_28 7
theorem i0_456 : q_ins 0 456 = some (.iaload, 1, (0, 0, 0, 0, 0)) := s0_28 8
theorem i0_457 : q_ins 0 457 = some (.aload_n 0, 1, (0, 0, 0, 0, 0)) := s0_28 9
theorem i0_458 : q_ins 0 458 = some (.iload_n 3, 1, (0, 0, 0, 0, 0)) := s0_28 10
theorem i0_459 : q_ins 0 459 = some (.iconst 2, 1, (0, 0, 0, 0, 0)) := s0_28 11
theorem i0_460 : q_ins 0 460 = some (.iadd, 1, (0, 0, 0, 0, 0)) := s0_28 12
theorem i0_461 : q_ins 0 461 = some (.iaload, 1, (0, 0, 0, 0, 0)) := s0_28 13
theorem i0_462 : q_ins 0 462 = some (.ifCond .eq 7, 3, (0, 0, 0, 0, 0)) := s0_28 14
theorem i0_465 : q_ins 0 465 = some (.iconst 1, 1, (0, 0, 0, 0, 0)) := s0_29 1
theorem i0_466 : q_ins 0 466 = some (.goto 4, 3, (0, 0, 0, 0, 0)) := s0_29 2
theorem i0_469 : q_ins 0 469 = some (.iconst 0, 1, (0, 0, 0, 0, 0)) := s0_29 5
theorem i0_470 : q_ins 0 470 = some (.invokevirtual 60, 3, (21, 181, 3, 0, 10)) := s0_29 6
theorem i0_473 : q_ins 0 473 = some (.if_icmp .eq 363, 3, (0, 0, 0, 0, 0)) := s0_29 9
theorem i0_476 : q_ins 0 476 = some (.iconst 0, 1, (0, 0, 0, 0, 0)) := s0_29 12
theorem i0_477 : q_ins 0 477 = some (.ireturn, 1, (0, 0, 0, 0, 0)) := s0_29 13
theorem i0_478 : q_ins 0 478 = some (.aload_n 1, 1, (0, 0, 0, 0, 0)) := s0_29 14
theorem i0_479 : q_ins 0 479 = some (.invokevirtual 61, 3, (22, 67, 1, 0, 9)) := s0_29 15
theorem i0_482 : q_ins 0 482 = some (.aload_n 2, 1, (0, 0, 0, 0, 0)) := s0_30 2
theorem i0_483 : q_ins 0 483 = some (.invokevirtual 64, 3, (23, 182, 1, 0, 10)) := s0_30 3
theorem i0_486 : q_ins 0 486 = some (.if_icmp .eq 350, 3, (0, 0, 0, 0, 0)) := s0_30 6
theorem i0_489 : q_ins 0 489 = some (.iconst 0, 1, (0, 0, 0, 0, 0)) := s0_30 9
theorem i0_490 : q_ins 0 490 = some (.ireturn, 1, (0, 0, 0, 0, 0)) := s0_30 10
theorem i0_491 : q_ins 0 491 = some (.aload_n 1, 1, (0, 0, 0, 0, 0)) := s0_30 11
theorem i0_492 : q_ins 0 492 = some (.aload_n 0, 1, (0, 0, 0, 0, 0)) := s0_30 12
theorem i0_493 : q_ins 0 493 = some (.iload_n 3, 1, (0, 0, 0, 0, 0)) := s0_30 13
theorem i0_494 : q_ins 0 494 = some (.iconst 1, 1, (0, 0, 0, 0, 0)) := s0_30 14
theorem i0_495 : q_ins 0 495 = some (.iadd, 1, (0, 0, 0, 0, 0)) := s0_30 15
theorem i0_496 : q_ins 0 496 = some (.iaload, 1, (0, 0, 0, 0, 0)) := s0_31 0
theorem i0_497 : q_ins 0 497 = some (.invokevirtual 65, 3, (24, 82, 2, 0, 9)) := s0_31 1
theorem i0_500 : q_ins 0 500 = some (.aload_n 2, 1, (0, 0, 0, 0, 0)) := s0_31 4
theorem i0_501 : q_ins 0 501 = some (.aload_n 0, 1, (0, 0, 0, 0, 0)) := s0_31 5
theorem i0_502 : q_ins 0 502 = some (.iload_n 3, 1, (0, 0, 0, 0, 0)) := s0_31 6
theorem i0_503 : q_ins 0 503 = some (.iconst 1, 1, (0, 0, 0, 0, 0)) := s0_31 7
theorem i0_504 : q_ins 0 504 = some (.iadd, 1, (0, 0, 0, 0, 0)) := s0_31 8
theorem i0_505 : q_ins 0 505 = some (.iaload, 1, (0, 0, 0, 0, 0)) := s0_31 9
theorem i0_506 : q_ins 0 506 = some (.invokevirtual 68, 3, (25, 186, 2, 0, 10)) := s0_31 10
theorem i0_509 : q_ins 0 509 = some (.if_icmp .eq 327, 3, (0, 0, 0, 0, 0)) := s0_31 13
theorem i0_512 : q_ins 0 512 = some (.iconst 0, 1, (0, 0, 0, 0, 0)) := s0_32 0
theorem i0_513 : q_ins 0 513 = some (.ireturn, 1, (0, 0, 0, 0, 0)) := s0_32 1
theorem i0_514 : q_ins 0 514 = some (.aload_n 1, 1, (0, 0, 0, 0, 0)) := s0_32 2
theorem i0_515 : q_ins 0 515 = some (.invokevirtual 69, 3, (26, 84, 1, 0, 9)) := s0_32 3
theorem i0_518 : q_ins 0 518 = some (.aload_n 2, 1, (0, 0, 0, 0, 0)) := s0_32 6
theorem i0_519 : q_ins 0 519 = some (.invokevirtual 72, 3, (27, 177, 1, 0, 10)) := s0_32 7
theorem i0_522 : q_ins 0 522 = some (.if_icmp .eq 314, 3, (0, 0, 0, 0, 0)) := s0_32 10
theorem i0_525 : q_ins 0 525 = some (.iconst 0, 1, (0, 0, 0, 0, 0)) := s0_32 13
theorem i0_526 : q_ins 0 526 = some (.ireturn, 1, (0, 0, 0, 0, 0)) := s0_32 14
theorem i0_527 : q_ins 0 527 = some (.aload_n 1, 1, (0, 0, 0, 0, 0)) := s0_32 15
theorem i0_528 : q_ins 0 528 = some (.aload_n 0, 1, (0, 0, 0, 0, 0)) := s0_33 0
theorem i0_529 : q_ins 0 529 = some (.iload_n 3, 1, (0, 0, 0, 0, 0)) := s0_33 1
theorem i0_530 : q_ins 0 530 = some (.iconst 1, 1, (0, 0, 0, 0, 0)) := s0_33 2
theorem i0_531 : q_ins 0 531 = some (.iadd, 1, (0, 0, 0, 0, 0)) := s0_33 3
theorem i0_532 : q_ins 0 532 = some (.iaload, 1, (0, 0, 0, 0, 0)) := s0_33 4
theorem i0_533 : q_ins 0 533 = some (.aload_n 0, 1, (0, 0, 0, 0, 0)) := s0_33 5
theorem i0_534 : q_ins 0 534 = some (.iload_n 3, 1, (0, 0, 0, 0, 0)) := s0_33 6
theorem i0_535 : q_ins 0 535 = some (.iconst 2, 1, (0, 0, 0, 0, 0)) := s0_33 7
theorem i0_536 : q_ins 0 536 = some (.iadd, 1, (0, 0, 0, 0, 0)) := s0_33 8
theorem i0_537 : q_ins 0 537 = some (.iaload, 1, (0, 0, 0, 0, 0)) := s0_33 9
theorem i0_538 : q_ins 0 538 = some (.invokevirtual 73, 3, (28, 86, 3, 0, 9)) := s0_33 10
theorem i0_541 : q_ins 0 541 = some (.aload_n 2, 1, (0, 0, 0, 0, 0)) := s0_33 13
theorem i0_542 : q_ins 0 542 = some (.aload_n 0, 1, (0, 0, 0, 0, 0)) := s0_33 14
theorem i0_543 : q_ins 0 543 = some (.iload_n 3, 1, (0, 0, 0, 0, 0)) := s0_33 15
theorem i0_544 : q_ins 0 544 = some (.iconst 1, 1, (0, 0, 0, 0, 0)) := s0_34 0
theorem i0_545 : q_ins 0 545 = some (.iadd, 1, (0, 0, 0, 0, 0)) := s0_34 1
theorem i0_546 : q_ins 0 546 = some (.iaload, 1, (0, 0, 0, 0, 0)) := s0_34 2
theorem i0_547 : q_ins 0 547 = some (.aload_n 0, 1, (0, 0, 0, 0, 0)) := s0_34 3
theorem i0_548 : q_ins 0 548 = some (.iload_n 3, 1, (0, 0, 0, 0, 0)) := s0_34 4
theorem i0_549 : q_ins 0 549 = some (.iconst 2, 1, (0, 0, 0, 0, 0)) := s0_34 5
theorem i0_550 : q_ins 0 550 = some (.iadd, 1, (0, 0, 0, 0, 0)) := s0_34 6
theorem i0_551 : q_ins 0 551 = some (.iaload, 1, (0, 0, 0, 0, 0)) := s0_34 7
theorem i0_552 : q_ins 0 552 = some (.invokevirtual 76, 3, (29, 188, 3, 0, 10)) := s0_34 8
theorem i0_555 : q_ins 0 555 = some (.if_icmp .eq 281, 3, (0, 0, 0, 0, 0)) := s0_34 11
theorem i0_558 : q_ins 0 558 = some (.iconst 0, 1, (0, 0, 0, 0, 0)) := s0_34 14
theorem i0_559 : q_ins 0 559 = some (.ireturn, 1, (0, 0, 0, 0, 0)) := s0_34 15
theorem i0_560 : q_ins 0 560 = some (.aload_n 1, 1, (0, 0, 0, 0, 0)) := s0_35 0
theorem i0_561 : q_ins 0 561 = some (.aload_n 0, 1, (0, 0, 0, 0, 0)) := s0_35 1
theorem i0_562 : q_ins 0 562 = some (.iload_n 3, 1, (0, 0, 0, 0, 0)) := s0_35 2
theorem i0_563 : q_ins 0 563 = some (.iconst 1, 1, (0, 0, 0, 0, 0)) := s0_35 3
theorem i0_564 : q_ins 0 564 = some (.iadd, 1, (0, 0, 0, 0, 0)) := s0_35 4
theorem i0_565 : q_ins 0 565 = some (.iaload, 1, (0, 0, 0, 0, 0)) := s0_35 5
theorem i0_566 : q_ins 0 566 = some (.aload_n 0, 1, (0, 0, 0, 0, 0)) := s0_35 6
theorem i0_567 : q_ins 0 567 = some (.iload_n 3, 1, (0, 0, 0, 0, 0)) := s0_35 7
theorem i0_568 : q_ins 0 568 = some (.iconst 2, 1, (0, 0, 0, 0, 0)) := s0_35 8
theorem i0_569 : q_ins 0 569 = some (.iadd, 1, (0, 0, 0, 0, 0)) := s0_35 9
theorem i0_570 : q_ins 0 570 = some (.iaload, 1, (0, 0, 0, 0, 0)) := s0_35 10
theorem i0_571 : q_ins 0 571 = some (.invokevirtual 77, 3, (30, 87, 3, 0, 9)) := s0_35 11
theorem i0_574 : q_ins 0 574 = some (.aload_n 2, 1, (0, 0, 0, 0, 0)) := s0_35 14
theorem i0_575 : q_ins 0 575 = some (.aload_n 0, 1, (0, 0, 0, 0, 0)) := s0_35 15
theorem i0_576 : q_ins 0 576 = some (.iload_n 3, 1, (0, 0, 0, 0, 0)) := s0_36 0
theorem i0_577 : q_ins 0 577 = some (.iconst 1, 1, (0, 0, 0, 0, 0)) := s0_36 1
theorem i0_578 : q_ins 0 578 = some (.iadd, 1, (0, 0, 0, 0, 0)) := s0_36 2
theorem i0_579 : q_ins 0 579 = some (.iaload, 1, (0, 0, 0, 0, 0)) := s0_36 3
theorem i0_580 : q_ins 0 580 = some (.aload_n 0, 1, (0, 0, 0, 0, 0)) := s0_36 4
theorem i0_581 : q_ins 0 581 = some (.iload_n 3, 1, (0, 0, 0, 0, 0)) := s0_36 5
theorem i0_582 : q_ins 0 582 = some (.iconst 2, 1, (0, 0, 0, 0, 0)) := s0_36 6
theorem i0_583 : q_ins 0 583 = some (.iadd, 1, (0, 0, 0, 0, 0)) := s0_36 7
theorem i0_584 : q_ins 0 584 = some (.iaload, 1, (0, 0, 0, 0, 0)) := s0_36 8
theorem i0_585 : q_ins 0 585 = some (.invokevirtual 80, 3, (31, 157, 3, 0, 10)) := s0_36 9
theorem i0_588 : q_ins 0 588 = some (.if_icmp .eq 248, 3, (0, 0, 0, 0, 0)) := s0_36 12
theorem i0_591 : q_ins 0 591 = some (.iconst 0, 1, (0, 0, 0, 0, 0)) := s0_36 15
theorem i0_592 : q_ins 0 592 = some (.ireturn, 1, (0, 0, 0, 0, 0)) := s0_37 0
theorem i0_593 : q_ins 0 593 = some (.aload_n 1, 1, (0, 0, 0, 0, 0)) := s0_37 1
theorem i0_594 : q_ins 0 594 = some (.aload_n 0, 1, (0, 0, 0, 0, 0)) := s0_37 2
theorem i0_595 : q_ins 0 595 = some (.iload_n 3, 1, (0, 0, 0, 0, 0)) := s0_37 3
theorem i0_596 : q_ins 0 596 = some (.iconst 1, 1, (0, 0, 0, 0, 0)) := s0_37 4
theorem i0_597 : q_ins 0 597 = some (.iadd, 1, (0, 0, 0, 0, 0)) := s0_37 5
theorem i0_598 : q_ins 0 598 = some (.iaload, 1, (0, 0, 0, 0, 0)) := s0_37 6
theorem i0_599 : q_ins 0 599 = some (.invokevirtual 81, 3, (32, 88, 2, 0, 9)) := s0_37 7
theorem i0_602 : q_ins 0 602 = some (.aload_n 2, 1, (0, 0, 0, 0, 0)) := s0_37 10
theorem i0_603 : q_ins 0 603 = some (.aload_n 0, 1, (0, 0, 0, 0, 0)) := s0_37 11
theorem i0_604 : q_ins 0 604 = some (.iload_n 3, 1, (0, 0, 0, 0, 0)) := s0_37 12
theorem i0_605 : q_ins 0 605 = some (.iconst 1, 1, (0, 0, 0, 0, 0)) := s0_37 13
theorem i0_606 : q_ins 0 606 = some (.iadd, 1, (0, 0, 0, 0, 0)) := s0_37 14
theorem i0_607 : q_ins 0 607 = some (.iaload, 1, (0, 0, 0, 0, 0)) := s0_37 15
theorem i0_608 : q_ins 0 608 = some (.invokevirtual 84, 3, (33, 189, 2, 0, 10)) := s0_38 0
theorem i0_611 : q_ins 0 611 = some (.if_icmp .eq 225, 3, (0, 0, 0, 0, 0)) := s0_38 3
theorem i0_614 : q_ins 0 614 = some (.iconst 0, 1, (0, 0, 0, 0, 0)) := s0_38 6
theorem i0_615 : q_ins 0 615 = some (.ireturn, 1, (0, 0, 0, 0, 0)) := s0_38 7
theorem i0_616 : q_ins 0 616 = some (.aload_n 1, 1, (0, 0, 0, 0, 0)) := s0_38 8
theorem i0_617 : q_ins 0 617 = some (.aload_n 0, 1, (0, 0, 0, 0, 0)) := s0_38 9
theorem i0_618 : q_ins 0 618 = some (.iload_n 3, 1, (0, 0, 0, 0, 0)) := s0_38 10
theorem i0_619 : q_ins 0 619 = some (.iconst 1, 1, (0, 0, 0, 0, 0)) := s0_38 11
theorem i0_620 : q_ins 0 620 = some (.iadd, 1, (0, 0, 0, 0, 0)) := s0_38 12
theorem i0_621 : q_ins 0 621 = some (.iaload, 1, (0, 0, 0, 0, 0)) := s0_38 13
theorem i0_622 : q_ins 0 622 = some (.invokevirtual 85, 3, (34, 91, 2, 0, 9)) := s0_38 14
theorem i0_625 : q_ins 0 625 = some (.aload_n 2, 1, (0, 0, 0, 0, 0)) := s0_39 1
theorem i0_626 : q_ins 0 626 = some (.aload_n 0, 1, (0, 0, 0, 0, 0)) := s0_39 2
theorem i0_627 : q_ins 0 627 = some (.iload_n 3, 1, (0, 0, 0, 0, 0)) := s0_39 3
theorem i0_628 : q_ins 0 628 = some (.iconst 1, 1, (0, 0, 0, 0, 0)) := s0_39 4
theorem i0_629 : q_ins 0 629 = some (.iadd, 1, (0, 0, 0, 0, 0)) := s0_39 5
theorem i0_630 : q_ins 0 630 = some (.iaload, 1, (0, 0, 0, 0, 0)) := s0_39 6
theorem i0_631 : q_ins 0 631 = some (.invokevirtual 88, 3, (35, 191, 2, 0, 10)) := s0_39 7
theorem i0_634 : q_ins 0 634 = some (.if_icmp .eq 202, 3, (0, 0, 0, 0, 0)) := s0_39 10
theorem i0_637 : q_ins 0 637 = some (.iconst 0, 1, (0, 0, 0, 0, 0)) := s0_39 13
theorem i0_638 : q_ins 0 638 = some (.ireturn, 1, (0, 0, 0, 0, 0)) := s0_39 14
theorem i0_639 : q_ins 0 639 = some (.aload_n 1, 1, (0, 0, 0, 0, 0)) := s0_39 15
theorem i0_640 : q_ins 0 640 = some (.aload_n 0, 1, (0, 0, 0, 0, 0)) := s0_40 0
theorem i0_641 : q_ins 0 641 = some (.iload_n 3, 1, (0, 0, 0, 0, 0)) := s0_40 1
theorem i0_642 : q_ins 0 642 = some (.iconst 1, 1, (0, 0, 0, 0, 0)) := s0_40 2
theorem i0_643 : q_ins 0 643 = some (.iadd, 1, (0, 0, 0, 0, 0)) := s0_40 3
theorem i0_644 : q_ins 0 644 = some (.iaload, 1, (0, 0, 0, 0, 0)) := s0_40 4
theorem i0_645 : q_ins 0 645 = some (.aload_n 0, 1, (0, 0, 0, 0, 0)) := s0_40 5
theorem i0_646 : q_ins 0 646 = some (.iload_n 3, 1, (0, 0, 0, 0, 0)) := s0_40 6
theorem i0_647 : q_ins 0 647 = some (.iconst 2, 1, (0, 0, 0, 0, 0)) := s0_40 7
theorem i0_648 : q_ins 0 648 = some (.iadd, 1, (0, 0, 0, 0, 0)) := s0_40 8
theorem i0_649 : q_ins 0 649 = some (.iaload, 1, (0, 0, 0, 0, 0)) := s0_40 9
theorem i0_650 : q_ins 0 650 = some (.invokevirtual 89, 3, (36, 92, 3, 0, 9)) := s0_40 10
theorem i0_653 : q_ins 0 653 = some (.aload_n 2, 1, (0, 0, 0, 0, 0)) := s0_40 13
theorem i0_654 : q_ins 0 654 = some (.aload_n 0, 1, (0, 0, 0, 0, 0)) := s0_40 14
theorem i0_655 : q_ins 0 655 = some (.iload_n 3, 1, (0, 0, 0, 0, 0)) := s0_40 15
theorem i0_656 : q_ins 0 656 = some (.iconst 1, 1, (0, 0, 0, 0, 0)) := s0_41 0
theorem i0_657 : q_ins 0 657 = some (.iadd, 1, (0, 0, 0, 0, 0)) := s0_41 1
theorem i0_658 : q_ins 0 658 = some (.iaload, 1, (0, 0, 0, 0, 0)) := s0_41 2
theorem i0_659 : q_ins 0 659 = some (.aload_n 0, 1, (0, 0, 0, 0, 0)) := s0_41 3
theorem i0_660 : q_ins 0 660 = some (.iload_n 3, 1, (0, 0, 0, 0, 0)) := s0_41 4
theorem i0_661 : q_ins 0 661 = some (.iconst 2, 1, (0, 0, 0, 0, 0)) := s0_41 5
theorem i0_662 : q_ins 0 662 = some (.iadd, 1, (0, 0, 0, 0, 0)) := s0_41 6
theorem i0_663 : q_ins 0 663 = some (.iaload, 1, (0, 0, 0, 0, 0)) := s0_41 7
theorem i0_664 : q_ins 0 664 = some (.invokevirtual 92, 3, (37, 192, 3, 0, 10)) := s0_41 8
theorem i0_667 : q_ins 0 667 = some (.if_icmp .eq 169, 3, (0, 0, 0, 0, 0)) := s0_41 11
theorem i0_670 : q_ins 0 670 = some (.iconst 0, 1, (0, 0, 0, 0, 0)) := s0_41 14
theorem i0_671 : q_ins 0 671 = some (.ireturn, 1, (0, 0, 0, 0, 0)) := s0_41 15
theorem i0_672 : q_ins 0 672 = some (.aload_n 1, 1, (0, 0, 0, 0, 0)) := s0_42 0
theorem i0_673 : q_ins 0 673 = some (.aload_n 0, 1, (0, 0, 0, 0, 0)) := s0_42 1
theorem i0_674 : q_ins 0 674 = some (.iload_n 3, 1, (0, 0, 0, 0, 0)) := s0_42 2
theorem i0_675 : q_ins 0 675 = some (.iconst 1, 1, (0, 0, 0, 0, 0)) := s0_42 3
theorem i0_676 : q_ins 0 676 = some (.iadd, 1, (0, 0, 0, 0, 0)) := s0_42 4
theorem i0_677 : q_ins 0 677 = some (.iaload, 1, (0, 0, 0, 0, 0)) := s0_42 5
theorem i0_678 : q_ins 0 678 = some (.invokevirtual 93, 3, (38, 95, 2, 0, 9)) := s0_42 6
theorem i0_681 : q_ins 0 681 = some (.aload_n 2, 1, (0, 0, 0, 0, 0)) := s0_42 9
theorem i0_682 : q_ins 0 682 = some (.aload_n 0, 1, (0, 0, 0, 0, 0)) := s0_42 10
theorem i0_683 : q_ins 0 683 = some (.iload_n 3, 1, (0, 0, 0, 0, 0)) := s0_42 11
theorem i0_684 : q_ins 0 684 = some (.iconst 1, 1, (0, 0, 0, 0, 0)) := s0_42 12
theorem i0_685 : q_ins 0 685 = some (.iadd, 1, (0, 0, 0, 0, 0)) := s0_42 13
theorem i0_686 : q_ins 0 686 = some (.iaload, 1, (0, 0, 0, 0, 0)) := s0_42 14
theorem i0_687 : q_ins 0 687 = some (.invokevirtual 96, 3, (39, 195, 2, 0, 10)) := s0_42 15
theorem i0_690 : q_ins 0 690 = some (.if_icmp .eq 146, 3, (0, 0, 0, 0, 0)) := s0_43 2
theorem i0_693 : q_ins 0 693 = some (.iconst 0, 1, (0, 0, 0, 0, 0)) := s0_43 5
theorem i0_694 : q_ins 0 694 = some (.ireturn, 1, (0, 0, 0, 0, 0)) := s0_43 6
theorem i0_695 : q_ins 0 695 = some (.aload_n 1, 1, (0, 0, 0, 0, 0)) := s0_43 7
theorem i0_696 : q_ins 0 696 = some (.aload_n 0, 1, (0, 0, 0, 0, 0)) := s0_43 8
theorem i0_697 : q_ins 0 697 = some (.iload_n 3, 1, (0, 0, 0, 0, 0)) := s0_43 9
theorem i0_698 : q_ins 0 698 = some (.iconst 1, 1, (0, 0, 0, 0, 0)) := s0_43 10
theorem i0_699 : q_ins 0 699 = some (.iadd, 1, (0, 0, 0, 0, 0)) := s0_43 11
theorem i0_700 : q_ins 0 700 = some (.iaload, 1, (0, 0, 0, 0, 0)) := s0_43 12
theorem i0_701 : q_ins 0 701 = some (.invokevirtual 97, 3, (40, 101, 2, 0, 9)) := s0_43 13
theorem i0_704 : q_ins 0 704 = some (.aload_n 2, 1, (0, 0, 0, 0, 0)) := s0_44 0
theorem i0_705 : q_ins 0 705 = some (.aload_n 0, 1, (0, 0, 0, 0, 0)) := s0_44 1
theorem i0_706 : q_ins 0 706 = some (.iload_n 3, 1, (0, 0, 0, 0, 0)) := s0_44 2
theorem i0_707 : q_ins 0 707 = some (.iconst 1, 1, (0, 0, 0, 0, 0)) := s0_44 3
theorem i0_708 : q_ins 0 708 = some (.iadd, 1, (0, 0, 0, 0, 0)) := s0_44 4
theorem i0_709 : q_ins 0 709 = some (.iaload, 1, (0, 0, 0, 0, 0)) := s0_44 5
theorem i0_710 : q_ins 0 710 = some (.invokevirtual 100, 3, (41, 199, 2, 0, 10)) := s0_44 6
theorem i0_713 : q_ins 0 713 = some (.if_icmp .eq 123, 3, (0, 0, 0, 0, 0)) := s0_44 9
theorem i0_716 : q_ins 0 716 = some (.iconst 0, 1, (0, 0, 0, 0, 0)) := s0_44 12
theorem i0_717 : q_ins 0 717 = some (.ireturn, 1, (0, 0, 0, 0, 0)) := s0_44 13
theorem i0_718 : q_ins 0 718 = some (.aload_n 1, 1, (0, 0, 0, 0, 0)) := s0_44 14
theorem i0_719 : q_ins 0 719 = some (.aload_n 0, 1, (0, 0, 0, 0, 0)) := s0_44 15
theorem i0_720 : q_ins 0 720 = some (.iload_n 3, 1, (0, 0, 0, 0, 0)) := s0_45 0
theorem i0_721 : q_ins 0 721 = some (.iconst 1, 1, (0, 0, 0, 0, 0)) := s0_45 1
theorem i0_722 : q_ins 0 722 = some (.iadd, 1, (0, 0, 0, 0, 0)) := s0_45 2
theorem i0_723 : q_ins 0 723 = some (.iaload, 1, (0, 0, 0, 0, 0)) := s0_45 3
theorem i0_724 : q_ins 0 724 = some (.invokevirtual 101, 3, (42, 104, 2, 0, 9)) := s0_45 4
theorem i0_727 : q_ins 0 727 = some (.aload_n 2, 1, (0, 0, 0, 0, 0)) := s0_45 7
theorem i0_728 : q_ins 0 728 = some (.aload_n 0, 1, (0, 0, 0, 0, 0)) := s0_45 8
theorem i0_729 : q_ins 0 729 = some (.iload_n 3, 1, (0, 0, 0, 0, 0)) := s0_45 9
theorem i0_730 : q_ins 0 730 = some (.iconst 1, 1, (0, 0, 0, 0, 0)) := s0_45 10
theorem i0_731 : q_ins 0 731 = some (.iadd, 1, (0, 0, 0, 0, 0)) := s0_45 11
theorem i0_732 : q_ins 0 732 = some (.iaload, 1, (0, 0, 0, 0, 0)) := s0_45 12
theorem i0_733 : q_ins 0 733 = some (.invokevirtual 104, 3, (43, 200, 2, 0, 10)) := s0_45 13
theorem i0_736 : q_ins 0 736 = some (.if_icmp .eq 100, 3, (0, 0, 0, 0, 0)) := s0_46 0
theorem i0_739 : q_ins 0 739 = some (.iconst 0, 1, (0, 0, 0, 0, 0)) := s0_46 3
theorem i0_740 : q_ins 0 740 = some (.ireturn, 1, (0, 0, 0, 0, 0)) := s0_46 4
theorem i0_741 : q_ins 0 741 = some (.aload_n 1, 1, (0, 0, 0, 0, 0)) := s0_46 5
theorem i0_742 : q_ins 0 742 = some (.aload_n 0, 1, (0, 0, 0, 0, 0)) := s0_46 6
theorem i0_743 : q_ins 0 743 = some (.iload_n 3, 1, (0, 0, 0, 0, 0)) := s0_46 7
theorem i0_744 : q_ins 0 744 = some (.iconst 1, 1, (0, 0, 0, 0, 0)) := s0_46 8
theorem i0_745 : q_ins 0 745 = some (.iadd, 1, (0, 0, 0, 0, 0)) := s0_46 9
theorem i0_746 : q_ins 0 746 = some (.iaload, 1, (0, 0, 0, 0, 0)) := s0_46 10
theorem i0_747 : q_ins 0 747 = some (.invokevirtual 105, 3, (44, 106, 2, 0, 9)) := s0_46 11
theorem i0_750 : q_ins 0 750 = some (.aload_n 2, 1, (0, 0, 0, 0, 0)) := s0_46 14
theorem i0_751 : q_ins 0 751 = some (.aload_n 0, 1, (0, 0, 0, 0, 0)) := s0_46 15
theorem i0_752 : q_ins 0 752 = some (.iload_n 3, 1, (0, 0, 0, 0, 0)) := s0_47 0
theorem i0_753 : q_ins 0 753 = some (.iconst 1, 1, (0, 0, 0, 0, 0)) := s0_47 1
theorem i0_754 : q_ins 0 754 = some (.iadd, 1, (0, 0, 0, 0, 0)) := s0_47 2
theorem i0_755 : q_ins 0 755 = some (.iaload, 1, (0, 0, 0, 0, 0)) := s0_47 3
theorem i0_756 : q_ins 0 756 = some (.invokevirtual 108, 3, (45, 201, 2, 0, 10)) := s0_47 4
theorem i0_759 : q_ins 0 759 = some (.if_icmp .eq 77, 3, (0, 0, 0, 0, 0)) := s0_47 7
theorem i0_762 : q_ins 0 762 = some (.iconst 0, 1, (0, 0, 0, 0, 0)) := s0_47 10
theorem i0_763 : q_ins 0 763 = some (.ireturn, 1, (0, 0, 0, 0, 0)) := s0_47 11
theorem i0_764 : q_ins 0 764 = some (.aload_n 1, 1, (0, 0, 0, 0, 0)) := s0_47 12
theorem i0_765 : q_ins 0 765 = some (.aload_n 0, 1, (0, 0, 0, 0, 0)) := s0_47 13
theorem i0_766 : q_ins 0 766 = some (.iload_n 3, 1, (0, 0, 0, 0, 0)) := s0_47 14
theorem i0_767 : q_ins 0 767 = some (.iconst 1, 1, (0, 0, 0, 0, 0)) := s0_47 15
theorem i0_768 : q_ins 0 768 = some (.iadd, 1, (0, 0, 0, 0, 0)) := s0_48 0
theorem i0_769 : q_ins 0 769 = some (.iaload, 1, (0, 0, 0, 0, 0)) := s0_48 1
theorem i0_770 : q_ins 0 770 = some (.invokevirtual 109, 3, (46, 107, 2, 0, 9)) := s0_48 2
theorem i0_773 : q_ins 0 773 = some (.aload_n 2, 1, (0, 0, 0, 0, 0)) := s0_48 5
theorem i0_774 : q_ins 0 774 = some (.aload_n 0, 1, (0, 0, 0, 0, 0)) := s0_48 6
theorem i0_775 : q_ins 0 775 = some (.iload_n 3, 1, (0, 0, 0, 0, 0)) := s0_48 7
theorem i0_776 : q_ins 0 776 = some (.iconst 1, 1, (0, 0, 0, 0, 0)) := s0_48 8
theorem i0_777 : q_ins 0 777 = some (.iadd, 1, (0, 0, 0, 0, 0)) := s0_48 9
theorem i0_778 : q_ins 0 778 = some (.iaload, 1, (0, 0, 0, 0, 0)) := s0_48 10
theorem i0_779 : q_ins 0 779 = some (.invokevirtual 112, 3, (47, 202, 2, 0, 10)) := s0_48 11
theorem i0_782 : q_ins 0 782 = some (.if_icmp .eq 54, 3, (0, 0, 0, 0, 0)) := s0_48 14
theorem i0_785 : q_ins 0 785 = some (.iconst 0, 1, (0, 0, 0, 0, 0)) := s0_49 1
theorem i0_786 : q_ins 0 786 = some (.ireturn, 1, (0, 0, 0, 0, 0)) := s0_49 2
theorem i0_787 : q_ins 0 787 = some (.aload_n 1, 1, (0, 0, 0, 0, 0)) := s0_49 3
theorem i0_788 : q_ins 0 788 = some (.invokevirtual 113, 3, (48, 110, 1, 0, 9)) := s0_49 4
theorem i0_791 : q_ins 0 791 = some (.aload_n 2, 1, (0, 0, 0, 0, 0)) := s0_49 7
theorem i0_792 : q_ins 0 792 = some (.invokevirtual 116, 3, (49, 204, 1, 0, 10)) := s0_49 8
theorem i0_795 : q_ins 0 795 = some (.if_icmp .eq 41, 3, (0, 0, 0, 0, 0)) := s0_49 11
theorem i0_798 : q_ins 0 798 = some (.iconst 0, 1, (0, 0, 0, 0, 0)) := s0_49 14
theorem i0_799 : q_ins 0 799 = some (.ireturn, 1, (0, 0, 0, 0, 0)) := s0_49 15
theorem i0_800 : q_ins 0 800 = some (.aload_n 1, 1, (0, 0, 0, 0, 0)) := s0_50 0
theorem i0_801 : q_ins 0 801 = some (.invokevirtual 117, 3, (50, 113, 1, 0, 9)) := s0_50 1
theorem i0_804 : q_ins 0 804 = some (.aload_n 2, 1, (0, 0, 0, 0, 0)) := s0_50 4
theorem i0_805 : q_ins 0 805 = some (.invokevirtual 120, 3, (51, 205, 1, 0, 10)) := s0_50 5
theorem i0_808 : q_ins 0 808 = some (.if_icmp .eq 28, 3, (0, 0, 0, 0, 0)) := s0_50 8
theorem i0_811 : q_ins 0 811 = some (.iconst 0, 1, (0, 0, 0, 0, 0)) := s0_50 11
theorem i0_812 : q_ins 0 812 = some (.ireturn, 1, (0, 0, 0, 0, 0)) := s0_50 12
theorem i0_813 : q_ins 0 813 = some (.aload_n 1, 1, (0, 0, 0, 0, 0)) := s0_50 13
theorem i0_814 : q_ins 0 814 = some (.aload_n 0, 1, (0, 0, 0, 0, 0)) := s0_50 14
theorem i0_815 : q_ins 0 815 = some (.iload_n 3, 1, (0, 0, 0, 0, 0)) := s0_50 15
theorem i0_816 : q_ins 0 816 = some (.iconst 1, 1, (0, 0, 0, 0, 0)) := s0_51 0
theorem i0_817 : q_ins 0 817 = some (.iadd, 1, (0, 0, 0, 0, 0)) := s0_51 1
theorem i0_818 : q_ins 0 818 = some (.iaload, 1, (0, 0, 0, 0, 0)) := s0_51 2
theorem i0_819 : q_ins 0 819 = some (.invokevirtual 121, 3, (52, 114, 2, 0, 9)) := s0_51 3
theorem i0_822 : q_ins 0 822 = some (.aload_n 2, 1, (0, 0, 0, 0, 0)) := s0_51 6
theorem i0_823 : q_ins 0 823 = some (.aload_n 0, 1, (0, 0, 0, 0, 0)) := s0_51 7
theorem i0_824 : q_ins 0 824 = some (.iload_n 3, 1, (0, 0, 0, 0, 0)) := s0_51 8
theorem i0_825 : q_ins 0 825 = some (.iconst 1, 1, (0, 0, 0, 0, 0)) := s0_51 9
theorem i0_826 : q_ins 0 826 = some (.iadd, 1, (0, 0, 0, 0, 0)) := s0_51 10
theorem i0_827 : q_ins 0 827 = some (.iaload, 1, (0, 0, 0, 0, 0)) := s0_51 11
theorem i0_828 : q_ins 0 828 = some (.invokevirtual 124, 3, (53, 206, 2, 0, 10)) := s0_51 12
theorem i0_831 : q_ins 0 831 = some (.if_icmp .eq 5, 3, (0, 0, 0, 0, 0)) := s0_51 15
theorem i0_834 : q_ins 0 834 = some (.iconst 0, 1, (0, 0, 0, 0, 0)) := s0_52 2
theorem i0_835 : q_ins 0 835 = some (.ireturn, 1, (0, 0, 0, 0, 0)) := s0_52 3
theorem i0_836 : q_ins 0 836 = some (.iinc 3 6, 3, (0, 0, 0, 0, 0)) := s0_52 4
theorem i0_839 : q_ins 0 839 = some (.goto (-821), 3, (0, 0, 0, 0, 0)) := s0_52 7
theorem i0_842 : q_ins 0 842 = some (.iconst 1, 1, (0, 0, 0, 0, 0)) := s0_52 10
theorem i0_843 : q_ins 0 843 = some (.ireturn, 1, (0, 0, 0, 0, 0)) := s0_52 11
theorem s1_0 (j : Nat) : q_ins 1 j = q_at q_c1 j := rfl
theorem s1_1 (j : Nat) : q_ins 1 (j + 16) = q_at q_c1_1 j := s1_0 (j + 16)
theorem s1_2 (j : Nat) : q_ins 1 (j + 32) = q_at q_c1_2 j := s1_1 (j + 16)
theorem s1_3 (j : Nat) : q_ins 1 (j + 48) = q_at q_c1_3 j := s1_2 (j + 16)
theorem s1_4 (j : Nat) : q_ins 1 (j + 64) = q_at q_c1_4 j := s1_3 (j + 16)
theorem s1_5 (j : Nat) : q_ins 1 (j + 80) = q_at q_c1_5 j := s1_4 (j + 16)
theorem s1_6 (j : Nat) : q_ins 1 (j + 96) = q_at q_c1_6 j := s1_5 (j + 16)
theorem i1_0 : q_ins 1 0 = some (.aload_n 0, 1, (0, 0, 0, 0, 0)) := s1_0 0
theorem i1_1 : q_ins 1 1 = some (.invokespecial 1, 3, (100, 0, 0, 9, 0)) := s1_0 1
theorem i1_4 : q_ins 1 4 = some (.aload_n 0, 1, (0, 0, 0, 0, 0)) := s1_0 4
theorem i1_5 : q_ins 1 5 = some (.new 7, 3, (103, 2, 18, 0, 0)) := s1_0 5
theorem i1_8 : q_ins 1 8 = some (.dup, 1, (0, 0, 0, 0, 0)) := s1_0 8
theorem i1_9 : q_ins 1 9 = some (.invokespecial 9, 3, (54, 2, 1, 1, 0)) := s1_0 9
theorem i1_12 : q_ins 1 12 = some (.putfield 10, 3, (0, 9, 0, 2, 0)) := s1_0 12
theorem i1_15 : q_ins 1 15 = some (.aload_n 0, 1, (0, 0, 0, 0, 0)) := s1_0 15
theorem i1_16 : q_ins 1 16 = some (.new 7, 3, (103, 2, 18, 0, 0)) := s1_1 0
theorem i1_19 : q_ins 1 19 = some (.dup, 1, (0, 0, 0, 0, 0)) := s1_1 3
theorem i1_20 : q_ins 1 20 = some (.invokespecial 9, 3, (54, 2, 1, 1, 0)) := s1_1 4
theorem i1_23 : q_ins 1 23 = some (.putfield 16, 3, (1, 9, 1, 2, 0)) := s1_1 7
theorem i1_26 : q_ins 1 26 = some (.aload_n 0, 1, (0, 0, 0, 0, 0)) := s1_1 10
theorem i1_27 : q_ins 1 27 = some (.new 19, 3, (239, 4, 15, 0, 0)) := s1_1 11
theorem i1_30 : q_ins 1 30 = some (.dup, 1, (0, 0, 0, 0, 0)) := s1_1 14
theorem i1_31 : q_ins 1 31 = some (.invokespecial 21, 3, (55, 4, 1, 1, 0)) := s1_1 15
theorem i1_34 : q_ins 1 34 = some (.putfield 22, 3, (2, 9, 2, 2, 0)) := s1_2 2
theorem i1_37 : q_ins 1 37 = some (.aload_n 0, 1, (0, 0, 0, 0, 0)) := s1_2 5
theorem i1_38 : q_ins 1 38 = some (.new 26, 3, (330, 3, 2, 0, 0)) := s1_2 6
theorem i1_41 : q_ins 1 41 = some (.dup, 1, (0, 0, 0, 0, 0)) := s1_2 9
theorem i1_42 : q_ins 1 42 = some (.invokespecial 28, 3, (56, 6, 1, 1, 0)) := s1_2 10
theorem i1_45 : q_ins 1 45 = some (.putfield 29, 3, (3, 9, 3, 2, 0)) := s1_2 13
theorem i1_48 : q_ins 1 48 = some (.aload_n 0, 1, (0, 0, 0, 0, 0)) := s1_3 0
theorem i1_49 : q_ins 1 49 = some (.new 33, 3, (345, 0, 7, 0, 0)) := s1_3 1
theorem i1_52 : q_ins 1 52 = some (.dup, 1, (0, 0, 0, 0, 0)) := s1_3 4
theorem i1_53 : q_ins 1 53 = some (.aload_n 0, 1, (0, 0, 0, 0, 0)) := s1_3 5
theorem i1_54 : q_ins 1 54 = some (.getfield 10, 3, (0, 9, 0, 2, 0)) := s1_3 6
theorem i1_57 : q_ins 1 57 = some (.aload_n 0, 1, (0, 0, 0, 0, 0)) := s1_3 9
theorem i1_58 : q_ins 1 58 = some (.getfield 29, 3, (3, 9, 3, 2, 0)) := s1_3 10
theorem i1_61 : q_ins 1 61 = some (.invokespecial 35, 3, (57, 7, 3, 1, 0)) := s1_3 13
theorem i1_64 : q_ins 1 64 = some (.putfield 38, 3, (4, 9, 4, 2, 0)) := s1_4 0
theorem i1_67 : q_ins 1 67 = some (.aload_n 0, 1, (0, 0, 0, 0, 0)) := s1_4 3
theorem i1_68 : q_ins 1 68 = some (.new 42, 3, (379, 1, 5, 0, 0)) := s1_4 4
theorem i1_71 : q_ins 1 71 = some (.dup, 1, (0, 0, 0, 0, 0)) := s1_4 7
theorem i1_72 : q_ins 1 72 = some (.aload_n 0, 1, (0, 0, 0, 0, 0)) := s1_4 8
theorem i1_73 : q_ins 1 73 = some (.getfield 10, 3, (0, 9, 0, 2, 0)) := s1_4 9
theorem i1_76 : q_ins 1 76 = some (.aload_n 0, 1, (0, 0, 0, 0, 0)) := s1_4 12
theorem i1_77 : q_ins 1 77 = some (.getfield 29, 3, (3, 9, 3, 2, 0)) := s1_4 13
theorem i1_80 : q_ins 1 80 = some (.aload_n 0, 1, (0, 0, 0, 0, 0)) := s1_5 0
theorem i1_81 : q_ins 1 81 = some (.getfield 38, 3, (4, 9, 4, 2, 0)) := s1_5 1
theorem i1_84 : q_ins 1 84 = some (.invokespecial 44, 3, (58, 9, 4, 1, 0)) := s1_5 4
theorem i1_87 : q_ins 1 87 = some (.putfield 47, 3, (5, 9, 5, 2, 0)) := s1_5 7
theorem i1_90 : q_ins 1 90 = some (.aload_n 0, 1, (0, 0, 0, 0, 0)) := s1_5 10
theorem i1_91 : q_ins 1 91 = some (.new 51, 3, (401, 5, 13, 0, 0)) := s1_5 11
theorem i1_94 : q_ins 1 94 = some (.dup, 1, (0, 0, 0, 0, 0)) := s1_5 14
theorem i1_95 : q_ins 1 95 = some (.aload_n 0, 1, (0, 0, 0, 0, 0)) := s1_5 15
theorem i1_96 : q_ins 1 96 = some (.getfield 10, 3, (0, 9, 0, 2, 0)) := s1_6 0
theorem i1_99 : q_ins 1 99 = some (.aload_n 0, 1, (0, 0, 0, 0, 0)) := s1_6 3
theorem i1_100 : q_ins 1 100 = some (.getfield 38, 3, (4, 9, 4, 2, 0)) := s1_6 4
theorem i1_103 : q_ins 1 103 = some (.invokespecial 53, 3, (59, 10, 3, 1, 0)) := s1_6 7
theorem i1_106 : q_ins 1 106 = some (.putfield 56, 3, (6, 9, 6, 2, 0)) := s1_6 10
theorem i1_109 : q_ins 1 109 = some (.return_, 1, (0, 0, 0, 0, 0)) := s1_6 13
theorem s2_0 (j : Nat) : q_ins 2 j = q_at q_c2 j := rfl
theorem s2_1 (j : Nat) : q_ins 2 (j + 16) = q_at q_c2_1 j := s2_0 (j + 16)
theorem s2_2 (j : Nat) : q_ins 2 (j + 32) = q_at q_c2_2 j := s2_1 (j + 16)
theorem s2_3 (j : Nat) : q_ins 2 (j + 48) = q_at q_c2_3 j := s2_2 (j + 16)
theorem s2_4 (j : Nat) : q_ins 2 (j + 64) = q_at q_c2_4 j := s2_3 (j + 16)
theorem s2_5 (j : Nat) : q_ins 2 (j + 80) = q_at q_c2_5 j := s2_4 (j + 16)
theorem s2_6 (j : Nat) : q_ins 2 (j + 96) = q_at q_c2_6 j := s2_5 (j + 16)
theorem s2_7 (j : Nat) : q_ins 2 (j + 112) = q_at q_c2_7 j := s2_6 (j + 16)
theorem s2_8 (j : Nat) : q_ins 2 (j + 128) = q_at q_c2_8 j := s2_7 (j + 16)
theorem s2_9 (j : Nat) : q_ins 2 (j + 144) = q_at q_c2_9 j := s2_8 (j + 16)
theorem i2_0 : q_ins 2 0 = some (.aload_n 0, 1, (0, 0, 0, 0, 0)) := s2_0 0
theorem i2_1 : q_ins 2 1 = some (.invokespecial 3, 3, (108, 0, 0, 9, 0)) := s2_0 1
theorem i2_4 : q_ins 2 4 = some (.aload_n 0, 1, (0, 0, 0, 0, 0)) := s2_0 4
theorem i2_5 : q_ins 2 5 = some (.bipush 6, 2, (0, 0, 0, 0, 0)) := s2_0 5
theorem i2_7 : q_ins 2 7 = some (.newarray .int, 2, (0, 0, 0, 0, 0)) := s2_0 7
theorem i2_9 : q_ins 2 9 = some (.putfield 9, 3, (7, 2, 0, 2, 0)) := s2_0 9
theorem i2_12 : q_ins 2 12 = some (.aload_n 0, 1, (0, 0, 0, 0, 0)) := s2_0 12
theorem i2_13 : q_ins 2 13 = some (.bipush 6, 2, (0, 0, 0, 0, 0)) := s2_0 13
theorem i2_15 : q_ins 2 15 = some (.newarray .int, 2, (0, 0, 0, 0, 0)) := s2_0 15
theorem i2_17 : q_ins 2 17 = some (.putfield 15, 3, (8, 2, 1, 2, 0)) := s2_1 1
theorem i2_20 : q_ins 2 20 = some (.aload_n 0, 1, (0, 0, 0, 0, 0)) := s2_1 4
theorem i2_21 : q_ins 2 21 = some (.bipush 6, 2, (0, 0, 0, 0, 0)) := s2_1 5
theorem i2_23 : q_ins 2 23 = some (.newarray .int, 2, (0, 0, 0, 0, 0)) := s2_1 7
theorem i2_25 : q_ins 2 25 = some (.putfield 18, 3, (9, 2, 2, 2, 0)) := s2_1 9
theorem i2_28 : q_ins 2 28 = some (.aload_n 0, 1, (0, 0, 0, 0, 0)) := s2_1 12
theorem i2_29 : q_ins 2 29 = some (.bipush 6, 2, (0, 0, 0, 0, 0)) := s2_1 13
theorem i2_31 : q_ins 2 31 = some (.newarray .int, 2, (0, 0, 0, 0, 0)) := s2_1 15
theorem i2_33 : q_ins 2 33 = some (.dup, 1, (0, 0, 0, 0, 0)) := s2_2 1
theorem i2_34 : q_ins 2 34 = some (.iconst 0, 1, (0, 0, 0, 0, 0)) := s2_2 2
theorem i2_35 : q_ins 2 35 = some (.iconst (-1), 1, (0, 0, 0, 0, 0)) := s2_2 3
theorem i2_36 : q_ins 2 36 = some (.iastore, 1, (0, 0, 0, 0, 0)) := s2_2 4
theorem i2_37 : q_ins 2 37 = some (.dup, 1, (0, 0, 0, 0, 0)) := s2_2 5
theorem i2_38 : q_ins 2 38 = some (.iconst 1, 1, (0, 0, 0, 0, 0)) := s2_2 6
theorem i2_39 : q_ins 2 39 = some (.iconst (-1), 1, (0, 0, 0, 0, 0)) := s2_2 7
theorem i2_40 : q_ins 2 40 = some (.iastore, 1, (0, 0, 0, 0, 0)) := s2_2 8
theorem i2_41 : q_ins 2 41 = some (.dup, 1, (0, 0, 0, 0, 0)) := s2_2 9
theorem i2_42 : q_ins 2 42 = some (.iconst 2, 1, (0, 0, 0, 0, 0)) := s2_2 10
theorem i2_43 : q_ins 2 43 = some (.iconst (-1), 1, (0, 0, 0, 0, 0)) := s2_2 11
theorem i2_44 : q_ins 2 44 = some (.iastore, 1, (0, 0, 0, 0, 0)) := s2_2 12
theorem i2_45 : q_ins 2 45 = some (.dup, 1, (0, 0, 0, 0, 0)) := s2_2 13
theorem i2_46 : q_ins 2 46 = some (.iconst 3, 1, (0, 0, 0, 0, 0)) := s2_2 14
theorem i2_47 : q_ins 2 47 = some (.iconst (-1), 1, (0, 0, 0, 0, 0)) := s2_2 15
theorem i2_48 : q_ins 2 48 = some (.iastore, 1, (0, 0, 0, 0, 0)) := s2_3 0
theorem i2_49 : q_ins 2 49 = some (.dup, 1, (0, 0, 0, 0, 0)) := s2_3 1
theorem i2_50 : q_ins 2 50 = some (.iconst 4, 1, (0, 0, 0, 0, 0)) := s2_3 2
theorem i2_51 : q_ins 2 51 = some (.iconst (-1), 1, (0, 0, 0, 0, 0)) := s2_3 3
theorem i2_52 : q_ins 2 52 = some (.iastore, 1, (0, 0, 0, 0, 0)) := s2_3 4
theorem i2_53 : q_ins 2 53 = some (.dup, 1, (0, 0, 0, 0, 0)) := s2_3 5
theorem i2_54 : q_ins 2 54 = some (.iconst 5, 1, (0, 0, 0, 0, 0)) := s2_3 6
theorem i2_55 : q_ins 2 55 = some (.iconst (-1), 1, (0, 0, 0, 0, 0)) := s2_3 7
theorem i2_56 : q_ins 2 56 = some (.iastore, 1, (0, 0, 0, 0, 0)) := s2_3 8
theorem i2_57 : q_ins 2 57 = some (.putfield 21, 3, (10, 2, 3, 2, 0)) := s2_3 9
theorem i2_60 : q_ins 2 60 = some (.aload_n 0, 1, (0, 0, 0, 0, 0)) := s2_3 12
theorem i2_61 : q_ins 2 61 = some (.bipush 6, 2, (0, 0, 0, 0, 0)) := s2_3 13
theorem i2_63 : q_ins 2 63 = some (.newarray .int, 2, (0, 0, 0, 0, 0)) := s2_3 15
theorem i2_65 : q_ins 2 65 = some (.putfield 24, 3, (11, 2, 4, 2, 0)) := s2_4 1
theorem i2_68 : q_ins 2 68 = some (.aload_n 0, 1, (0, 0, 0, 0, 0)) := s2_4 4
theorem i2_69 : q_ins 2 69 = some (.bipush 10, 2, (0, 0, 0, 0, 0)) := s2_4 5
theorem i2_71 : q_ins 2 71 = some (.newarray .int, 2, (0, 0, 0, 0, 0)) := s2_4 7
theorem i2_73 : q_ins 2 73 = some (.putfield 27, 3, (12, 2, 5, 2, 0)) := s2_4 9
theorem i2_76 : q_ins 2 76 = some (.aload_n 0, 1, (0, 0, 0, 0, 0)) := s2_4 12
theorem i2_77 : q_ins 2 77 = some (.bipush 10, 2, (0, 0, 0, 0, 0)) := s2_4 13
theorem i2_79 : q_ins 2 79 = some (.newarray .int, 2, (0, 0, 0, 0, 0)) := s2_4 15
theorem i2_81 : q_ins 2 81 = some (.putfield 30, 3, (13, 2, 6, 2, 0)) := s2_5 1
theorem i2_84 : q_ins 2 84 = some (.aload_n 0, 1, (0, 0, 0, 0, 0)) := s2_5 4
theorem i2_85 : q_ins 2 85 = some (.bipush 10, 2, (0, 0, 0, 0, 0)) := s2_5 5
theorem i2_87 : q_ins 2 87 = some (.newarray .int, 2, (0, 0, 0, 0, 0)) := s2_5 7
theorem i2_89 : q_ins 2 89 = some (.putfield 33, 3, (14, 2, 7, 2, 0)) := s2_5 9
theorem i2_92 : q_ins 2 92 = some (.aload_n 0, 1, (0, 0, 0, 0, 0)) := s2_5 12
theorem i2_93 : q_ins 2 93 = some (.iconst 4, 1, (0, 0, 0, 0, 0)) := s2_5 13
theorem i2_94 : q_ins 2 94 = some (.anewarray 36, 3, (109, 24, 0, 0, 0)) := s2_5 14
theorem i2_97 : q_ins 2 97 = some (.putfield 38, 3, (15, 2, 8, 2, 0)) := s2_6 1
theorem i2_100 : q_ins 2 100 = some (.aload_n 0, 1, (0, 0, 0, 0, 0)) := s2_6 4
theorem i2_101 : q_ins 2 101 = some (.new 42, 3, (111, 7, 7, 0, 0)) := s2_6 5
theorem i2_104 : q_ins 2 104 = some (.dup, 1, (0, 0, 0, 0, 0)) := s2_6 8
theorem i2_105 : q_ins 2 105 = some (.invokespecial 44, 3, (60, 3, 1, 1, 0)) := s2_6 9
theorem i2_108 : q_ins 2 108 = some (.putfield 45, 3, (16, 2, 9, 2, 0)) := s2_6 12
theorem i2_111 : q_ins 2 111 = some (.aload_n 0, 1, (0, 0, 0, 0, 0)) := s2_6 15
theorem i2_112 : q_ins 2 112 = some (.iconst 0, 1, (0, 0, 0, 0, 0)) := s2_7 0
theorem i2_113 : q_ins 2 113 = some (.putfield 49, 3, (17, 2, 10, 0, 0)) := s2_7 1
theorem i2_116 : q_ins 2 116 = some (.aload_n 0, 1, (0, 0, 0, 0, 0)) := s2_7 4
theorem i2_117 : q_ins 2 117 = some (.iconst 0, 1, (0, 0, 0, 0, 0)) := s2_7 5
theorem i2_118 : q_ins 2 118 = some (.putfield 53, 3, (18, 2, 11, 0, 0)) := s2_7 6
theorem i2_121 : q_ins 2 121 = some (.aload_n 0, 1, (0, 0, 0, 0, 0)) := s2_7 9
theorem i2_122 : q_ins 2 122 = some (.iconst 0, 1, (0, 0, 0, 0, 0)) := s2_7 10
theorem i2_123 : q_ins 2 123 = some (.putfield 56, 3, (19, 2, 12, 0, 0)) := s2_7 11
theorem i2_126 : q_ins 2 126 = some (.aload_n 0, 1, (0, 0, 0, 0, 0)) := s2_7 14
theorem i2_127 : q_ins 2 127 = some (.iconst 0, 1, (0, 0, 0, 0, 0)) := s2_7 15
theorem i2_128 : q_ins 2 128 = some (.putfield 59, 3, (20, 2, 13, 0, 0)) := s2_8 0
theorem i2_131 : q_ins 2 131 = some (.aload_n 0, 1, (0, 0, 0, 0, 0)) := s2_8 3
theorem i2_132 : q_ins 2 132 = some (.iconst 0, 1, (0, 0, 0, 0, 0)) := s2_8 4
theorem i2_133 : q_ins 2 133 = some (.putfield 62, 3, (21, 2, 14, 0, 0)) := s2_8 5
theorem i2_136 : q_ins 2 136 = some (.aload_n 0, 1, (0, 0, 0, 0, 0)) := s2_8 8
theorem i2_137 : q_ins 2 137 = some (.iconst (-1), 1, (0, 0, 0, 0, 0)) := s2_8 9
theorem i2_138 : q_ins 2 138 = some (.putfield 65, 3, (22, 2, 15, 0, 0)) := s2_8 10
theorem i2_141 : q_ins 2 141 = some (.aload_n 0, 1, (0, 0, 0, 0, 0)) := s2_8 13
theorem i2_142 : q_ins 2 142 = some (.bipush 17, 2, (0, 0, 0, 0, 0)) := s2_8 14
theorem i2_144 : q_ins 2 144 = some (.putfield 68, 3, (23, 2, 16, 0, 0)) := s2_9 0
theorem i2_147 : q_ins 2 147 = some (.aload_n 0, 1, (0, 0, 0, 0, 0)) := s2_9 3
theorem i2_148 : q_ins 2 148 = some (.iconst 0, 1, (0, 0, 0, 0, 0)) := s2_9 4
theorem i2_149 : q_ins 2 149 = some (.putfield 71, 3, (24, 2, 17, 0, 0)) := s2_9 5
theorem i2_152 : q_ins 2 152 = some (.return_, 1, (0, 0, 0, 0, 0)) := s2_9 8
theorem s3_0 (j : Nat) : q_ins 3 j = q_at q_c3 j := rfl
theorem s3_1 (j : Nat) : q_ins 3 (j + 16) = q_at q_c3_1 j := s3_0 (j + 16)
theorem s3_2 (j : Nat) : q_ins 3 (j + 32) = q_at q_c3_2 j := s3_1 (j + 16)
theorem s3_3 (j : Nat) : q_ins 3 (j + 48) = q_at q_c3_3 j := s3_2 (j + 16)
theorem i3_0 : q_ins 3 0 = some (.aload_n 0, 1, (0, 0, 0, 0, 0)) := s3_0 0
theorem i3_1 : q_ins 3 1 = some (.invokespecial 3, 3, (116, 0, 0, 9, 0)) := s3_0 1
theorem i3_4 : q_ins 3 4 = some (.aload_n 0, 1, (0, 0, 0, 0, 0)) := s3_0 4
theorem i3_5 : q_ins 3 5 = some (.sipush 180, 3, (0, 0, 0, 0, 0)) := s3_0 5
theorem i3_8 : q_ins 3 8 = some (.newarray .int, 2, (0, 0, 0, 0, 0)) := s3_0 8
theorem i3_10 : q_ins 3 10 = some (.putfield 9, 3, (25, 7, 0, 2, 0)) := s3_0 10
theorem i3_13 : q_ins 3 13 = some (.aload_n 0, 1, (0, 0, 0, 0, 0)) := s3_0 13
theorem i3_14 : q_ins 3 14 = some (.sipush 180, 3, (0, 0, 0, 0, 0)) := s3_0 14
theorem i3_17 : q_ins 3 17 = some (.newarray .int, 2, (0, 0, 0, 0, 0)) := s3_1 1
theorem i3_19 : q_ins 3 19 = some (.putfield 15, 3, (26, 7, 1, 2, 0)) := s3_1 3
theorem i3_22 : q_ins 3 22 = some (.aload_n 0, 1, (0, 0, 0, 0, 0)) := s3_1 6
theorem i3_23 : q_ins 3 23 = some (.bipush 30, 2, (0, 0, 0, 0, 0)) := s3_1 7
theorem i3_25 : q_ins 3 25 = some (.newarray .int, 2, (0, 0, 0, 0, 0)) := s3_1 9
theorem i3_27 : q_ins 3 27 = some (.putfield 18, 3, (27, 7, 2, 2, 0)) := s3_1 11
theorem i3_30 : q_ins 3 30 = some (.aload_n 0, 1, (0, 0, 0, 0, 0)) := s3_1 14
theorem i3_31 : q_ins 3 31 = some (.bipush 30, 2, (0, 0, 0, 0, 0)) := s3_1 15
theorem i3_33 : q_ins 3 33 = some (.newarray .int, 2, (0, 0, 0, 0, 0)) := s3_2 1
theorem i3_35 : q_ins 3 35 = some (.putfield 21, 3, (28, 7, 3, 2, 0)) := s3_2 3
theorem i3_38 : q_ins 3 38 = some (.aload_n 0, 1, (0, 0, 0, 0, 0)) := s3_2 6
theorem i3_39 : q_ins 3 39 = some (.bipush 30, 2, (0, 0, 0, 0, 0)) := s3_2 7
theorem i3_41 : q_ins 3 41 = some (.newarray .int, 2, (0, 0, 0, 0, 0)) := s3_2 9
theorem i3_43 : q_ins 3 43 = some (.putfield 24, 3, (29, 7, 4, 2, 0)) := s3_2 11
theorem i3_46 : q_ins 3 46 = some (.aload_n 0, 1, (0, 0, 0, 0, 0)) := s3_2 14
theorem i3_47 : q_ins 3 47 = some (.iconst 0, 1, (0, 0, 0, 0, 0)) := s3_2 15
theorem i3_48 : q_ins 3 48 = some (.putfield 27, 3, (30, 7, 5, 0, 0)) := s3_3 0
theorem i3_51 : q_ins 3 51 = some (.aload_n 0, 1, (0, 0, 0, 0, 0)) := s3_3 3
theorem i3_52 : q_ins 3 52 = some (.iconst 0, 1, (0, 0, 0, 0, 0)) := s3_3 4
theorem i3_53 : q_ins 3 53 = some (.putfield 31, 3, (31, 7, 6, 0, 0)) := s3_3 5
theorem i3_56 : q_ins 3 56 = some (.return_, 1, (0, 0, 0, 0, 0)) := s3_3 8
theorem s4_0 (j : Nat) : q_ins 4 j = q_at q_c4 j := rfl
theorem s4_1 (j : Nat) : q_ins 4 (j + 16) = q_at q_c4_1 j := s4_0 (j + 16)
theorem s4_2 (j : Nat) : q_ins 4 (j + 32) = q_at q_c4_2 j := s4_1 (j + 16)
theorem s4_3 (j : Nat) : q_ins 4 (j + 48) = q_at q_c4_3 j := s4_2 (j + 16)
theorem s4_4 (j : Nat) : q_ins 4 (j + 64) = q_at q_c4_4 j := s4_3 (j + 16)
theorem s4_5 (j : Nat) : q_ins 4 (j + 80) = q_at q_c4_5 j := s4_4 (j + 16)
theorem s4_6 (j : Nat) : q_ins 4 (j + 96) = q_at q_c4_6 j := s4_5 (j + 16)
theorem i4_0 : q_ins 4 0 = some (.aload_n 0, 1, (0, 0, 0, 0, 0)) := s4_0 0
theorem i4_1 : q_ins 4 1 = some (.invokespecial 3, 3, (244, 0, 0, 9, 0)) := s4_0 1
theorem i4_4 : q_ins 4 4 = some (.aload_n 0, 1, (0, 0, 0, 0, 0)) := s4_0 4
theorem i4_5 : q_ins 4 5 = some (.new 9, 3, (245, 8, 5, 0, 0)) := s4_0 5
theorem i4_8 : q_ins 4 8 = some (.dup, 1, (0, 0, 0, 0, 0)) := s4_0 8
theorem i4_9 : q_ins 4 9 = some (.invokespecial 11, 3, (61, 5, 1, 1, 0)) := s4_0 9
theorem i4_12 : q_ins 4 12 = some (.putfield 12, 3, (32, 4, 0, 2, 0)) := s4_0 12
theorem i4_15 : q_ins 4 15 = some (.aload_n 0, 1, (0, 0, 0, 0, 0)) := s4_0 15
theorem i4_16 : q_ins 4 16 = some (.sipush 300, 3, (0, 0, 0, 0, 0)) := s4_1 0
theorem i4_19 : q_ins 4 19 = some (.newarray .int, 2, (0, 0, 0, 0, 0)) := s4_1 3
theorem i4_21 : q_ins 4 21 = some (.putfield 18, 3, (33, 4, 1, 2, 0)) := s4_1 5
theorem i4_24 : q_ins 4 24 = some (.aload_n 0, 1, (0, 0, 0, 0, 0)) := s4_1 8
theorem i4_25 : q_ins 4 25 = some (.iconst 3, 1, (0, 0, 0, 0, 0)) := s4_1 9
theorem i4_26 : q_ins 4 26 = some (.newarray .int, 2, (0, 0, 0, 0, 0)) := s4_1 10
theorem i4_28 : q_ins 4 28 = some (.putfield 22, 3, (34, 4, 2, 2, 0)) := s4_1 12
theorem i4_31 : q_ins 4 31 = some (.aload_n 0, 1, (0, 0, 0, 0, 0)) := s4_1 15
theorem i4_32 : q_ins 4 32 = some (.iconst 3, 1, (0, 0, 0, 0, 0)) := s4_2 0
theorem i4_33 : q_ins 4 33 = some (.newarray .int, 2, (0, 0, 0, 0, 0)) := s4_2 1
theorem i4_35 : q_ins 4 35 = some (.putfield 25, 3, (35, 4, 3, 2, 0)) := s4_2 3
theorem i4_38 : q_ins 4 38 = some (.aload_n 0, 1, (0, 0, 0, 0, 0)) := s4_2 6
theorem i4_39 : q_ins 4 39 = some (.bipush 24, 2, (0, 0, 0, 0, 0)) := s4_2 7
theorem i4_41 : q_ins 4 41 = some (.newarray .int, 2, (0, 0, 0, 0, 0)) := s4_2 9
theorem i4_43 : q_ins 4 43 = some (.putfield 28, 3, (36, 4, 4, 2, 0)) := s4_2 11
theorem i4_46 : q_ins 4 46 = some (.aload_n 0, 1, (0, 0, 0, 0, 0)) := s4_2 14
theorem i4_47 : q_ins 4 47 = some (.bipush 24, 2, (0, 0, 0, 0, 0)) := s4_2 15
theorem i4_49 : q_ins 4 49 = some (.newarray .int, 2, (0, 0, 0, 0, 0)) := s4_3 1
theorem i4_51 : q_ins 4 51 = some (.putfield 31, 3, (37, 4, 5, 2, 0)) := s4_3 3
theorem i4_54 : q_ins 4 54 = some (.aload_n 0, 1, (0, 0, 0, 0, 0)) := s4_3 6
theorem i4_55 : q_ins 4 55 = some (.bipush 24, 2, (0, 0, 0, 0, 0)) := s4_3 7
theorem i4_57 : q_ins 4 57 = some (.newarray .int, 2, (0, 0, 0, 0, 0)) := s4_3 9
theorem i4_59 : q_ins 4 59 = some (.putfield 34, 3, (38, 4, 6, 2, 0)) := s4_3 11
theorem i4_62 : q_ins 4 62 = some (.aload_n 0, 1, (0, 0, 0, 0, 0)) := s4_3 14
theorem i4_63 : q_ins 4 63 = some (.iconst 0, 1, (0, 0, 0, 0, 0)) := s4_3 15
theorem i4_64 : q_ins 4 64 = some (.putfield 37, 3, (39, 4, 7, 0, 0)) := s4_4 0
theorem i4_67 : q_ins 4 67 = some (.aload_n 0, 1, (0, 0, 0, 0, 0)) := s4_4 3
theorem i4_68 : q_ins 4 68 = some (.sipush 131, 3, (0, 0, 0, 0, 0)) := s4_4 4
theorem i4_71 : q_ins 4 71 = some (.putfield 41, 3, (40, 4, 8, 0, 0)) := s4_4 7
theorem i4_74 : q_ins 4 74 = some (.aload_n 0, 1, (0, 0, 0, 0, 0)) := s4_4 10
theorem i4_75 : q_ins 4 75 = some (.iconst 0, 1, (0, 0, 0, 0, 0)) := s4_4 11
theorem i4_76 : q_ins 4 76 = some (.putfield 44, 3, (41, 4, 9, 0, 0)) := s4_4 12
theorem i4_79 : q_ins 4 79 = some (.aload_n 0, 1, (0, 0, 0, 0, 0)) := s4_4 15
theorem i4_80 : q_ins 4 80 = some (.iconst 0, 1, (0, 0, 0, 0, 0)) := s4_5 0
theorem i4_81 : q_ins 4 81 = some (.putfield 47, 3, (42, 4, 10, 0, 0)) := s4_5 1
theorem i4_84 : q_ins 4 84 = some (.aload_n 0, 1, (0, 0, 0, 0, 0)) := s4_5 4
theorem i4_85 : q_ins 4 85 = some (.iconst 0, 1, (0, 0, 0, 0, 0)) := s4_5 5
theorem i4_86 : q_ins 4 86 = some (.putfield 50, 3, (43, 4, 11, 0, 0)) := s4_5 6
theorem i4_89 : q_ins 4 89 = some (.aload_n 0, 1, (0, 0, 0, 0, 0)) := s4_5 9
theorem i4_90 : q_ins 4 90 = some (.iconst 0, 1, (0, 0, 0, 0, 0)) := s4_5 10
theorem i4_91 : q_ins 4 91 = some (.putfield 53, 3, (44, 4, 12, 3, 0)) := s4_5 11
theorem i4_94 : q_ins 4 94 = some (.aload_n 0, 1, (0, 0, 0, 0, 0)) := s4_5 14
theorem i4_95 : q_ins 4 95 = some (.iconst (-1), 1, (0, 0, 0, 0, 0)) := s4_5 15
theorem i4_96 : q_ins 4 96 = some (.putfield 57, 3, (45, 4, 13, 0, 0)) := s4_6 0
theorem i4_99 : q_ins 4 99 = some (.aload_n 0, 1, (0, 0, 0, 0, 0)) := s4_6 3
theorem i4_100 : q_ins 4 100 = some (.iconst (-1), 1, (0, 0, 0, 0, 0)) := s4_6 4
theorem i4_101 : q_ins 4 101 = some (.putfield 60, 3, (46, 4, 14, 0, 0)) := s4_6 5
theorem i4_104 : q_ins 4 104 = some (.return_, 1, (0, 0, 0, 0, 0)) := s4_6 8
theorem s5_0 (j : Nat) : q_ins 5 j = q_at q_c5 j := rfl
theorem s5_1 (j : Nat) : q_ins 5 (j + 16) = q_at q_c5_1 j := s5_0 (j + 16)
theorem s5_2 (j : Nat) : q_ins 5 (j + 32) = q_at q_c5_2 j := s5_1 (j + 16)
theorem i5_0 : q_ins 5 0 = some (.aload_n 0, 1, (0, 0, 0, 0, 0)) := s5_0 0
theorem i5_1 : q_ins 5 1 = some (.invokespecial 3, 3, (250, 0, 0, 9, 0)) := s5_0 1
theorem i5_4 : q_ins 5 4 = some (.aload_n 0, 1, (0, 0, 0, 0, 0)) := s5_0 4
theorem i5_5 : q_ins 5 5 = some (.sipush 300, 3, (0, 0, 0, 0, 0)) := s5_0 5
theorem i5_8 : q_ins 5 8 = some (.newarray .byte, 2, (0, 0, 0, 0, 0)) := s5_0 8
theorem i5_10 : q_ins 5 10 = some (.putfield 9, 3, (47, 8, 0, 2, 0)) := s5_0 10
theorem i5_13 : q_ins 5 13 = some (.aload_n 0, 1, (0, 0, 0, 0, 0)) := s5_0 13
theorem i5_14 : q_ins 5 14 = some (.sipush 301, 3, (0, 0, 0, 0, 0)) := s5_0 14
theorem i5_17 : q_ins 5 17 = some (.newarray .int, 2, (0, 0, 0, 0, 0)) := s5_1 1
theorem i5_19 : q_ins 5 19 = some (.putfield 15, 3, (48, 8, 1, 2, 0)) := s5_1 3
theorem i5_22 : q_ins 5 22 = some (.aload_n 0, 1, (0, 0, 0, 0, 0)) := s5_1 6
theorem i5_23 : q_ins 5 23 = some (.sipush 301, 3, (0, 0, 0, 0, 0)) := s5_1 7
theorem i5_26 : q_ins 5 26 = some (.newarray .int, 2, (0, 0, 0, 0, 0)) := s5_1 10
theorem i5_28 : q_ins 5 28 = some (.putfield 19, 3, (49, 8, 2, 2, 0)) := s5_1 12
theorem i5_31 : q_ins 5 31 = some (.aload_n 0, 1, (0, 0, 0, 0, 0)) := s5_1 15
theorem i5_32 : q_ins 5 32 = some (.iconst 0, 1, (0, 0, 0, 0, 0)) := s5_2 0
theorem i5_33 : q_ins 5 33 = some (.putfield 22, 3, (50, 8, 3, 0, 0)) := s5_2 1
theorem i5_36 : q_ins 5 36 = some (.aload_n 0, 1, (0, 0, 0, 0, 0)) := s5_2 4
theorem i5_37 : q_ins 5 37 = some (.iconst 0, 1, (0, 0, 0, 0, 0)) := s5_2 5
theorem i5_38 : q_ins 5 38 = some (.putfield 26, 3, (51, 8, 4, 0, 0)) := s5_2 6
theorem i5_41 : q_ins 5 41 = some (.return_, 1, (0, 0, 0, 0, 0)) := s5_2 9
theorem s6_0 (j : Nat) : q_ins 6 j = q_at q_c6 j := rfl
theorem s6_1 (j : Nat) : q_ins 6 (j + 16) = q_at q_c6_1 j := s6_0 (j + 16)
theorem i6_0 : q_ins 6 0 = some (.aload_n 0, 1, (0, 0, 0, 0, 0)) := s6_0 0
theorem i6_1 : q_ins 6 1 = some (.invokespecial 3, 3, (335, 0, 0, 9, 0)) := s6_0 1
theorem i6_4 : q_ins 6 4 = some (.aload_n 0, 1, (0, 0, 0, 0, 0)) := s6_0 4
theorem i6_5 : q_ins 6 5 = some (.bipush 14, 2, (0, 0, 0, 0, 0)) := s6_0 5
theorem i6_7 : q_ins 6 7 = some (.newarray .int, 2, (0, 0, 0, 0, 0)) := s6_0 7
theorem i6_9 : q_ins 6 9 = some (.putfield 9, 3, (52, 3, 0, 2, 0)) := s6_0 9
theorem i6_12 : q_ins 6 12 = some (.aload_n 0, 1, (0, 0, 0, 0, 0)) := s6_0 12
theorem i6_13 : q_ins 6 13 = some (.sipush 300, 3, (0, 0, 0, 0, 0)) := s6_0 13
theorem i6_16 : q_ins 6 16 = some (.newarray .int, 2, (0, 0, 0, 0, 0)) := s6_1 0
theorem i6_18 : q_ins 6 18 = some (.putfield 15, 3, (53, 3, 1, 2, 0)) := s6_1 2
theorem i6_21 : q_ins 6 21 = some (.return_, 1, (0, 0, 0, 0, 0)) := s6_1 5
theorem s7_0 (j : Nat) : q_ins 7 j = q_at q_c7 j := rfl
theorem s7_1 (j : Nat) : q_ins 7 (j + 16) = q_at q_c7_1 j := s7_0 (j + 16)
theorem s7_2 (j : Nat) : q_ins 7 (j + 32) = q_at q_c7_2 j := s7_1 (j + 16)
theorem s7_3 (j : Nat) : q_ins 7 (j + 48) = q_at q_c7_3 j := s7_2 (j + 16)
theorem i7_0 : q_ins 7 0 = some (.aload_n 0, 1, (0, 0, 0, 0, 0)) := s7_0 0
theorem i7_1 : q_ins 7 1 = some (.invokespecial 3, 3, (350, 0, 0, 9, 0)) := s7_0 1
theorem i7_4 : q_ins 7 4 = some (.aload_n 0, 1, (0, 0, 0, 0, 0)) := s7_0 4
theorem i7_5 : q_ins 7 5 = some (.sipush 240, 3, (0, 0, 0, 0, 0)) := s7_0 5
theorem i7_8 : q_ins 7 8 = some (.newarray .int, 2, (0, 0, 0, 0, 0)) := s7_0 8
theorem i7_10 : q_ins 7 10 = some (.putfield 9, 3, (54, 0, 2, 2, 0)) := s7_0 10
theorem i7_13 : q_ins 7 13 = some (.aload_n 0, 1, (0, 0, 0, 0, 0)) := s7_0 13
theorem i7_14 : q_ins 7 14 = some (.sipush 240, 3, (0, 0, 0, 0, 0)) := s7_0 14
theorem i7_17 : q_ins 7 17 = some (.newarray .int, 2, (0, 0, 0, 0, 0)) := s7_1 1
theorem i7_19 : q_ins 7 19 = some (.putfield 15, 3, (55, 0, 3, 2, 0)) := s7_1 3
theorem i7_22 : q_ins 7 22 = some (.aload_n 0, 1, (0, 0, 0, 0, 0)) := s7_1 6
theorem i7_23 : q_ins 7 23 = some (.sipush 490, 3, (0, 0, 0, 0, 0)) := s7_1 7
theorem i7_26 : q_ins 7 26 = some (.newarray .int, 2, (0, 0, 0, 0, 0)) := s7_1 10
theorem i7_28 : q_ins 7 28 = some (.putfield 18, 3, (56, 0, 4, 2, 0)) := s7_1 12
theorem i7_31 : q_ins 7 31 = some (.aload_n 0, 1, (0, 0, 0, 0, 0)) := s7_1 15
theorem i7_32 : q_ins 7 32 = some (.iconst 0, 1, (0, 0, 0, 0, 0)) := s7_2 0
theorem i7_33 : q_ins 7 33 = some (.putfield 21, 3, (57, 0, 5, 0, 0)) := s7_2 1
theorem i7_36 : q_ins 7 36 = some (.aload_n 0, 1, (0, 0, 0, 0, 0)) := s7_2 4
theorem i7_37 : q_ins 7 37 = some (.iconst 0, 1, (0, 0, 0, 0, 0)) := s7_2 5
theorem i7_38 : q_ins 7 38 = some (.putfield 25, 3, (58, 0, 6, 0, 0)) := s7_2 6
theorem i7_41 : q_ins 7 41 = some (.aload_n 0, 1, (0, 0, 0, 0, 0)) := s7_2 9
theorem i7_42 : q_ins 7 42 = some (.aload_n 1, 1, (0, 0, 0, 0, 0)) := s7_2 10
theorem i7_43 : q_ins 7 43 = some (.putfield 28, 3, (59, 0, 0, 2, 0)) := s7_2 11
theorem i7_46 : q_ins 7 46 = some (.aload_n 0, 1, (0, 0, 0, 0, 0)) := s7_2 14
theorem i7_47 : q_ins 7 47 = some (.aload_n 2, 1, (0, 0, 0, 0, 0)) := s7_2 15
theorem i7_48 : q_ins 7 48 = some (.putfield 32, 3, (60, 0, 1, 2, 0)) := s7_3 0
theorem i7_51 : q_ins 7 51 = some (.aload_n 0, 1, (0, 0, 0, 0, 0)) := s7_3 3
theorem i7_52 : q_ins 7 52 = some (.getfield 18, 3, (56, 0, 4, 2, 0)) := s7_3 4
theorem i7_55 : q_ins 7 55 = some (.iconst (-1), 1, (0, 0, 0, 0, 0)) := s7_3 7
theorem i7_56 : q_ins 7 56 = some (.invokestatic 36, 3, (62, 8, 2, 2, 0)) := s7_3 8
theorem i7_59 : q_ins 7 59 = some (.return_, 1, (0, 0, 0, 0, 0)) := s7_3 11
theorem s8_0 (j : Nat) : q_ins 8 j = q_at q_c8 j := rfl
theorem s8_1 (j : Nat) : q_ins 8 (j + 16) = q_at q_c8_1 j := s8_0 (j + 16)
theorem i8_0 : q_ins 8 0 = some (.iconst 0, 1, (0, 0, 0, 0, 0)) := s8_0 0
theorem i8_1 : q_ins 8 1 = some (.istore_n 2, 1, (0, 0, 0, 0, 0)) := s8_0 1
theorem i8_2 : q_ins 8 2 = some (.aload_n 0, 1, (0, 0, 0, 0, 0)) := s8_0 2
theorem i8_3 : q_ins 8 3 = some (.arraylength, 1, (0, 0, 0, 0, 0)) := s8_0 3
theorem i8_4 : q_ins 8 4 = some (.istore_n 3, 1, (0, 0, 0, 0, 0)) := s8_0 4
theorem i8_5 : q_ins 8 5 = some (.iload_n 2, 1, (0, 0, 0, 0, 0)) := s8_0 5
theorem i8_6 : q_ins 8 6 = some (.iload_n 3, 1, (0, 0, 0, 0, 0)) := s8_0 6
theorem i8_7 : q_ins 8 7 = some (.if_icmp .ge 13, 3, (0, 0, 0, 0, 0)) := s8_0 7
theorem i8_10 : q_ins 8 10 = some (.aload_n 0, 1, (0, 0, 0, 0, 0)) := s8_0 10
theorem i8_11 : q_ins 8 11 = some (.iload_n 2, 1, (0, 0, 0, 0, 0)) := s8_0 11
theorem i8_12 : q_ins 8 12 = some (.iload_n 1, 1, (0, 0, 0, 0, 0)) := s8_0 12
theorem i8_13 : q_ins 8 13 = some (.iastore, 1, (0, 0, 0, 0, 0)) := s8_0 13
theorem i8_14 : q_ins 8 14 = some (.iinc 2 1, 3, (0, 0, 0, 0, 0)) := s8_0 14
theorem i8_17 : q_ins 8 17 = some (.goto (-12), 3, (0, 0, 0, 0, 0)) := s8_1 1
theorem i8_20 : q_ins 8 20 = some (.return_, 1, (0, 0, 0, 0, 0)) := s8_1 4
theorem s9_0 (j : Nat) : q_ins 9 j = q_at q_c9 j := rfl
theorem s9_1 (j : Nat) : q_ins 9 (j + 16) = q_at q_c9_1 j := s9_0 (j + 16)
theorem s9_2 (j : Nat) : q_ins 9 (j + 32) = q_at q_c9_2 j := s9_1 (j + 16)
theorem i9_0 : q_ins 9 0 = some (.aload_n 0, 1, (0, 0, 0, 0, 0)) := s9_0 0
theorem i9_1 : q_ins 9 1 = some (.invokespecial 3, 3, (384, 0, 0, 9, 0)) := s9_0 1
theorem i9_4 : q_ins 9 4 = some (.aload_n 0, 1, (0, 0, 0, 0, 0)) := s9_0 4
theorem i9_5 : q_ins 9 5 = some (.bipush 6, 2, (0, 0, 0, 0, 0)) := s9_0 5
theorem i9_7 : q_ins 9 7 = some (.newarray .int, 2, (0, 0, 0, 0, 0)) := s9_0 7
theorem i9_9 : q_ins 9 9 = some (.putfield 9, 3, (61, 1, 3, 2, 0)) := s9_0 9
theorem i9_12 : q_ins 9 12 = some (.aload_n 0, 1, (0, 0, 0, 0, 0)) := s9_0 12
theorem i9_13 : q_ins 9 13 = some (.bipush 6, 2, (0, 0, 0, 0, 0)) := s9_0 13
theorem i9_15 : q_ins 9 15 = some (.newarray .int, 2, (0, 0, 0, 0, 0)) := s9_0 15
theorem i9_17 : q_ins 9 17 = some (.putfield 15, 3, (62, 1, 4, 2, 0)) := s9_1 1
theorem i9_20 : q_ins 9 20 = some (.aload_n 0, 1, (0, 0, 0, 0, 0)) := s9_1 4
theorem i9_21 : q_ins 9 21 = some (.aload_n 1, 1, (0, 0, 0, 0, 0)) := s9_1 5
theorem i9_22 : q_ins 9 22 = some (.putfield 18, 3, (63, 1, 0, 2, 0)) := s9_1 6
theorem i9_25 : q_ins 9 25 = some (.aload_n 0, 1, (0, 0, 0, 0, 0)) := s9_1 9
theorem i9_26 : q_ins 9 26 = some (.aload_n 2, 1, (0, 0, 0, 0, 0)) := s9_1 10
theorem i9_27 : q_ins 9 27 = some (.putfield 22, 3, (64, 1, 1, 2, 0)) := s9_1 11
theorem i9_30 : q_ins 9 30 = some (.aload_n 0, 1, (0, 0, 0, 0, 0)) := s9_1 14
theorem i9_31 : q_ins 9 31 = some (.aload_n 3, 1, (0, 0, 0, 0, 0)) := s9_1 15
theorem i9_32 : q_ins 9 32 = some (.putfield 26, 3, (65, 1, 2, 2, 0)) := s9_2 0
theorem i9_35 : q_ins 9 35 = some (.return_, 1, (0, 0, 0, 0, 0)) := s9_2 3
theorem s10_0 (j : Nat) : q_ins 10 j = q_at q_c10 j := rfl
theorem s10_1 (j : Nat) : q_ins 10 (j + 16) = q_at q_c10_1 j := s10_0 (j + 16)
theorem s10_2 (j : Nat) : q_ins 10 (j + 32) = q_at q_c10_2 j := s10_1 (j + 16)
theorem s10_3 (j : Nat) : q_ins 10 (j + 48) = q_at q_c10_3 j := s10_2 (j + 16)
theorem s10_4 (j : Nat) : q_ins 10 (j + 64) = q_at q_c10_4 j := s10_3 (j + 16)
theorem s10_5 (j : Nat) : q_ins 10 (j + 80) = q_at q_c10_5 j := s10_4 (j + 16)
theorem i10_0 : q_ins 10 0 = some (.aload_n 0, 1, (0, 0, 0, 0, 0)) := s10_0 0
theorem i10_1 : q_ins 10 1 = some (.invokespecial 3, 3, (406, 0, 0, 9, 0)) := s10_0 1
theorem i10_4 : q_ins 10 4 = some (.aload_n 0, 1, (0, 0, 0, 0, 0)) := s10_0 4
theorem i10_5 : q_ins 10 5 = some (.bipush 64, 2, (0, 0, 0, 0, 0)) := s10_0 5
theorem i10_7 : q_ins 10 7 = some (.newarray .int, 2, (0, 0, 0, 0, 0)) := s10_0 7
theorem i10_9 : q_ins 10 9 = some (.putfield 9, 3, (66, 5, 2, 2, 0)) := s10_0 9
theorem i10_12 : q_ins 10 12 = some (.aload_n 0, 1, (0, 0, 0, 0, 0)) := s10_0 12
theorem i10_13 : q_ins 10 13 = some (.bipush 10, 2, (0, 0, 0, 0, 0)) := s10_0 13
theorem i10_15 : q_ins 10 15 = some (.newarray .int, 2, (0, 0, 0, 0, 0)) := s10_0 15
theorem i10_17 : q_ins 10 17 = some (.putfield 15, 3, (67, 5, 3, 2, 0)) := s10_1 1
theorem i10_20 : q_ins 10 20 = some (.aload_n 0, 1, (0, 0, 0, 0, 0)) := s10_1 4
theorem i10_21 : q_ins 10 21 = some (.bipush 6, 2, (0, 0, 0, 0, 0)) := s10_1 5
theorem i10_23 : q_ins 10 23 = some (.newarray .int, 2, (0, 0, 0, 0, 0)) := s10_1 7
theorem i10_25 : q_ins 10 25 = some (.putfield 18, 3, (68, 5, 4, 2, 0)) := s10_1 9
theorem i10_28 : q_ins 10 28 = some (.aload_n 0, 1, (0, 0, 0, 0, 0)) := s10_1 12
theorem i10_29 : q_ins 10 29 = some (.bipush 6, 2, (0, 0, 0, 0, 0)) := s10_1 13
theorem i10_31 : q_ins 10 31 = some (.newarray .int, 2, (0, 0, 0, 0, 0)) := s10_1 15
theorem i10_33 : q_ins 10 33 = some (.putfield 21, 3, (69, 5, 5, 2, 0)) := s10_2 1
theorem i10_36 : q_ins 10 36 = some (.aload_n 0, 1, (0, 0, 0, 0, 0)) := s10_2 4
theorem i10_37 : q_ins 10 37 = some (.bipush 6, 2, (0, 0, 0, 0, 0)) := s10_2 5
theorem i10_39 : q_ins 10 39 = some (.newarray .int, 2, (0, 0, 0, 0, 0)) := s10_2 7
theorem i10_41 : q_ins 10 41 = some (.putfield 24, 3, (70, 5, 6, 2, 0)) := s10_2 9
theorem i10_44 : q_ins 10 44 = some (.aload_n 0, 1, (0, 0, 0, 0, 0)) := s10_2 12
theorem i10_45 : q_ins 10 45 = some (.bipush 16, 2, (0, 0, 0, 0, 0)) := s10_2 13
theorem i10_47 : q_ins 10 47 = some (.newarray .int, 2, (0, 0, 0, 0, 0)) := s10_2 15
theorem i10_49 : q_ins 10 49 = some (.putfield 27, 3, (71, 5, 7, 2, 0)) := s10_3 1
theorem i10_52 : q_ins 10 52 = some (.aload_n 0, 1, (0, 0, 0, 0, 0)) := s10_3 4
theorem i10_53 : q_ins 10 53 = some (.iconst 0, 1, (0, 0, 0, 0, 0)) := s10_3 5
theorem i10_54 : q_ins 10 54 = some (.putfield 30, 3, (72, 5, 8, 0, 0)) := s10_3 6
theorem i10_57 : q_ins 10 57 = some (.aload_n 0, 1, (0, 0, 0, 0, 0)) := s10_3 9
theorem i10_58 : q_ins 10 58 = some (.iconst 0, 1, (0, 0, 0, 0, 0)) := s10_3 10
theorem i10_59 : q_ins 10 59 = some (.putfield 34, 3, (73, 5, 9, 3, 0)) := s10_3 11
theorem i10_62 : q_ins 10 62 = some (.aload_n 0, 1, (0, 0, 0, 0, 0)) := s10_3 14
theorem i10_63 : q_ins 10 63 = some (.iconst 0, 1, (0, 0, 0, 0, 0)) := s10_3 15
theorem i10_64 : q_ins 10 64 = some (.putfield 38, 3, (74, 5, 10, 0, 0)) := s10_4 0
theorem i10_67 : q_ins 10 67 = some (.aload_n 0, 1, (0, 0, 0, 0, 0)) := s10_4 3
theorem i10_68 : q_ins 10 68 = some (.iconst 0, 1, (0, 0, 0, 0, 0)) := s10_4 4
theorem i10_69 : q_ins 10 69 = some (.putfield 41, 3, (75, 5, 11, 0, 0)) := s10_4 5
theorem i10_72 : q_ins 10 72 = some (.aload_n 0, 1, (0, 0, 0, 0, 0)) := s10_4 8
theorem i10_73 : q_ins 10 73 = some (.iconst 1, 1, (0, 0, 0, 0, 0)) := s10_4 9
theorem i10_74 : q_ins 10 74 = some (.putfield 44, 3, (76, 5, 12, 0, 0)) := s10_4 10
theorem i10_77 : q_ins 10 77 = some (.aload_n 0, 1, (0, 0, 0, 0, 0)) := s10_4 13
theorem i10_78 : q_ins 10 78 = some (.aload_n 1, 1, (0, 0, 0, 0, 0)) := s10_4 14
theorem i10_79 : q_ins 10 79 = some (.putfield 47, 3, (77, 5, 0, 2, 0)) := s10_4 15
theorem i10_82 : q_ins 10 82 = some (.aload_n 0, 1, (0, 0, 0, 0, 0)) := s10_5 2
theorem i10_83 : q_ins 10 83 = some (.aload_n 2, 1, (0, 0, 0, 0, 0)) := s10_5 3
theorem i10_84 : q_ins 10 84 = some (.putfield 51, 3, (78, 5, 1, 2, 0)) := s10_5 4
theorem i10_87 : q_ins 10 87 = some (.aload_n 0, 1, (0, 0, 0, 0, 0)) := s10_5 7
theorem i10_88 : q_ins 10 88 = some (.getfield 9, 3, (66, 5, 2, 2, 0)) := s10_5 8
theorem i10_91 : q_ins 10 91 = some (.iconst (-1), 1, (0, 0, 0, 0, 0)) := s10_5 11
theorem i10_92 : q_ins 10 92 = some (.invokestatic 55, 3, (63, 8, 2, 2, 0)) := s10_5 12
theorem i10_95 : q_ins 10 95 = some (.return_, 1, (0, 0, 0, 0, 0)) := s10_5 15
theorem s11_0 (j : Nat) : q_ins 11 j = q_at q_c11 j := rfl
theorem s11_1 (j : Nat) : q_ins 11 (j + 16) = q_at q_c11_1 j := s11_0 (j + 16)
theorem s11_2 (j : Nat) : q_ins 11 (j + 32) = q_at q_c11_2 j := s11_1 (j + 16)
theorem i11_0 : q_ins 11 0 = some (.iload_n 1, 1, (0, 0, 0, 0, 0)) := s11_0 0
theorem i11_1 : q_ins 11 1 = some (.bipush 9, 2, (0, 0, 0, 0, 0)) := s11_0 1
theorem i11_3 : q_ins 11 3 = some (.invokestatic 60, 3, (64, 12, 2, 2, 0)) := s11_0 3
theorem i11_6 : q_ins 11 6 = some (.ifCond .eq 21, 3, (0, 0, 0, 0, 0)) := s11_0 6
theorem i11_9 : q_ins 11 9 = some (.iload_n 2, 1, (0, 0, 0, 0, 0)) := s11_0 9
theorem i11_10 : q_ins 11 10 = some (.bipush 9, 2, (0, 0, 0, 0, 0)) := s11_0 10
theorem i11_12 : q_ins 11 12 = some (.invokestatic 60, 3, (64, 12, 2, 2, 0)) := s11_0 12
theorem i11_15 : q_ins 11 15 = some (.ifCond .eq 12, 3, (0, 0, 0, 0, 0)) := s11_0 15
theorem i11_18 : q_ins 11 18 = some (.iload_n 3, 1, (0, 0, 0, 0, 0)) := s11_1 2
theorem i11_19 : q_ins 11 19 = some (.bipush 10, 2, (0, 0, 0, 0, 0)) := s11_1 3
theorem i11_21 : q_ins 11 21 = some (.invokestatic 60, 3, (64, 12, 2, 2, 0)) := s11_1 5
theorem i11_24 : q_ins 11 24 = some (.ifCond .ne 5, 3, (0, 0, 0, 0, 0)) := s11_1 8
theorem i11_27 : q_ins 11 27 = some (.iconst (-1), 1, (0, 0, 0, 0, 0)) := s11_1 11
theorem i11_28 : q_ins 11 28 = some (.ireturn, 1, (0, 0, 0, 0, 0)) := s11_1 12
theorem i11_29 : q_ins 11 29 = some (.aload_n 0, 1, (0, 0, 0, 0, 0)) := s11_1 13
theorem i11_30 : q_ins 11 30 = some (.getfield 10, 3, (0, 9, 0, 2, 0)) := s11_1 14
theorem i11_33 : q_ins 11 33 = some (.iload_n 1, 1, (0, 0, 0, 0, 0)) := s11_2 1
theorem i11_34 : q_ins 11 34 = some (.iload_n 2, 1, (0, 0, 0, 0, 0)) := s11_2 2
theorem i11_35 : q_ins 11 35 = some (.iload_n 3, 1, (0, 0, 0, 0, 0)) := s11_2 3
theorem i11_36 : q_ins 11 36 = some (.invokevirtual 64, 3, (65, 13, 4, 0, 2)) := s11_2 4
theorem i11_39 : q_ins 11 39 = some (.ireturn, 1, (0, 0, 0, 0, 0)) := s11_2 7
theorem s12_0 (j : Nat) : q_ins 12 j = q_at q_c12 j := rfl
theorem i12_0 : q_ins 12 0 = some (.iload_n 0, 1, (0, 0, 0, 0, 0)) := s12_0 0
theorem i12_1 : q_ins 12 1 = some (.ifCond .lt 12, 3, (0, 0, 0, 0, 0)) := s12_0 1
theorem i12_4 : q_ins 12 4 = some (.iload_n 0, 1, (0, 0, 0, 0, 0)) := s12_0 4
theorem i12_5 : q_ins 12 5 = some (.iload_n 1, 1, (0, 0, 0, 0, 0)) := s12_0 5
theorem i12_6 : q_ins 12 6 = some (.if_icmp .gt 7, 3, (0, 0, 0, 0, 0)) := s12_0 6
theorem i12_9 : q_ins 12 9 = some (.iconst 1, 1, (0, 0, 0, 0, 0)) := s12_0 9
theorem i12_10 : q_ins 12 10 = some (.goto 4, 3, (0, 0, 0, 0, 0)) := s12_0 10
theorem i12_13 : q_ins 12 13 = some (.iconst 0, 1, (0, 0, 0, 0, 0)) := s12_0 13
theorem i12_14 : q_ins 12 14 = some (.ireturn, 1, (0, 0, 0, 0, 0)) := s12_0 14
theorem s13_0 (j : Nat) : q_ins 13 j = q_at q_c13 j := rfl
theorem s13_1 (j : Nat) : q_ins 13 (j + 16) = q_at q_c13_1 j := s13_0 (j + 16)
theorem s13_2 (j : Nat) : q_ins 13 (j + 32) = q_at q_c13_2 j := s13_1 (j + 16)
theorem s13_3 (j : Nat) : q_ins 13 (j + 48) = q_at q_c13_3 j := s13_2 (j + 16)
theorem i13_0 : q_ins 13 0 = some (.aload_n 0, 1, (0, 0, 0, 0, 0)) := s13_0 0
theorem i13_1 : q_ins 13 1 = some (.getfield 49, 3, (17, 2, 10, 0, 0)) := s13_0 1
theorem i13_4 : q_ins 13 4 = some (.bipush 6, 2, (0, 0, 0, 0, 0)) := s13_0 4
theorem i13_6 : q_ins 13 6 = some (.if_icmp .lt 5, 3, (0, 0, 0, 0, 0)) := s13_0 6
theorem i13_9 : q_ins 13 9 = some (.iconst (-1), 1, (0, 0, 0, 0, 0)) := s13_0 9
theorem i13_10 : q_ins 13 10 = some (.ireturn, 1, (0, 0, 0, 0, 0)) := s13_0 10
theorem i13_11 : q_ins 13 11 = some (.aload_n 0, 1, (0, 0, 0, 0, 0)) := s13_0 11
theorem i13_12 : q_ins 13 12 = some (.getfield 9, 3, (7, 2, 0, 2, 0)) := s13_0 12
theorem i13_15 : q_ins 13 15 = some (.aload_n 0, 1, (0, 0, 0, 0, 0)) := s13_0 15
theorem i13_16 : q_ins 13 16 = some (.getfield 49, 3, (17, 2, 10, 0, 0)) := s13_1 0
theorem i13_19 : q_ins 13 19 = some (.iload_n 1, 1, (0, 0, 0, 0, 0)) := s13_1 3
theorem i13_20 : q_ins 13 20 = some (.iastore, 1, (0, 0, 0, 0, 0)) := s13_1 4
theorem i13_21 : q_ins 13 21 = some (.aload_n 0, 1, (0, 0, 0, 0, 0)) := s13_1 5
theorem i13_22 : q_ins 13 22 = some (.getfield 15, 3, (8, 2, 1, 2, 0)) := s13_1 6
theorem i13_25 : q_ins 13 25 = some (.aload_n 0, 1, (0, 0, 0, 0, 0)) := s13_1 9
theorem i13_26 : q_ins 13 26 = some (.getfield 49, 3, (17, 2, 10, 0, 0)) := s13_1 10
theorem i13_29 : q_ins 13 29 = some (.iload_n 2, 1, (0, 0, 0, 0, 0)) := s13_1 13
theorem i13_30 : q_ins 13 30 = some (.iastore, 1, (0, 0, 0, 0, 0)) := s13_1 14
theorem i13_31 : q_ins 13 31 = some (.aload_n 0, 1, (0, 0, 0, 0, 0)) := s13_1 15
theorem i13_32 : q_ins 13 32 = some (.getfield 18, 3, (9, 2, 2, 2, 0)) := s13_2 0
theorem i13_35 : q_ins 13 35 = some (.aload_n 0, 1, (0, 0, 0, 0, 0)) := s13_2 3
theorem i13_36 : q_ins 13 36 = some (.getfield 49, 3, (17, 2, 10, 0, 0)) := s13_2 4
theorem i13_39 : q_ins 13 39 = some (.iload_n 3, 1, (0, 0, 0, 0, 0)) := s13_2 7
theorem i13_40 : q_ins 13 40 = some (.iastore, 1, (0, 0, 0, 0, 0)) := s13_2 8
theorem i13_41 : q_ins 13 41 = some (.aload_n 0, 1, (0, 0, 0, 0, 0)) := s13_2 9
theorem i13_42 : q_ins 13 42 = some (.dup, 1, (0, 0, 0, 0, 0)) := s13_2 10
theorem i13_43 : q_ins 13 43 = some (.getfield 49, 3, (17, 2, 10, 0, 0)) := s13_2 11
theorem i13_46 : q_ins 13 46 = some (.iconst 1, 1, (0, 0, 0, 0, 0)) := s13_2 14
theorem i13_47 : q_ins 13 47 = some (.iadd, 1, (0, 0, 0, 0, 0)) := s13_2 15
theorem i13_48 : q_ins 13 48 = some (.putfield 49, 3, (17, 2, 10, 0, 0)) := s13_3 0
theorem i13_51 : q_ins 13 51 = some (.aload_n 0, 1, (0, 0, 0, 0, 0)) := s13_3 3
theorem i13_52 : q_ins 13 52 = some (.getfield 49, 3, (17, 2, 10, 0, 0)) := s13_3 4
theorem i13_55 : q_ins 13 55 = some (.iconst 1, 1, (0, 0, 0, 0, 0)) := s13_3 7
theorem i13_56 : q_ins 13 56 = some (.isub, 1, (0, 0, 0, 0, 0)) := s13_3 8
theorem i13_57 : q_ins 13 57 = some (.ireturn, 1, (0, 0, 0, 0, 0)) := s13_3 9
theorem s14_0 (j : Nat) : q_ins 14 j = q_at q_c14 j := rfl
theorem s14_1 (j : Nat) : q_ins 14 (j + 16) = q_at q_c14_1 j := s14_0 (j + 16)
theorem s14_2 (j : Nat) : q_ins 14 (j + 32) = q_at q_c14_2 j := s14_1 (j + 16)
theorem i14_0 : q_ins 14 0 = some (.iload_n 1, 1, (0, 0, 0, 0, 0)) := s14_0 0
theorem i14_1 : q_ins 14 1 = some (.iconst 2, 1, (0, 0, 0, 0, 0)) := s14_0 1
theorem i14_2 : q_ins 14 2 = some (.invokestatic 60, 3, (64, 12, 2, 2, 0)) := s14_0 2
theorem i14_5 : q_ins 14 5 = some (.ifCond .eq 12, 3, (0, 0, 0, 0, 0)) := s14_0 5
theorem i14_8 : q_ins 14 8 = some (.iload_n 2, 1, (0, 0, 0, 0, 0)) := s14_0 8
theorem i14_9 : q_ins 14 9 = some (.bipush 9, 2, (0, 0, 0, 0, 0)) := s14_0 9
theorem i14_11 : q_ins 14 11 = some (.invokestatic 60, 3, (64, 12, 2, 2, 0)) := s14_0 11
theorem i14_14 : q_ins 14 14 = some (.ifCond .ne 5, 3, (0, 0, 0, 0, 0)) := s14_0 14
theorem i14_17 : q_ins 14 17 = some (.iconst (-1), 1, (0, 0, 0, 0, 0)) := s14_1 1
theorem i14_18 : q_ins 14 18 = some (.ireturn, 1, (0, 0, 0, 0, 0)) := s14_1 2
theorem i14_19 : q_ins 14 19 = some (.aload_n 0, 1, (0, 0, 0, 0, 0)) := s14_1 3
theorem i14_20 : q_ins 14 20 = some (.getfield 56, 3, (6, 9, 6, 2, 0)) := s14_1 4
theorem i14_23 : q_ins 14 23 = some (.invokevirtual 68, 3, (66, 15, 1, 0, 5)) := s14_1 7
theorem i14_26 : q_ins 14 26 = some (.aload_n 0, 1, (0, 0, 0, 0, 0)) := s14_1 10
theorem i14_27 : q_ins 14 27 = some (.getfield 10, 3, (0, 9, 0, 2, 0)) := s14_1 11
theorem i14_30 : q_ins 14 30 = some (.iload_n 1, 1, (0, 0, 0, 0, 0)) := s14_1 14
theorem i14_31 : q_ins 14 31 = some (.iload_n 2, 1, (0, 0, 0, 0, 0)) := s14_1 15
theorem i14_32 : q_ins 14 32 = some (.invokevirtual 71, 3, (67, 16, 3, 0, 2)) := s14_2 0
theorem i14_35 : q_ins 14 35 = some (.ireturn, 1, (0, 0, 0, 0, 0)) := s14_2 3
theorem s15_0 (j : Nat) : q_ins 15 j = q_at q_c15 j := rfl
theorem i15_0 : q_ins 15 0 = some (.aload_n 0, 1, (0, 0, 0, 0, 0)) := s15_0 0
theorem i15_1 : q_ins 15 1 = some (.getfield 9, 3, (66, 5, 2, 2, 0)) := s15_0 1
theorem i15_4 : q_ins 15 4 = some (.iconst (-1), 1, (0, 0, 0, 0, 0)) := s15_0 4
theorem i15_5 : q_ins 15 5 = some (.invokestatic 55, 3, (63, 8, 2, 2, 0)) := s15_0 5
theorem i15_8 : q_ins 15 8 = some (.aload_n 0, 1, (0, 0, 0, 0, 0)) := s15_0 8
theorem i15_9 : q_ins 15 9 = some (.iconst 0, 1, (0, 0, 0, 0, 0)) := s15_0 9
theorem i15_10 : q_ins 15 10 = some (.putfield 34, 3, (73, 5, 9, 3, 0)) := s15_0 10
theorem i15_13 : q_ins 15 13 = some (.return_, 1, (0, 0, 0, 0, 0)) := s15_0 13
theorem s16_0 (j : Nat) : q_ins 16 j = q_at q_c16 j := rfl
theorem s16_1 (j : Nat) : q_ins 16 (j + 16) = q_at q_c16_1 j := s16_0 (j + 16)
theorem s16_2 (j : Nat) : q_ins 16 (j + 32) = q_at q_c16_2 j := s16_1 (j + 16)
theorem i16_0 : q_ins 16 0 = some (.aload_n 0, 1, (0, 0, 0, 0, 0)) := s16_0 0
theorem i16_1 : q_ins 16 1 = some (.getfield 56, 3, (19, 2, 12, 0, 0)) := s16_0 1
theorem i16_4 : q_ins 16 4 = some (.bipush 10, 2, (0, 0, 0, 0, 0)) := s16_0 4
theorem i16_6 : q_ins 16 6 = some (.if_icmp .lt 5, 3, (0, 0, 0, 0, 0)) := s16_0 6
theorem i16_9 : q_ins 16 9 = some (.iconst (-1), 1, (0, 0, 0, 0, 0)) := s16_0 9
theorem i16_10 : q_ins 16 10 = some (.ireturn, 1, (0, 0, 0, 0, 0)) := s16_0 10
theorem i16_11 : q_ins 16 11 = some (.aload_n 0, 1, (0, 0, 0, 0, 0)) := s16_0 11
theorem i16_12 : q_ins 16 12 = some (.getfield 27, 3, (12, 2, 5, 2, 0)) := s16_0 12
theorem i16_15 : q_ins 16 15 = some (.aload_n 0, 1, (0, 0, 0, 0, 0)) := s16_0 15
theorem i16_16 : q_ins 16 16 = some (.getfield 56, 3, (19, 2, 12, 0, 0)) := s16_1 0
theorem i16_19 : q_ins 16 19 = some (.iload_n 1, 1, (0, 0, 0, 0, 0)) := s16_1 3
theorem i16_20 : q_ins 16 20 = some (.iastore, 1, (0, 0, 0, 0, 0)) := s16_1 4
theorem i16_21 : q_ins 16 21 = some (.aload_n 0, 1, (0, 0, 0, 0, 0)) := s16_1 5
theorem i16_22 : q_ins 16 22 = some (.getfield 30, 3, (13, 2, 6, 2, 0)) := s16_1 6
theorem i16_25 : q_ins 16 25 = some (.aload_n 0, 1, (0, 0, 0, 0, 0)) := s16_1 9
theorem i16_26 : q_ins 16 26 = some (.getfield 56, 3, (19, 2, 12, 0, 0)) := s16_1 10
theorem i16_29 : q_ins 16 29 = some (.iload_n 2, 1, (0, 0, 0, 0, 0)) := s16_1 13
theorem i16_30 : q_ins 16 30 = some (.iastore, 1, (0, 0, 0, 0, 0)) := s16_1 14
theorem i16_31 : q_ins 16 31 = some (.aload_n 0, 1, (0, 0, 0, 0, 0)) := s16_1 15
theorem i16_32 : q_ins 16 32 = some (.dup, 1, (0, 0, 0, 0, 0)) := s16_2 0
theorem i16_33 : q_ins 16 33 = some (.getfield 56, 3, (19, 2, 12, 0, 0)) := s16_2 1
theorem i16_36 : q_ins 16 36 = some (.iconst 1, 1, (0, 0, 0, 0, 0)) := s16_2 4
theorem i16_37 : q_ins 16 37 = some (.iadd, 1, (0, 0, 0, 0, 0)) := s16_2 5
theorem i16_38 : q_ins 16 38 = some (.putfield 56, 3, (19, 2, 12, 0, 0)) := s16_2 6
theorem i16_41 : q_ins 16 41 = some (.aload_n 0, 1, (0, 0, 0, 0, 0)) := s16_2 9
theorem i16_42 : q_ins 16 42 = some (.getfield 56, 3, (19, 2, 12, 0, 0)) := s16_2 10
theorem i16_45 : q_ins 16 45 = some (.iconst 1, 1, (0, 0, 0, 0, 0)) := s16_2 13
theorem i16_46 : q_ins 16 46 = some (.isub, 1, (0, 0, 0, 0, 0)) := s16_2 14
theorem i16_47 : q_ins 16 47 = some (.ireturn, 1, (0, 0, 0, 0, 0)) := s16_2 15
theorem s17_0 (j : Nat) : q_ins 17 j = q_at q_c17 j := rfl
theorem s17_1 (j : Nat) : q_ins 17 (j + 16) = q_at q_c17_1 j := s17_0 (j + 16)
theorem i17_0 : q_ins 17 0 = some (.iload_n 1, 1, (0, 0, 0, 0, 0)) := s17_0 0
theorem i17_1 : q_ins 17 1 = some (.sipush 9999, 3, (0, 0, 0, 0, 0)) := s17_0 1
theorem i17_4 : q_ins 17 4 = some (.invokestatic 60, 3, (64, 12, 2, 2, 0)) := s17_0 4
theorem i17_7 : q_ins 17 7 = some (.ifCond .ne 5, 3, (0, 0, 0, 0, 0)) := s17_0 7
theorem i17_10 : q_ins 17 10 = some (.iconst 0, 1, (0, 0, 0, 0, 0)) := s17_0 10
theorem i17_11 : q_ins 17 11 = some (.ireturn, 1, (0, 0, 0, 0, 0)) := s17_0 11
theorem i17_12 : q_ins 17 12 = some (.aload_n 0, 1, (0, 0, 0, 0, 0)) := s17_0 12
theorem i17_13 : q_ins 17 13 = some (.getfield 10, 3, (0, 9, 0, 2, 0)) := s17_0 13
theorem i17_16 : q_ins 17 16 = some (.iload_n 1, 1, (0, 0, 0, 0, 0)) := s17_1 0
theorem i17_17 : q_ins 17 17 = some (.iconst 3, 1, (0, 0, 0, 0, 0)) := s17_1 1
theorem i17_18 : q_ins 17 18 = some (.imul, 1, (0, 0, 0, 0, 0)) := s17_1 2
theorem i17_19 : q_ins 17 19 = some (.bipush 17, 2, (0, 0, 0, 0, 0)) := s17_1 3
theorem i17_21 : q_ins 17 21 = some (.iadd, 1, (0, 0, 0, 0, 0)) := s17_1 5
theorem i17_22 : q_ins 17 22 = some (.putfield 75, 3, (79, 2, 16, 0, 0)) := s17_1 6
theorem i17_25 : q_ins 17 25 = some (.iconst 1, 1, (0, 0, 0, 0, 0)) := s17_1 9
theorem i17_26 : q_ins 17 26 = some (.ireturn, 1, (0, 0, 0, 0, 0)) := s17_1 10
theorem s18_0 (j : Nat) : q_ins 18 j = q_at q_c18 j := rfl
theorem s18_1 (j : Nat) : q_ins 18 (j + 16) = q_at q_c18_1 j := s18_0 (j + 16)
theorem s18_2 (j : Nat) : q_ins 18 (j + 32) = q_at q_c18_2 j := s18_1 (j + 16)
theorem s18_3 (j : Nat) : q_ins 18 (j + 48) = q_at q_c18_3 j := s18_2 (j + 16)
theorem i18_0 : q_ins 18 0 = some (.aload_n 0, 1, (0, 0, 0, 0, 0)) := s18_0 0
theorem i18_1 : q_ins 18 1 = some (.getfield 22, 3, (2, 9, 2, 2, 0)) := s18_0 1
theorem i18_4 : q_ins 18 4 = some (.getfield 79, 3, (80, 4, 0, 2, 0)) := s18_0 4
theorem i18_7 : q_ins 18 7 = some (.astore 6, 2, (0, 0, 0, 0, 0)) := s18_0 7
theorem i18_9 : q_ins 18 9 = some (.aload 6, 2, (0, 0, 0, 0, 0)) := s18_0 9
theorem i18_11 : q_ins 18 11 = some (.getfield 83, 3, (81, 8, 3, 0, 0)) := s18_0 11
theorem i18_14 : q_ins 18 14 = some (.bipush 20, 2, (0, 0, 0, 0, 0)) := s18_0 14
theorem i18_16 : q_ins 18 16 = some (.iadd, 1, (0, 0, 0, 0, 0)) := s18_1 0
theorem i18_17 : q_ins 18 17 = some (.sipush 300, 3, (0, 0, 0, 0, 0)) := s18_1 1
theorem i18_20 : q_ins 18 20 = some (.if_icmp .le 5, 3, (0, 0, 0, 0, 0)) := s18_1 4
theorem i18_23 : q_ins 18 23 = some (.iconst (-1), 1, (0, 0, 0, 0, 0)) := s18_1 7
theorem i18_24 : q_ins 18 24 = some (.ireturn, 1, (0, 0, 0, 0, 0)) := s18_1 8
theorem i18_25 : q_ins 18 25 = some (.aload 6, 2, (0, 0, 0, 0, 0)) := s18_1 9
theorem i18_27 : q_ins 18 27 = some (.iload_n 1, 1, (0, 0, 0, 0, 0)) := s18_1 11
theorem i18_28 : q_ins 18 28 = some (.invokevirtual 88, 3, (68, 19, 2, 0, 8)) := s18_1 12
theorem i18_31 : q_ins 18 31 = some (.aload 6, 2, (0, 0, 0, 0, 0)) := s18_1 15
theorem i18_33 : q_ins 18 33 = some (.iload_n 2, 1, (0, 0, 0, 0, 0)) := s18_2 1
theorem i18_34 : q_ins 18 34 = some (.invokevirtual 88, 3, (68, 19, 2, 0, 8)) := s18_2 2
theorem i18_37 : q_ins 18 37 = some (.aload 6, 2, (0, 0, 0, 0, 0)) := s18_2 5
theorem i18_39 : q_ins 18 39 = some (.iload_n 3, 1, (0, 0, 0, 0, 0)) := s18_2 7
theorem i18_40 : q_ins 18 40 = some (.invokevirtual 88, 3, (68, 19, 2, 0, 8)) := s18_2 8
theorem i18_43 : q_ins 18 43 = some (.aload 6, 2, (0, 0, 0, 0, 0)) := s18_2 11
theorem i18_45 : q_ins 18 45 = some (.iload 4, 2, (0, 0, 0, 0, 0)) := s18_2 13
theorem i18_47 : q_ins 18 47 = some (.invokevirtual 88, 3, (68, 19, 2, 0, 8)) := s18_2 15
theorem i18_50 : q_ins 18 50 = some (.aload 6, 2, (0, 0, 0, 0, 0)) := s18_3 2
theorem i18_52 : q_ins 18 52 = some (.iload 5, 2, (0, 0, 0, 0, 0)) := s18_3 4
theorem i18_54 : q_ins 18 54 = some (.invokevirtual 88, 3, (68, 19, 2, 0, 8)) := s18_3 6
theorem i18_57 : q_ins 18 57 = some (.aload 6, 2, (0, 0, 0, 0, 0)) := s18_3 9
theorem i18_59 : q_ins 18 59 = some (.getfield 83, 3, (81, 8, 3, 0, 0)) := s18_3 11
theorem i18_62 : q_ins 18 62 = some (.ireturn, 1, (0, 0, 0, 0, 0)) := s18_3 14
theorem s19_0 (j : Nat) : q_ins 19 j = q_at q_c19 j := rfl
theorem s19_1 (j : Nat) : q_ins 19 (j + 16) = q_at q_c19_1 j := s19_0 (j + 16)
theorem s19_2 (j : Nat) : q_ins 19 (j + 32) = q_at q_c19_2 j := s19_1 (j + 16)
theorem i19_0 : q_ins 19 0 = some (.bipush 24, 2, (0, 0, 0, 0, 0)) := s19_0 0
theorem i19_2 : q_ins 19 2 = some (.istore_n 2, 1, (0, 0, 0, 0, 0)) := s19_0 2
theorem i19_3 : q_ins 19 3 = some (.iload_n 2, 1, (0, 0, 0, 0, 0)) := s19_0 3
theorem i19_4 : q_ins 19 4 = some (.ifCond .lt 42, 3, (0, 0, 0, 0, 0)) := s19_0 4
theorem i19_7 : q_ins 19 7 = some (.aload_n 0, 1, (0, 0, 0, 0, 0)) := s19_0 7
theorem i19_8 : q_ins 19 8 = some (.getfield 22, 3, (50, 8, 3, 0, 0)) := s19_0 8
theorem i19_11 : q_ins 19 11 = some (.sipush 300, 3, (0, 0, 0, 0, 0)) := s19_0 11
theorem i19_14 : q_ins 19 14 = some (.if_icmp .ge 32, 3, (0, 0, 0, 0, 0)) := s19_0 14
theorem i19_17 : q_ins 19 17 = some (.aload_n 0, 1, (0, 0, 0, 0, 0)) := s19_1 1
theorem i19_18 : q_ins 19 18 = some (.getfield 9, 3, (47, 8, 0, 2, 0)) := s19_1 2
theorem i19_21 : q_ins 19 21 = some (.aload_n 0, 1, (0, 0, 0, 0, 0)) := s19_1 5
theorem i19_22 : q_ins 19 22 = some (.getfield 22, 3, (50, 8, 3, 0, 0)) := s19_1 6
theorem i19_25 : q_ins 19 25 = some (.iload_n 1, 1, (0, 0, 0, 0, 0)) := s19_1 9
theorem i19_26 : q_ins 19 26 = some (.iload_n 2, 1, (0, 0, 0, 0, 0)) := s19_1 10
theorem i19_27 : q_ins 19 27 = some (.ishr, 1, (0, 0, 0, 0, 0)) := s19_1 11
theorem i19_28 : q_ins 19 28 = some (.i2b, 1, (0, 0, 0, 0, 0)) := s19_1 12
theorem i19_29 : q_ins 19 29 = some (.bastore, 1, (0, 0, 0, 0, 0)) := s19_1 13
theorem i19_30 : q_ins 19 30 = some (.aload_n 0, 1, (0, 0, 0, 0, 0)) := s19_1 14
theorem i19_31 : q_ins 19 31 = some (.dup, 1, (0, 0, 0, 0, 0)) := s19_1 15
theorem i19_32 : q_ins 19 32 = some (.getfield 22, 3, (50, 8, 3, 0, 0)) := s19_2 0
theorem i19_35 : q_ins 19 35 = some (.iconst 1, 1, (0, 0, 0, 0, 0)) := s19_2 3
theorem i19_36 : q_ins 19 36 = some (.iadd, 1, (0, 0, 0, 0, 0)) := s19_2 4
theorem i19_37 : q_ins 19 37 = some (.putfield 22, 3, (50, 8, 3, 0, 0)) := s19_2 5
theorem i19_40 : q_ins 19 40 = some (.iinc 2 (-8), 3, (0, 0, 0, 0, 0)) := s19_2 8
theorem i19_43 : q_ins 19 43 = some (.goto (-40), 3, (0, 0, 0, 0, 0)) := s19_2 11
theorem i19_46 : q_ins 19 46 = some (.return_, 1, (0, 0, 0, 0, 0)) := s19_2 14
theorem s20_0 (j : Nat) : q_ins 20 j = q_at q_c20 j := rfl
theorem s20_1 (j : Nat) : q_ins 20 (j + 16) = q_at q_c20_1 j := s20_0 (j + 16)
theorem i20_0 : q_ins 20 0 = some (.iload_n 1, 1, (0, 0, 0, 0, 0)) := s20_0 0
theorem i20_1 : q_ins 20 1 = some (.aload_n 0, 1, (0, 0, 0, 0, 0)) := s20_0 1
theorem i20_2 : q_ins 20 2 = some (.getfield 22, 3, (2, 9, 2, 2, 0)) := s20_0 2
theorem i20_5 : q_ins 20 5 = some (.getfield 79, 3, (80, 4, 0, 2, 0)) := s20_0 5
theorem i20_8 : q_ins 20 8 = some (.getfield 83, 3, (81, 8, 3, 0, 0)) := s20_0 8
theorem i20_11 : q_ins 20 11 = some (.invokestatic 60, 3, (64, 12, 2, 2, 0)) := s20_0 11
theorem i20_14 : q_ins 20 14 = some (.ifCond .ne 5, 3, (0, 0, 0, 0, 0)) := s20_0 14
theorem i20_17 : q_ins 20 17 = some (.iconst (-1), 1, (0, 0, 0, 0, 0)) := s20_1 1
theorem i20_18 : q_ins 20 18 = some (.ireturn, 1, (0, 0, 0, 0, 0)) := s20_1 2
theorem i20_19 : q_ins 20 19 = some (.aload_n 0, 1, (0, 0, 0, 0, 0)) := s20_1 3
theorem i20_20 : q_ins 20 20 = some (.getfield 22, 3, (2, 9, 2, 2, 0)) := s20_1 4
theorem i20_23 : q_ins 20 23 = some (.getfield 79, 3, (80, 4, 0, 2, 0)) := s20_1 7
theorem i20_26 : q_ins 20 26 = some (.iload_n 1, 1, (0, 0, 0, 0, 0)) := s20_1 10
theorem i20_27 : q_ins 20 27 = some (.putfield 83, 3, (81, 8, 3, 0, 0)) := s20_1 11
theorem i20_30 : q_ins 20 30 = some (.iload_n 1, 1, (0, 0, 0, 0, 0)) := s20_1 14
theorem i20_31 : q_ins 20 31 = some (.ireturn, 1, (0, 0, 0, 0, 0)) := s20_1 15
theorem s21_0 (j : Nat) : q_ins 21 j = q_at q_c21 j := rfl
theorem s21_1 (j : Nat) : q_ins 21 (j + 16) = q_at q_c21_1 j := s21_0 (j + 16)
theorem s21_2 (j : Nat) : q_ins 21 (j + 32) = q_at q_c21_2 j := s21_1 (j + 16)
theorem s21_3 (j : Nat) : q_ins 21 (j + 48) = q_at q_c21_3 j := s21_2 (j + 16)
theorem i21_0 : q_ins 21 0 = some (.aload_n 0, 1, (0, 0, 0, 0, 0)) := s21_0 0
theorem i21_1 : q_ins 21 1 = some (.getfield 10, 3, (0, 9, 0, 2, 0)) := s21_0 1
theorem i21_4 : q_ins 21 4 = some (.getfield 92, 3, (82, 2, 14, 0, 0)) := s21_0 4
theorem i21_7 : q_ins 21 7 = some (.iconst 4, 1, (0, 0, 0, 0, 0)) := s21_0 7
theorem i21_8 : q_ins 21 8 = some (.if_icmp .lt 5, 3, (0, 0, 0, 0, 0)) := s21_0 8
theorem i21_11 : q_ins 21 11 = some (.iconst (-1), 1, (0, 0, 0, 0, 0)) := s21_0 11
theorem i21_12 : q_ins 21 12 = some (.ireturn, 1, (0, 0, 0, 0, 0)) := s21_0 12
theorem i21_13 : q_ins 21 13 = some (.aload_n 0, 1, (0, 0, 0, 0, 0)) := s21_0 13
theorem i21_14 : q_ins 21 14 = some (.getfield 22, 3, (2, 9, 2, 2, 0)) := s21_0 14
theorem i21_17 : q_ins 21 17 = some (.invokevirtual 95, 3, (69, 22, 1, 0, 4)) := s21_1 1
theorem i21_20 : q_ins 21 20 = some (.istore_n 1, 1, (0, 0, 0, 0, 0)) := s21_1 4
theorem i21_21 : q_ins 21 21 = some (.aload_n 0, 1, (0, 0, 0, 0, 0)) := s21_1 5
theorem i21_22 : q_ins 21 22 = some (.getfield 22, 3, (2, 9, 2, 2, 0)) := s21_1 6
theorem i21_25 : q_ins 21 25 = some (.getfield 79, 3, (80, 4, 0, 2, 0)) := s21_1 9
theorem i21_28 : q_ins 21 28 = some (.iconst 0, 1, (0, 0, 0, 0, 0)) := s21_1 12
theorem i21_29 : q_ins 21 29 = some (.putfield 83, 3, (81, 8, 3, 0, 0)) := s21_1 13
theorem i21_32 : q_ins 21 32 = some (.iload_n 1, 1, (0, 0, 0, 0, 0)) := s21_2 0
theorem i21_33 : q_ins 21 33 = some (.ifCond .eq 24, 3, (0, 0, 0, 0, 0)) := s21_2 1
theorem i21_36 : q_ins 21 36 = some (.aload_n 0, 1, (0, 0, 0, 0, 0)) := s21_2 4
theorem i21_37 : q_ins 21 37 = some (.getfield 10, 3, (0, 9, 0, 2, 0)) := s21_2 5
theorem i21_40 : q_ins 21 40 = some (.new 99, 3, (666, 6, 7, 0, 0)) := s21_2 8
theorem i21_43 : q_ins 21 43 = some (.dup, 1, (0, 0, 0, 0, 0)) := s21_2 11
theorem i21_44 : q_ins 21 44 = some (.aload_n 0, 1, (0, 0, 0, 0, 0)) := s21_2 12
theorem i21_45 : q_ins 21 45 = some (.getfield 22, 3, (2, 9, 2, 2, 0)) := s21_2 13
theorem i21_48 : q_ins 21 48 = some (.invokespecial 101, 3, (70, 54, 2, 1, 0)) := s21_3 0
theorem i21_51 : q_ins 21 51 = some (.invokevirtual 104, 3, (71, 56, 2, 0, 2)) := s21_3 3
theorem i21_54 : q_ins 21 54 = some (.goto 4, 3, (0, 0, 0, 0, 0)) := s21_3 6
theorem i21_57 : q_ins 21 57 = some (.iconst (-1), 1, (0, 0, 0, 0, 0)) := s21_3 9
theorem i21_58 : q_ins 21 58 = some (.ireturn, 1, (0, 0, 0, 0, 0)) := s21_3 10
theorem s22_0 (j : Nat) : q_ins 22 j = q_at q_c22 j := rfl
theorem s22_1 (j : Nat) : q_ins 22 (j + 16) = q_at q_c22_1 j := s22_0 (j + 16)
theorem s22_2 (j : Nat) : q_ins 22 (j + 32) = q_at q_c22_2 j := s22_1 (j + 16)
theorem s22_3 (j : Nat) : q_ins 22 (j + 48) = q_at q_c22_3 j := s22_2 (j + 16)
theorem s22_4 (j : Nat) : q_ins 22 (j + 64) = q_at q_c22_4 j := s22_3 (j + 16)
theorem s22_5 (j : Nat) : q_ins 22 (j + 80) = q_at q_c22_5 j := s22_4 (j + 16)
theorem s22_6 (j : Nat) : q_ins 22 (j + 96) = q_at q_c22_6 j := s22_5 (j + 16)
theorem i22_0 : q_ins 22 0 = some (.aload_n 0, 1, (0, 0, 0, 0, 0)) := s22_0 0
theorem i22_1 : q_ins 22 1 = some (.iconst 0, 1, (0, 0, 0, 0, 0)) := s22_0 1
theorem i22_2 : q_ins 22 2 = some (.putfield 57, 3, (45, 4, 13, 0, 0)) := s22_0 2
theorem i22_5 : q_ins 22 5 = some (.aload_n 0, 1, (0, 0, 0, 0, 0)) := s22_0 5
theorem i22_6 : q_ins 22 6 = some (.iconst (-1), 1, (0, 0, 0, 0, 0)) := s22_0 6
theorem i22_7 : q_ins 22 7 = some (.putfield 60, 3, (46, 4, 14, 0, 0)) := s22_0 7
theorem i22_10 : q_ins 22 10 = some (.aload_n 0, 1, (0, 0, 0, 0, 0)) := s22_0 10
theorem i22_11 : q_ins 22 11 = some (.iconst 0, 1, (0, 0, 0, 0, 0)) := s22_0 11
theorem i22_12 : q_ins 22 12 = some (.putfield 44, 3, (41, 4, 9, 0, 0)) := s22_0 12
theorem i22_15 : q_ins 22 15 = some (.aload_n 0, 1, (0, 0, 0, 0, 0)) := s22_0 15
theorem i22_16 : q_ins 22 16 = some (.iconst 0, 1, (0, 0, 0, 0, 0)) := s22_1 0
theorem i22_17 : q_ins 22 17 = some (.putfield 47, 3, (42, 4, 10, 0, 0)) := s22_1 1
theorem i22_20 : q_ins 22 20 = some (.aload_n 0, 1, (0, 0, 0, 0, 0)) := s22_1 4
theorem i22_21 : q_ins 22 21 = some (.iconst 0, 1, (0, 0, 0, 0, 0)) := s22_1 5
theorem i22_22 : q_ins 22 22 = some (.putfield 53, 3, (44, 4, 12, 3, 0)) := s22_1 6
theorem i22_25 : q_ins 22 25 = some (.aload_n 0, 1, (0, 0, 0, 0, 0)) := s22_1 9
theorem i22_26 : q_ins 22 26 = some (.getfield 22, 3, (34, 4, 2, 2, 0)) := s22_1 10
theorem i22_29 : q_ins 22 29 = some (.iconst 0, 1, (0, 0, 0, 0, 0)) := s22_1 13
theorem i22_30 : q_ins 22 30 = some (.invokestatic 63, 3, (72, 8, 2, 2, 0)) := s22_1 14
theorem i22_33 : q_ins 22 33 = some (.aload_n 0, 1, (0, 0, 0, 0, 0)) := s22_2 1
theorem i22_34 : q_ins 22 34 = some (.getfield 25, 3, (35, 4, 3, 2, 0)) := s22_2 2
theorem i22_37 : q_ins 22 37 = some (.iconst 0, 1, (0, 0, 0, 0, 0)) := s22_2 5
theorem i22_38 : q_ins 22 38 = some (.invokestatic 63, 3, (72, 8, 2, 2, 0)) := s22_2 6
theorem i22_41 : q_ins 22 41 = some (.aload_n 0, 1, (0, 0, 0, 0, 0)) := s22_2 9
theorem i22_42 : q_ins 22 42 = some (.getfield 12, 3, (32, 4, 0, 2, 0)) := s22_2 10
theorem i22_45 : q_ins 22 45 = some (.invokevirtual 69, 3, (73, 23, 1, 0, 8)) := s22_2 13
theorem i22_48 : q_ins 22 48 = some (.aload_n 0, 1, (0, 0, 0, 0, 0)) := s22_3 0
theorem i22_49 : q_ins 22 49 = some (.iconst 0, 1, (0, 0, 0, 0, 0)) := s22_3 1
theorem i22_50 : q_ins 22 50 = some (.putfield 37, 3, (39, 4, 7, 0, 0)) := s22_3 2
theorem i22_53 : q_ins 22 53 = some (.aload_n 0, 1, (0, 0, 0, 0, 0)) := s22_3 5
theorem i22_54 : q_ins 22 54 = some (.aload_n 0, 1, (0, 0, 0, 0, 0)) := s22_3 6
theorem i22_55 : q_ins 22 55 = some (.getfield 12, 3, (32, 4, 0, 2, 0)) := s22_3 7
theorem i22_58 : q_ins 22 58 = some (.getfield 72, 3, (83, 8, 1, 2, 0)) := s22_3 10
theorem i22_61 : q_ins 22 61 = some (.iconst 0, 1, (0, 0, 0, 0, 0)) := s22_3 13
theorem i22_62 : q_ins 22 62 = some (.iaload, 1, (0, 0, 0, 0, 0)) := s22_3 14
theorem i22_63 : q_ins 22 63 = some (.putfield 41, 3, (40, 4, 8, 0, 0)) := s22_3 15
theorem i22_66 : q_ins 22 66 = some (.iconst 0, 1, (0, 0, 0, 0, 0)) := s22_4 2
theorem i22_67 : q_ins 22 67 = some (.istore_n 1, 1, (0, 0, 0, 0, 0)) := s22_4 3
theorem i22_68 : q_ins 22 68 = some (.iload_n 1, 1, (0, 0, 0, 0, 0)) := s22_4 4
theorem i22_69 : q_ins 22 69 = some (.bipush 24, 2, (0, 0, 0, 0, 0)) := s22_4 5
theorem i22_71 : q_ins 22 71 = some (.if_icmp .gt 23, 3, (0, 0, 0, 0, 0)) := s22_4 7
theorem i22_74 : q_ins 22 74 = some (.aload_n 0, 1, (0, 0, 0, 0, 0)) := s22_4 10
theorem i22_75 : q_ins 22 75 = some (.getfield 41, 3, (40, 4, 8, 0, 0)) := s22_4 11
theorem i22_78 : q_ins 22 78 = some (.sipush 131, 3, (0, 0, 0, 0, 0)) := s22_4 14
theorem i22_81 : q_ins 22 81 = some (.if_icmp .eq 13, 3, (0, 0, 0, 0, 0)) := s22_5 1
theorem i22_84 : q_ins 22 84 = some (.aload_n 0, 1, (0, 0, 0, 0, 0)) := s22_5 4
theorem i22_85 : q_ins 22 85 = some (.invokevirtual 74, 3, (74, 39, 1, 0, 4)) := s22_5 5
theorem i22_88 : q_ins 22 88 = some (.iinc 1 1, 3, (0, 0, 0, 0, 0)) := s22_5 8
theorem i22_91 : q_ins 22 91 = some (.goto (-23), 3, (0, 0, 0, 0, 0)) := s22_5 11
theorem i22_94 : q_ins 22 94 = some (.aload_n 0, 1, (0, 0, 0, 0, 0)) := s22_5 14
theorem i22_95 : q_ins 22 95 = some (.getfield 57, 3, (45, 4, 13, 0, 0)) := s22_5 15
theorem i22_98 : q_ins 22 98 = some (.ifCond .ne 7, 3, (0, 0, 0, 0, 0)) := s22_6 2
theorem i22_101 : q_ins 22 101 = some (.iconst 1, 1, (0, 0, 0, 0, 0)) := s22_6 5
theorem i22_102 : q_ins 22 102 = some (.goto 4, 3, (0, 0, 0, 0, 0)) := s22_6 6
theorem i22_105 : q_ins 22 105 = some (.iconst 0, 1, (0, 0, 0, 0, 0)) := s22_6 9
theorem i22_106 : q_ins 22 106 = some (.ireturn, 1, (0, 0, 0, 0, 0)) := s22_6 10
theorem s23_0 (j : Nat) : q_ins 23 j = q_at q_c23 j := rfl
theorem s23_1 (j : Nat) : q_ins 23 (j + 16) = q_at q_c23_1 j := s23_0 (j + 16)
theorem s23_2 (j : Nat) : q_ins 23 (j + 32) = q_at q_c23_2 j := s23_1 (j + 16)
theorem s23_3 (j : Nat) : q_ins 23 (j + 48) = q_at q_c23_3 j := s23_2 (j + 16)
theorem s23_4 (j : Nat) : q_ins 23 (j + 64) = q_at q_c23_4 j := s23_3 (j + 16)
theorem s23_5 (j : Nat) : q_ins 23 (j + 80) = q_at q_c23_5 j := s23_4 (j + 16)
theorem s23_6 (j : Nat) : q_ins 23 (j + 96) = q_at q_c23_6 j := s23_5 (j + 16)
theorem s23_7 (j : Nat) : q_ins 23 (j + 112) = q_at q_c23_7 j := s23_6 (j + 16)
theorem s23_8 (j : Nat) : q_ins 23 (j + 128) = q_at q_c23_8 j := s23_7 (j + 16)
theorem s23_9 (j : Nat) : q_ins 23 (j + 144) = q_at q_c23_9 j := s23_8 (j + 16)
theorem s23_10 (j : Nat) : q_ins 23 (j + 160) = q_at q_c23_10 j := s23_9 (j + 16)
theorem s23_11 (j : Nat) : q_ins 23 (j + 176) = q_at q_c23_11 j := s23_10 (j + 16)
theorem s23_12 (j : Nat) : q_ins 23 (j + 192) = q_at q_c23_12 j := s23_11 (j + 16)
theorem s23_13 (j : Nat) : q_ins 23 (j + 208) = q_at q_c23_13 j := s23_12 (j + 16)
theorem s23_14 (j : Nat) : q_ins 23 (j + 224) = q_at q_c23_14 j := s23_13 (j + 16)
theorem i23_0 : q_ins 23 0 = some (.aload_n 0, 1, (0, 0, 0, 0, 0)) := s23_0 0
theorem i23_1 : q_ins 23 1 = some (.iconst 0, 1, (0, 0, 0, 0, 0)) := s23_0 1
theorem i23_2 : q_ins 23 2 = some (.putfield 26, 3, (51, 8, 4, 0, 0)) := s23_0 2
theorem i23_5 : q_ins 23 5 = some (.iconst 0, 1, (0, 0, 0, 0, 0)) := s23_0 5
theorem i23_6 : q_ins 23 6 = some (.istore_n 1, 1, (0, 0, 0, 0, 0)) := s23_0 6
theorem i23_7 : q_ins 23 7 = some (.iconst 0, 1, (0, 0, 0, 0, 0)) := s23_0 7
theorem i23_8 : q_ins 23 8 = some (.istore_n 2, 1, (0, 0, 0, 0, 0)) := s23_0 8
theorem i23_9 : q_ins 23 9 = some (.iload_n 2, 1, (0, 0, 0, 0, 0)) := s23_0 9
theorem i23_10 : q_ins 23 10 = some (.sipush 300, 3, (0, 0, 0, 0, 0)) := s23_0 10
theorem i23_13 : q_ins 23 13 = some (.if_icmp .ge 190, 3, (0, 0, 0, 0, 0)) := s23_0 13
theorem i23_16 : q_ins 23 16 = some (.iload_n 1, 1, (0, 0, 0, 0, 0)) := s23_1 0
theorem i23_17 : q_ins 23 17 = some (.aload_n 0, 1, (0, 0, 0, 0, 0)) := s23_1 1
theorem i23_18 : q_ins 23 18 = some (.getfield 22, 3, (50, 8, 3, 0, 0)) := s23_1 2
theorem i23_21 : q_ins 23 21 = some (.if_icmp .ge 182, 3, (0, 0, 0, 0, 0)) := s23_1 5
theorem i23_24 : q_ins 23 24 = some (.aload_n 0, 1, (0, 0, 0, 0, 0)) := s23_1 8
theorem i23_25 : q_ins 23 25 = some (.iload_n 1, 1, (0, 0, 0, 0, 0)) := s23_1 9
theorem i23_26 : q_ins 23 26 = some (.invokevirtual 29, 3, (75, 24, 2, 0, 8)) := s23_1 10
theorem i23_29 : q_ins 23 29 = some (.istore_n 3, 1, (0, 0, 0, 0, 0)) := s23_1 13
theorem i23_30 : q_ins 23 30 = some (.iload_n 1, 1, (0, 0, 0, 0, 0)) := s23_1 14
theorem i23_31 : q_ins 23 31 = some (.iconst 1, 1, (0, 0, 0, 0, 0)) := s23_1 15
theorem i23_32 : q_ins 23 32 = some (.iadd, 1, (0, 0, 0, 0, 0)) := s23_2 0
theorem i23_33 : q_ins 23 33 = some (.istore 4, 2, (0, 0, 0, 0, 0)) := s23_2 1
theorem i23_35 : q_ins 23 35 = some (.iload_n 3, 1, (0, 0, 0, 0, 0)) := s23_2 3
theorem i23_36 : q_ins 23 36 = some (.invokestatic 33, 3, (76, 25, 1, 2, 0)) := s23_2 4
theorem i23_39 : q_ins 23 39 = some (.ifCond .ne 155, 3, (0, 0, 0, 0, 0)) := s23_2 7
theorem i23_42 : q_ins 23 42 = some (.aload_n 0, 1, (0, 0, 0, 0, 0)) := s23_2 10
theorem i23_43 : q_ins 23 43 = some (.getfield 19, 3, (49, 8, 2, 2, 0)) := s23_2 11
theorem i23_46 : q_ins 23 46 = some (.aload_n 0, 1, (0, 0, 0, 0, 0)) := s23_2 14
theorem i23_47 : q_ins 23 47 = some (.getfield 26, 3, (51, 8, 4, 0, 0)) := s23_2 15
theorem i23_50 : q_ins 23 50 = some (.iload_n 1, 1, (0, 0, 0, 0, 0)) := s23_3 2
theorem i23_51 : q_ins 23 51 = some (.iastore, 1, (0, 0, 0, 0, 0)) := s23_3 3
theorem i23_52 : q_ins 23 52 = some (.iload_n 3, 1, (0, 0, 0, 0, 0)) := s23_3 4
theorem i23_53 : q_ins 23 53 = some (.invokestatic 37, 3, (77, 26, 1, 2, 0)) := s23_3 5
theorem i23_56 : q_ins 23 56 = some (.ifCond .eq 30, 3, (0, 0, 0, 0, 0)) := s23_3 8
theorem i23_59 : q_ins 23 59 = some (.aload_n 0, 1, (0, 0, 0, 0, 0)) := s23_3 11
theorem i23_60 : q_ins 23 60 = some (.iload_n 1, 1, (0, 0, 0, 0, 0)) := s23_3 12
theorem i23_61 : q_ins 23 61 = some (.iconst 1, 1, (0, 0, 0, 0, 0)) := s23_3 13
theorem i23_62 : q_ins 23 62 = some (.invokevirtual 40, 3, (78, 27, 3, 0, 8)) := s23_3 14
theorem i23_65 : q_ins 23 65 = some (.istore 4, 2, (0, 0, 0, 0, 0)) := s23_4 1
theorem i23_67 : q_ins 23 67 = some (.aload_n 0, 1, (0, 0, 0, 0, 0)) := s23_4 3
theorem i23_68 : q_ins 23 68 = some (.getfield 15, 3, (48, 8, 1, 2, 0)) := s23_4 4
theorem i23_71 : q_ins 23 71 = some (.aload_n 0, 1, (0, 0, 0, 0, 0)) := s23_4 7
theorem i23_72 : q_ins 23 72 = some (.getfield 26, 3, (51, 8, 4, 0, 0)) := s23_4 8
theorem i23_75 : q_ins 23 75 = some (.aload_n 0, 1, (0, 0, 0, 0, 0)) := s23_4 11
theorem i23_76 : q_ins 23 76 = some (.iload_n 1, 1, (0, 0, 0, 0, 0)) := s23_4 12
theorem i23_77 : q_ins 23 77 = some (.iload 4, 2, (0, 0, 0, 0, 0)) := s23_4 13
theorem i23_79 : q_ins 23 79 = some (.invokevirtual 44, 3, (79, 29, 3, 0, 8)) := s23_4 15
theorem i23_82 : q_ins 23 82 = some (.iastore, 1, (0, 0, 0, 0, 0)) := s23_5 2
theorem i23_83 : q_ins 23 83 = some (.goto 101, 3, (0, 0, 0, 0, 0)) := s23_5 3
theorem i23_86 : q_ins 23 86 = some (.iload_n 3, 1, (0, 0, 0, 0, 0)) := s23_5 6
theorem i23_87 : q_ins 23 87 = some (.invokestatic 48, 3, (80, 28, 1, 2, 0)) := s23_5 7
theorem i23_90 : q_ins 23 90 = some (.ifCond .eq 34, 3, (0, 0, 0, 0, 0)) := s23_5 10
theorem i23_93 : q_ins 23 93 = some (.aload_n 0, 1, (0, 0, 0, 0, 0)) := s23_5 13
theorem i23_94 : q_ins 23 94 = some (.iload_n 1, 1, (0, 0, 0, 0, 0)) := s23_5 14
theorem i23_95 : q_ins 23 95 = some (.iconst 0, 1, (0, 0, 0, 0, 0)) := s23_5 15
theorem i23_96 : q_ins 23 96 = some (.invokevirtual 40, 3, (78, 27, 3, 0, 8)) := s23_6 0
theorem i23_99 : q_ins 23 99 = some (.istore 4, 2, (0, 0, 0, 0, 0)) := s23_6 3
theorem i23_101 : q_ins 23 101 = some (.aload_n 0, 1, (0, 0, 0, 0, 0)) := s23_6 5
theorem i23_102 : q_ins 23 102 = some (.getfield 15, 3, (48, 8, 1, 2, 0)) := s23_6 6
theorem i23_105 : q_ins 23 105 = some (.aload_n 0, 1, (0, 0, 0, 0, 0)) := s23_6 9
theorem i23_106 : q_ins 23 106 = some (.getfield 26, 3, (51, 8, 4, 0, 0)) := s23_6 10
theorem i23_109 : q_ins 23 109 = some (.sipush 300, 3, (0, 0, 0, 0, 0)) := s23_6 13
theorem i23_112 : q_ins 23 112 = some (.aload_n 0, 1, (0, 0, 0, 0, 0)) := s23_7 0
theorem i23_113 : q_ins 23 113 = some (.iload_n 1, 1, (0, 0, 0, 0, 0)) := s23_7 1
theorem i23_114 : q_ins 23 114 = some (.iload 4, 2, (0, 0, 0, 0, 0)) := s23_7 2
theorem i23_116 : q_ins 23 116 = some (.invokevirtual 51, 3, (81, 37, 3, 0, 8)) := s23_7 4
theorem i23_119 : q_ins 23 119 = some (.iadd, 1, (0, 0, 0, 0, 0)) := s23_7 7
theorem i23_120 : q_ins 23 120 = some (.iastore, 1, (0, 0, 0, 0, 0)) := s23_7 8
theorem i23_121 : q_ins 23 121 = some (.goto 63, 3, (0, 0, 0, 0, 0)) := s23_7 9
theorem i23_124 : q_ins 23 124 = some (.aload_n 0, 1, (0, 0, 0, 0, 0)) := s23_7 12
theorem i23_125 : q_ins 23 125 = some (.getfield 15, 3, (48, 8, 1, 2, 0)) := s23_7 13
theorem i23_128 : q_ins 23 128 = some (.aload_n 0, 1, (0, 0, 0, 0, 0)) := s23_8 0
theorem i23_129 : q_ins 23 129 = some (.getfield 26, 3, (51, 8, 4, 0, 0)) := s23_8 1
theorem i23_132 : q_ins 23 132 = some (.iload_n 3, 1, (0, 0, 0, 0, 0)) := s23_8 4
theorem i23_133 : q_ins 23 133 = some (.aload_n 0, 1, (0, 0, 0, 0, 0)) := s23_8 5
theorem i23_134 : q_ins 23 134 = some (.iload_n 1, 1, (0, 0, 0, 0, 0)) := s23_8 6
theorem i23_135 : q_ins 23 135 = some (.iconst 1, 1, (0, 0, 0, 0, 0)) := s23_8 7
theorem i23_136 : q_ins 23 136 = some (.iadd, 1, (0, 0, 0, 0, 0)) := s23_8 8
theorem i23_137 : q_ins 23 137 = some (.invokevirtual 29, 3, (75, 24, 2, 0, 8)) := s23_8 9
theorem i23_140 : q_ins 23 140 = some (.invokestatic 54, 3, (82, 38, 2, 2, 0)) := s23_8 12
theorem i23_143 : q_ins 23 143 = some (.iastore, 1, (0, 0, 0, 0, 0)) := s23_8 15
theorem i23_144 : q_ins 23 144 = some (.iload 4, 2, (0, 0, 0, 0, 0)) := s23_9 0
theorem i23_146 : q_ins 23 146 = some (.aload_n 0, 1, (0, 0, 0, 0, 0)) := s23_9 2
theorem i23_147 : q_ins 23 147 = some (.getfield 15, 3, (48, 8, 1, 2, 0)) := s23_9 3
theorem i23_150 : q_ins 23 150 = some (.aload_n 0, 1, (0, 0, 0, 0, 0)) := s23_9 6
theorem i23_151 : q_ins 23 151 = some (.getfield 26, 3, (51, 8, 4, 0, 0)) := s23_9 7
theorem i23_154 : q_ins 23 154 = some (.iaload, 1, (0, 0, 0, 0, 0)) := s23_9 10
theorem i23_155 : q_ins 23 155 = some (.sipush 128, 3, (0, 0, 0, 0, 0)) := s23_9 11
theorem i23_158 : q_ins 23 158 = some (.if_icmp .eq 18, 3, (0, 0, 0, 0, 0)) := s23_9 14
theorem i23_161 : q_ins 23 161 = some (.aload_n 0, 1, (0, 0, 0, 0, 0)) := s23_10 1
theorem i23_162 : q_ins 23 162 = some (.getfield 15, 3, (48, 8, 1, 2, 0)) := s23_10 2
theorem i23_165 : q_ins 23 165 = some (.aload_n 0, 1, (0, 0, 0, 0, 0)) := s23_10 5
theorem i23_166 : q_ins 23 166 = some (.getfield 26, 3, (51, 8, 4, 0, 0)) := s23_10 6
theorem i23_169 : q_ins 23 169 = some (.iaload, 1, (0, 0, 0, 0, 0)) := s23_10 9
theorem i23_170 : q_ins 23 170 = some (.sipush 129, 3, (0, 0, 0, 0, 0)) := s23_10 10
theorem i23_173 : q_ins 23 173 = some (.if_icmp .ne 7, 3, (0, 0, 0, 0, 0)) := s23_10 13
theorem i23_176 : q_ins 23 176 = some (.iconst 1, 1, (0, 0, 0, 0, 0)) := s23_11 0
theorem i23_177 : q_ins 23 177 = some (.goto 4, 3, (0, 0, 0, 0, 0)) := s23_11 1
theorem i23_180 : q_ins 23 180 = some (.iconst 0, 1, (0, 0, 0, 0, 0)) := s23_11 4
theorem i23_181 : q_ins 23 181 = some (.iadd, 1, (0, 0, 0, 0, 0)) := s23_11 5
theorem i23_182 : q_ins 23 182 = some (.istore 4, 2, (0, 0, 0, 0, 0)) := s23_11 6
theorem i23_184 : q_ins 23 184 = some (.aload_n 0, 1, (0, 0, 0, 0, 0)) := s23_11 8
theorem i23_185 : q_ins 23 185 = some (.dup, 1, (0, 0, 0, 0, 0)) := s23_11 9
theorem i23_186 : q_ins 23 186 = some (.getfield 26, 3, (51, 8, 4, 0, 0)) := s23_11 10
theorem i23_189 : q_ins 23 189 = some (.iconst 1, 1, (0, 0, 0, 0, 0)) := s23_11 13
theorem i23_190 : q_ins 23 190 = some (.iadd, 1, (0, 0, 0, 0, 0)) := s23_11 14
theorem i23_191 : q_ins 23 191 = some (.putfield 26, 3, (51, 8, 4, 0, 0)) := s23_11 15
theorem i23_194 : q_ins 23 194 = some (.iload 4, 2, (0, 0, 0, 0, 0)) := s23_12 2
theorem i23_196 : q_ins 23 196 = some (.istore_n 1, 1, (0, 0, 0, 0, 0)) := s23_12 4
theorem i23_197 : q_ins 23 197 = some (.iinc 2 1, 3, (0, 0, 0, 0, 0)) := s23_12 5
theorem i23_200 : q_ins 23 200 = some (.goto (-191), 3, (0, 0, 0, 0, 0)) := s23_12 8
theorem i23_203 : q_ins 23 203 = some (.aload_n 0, 1, (0, 0, 0, 0, 0)) := s23_12 11
theorem i23_204 : q_ins 23 204 = some (.getfield 15, 3, (48, 8, 1, 2, 0)) := s23_12 12
theorem i23_207 : q_ins 23 207 = some (.aload_n 0, 1, (0, 0, 0, 0, 0)) := s23_12 15
theorem i23_208 : q_ins 23 208 = some (.getfield 26, 3, (51, 8, 4, 0, 0)) := s23_13 0
theorem i23_211 : q_ins 23 211 = some (.sipush 131, 3, (0, 0, 0, 0, 0)) := s23_13 3
theorem i23_214 : q_ins 23 214 = some (.iastore, 1, (0, 0, 0, 0, 0)) := s23_13 6
theorem i23_215 : q_ins 23 215 = some (.aload_n 0, 1, (0, 0, 0, 0, 0)) := s23_13 7
theorem i23_216 : q_ins 23 216 = some (.getfield 19, 3, (49, 8, 2, 2, 0)) := s23_13 8
theorem i23_219 : q_ins 23 219 = some (.aload_n 0, 1, (0, 0, 0, 0, 0)) := s23_13 11
theorem i23_220 : q_ins 23 220 = some (.getfield 26, 3, (51, 8, 4, 0, 0)) := s23_13 12
theorem i23_223 : q_ins 23 223 = some (.aload_n 0, 1, (0, 0, 0, 0, 0)) := s23_13 15
theorem i23_224 : q_ins 23 224 = some (.getfield 22, 3, (50, 8, 3, 0, 0)) := s23_14 0
theorem i23_227 : q_ins 23 227 = some (.iastore, 1, (0, 0, 0, 0, 0)) := s23_14 3
theorem i23_228 : q_ins 23 228 = some (.return_, 1, (0, 0, 0, 0, 0)) := s23_14 4
theorem s24_0 (j : Nat) : q_ins 24 j = q_at q_c24 j := rfl
theorem s24_1 (j : Nat) : q_ins 24 (j + 16) = q_at q_c24_1 j := s24_0 (j + 16)
theorem s24_2 (j : Nat) : q_ins 24 (j + 32) = q_at q_c24_2 j := s24_1 (j + 16)
theorem i24_0 : q_ins 24 0 = some (.iload_n 1, 1, (0, 0, 0, 0, 0)) := s24_0 0
theorem i24_1 : q_ins 24 1 = some (.ifCond .lt 31, 3, (0, 0, 0, 0, 0)) := s24_0 1
theorem i24_4 : q_ins 24 4 = some (.iload_n 1, 1, (0, 0, 0, 0, 0)) := s24_0 4
theorem i24_5 : q_ins 24 5 = some (.aload_n 0, 1, (0, 0, 0, 0, 0)) := s24_0 5
theorem i24_6 : q_ins 24 6 = some (.getfield 22, 3, (50, 8, 3, 0, 0)) := s24_0 6
theorem i24_9 : q_ins 24 9 = some (.if_icmp .ge 23, 3, (0, 0, 0, 0, 0)) := s24_0 9
theorem i24_12 : q_ins 24 12 = some (.iload_n 1, 1, (0, 0, 0, 0, 0)) := s24_0 12
theorem i24_13 : q_ins 24 13 = some (.sipush 300, 3, (0, 0, 0, 0, 0)) := s24_0 13
theorem i24_16 : q_ins 24 16 = some (.if_icmp .ge 16, 3, (0, 0, 0, 0, 0)) := s24_1 0
theorem i24_19 : q_ins 24 19 = some (.aload_n 0, 1, (0, 0, 0, 0, 0)) := s24_1 3
theorem i24_20 : q_ins 24 20 = some (.getfield 9, 3, (47, 8, 0, 2, 0)) := s24_1 4
theorem i24_23 : q_ins 24 23 = some (.iload_n 1, 1, (0, 0, 0, 0, 0)) := s24_1 7
theorem i24_24 : q_ins 24 24 = some (.baload, 1, (0, 0, 0, 0, 0)) := s24_1 8
theorem i24_25 : q_ins 24 25 = some (.sipush 255, 3, (0, 0, 0, 0, 0)) := s24_1 9
theorem i24_28 : q_ins 24 28 = some (.iand, 1, (0, 0, 0, 0, 0)) := s24_1 12
theorem i24_29 : q_ins 24 29 = some (.goto 4, 3, (0, 0, 0, 0, 0)) := s24_1 13
theorem i24_32 : q_ins 24 32 = some (.iconst (-1), 1, (0, 0, 0, 0, 0)) := s24_2 0
theorem i24_33 : q_ins 24 33 = some (.ireturn, 1, (0, 0, 0, 0, 0)) := s24_2 1
theorem s25_0 (j : Nat) : q_ins 25 j = q_at q_c25 j := rfl
theorem s25_1 (j : Nat) : q_ins 25 (j + 16) = q_at q_c25_1 j := s25_0 (j + 16)
theorem i25_0 : q_ins 25 0 = some (.iload_n 0, 1, (0, 0, 0, 0, 0)) := s25_0 0
theorem i25_1 : q_ins 25 1 = some (.bipush 32, 2, (0, 0, 0, 0, 0)) := s25_0 1
theorem i25_3 : q_ins 25 3 = some (.if_icmp .eq 9, 3, (0, 0, 0, 0, 0)) := s25_0 3
theorem i25_6 : q_ins 25 6 = some (.iload_n 0, 1, (0, 0, 0, 0, 0)) := s25_0 6
theorem i25_7 : q_ins 25 7 = some (.bipush 10, 2, (0, 0, 0, 0, 0)) := s25_0 7
theorem i25_9 : q_ins 25 9 = some (.if_icmp .ne 7, 3, (0, 0, 0, 0, 0)) := s25_0 9
theorem i25_12 : q_ins 25 12 = some (.iconst 1, 1, (0, 0, 0, 0, 0)) := s25_0 12
theorem i25_13 : q_ins 25 13 = some (.goto 4, 3, (0, 0, 0, 0, 0)) := s25_0 13
theorem i25_16 : q_ins 25 16 = some (.iconst 0, 1, (0, 0, 0, 0, 0)) := s25_1 0
theorem i25_17 : q_ins 25 17 = some (.ireturn, 1, (0, 0, 0, 0, 0)) := s25_1 1
theorem s26_0 (j : Nat) : q_ins 26 j = q_at q_c26 j := rfl
theorem s26_1 (j : Nat) : q_ins 26 (j + 16) = q_at q_c26_1 j := s26_0 (j + 16)
theorem i26_0 : q_ins 26 0 = some (.iload_n 0, 1, (0, 0, 0, 0, 0)) := s26_0 0
theorem i26_1 : q_ins 26 1 = some (.bipush 97, 2, (0, 0, 0, 0, 0)) := s26_0 1
theorem i26_3 : q_ins 26 3 = some (.if_icmp .lt 9, 3, (0, 0, 0, 0, 0)) := s26_0 3
theorem i26_6 : q_ins 26 6 = some (.iload_n 0, 1, (0, 0, 0, 0, 0)) := s26_0 6
theorem i26_7 : q_ins 26 7 = some (.bipush 122, 2, (0, 0, 0, 0, 0)) := s26_0 7
theorem i26_9 : q_ins 26 9 = some (.if_icmp .le 15, 3, (0, 0, 0, 0, 0)) := s26_0 9
theorem i26_12 : q_ins 26 12 = some (.iload_n 0, 1, (0, 0, 0, 0, 0)) := s26_0 12
theorem i26_13 : q_ins 26 13 = some (.bipush 65, 2, (0, 0, 0, 0, 0)) := s26_0 13
theorem i26_15 : q_ins 26 15 = some (.if_icmp .lt 13, 3, (0, 0, 0, 0, 0)) := s26_0 15
theorem i26_18 : q_ins 26 18 = some (.iload_n 0, 1, (0, 0, 0, 0, 0)) := s26_1 2
theorem i26_19 : q_ins 26 19 = some (.bipush 90, 2, (0, 0, 0, 0, 0)) := s26_1 3
theorem i26_21 : q_ins 26 21 = some (.if_icmp .gt 7, 3, (0, 0, 0, 0, 0)) := s26_1 5
theorem i26_24 : q_ins 26 24 = some (.iconst 1, 1, (0, 0, 0, 0, 0)) := s26_1 8
theorem i26_25 : q_ins 26 25 = some (.goto 4, 3, (0, 0, 0, 0, 0)) := s26_1 9
theorem i26_28 : q_ins 26 28 = some (.iconst 0, 1, (0, 0, 0, 0, 0)) := s26_1 12
theorem i26_29 : q_ins 26 29 = some (.ireturn, 1, (0, 0, 0, 0, 0)) := s26_1 13
theorem s27_0 (j : Nat) : q_ins 27 j = q_at q_c27 j := rfl
theorem s27_1 (j : Nat) : q_ins 27 (j + 16) = q_at q_c27_1 j := s27_0 (j + 16)
theorem s27_2 (j : Nat) : q_ins 27 (j + 32) = q_at q_c27_2 j := s27_1 (j + 16)
theorem s27_3 (j : Nat) : q_ins 27 (j + 48) = q_at q_c27_3 j := s27_2 (j + 16)
theorem i27_0 : q_ins 27 0 = some (.iload_n 1, 1, (0, 0, 0, 0, 0)) := s27_0 0
theorem i27_1 : q_ins 27 1 = some (.iconst 1, 1, (0, 0, 0, 0, 0)) := s27_0 1
theorem i27_2 : q_ins 27 2 = some (.iadd, 1, (0, 0, 0, 0, 0)) := s27_0 2
theorem i27_3 : q_ins 27 3 = some (.istore_n 3, 1, (0, 0, 0, 0, 0)) := s27_0 3
theorem i27_4 : q_ins 27 4 = some (.iload_n 3, 1, (0, 0, 0, 0, 0)) := s27_0 4
theorem i27_5 : q_ins 27 5 = some (.aload_n 0, 1, (0, 0, 0, 0, 0)) := s27_0 5
theorem i27_6 : q_ins 27 6 = some (.getfield 22, 3, (50, 8, 3, 0, 0)) := s27_0 6
theorem i27_9 : q_ins 27 9 = some (.if_icmp .ge 38, 3, (0, 0, 0, 0, 0)) := s27_0 9
theorem i27_12 : q_ins 27 12 = some (.iload_n 2, 1, (0, 0, 0, 0, 0)) := s27_0 12
theorem i27_13 : q_ins 27 13 = some (.ifCond .eq 17, 3, (0, 0, 0, 0, 0)) := s27_0 13
theorem i27_16 : q_ins 27 16 = some (.aload_n 0, 1, (0, 0, 0, 0, 0)) := s27_1 0
theorem i27_17 : q_ins 27 17 = some (.iload_n 3, 1, (0, 0, 0, 0, 0)) := s27_1 1
theorem i27_18 : q_ins 27 18 = some (.invokevirtual 29, 3, (75, 24, 2, 0, 8)) := s27_1 2
theorem i27_21 : q_ins 27 21 = some (.invokestatic 37, 3, (77, 26, 1, 2, 0)) := s27_1 5
theorem i27_24 : q_ins 27 24 = some (.ifCond .eq 23, 3, (0, 0, 0, 0, 0)) := s27_1 8
theorem i27_27 : q_ins 27 27 = some (.goto 14, 3, (0, 0, 0, 0, 0)) := s27_1 11
theorem i27_30 : q_ins 27 30 = some (.aload_n 0, 1, (0, 0, 0, 0, 0)) := s27_1 14
theorem i27_31 : q_ins 27 31 = some (.iload_n 3, 1, (0, 0, 0, 0, 0)) := s27_1 15
theorem i27_32 : q_ins 27 32 = some (.invokevirtual 29, 3, (75, 24, 2, 0, 8)) := s27_2 0
theorem i27_35 : q_ins 27 35 = some (.invokestatic 48, 3, (80, 28, 1, 2, 0)) := s27_2 3
theorem i27_38 : q_ins 27 38 = some (.ifCond .eq 9, 3, (0, 0, 0, 0, 0)) := s27_2 6
theorem i27_41 : q_ins 27 41 = some (.iinc 3 1, 3, (0, 0, 0, 0, 0)) := s27_2 9
theorem i27_44 : q_ins 27 44 = some (.goto (-40), 3, (0, 0, 0, 0, 0)) := s27_2 12
theorem i27_47 : q_ins 27 47 = some (.iload_n 3, 1, (0, 0, 0, 0, 0)) := s27_2 15
theorem i27_48 : q_ins 27 48 = some (.ireturn, 1, (0, 0, 0, 0, 0)) := s27_3 0
theorem s28_0 (j : Nat) : q_ins 28 j = q_at q_c28 j := rfl
theorem s28_1 (j : Nat) : q_ins 28 (j + 16) = q_at q_c28_1 j := s28_0 (j + 16)
theorem i28_0 : q_ins 28 0 = some (.iload_n 0, 1, (0, 0, 0, 0, 0)) := s28_0 0
theorem i28_1 : q_ins 28 1 = some (.bipush 48, 2, (0, 0, 0, 0, 0)) := s28_0 1
theorem i28_3 : q_ins 28 3 = some (.if_icmp .lt 13, 3, (0, 0, 0, 0, 0)) := s28_0 3
theorem i28_6 : q_ins 28 6 = some (.iload_n 0, 1, (0, 0, 0, 0, 0)) := s28_0 6
theorem i28_7 : q_ins 28 7 = some (.bipush 57, 2, (0, 0, 0, 0, 0)) := s28_0 7
theorem i28_9 : q_ins 28 9 = some (.if_icmp .gt 7, 3, (0, 0, 0, 0, 0)) := s28_0 9
theorem i28_12 : q_ins 28 12 = some (.iconst 1, 1, (0, 0, 0, 0, 0)) := s28_0 12
theorem i28_13 : q_ins 28 13 = some (.goto 4, 3, (0, 0, 0, 0, 0)) := s28_0 13
theorem i28_16 : q_ins 28 16 = some (.iconst 0, 1, (0, 0, 0, 0, 0)) := s28_1 0
theorem i28_17 : q_ins 28 17 = some (.ireturn, 1, (0, 0, 0, 0, 0)) := s28_1 1
theorem s29_0 (j : Nat) : q_ins 29 j = q_at q_c29 j := rfl
theorem s29_1 (j : Nat) : q_ins 29 (j + 16) = q_at q_c29_1 j := s29_0 (j + 16)
theorem s29_2 (j : Nat) : q_ins 29 (j + 32) = q_at q_c29_2 j := s29_1 (j + 16)
theorem s29_3 (j : Nat) : q_ins 29 (j + 48) = q_at q_c29_3 j := s29_2 (j + 16)
theorem s29_4 (j : Nat) : q_ins 29 (j + 64) = q_at q_c29_4 j := s29_3 (j + 16)
theorem s29_5 (j : Nat) : q_ins 29 (j + 80) = q_at q_c29_5 j := s29_4 (j + 16)
theorem s29_6 (j : Nat) : q_ins 29 (j + 96) = q_at q_c29_6 j := s29_5 (j + 16)
theorem i29_0 : q_ins 29 0 = some (.iconst 0, 1, (0, 0, 0, 0, 0)) := s29_0 0
theorem i29_1 : q_ins 29 1 = some (.istore_n 3, 1, (0, 0, 0, 0, 0)) := s29_0 1
theorem i29_2 : q_ins 29 2 = some (.iload_n 1, 1, (0, 0, 0, 0, 0)) := s29_0 2
theorem i29_3 : q_ins 29 3 = some (.istore 4, 2, (0, 0, 0, 0, 0)) := s29_0 3
theorem i29_5 : q_ins 29 5 = some (.iconst 0, 1, (0, 0, 0, 0, 0)) := s29_0 5
theorem i29_6 : q_ins 29 6 = some (.istore 5, 2, (0, 0, 0, 0, 0)) := s29_0 6
theorem i29_8 : q_ins 29 8 = some (.iload 5, 2, (0, 0, 0, 0, 0)) := s29_0 8
theorem i29_10 : q_ins 29 10 = some (.ldc 62, 2, (547, 4, 0, 1, 0)) := s29_0 10
theorem i29_12 : q_ins 29 12 = some (.invokevirtual 64, 3, (83, 30, 1, 0, 30)) := s29_0 12
theorem i29_15 : q_ins 29 15 = some (.if_icmp .ge 79, 3, (0, 0, 0, 0, 0)) := s29_0 15
theorem i29_18 : q_ins 29 18 = some (.ldc 62, 2, (547, 4, 0, 1, 0)) := s29_1 2
theorem i29_20 : q_ins 29 20 = some (.iload 5, 2, (0, 0, 0, 0, 0)) := s29_1 4
theorem i29_22 : q_ins 29 22 = some (.invokevirtual 69, 3, (84, 32, 2, 0, 30)) := s29_1 6
theorem i29_25 : q_ins 29 25 = some (.istore 6, 2, (0, 0, 0, 0, 0)) := s29_1 9
theorem i29_27 : q_ins 29 27 = some (.iload 6, 2, (0, 0, 0, 0, 0)) := s29_1 11
theorem i29_29 : q_ins 29 29 = some (.bipush 32, 2, (0, 0, 0, 0, 0)) := s29_1 13
theorem i29_31 : q_ins 29 31 = some (.if_icmp .ne 24, 3, (0, 0, 0, 0, 0)) := s29_1 15
theorem i29_34 : q_ins 29 34 = some (.iload 4, 2, (0, 0, 0, 0, 0)) := s29_2 2
theorem i29_36 : q_ins 29 36 = some (.iload_n 2, 1, (0, 0, 0, 0, 0)) := s29_2 4
theorem i29_37 : q_ins 29 37 = some (.if_icmp .ne 9, 3, (0, 0, 0, 0, 0)) := s29_2 5
theorem i29_40 : q_ins 29 40 = some (.sipush 200, 3, (0, 0, 0, 0, 0)) := s29_2 8
theorem i29_43 : q_ins 29 43 = some (.iload_n 3, 1, (0, 0, 0, 0, 0)) := s29_2 11
theorem i29_44 : q_ins 29 44 = some (.iadd, 1, (0, 0, 0, 0, 0)) := s29_2 12
theorem i29_45 : q_ins 29 45 = some (.ireturn, 1, (0, 0, 0, 0, 0)) := s29_2 13
theorem i29_46 : q_ins 29 46 = some (.iinc 3 1, 3, (0, 0, 0, 0, 0)) := s29_2 14
theorem i29_49 : q_ins 29 49 = some (.iload_n 1, 1, (0, 0, 0, 0, 0)) := s29_3 1
theorem i29_50 : q_ins 29 50 = some (.istore 4, 2, (0, 0, 0, 0, 0)) := s29_3 2
theorem i29_52 : q_ins 29 52 = some (.goto 36, 3, (0, 0, 0, 0, 0)) := s29_3 4
theorem i29_55 : q_ins 29 55 = some (.iload 4, 2, (0, 0, 0, 0, 0)) := s29_3 7
theorem i29_57 : q_ins 29 57 = some (.iconst (-1), 1, (0, 0, 0, 0, 0)) := s29_3 9
theorem i29_58 : q_ins 29 58 = some (.if_icmp .eq 30, 3, (0, 0, 0, 0, 0)) := s29_3 10
theorem i29_61 : q_ins 29 61 = some (.iload 4, 2, (0, 0, 0, 0, 0)) := s29_3 13
theorem i29_63 : q_ins 29 63 = some (.iload_n 2, 1, (0, 0, 0, 0, 0)) := s29_3 15
theorem i29_64 : q_ins 29 64 = some (.if_icmp .ge 21, 3, (0, 0, 0, 0, 0)) := s29_4 0
theorem i29_67 : q_ins 29 67 = some (.aload_n 0, 1, (0, 0, 0, 0, 0)) := s29_4 3
theorem i29_68 : q_ins 29 68 = some (.iload 4, 2, (0, 0, 0, 0, 0)) := s29_4 4
theorem i29_70 : q_ins 29 70 = some (.invokevirtual 29, 3, (75, 24, 2, 0, 8)) := s29_4 6
theorem i29_73 : q_ins 29 73 = some (.iload 6, 2, (0, 0, 0, 0, 0)) := s29_4 9
theorem i29_75 : q_ins 29 75 = some (.if_icmp .ne 10, 3, (0, 0, 0, 0, 0)) := s29_4 11
theorem i29_78 : q_ins 29 78 = some (.iload 4, 2, (0, 0, 0, 0, 0)) := s29_4 14
theorem i29_80 : q_ins 29 80 = some (.iconst 1, 1, (0, 0, 0, 0, 0)) := s29_5 0
theorem i29_81 : q_ins 29 81 = some (.iadd, 1, (0, 0, 0, 0, 0)) := s29_5 1
theorem i29_82 : q_ins 29 82 = some (.goto 4, 3, (0, 0, 0, 0, 0)) := s29_5 2
theorem i29_85 : q_ins 29 85 = some (.iconst (-1), 1, (0, 0, 0, 0, 0)) := s29_5 5
theorem i29_86 : q_ins 29 86 = some (.istore 4, 2, (0, 0, 0, 0, 0)) := s29_5 6
theorem i29_88 : q_ins 29 88 = some (.iinc 5 1, 3, (0, 0, 0, 0, 0)) := s29_5 8
theorem i29_91 : q_ins 29 91 = some (.goto (-83), 3, (0, 0, 0, 0, 0)) := s29_5 11
theorem i29_94 : q_ins 29 94 = some (.sipush 132, 3, (0, 0, 0, 0, 0)) := s29_5 14
theorem i29_97 : q_ins 29 97 = some (.ireturn, 1, (0, 0, 0, 0, 0)) := s29_6 1
theorem s30_0 (j : Nat) : q_ins 30 j = q_at q_c30 j := rfl
theorem i30_0 : q_ins 30 0 = some (.aload_n 0, 1, (0, 0, 0, 0, 0)) := s30_0 0
theorem i30_1 : q_ins 30 1 = some (.getfield 9, 3, (1469, 30, 0, 5, 0)) := s30_0 1
theorem i30_4 : q_ins 30 4 = some (.arraylength, 1, (0, 0, 0, 0, 0)) := s30_0 4
theorem i30_5 : q_ins 30 5 = some (.aload_n 0, 1, (0, 0, 0, 0, 0)) := s30_0 5
theorem i30_6 : q_ins 30 6 = some (.invokevirtual 335, 3, (85, 31, 1, 0, 30)) := s30_0 6
theorem i30_9 : q_ins 30 9 = some (.ishr, 1, (0, 0, 0, 0, 0)) := s30_0 9
theorem i30_10 : q_ins 30 10 = some (.ireturn, 1, (0, 0, 0, 0, 0)) := s30_0 10
theorem s31_0 (j : Nat) : q_ins 31 j = q_at q_c31 j := rfl
theorem i31_0 : q_ins 31 0 = some (.getstatic 38, 3, (0, 0, 0, 1, 0)) := s31_0 0
theorem i31_3 : q_ins 31 3 = some (.ifCond .eq 10, 3, (0, 0, 0, 0, 0)) := s31_0 3
theorem i31_6 : q_ins 31 6 = some (.aload_n 0, 1, (0, 0, 0, 0, 0)) := s31_0 6
theorem i31_7 : q_ins 31 7 = some (.getfield 15, 3, (1470, 30, 1, 6, 0)) := s31_0 7
theorem i31_10 : q_ins 31 10 = some (.goto 4, 3, (0, 0, 0, 0, 0)) := s31_0 10
theorem i31_13 : q_ins 31 13 = some (.iconst 1, 1, (0, 0, 0, 0, 0)) := s31_0 13
theorem i31_14 : q_ins 31 14 = some (.ireturn, 1, (0, 0, 0, 0, 0)) := s31_0 14
theorem s32_0 (j : Nat) : q_ins 32 j = q_at q_c32 j := rfl
theorem s32_1 (j : Nat) : q_ins 32 (j + 16) = q_at q_c32_1 j := s32_0 (j + 16)
theorem i32_0 : q_ins 32 0 = some (.aload_n 0, 1, (0, 0, 0, 0, 0)) := s32_0 0
theorem i32_1 : q_ins 32 1 = some (.invokevirtual 492, 3, (86, 33, 1, 0, 30)) := s32_0 1
theorem i32_4 : q_ins 32 4 = some (.ifCond .eq 12, 3, (0, 0, 0, 0, 0)) := s32_0 4
theorem i32_7 : q_ins 32 7 = some (.aload_n 0, 1, (0, 0, 0, 0, 0)) := s32_0 7
theorem i32_8 : q_ins 32 8 = some (.getfield 9, 3, (1469, 30, 0, 5, 0)) := s32_0 8
theorem i32_11 : q_ins 32 11 = some (.iload_n 1, 1, (0, 0, 0, 0, 0)) := s32_0 11
theorem i32_12 : q_ins 32 12 = some (.invokestatic 495, 3, (87, 34, 2, 2, 0)) := s32_0 12
theorem i32_15 : q_ins 32 15 = some (.ireturn, 1, (0, 0, 0, 0, 0)) := s32_0 15
theorem i32_16 : q_ins 32 16 = some (.aload_n 0, 1, (0, 0, 0, 0, 0)) := s32_1 0
theorem i32_17 : q_ins 32 17 = some (.getfield 9, 3, (1469, 30, 0, 5, 0)) := s32_1 1
theorem i32_20 : q_ins 32 20 = some (.iload_n 1, 1, (0, 0, 0, 0, 0)) := s32_1 4
theorem i32_21 : q_ins 32 21 = some (.invokestatic 498, 3, (0, 0, 0, 0, 0)) := s32_1 5
theorem i32_24 : q_ins 32 24 = some (.ireturn, 1, (0, 0, 0, 0, 0)) := s32_1 8
theorem s33_0 (j : Nat) : q_ins 33 j = q_at q_c33 j := rfl
theorem s33_1 (j : Nat) : q_ins 33 (j + 16) = q_at q_c33_1 j := s33_0 (j + 16)
theorem i33_0 : q_ins 33 0 = some (.getstatic 38, 3, (0, 0, 0, 1, 0)) := s33_0 0
theorem i33_3 : q_ins 33 3 = some (.ifCond .eq 14, 3, (0, 0, 0, 0, 0)) := s33_0 3
theorem i33_6 : q_ins 33 6 = some (.aload_n 0, 1, (0, 0, 0, 0, 0)) := s33_0 6
theorem i33_7 : q_ins 33 7 = some (.getfield 15, 3, (1470, 30, 1, 6, 0)) := s33_0 7
theorem i33_10 : q_ins 33 10 = some (.ifCond .ne 7, 3, (0, 0, 0, 0, 0)) := s33_0 10
theorem i33_13 : q_ins 33 13 = some (.iconst 1, 1, (0, 0, 0, 0, 0)) := s33_0 13
theorem i33_14 : q_ins 33 14 = some (.goto 4, 3, (0, 0, 0, 0, 0)) := s33_0 14
theorem i33_17 : q_ins 33 17 = some (.iconst 0, 1, (0, 0, 0, 0, 0)) := s33_1 1
theorem i33_18 : q_ins 33 18 = some (.ireturn, 1, (0, 0, 0, 0, 0)) := s33_1 2
theorem s34_0 (j : Nat) : q_ins 34 j = q_at q_c34 j := rfl
theorem i34_0 : q_ins 34 0 = some (.iload_n 1, 1, (0, 0, 0, 0, 0)) := s34_0 0
theorem i34_1 : q_ins 34 1 = some (.aload_n 0, 1, (0, 0, 0, 0, 0)) := s34_0 1
theorem i34_2 : q_ins 34 2 = some (.arraylength, 1, (0, 0, 0, 0, 0)) := s34_0 2
theorem i34_3 : q_ins 34 3 = some (.invokestatic 9, 3, (88, 35, 2, 2, 0)) := s34_0 3
theorem i34_6 : q_ins 34 6 = some (.aload_n 0, 1, (0, 0, 0, 0, 0)) := s34_0 6
theorem i34_7 : q_ins 34 7 = some (.iload_n 1, 1, (0, 0, 0, 0, 0)) := s34_0 7
theorem i34_8 : q_ins 34 8 = some (.baload, 1, (0, 0, 0, 0, 0)) := s34_0 8
theorem i34_9 : q_ins 34 9 = some (.sipush 255, 3, (0, 0, 0, 0, 0)) := s34_0 9
theorem i34_12 : q_ins 34 12 = some (.iand, 1, (0, 0, 0, 0, 0)) := s34_0 12
theorem i34_13 : q_ins 34 13 = some (.i2c, 1, (0, 0, 0, 0, 0)) := s34_0 13
theorem i34_14 : q_ins 34 14 = some (.ireturn, 1, (0, 0, 0, 0, 0)) := s34_0 14
theorem s35_0 (j : Nat) : q_ins 35 j = q_at q_c35 j := rfl
theorem i35_0 : q_ins 35 0 = some (.iload_n 0, 1, (0, 0, 0, 0, 0)) := s35_0 0
theorem i35_1 : q_ins 35 1 = some (.iload_n 1, 1, (0, 0, 0, 0, 0)) := s35_0 1
theorem i35_2 : q_ins 35 2 = some (.getstatic 1053, 3, (1, 0, 0, 2, 0)) := s35_0 2
theorem i35_5 : q_ins 35 5 = some (.invokestatic 1059, 3, (89, 36, 3, 2, 0)) := s35_0 5
theorem i35_8 : q_ins 35 8 = some (.pop, 1, (0, 0, 0, 0, 0)) := s35_0 8
theorem i35_9 : q_ins 35 9 = some (.return_, 1, (0, 0, 0, 0, 0)) := s35_0 9
theorem s36_0 (j : Nat) : q_ins 36 j = q_at q_c36 j := rfl
theorem s36_1 (j : Nat) : q_ins 36 (j + 16) = q_at q_c36_1 j := s36_0 (j + 16)
theorem i36_0 : q_ins 36 0 = some (.iload_n 0, 1, (0, 0, 0, 0, 0)) := s36_0 0
theorem i36_1 : q_ins 36 1 = some (.ifCond .lt 8, 3, (0, 0, 0, 0, 0)) := s36_0 1
theorem i36_4 : q_ins 36 4 = some (.iload_n 0, 1, (0, 0, 0, 0, 0)) := s36_0 4
theorem i36_5 : q_ins 36 5 = some (.iload_n 1, 1, (0, 0, 0, 0, 0)) := s36_0 5
theorem i36_6 : q_ins 36 6 = some (.if_icmp .lt 10, 3, (0, 0, 0, 0, 0)) := s36_0 6
theorem i36_9 : q_ins 36 9 = some (.aload_n 2, 1, (0, 0, 0, 0, 0)) := s36_0 9
theorem i36_10 : q_ins 36 10 = some (.iload_n 0, 1, (0, 0, 0, 0, 0)) := s36_0 10
theorem i36_11 : q_ins 36 11 = some (.iload_n 1, 1, (0, 0, 0, 0, 0)) := s36_0 11
theorem i36_12 : q_ins 36 12 = some (.invokestatic 95, 3, (0, 0, 0, 0, 0)) := s36_0 12
theorem i36_15 : q_ins 36 15 = some (.athrow, 1, (0, 0, 0, 0, 0)) := s36_0 15
theorem i36_16 : q_ins 36 16 = some (.iload_n 0, 1, (0, 0, 0, 0, 0)) := s36_1 0
theorem i36_17 : q_ins 36 17 = some (.ireturn, 1, (0, 0, 0, 0, 0)) := s36_1 1
theorem s37_0 (j : Nat) : q_ins 37 j = q_at q_c37 j := rfl
theorem s37_1 (j : Nat) : q_ins 37 (j + 16) = q_at q_c37_1 j := s37_0 (j + 16)
theorem s37_2 (j : Nat) : q_ins 37 (j + 32) = q_at q_c37_2 j := s37_1 (j + 16)
theorem i37_0 : q_ins 37 0 = some (.iconst 0, 1, (0, 0, 0, 0, 0)) := s37_0 0
theorem i37_1 : q_ins 37 1 = some (.istore_n 3, 1, (0, 0, 0, 0, 0)) := s37_0 1
theorem i37_2 : q_ins 37 2 = some (.iload_n 1, 1, (0, 0, 0, 0, 0)) := s37_0 2
theorem i37_3 : q_ins 37 3 = some (.istore 4, 2, (0, 0, 0, 0, 0)) := s37_0 3
theorem i37_5 : q_ins 37 5 = some (.iload 4, 2, (0, 0, 0, 0, 0)) := s37_0 5
theorem i37_7 : q_ins 37 7 = some (.iload_n 2, 1, (0, 0, 0, 0, 0)) := s37_0 7
theorem i37_8 : q_ins 37 8 = some (.if_icmp .ge 30, 3, (0, 0, 0, 0, 0)) := s37_0 8
theorem i37_11 : q_ins 37 11 = some (.iload_n 3, 1, (0, 0, 0, 0, 0)) := s37_0 11
theorem i37_12 : q_ins 37 12 = some (.bipush 10, 2, (0, 0, 0, 0, 0)) := s37_0 12
theorem i37_14 : q_ins 37 14 = some (.imul, 1, (0, 0, 0, 0, 0)) := s37_0 14
theorem i37_15 : q_ins 37 15 = some (.aload_n 0, 1, (0, 0, 0, 0, 0)) := s37_0 15
theorem i37_16 : q_ins 37 16 = some (.iload 4, 2, (0, 0, 0, 0, 0)) := s37_1 0
theorem i37_18 : q_ins 37 18 = some (.invokevirtual 29, 3, (75, 24, 2, 0, 8)) := s37_1 2
theorem i37_21 : q_ins 37 21 = some (.iadd, 1, (0, 0, 0, 0, 0)) := s37_1 5
theorem i37_22 : q_ins 37 22 = some (.bipush 48, 2, (0, 0, 0, 0, 0)) := s37_1 6
theorem i37_24 : q_ins 37 24 = some (.isub, 1, (0, 0, 0, 0, 0)) := s37_1 8
theorem i37_25 : q_ins 37 25 = some (.sipush 10000, 3, (0, 0, 0, 0, 0)) := s37_1 9
theorem i37_28 : q_ins 37 28 = some (.invokestatic 57, 3, (600, 0, 0, 11, 0)) := s37_1 12
theorem i37_31 : q_ins 37 31 = some (.istore_n 3, 1, (0, 0, 0, 0, 0)) := s37_1 15
theorem i37_32 : q_ins 37 32 = some (.iinc 4 1, 3, (0, 0, 0, 0, 0)) := s37_2 0
theorem i37_35 : q_ins 37 35 = some (.goto (-30), 3, (0, 0, 0, 0, 0)) := s37_2 3
theorem i37_38 : q_ins 37 38 = some (.iload_n 3, 1, (0, 0, 0, 0, 0)) := s37_2 6
theorem i37_39 : q_ins 37 39 = some (.ireturn, 1, (0, 0, 0, 0, 0)) := s37_2 7
theorem s38_0 (j : Nat) : q_ins 38 j = q_at q_c38 j := rfl
theorem s38_1 (j : Nat) : q_ins 38 (j + 16) = q_at q_c38_1 j := s38_0 (j + 16)
theorem s38_2 (j : Nat) : q_ins 38 (j + 32) = q_at q_c38_2 j := s38_1 (j + 16)
theorem s38_3 (j : Nat) : q_ins 38 (j + 48) = q_at q_c38_3 j := s38_2 (j + 16)
theorem s38_4 (j : Nat) : q_ins 38 (j + 64) = q_at q_c38_4 j := s38_3 (j + 16)
theorem s38_5 (j : Nat) : q_ins 38 (j + 80) = q_at q_c38_5 j := s38_4 (j + 16)
theorem s38_6 (j : Nat) : q_ins 38 (j + 96) = q_at q_c38_6 j := s38_5 (j + 16)
theorem s38_7 (j : Nat) : q_ins 38 (j + 112) = q_at q_c38_7 j := s38_6 (j + 16)
theorem s38_8 (j : Nat) : q_ins 38 (j + 128) = q_at q_c38_8 j := s38_7 (j + 16)
theorem s38_9 (j : Nat) : q_ins 38 (j + 144) = q_at q_c38_9 j := s38_8 (j + 16)
theorem s38_10 (j : Nat) : q_ins 38 (j + 160) = q_at q_c38_10 j := s38_9 (j + 16)
theorem i38_0 : q_ins 38 0 = some (.iload_n 0, 1, (0, 0, 0, 0, 0)) := s38_0 0
theorem i38_1 : q_ins 38 1 = some (.tableswitch 157 35 62 #[155, 157, 157, 157, 157, 155, 155, 155, 155, 157, 155, 157, 155, 157, 157, 157, 157, 157, 157, 157, 157, 157, 157, 157, 155, 127, 155, 141], 127, (0, 0, 0, 0, 0)) := s38_0 1
theorem i38_128 : q_ins 38 128 = some (.iload_n 1, 1, (0, 0, 0, 0, 0)) := s38_8 0
theorem i38_129 : q_ins 38 129 = some (.bipush 61, 2, (0, 0, 0, 0, 0)) := s38_8 1
theorem i38_131 : q_ins 38 131 = some (.if_icmp .ne 9, 3, (0, 0, 0, 0, 0)) := s38_8 3
theorem i38_134 : q_ins 38 134 = some (.sipush 128, 3, (0, 0, 0, 0, 0)) := s38_8 6
theorem i38_137 : q_ins 38 137 = some (.goto 4, 3, (0, 0, 0, 0, 0)) := s38_8 9
theorem i38_140 : q_ins 38 140 = some (.iload_n 0, 1, (0, 0, 0, 0, 0)) := s38_8 12
theorem i38_141 : q_ins 38 141 = some (.ireturn, 1, (0, 0, 0, 0, 0)) := s38_8 13
theorem i38_142 : q_ins 38 142 = some (.iload_n 1, 1, (0, 0, 0, 0, 0)) := s38_8 14
theorem i38_143 : q_ins 38 143 = some (.bipush 61, 2, (0, 0, 0, 0, 0)) := s38_8 15
theorem i38_145 : q_ins 38 145 = some (.if_icmp .ne 9, 3, (0, 0, 0, 0, 0)) := s38_9 1
theorem i38_148 : q_ins 38 148 = some (.sipush 129, 3, (0, 0, 0, 0, 0)) := s38_9 4
theorem i38_151 : q_ins 38 151 = some (.goto 4, 3, (0, 0, 0, 0, 0)) := s38_9 7
theorem i38_154 : q_ins 38 154 = some (.iload_n 0, 1, (0, 0, 0, 0, 0)) := s38_9 10
theorem i38_155 : q_ins 38 155 = some (.ireturn, 1, (0, 0, 0, 0, 0)) := s38_9 11
theorem i38_156 : q_ins 38 156 = some (.iload_n 0, 1, (0, 0, 0, 0, 0)) := s38_9 12
theorem i38_157 : q_ins 38 157 = some (.ireturn, 1, (0, 0, 0, 0, 0)) := s38_9 13
theorem i38_158 : q_ins 38 158 = some (.sipush 132, 3, (0, 0, 0, 0, 0)) := s38_9 14
theorem i38_161 : q_ins 38 161 = some (.ireturn, 1, (0, 0, 0, 0, 0)) := s38_10 1
theorem s39_0 (j : Nat) : q_ins 39 j = q_at q_c39 j := rfl
theorem s39_1 (j : Nat) : q_ins 39 (j + 16) = q_at q_c39_1 j := s39_0 (j + 16)
theorem s39_2 (j : Nat) : q_ins 39 (j + 32) = q_at q_c39_2 j := s39_1 (j + 16)
theorem s39_3 (j : Nat) : q_ins 39 (j + 48) = q_at q_c39_3 j := s39_2 (j + 16)
theorem s39_4 (j : Nat) : q_ins 39 (j + 64) = q_at q_c39_4 j := s39_3 (j + 16)
theorem s39_5 (j : Nat) : q_ins 39 (j + 80) = q_at q_c39_5 j := s39_4 (j + 16)
theorem s39_6 (j : Nat) : q_ins 39 (j + 96) = q_at q_c39_6 j := s39_5 (j + 16)
theorem s39_7 (j : Nat) : q_ins 39 (j + 112) = q_at q_c39_7 j := s39_6 (j + 16)
theorem s39_8 (j : Nat) : q_ins 39 (j + 128) = q_at q_c39_8 j := s39_7 (j + 16)
theorem s39_9 (j : Nat) : q_ins 39 (j + 144) = q_at q_c39_9 j := s39_8 (j + 16)
theorem s39_10 (j : Nat) : q_ins 39 (j + 160) = q_at q_c39_10 j := s39_9 (j + 16)
theorem s39_11 (j : Nat) : q_ins 39 (j + 176) = q_at q_c39_11 j := s39_10 (j + 16)
theorem i39_0 : q_ins 39 0 = some (.aload_n 0, 1, (0, 0, 0, 0, 0)) := s39_0 0
theorem i39_1 : q_ins 39 1 = some (.getfield 41, 3, (40, 4, 8, 0, 0)) := s39_0 1
theorem i39_4 : q_ins 39 4 = some (.sipush 200, 3, (0, 0, 0, 0, 0)) := s39_0 4
theorem i39_7 : q_ins 39 7 = some (.isub, 1, (0, 0, 0, 0, 0)) := s39_0 7
theorem i39_8 : q_ins 39 8 = some (.istore_n 1, 1, (0, 0, 0, 0, 0)) := s39_0 8
theorem i39_9 : q_ins 39 9 = some (.iload_n 1, 1, (0, 0, 0, 0, 0)) := s39_0 9
theorem i39_10 : q_ins 39 10 = some (.bipush 14, 2, (0, 0, 0, 0, 0)) := s39_0 10
theorem i39_12 : q_ins 39 12 = some (.if_icmp .lt 9, 3, (0, 0, 0, 0, 0)) := s39_0 12
theorem i39_15 : q_ins 39 15 = some (.iload_n 1, 1, (0, 0, 0, 0, 0)) := s39_0 15
theorem i39_16 : q_ins 39 16 = some (.bipush 20, 2, (0, 0, 0, 0, 0)) := s39_1 0
theorem i39_18 : q_ins 39 18 = some (.if_icmp .le 11, 3, (0, 0, 0, 0, 0)) := s39_1 2
theorem i39_21 : q_ins 39 21 = some (.aload_n 0, 1, (0, 0, 0, 0, 0)) := s39_1 5
theorem i39_22 : q_ins 39 22 = some (.iconst 1, 1, (0, 0, 0, 0, 0)) := s39_1 6
theorem i39_23 : q_ins 39 23 = some (.invokevirtual 77, 3, (90, 40, 2, 0, 4)) := s39_1 7
theorem i39_26 : q_ins 39 26 = some (.goto 162, 3, (0, 0, 0, 0, 0)) := s39_1 10
theorem i39_29 : q_ins 39 29 = some (.iload_n 1, 1, (0, 0, 0, 0, 0)) := s39_1 13
theorem i39_30 : q_ins 39 30 = some (.bipush 16, 2, (0, 0, 0, 0, 0)) := s39_1 14
theorem i39_32 : q_ins 39 32 = some (.if_icmp .gt 23, 3, (0, 0, 0, 0, 0)) := s39_2 0
theorem i39_35 : q_ins 39 35 = some (.aload_n 0, 1, (0, 0, 0, 0, 0)) := s39_2 3
theorem i39_36 : q_ins 39 36 = some (.getfield 25, 3, (35, 4, 3, 2, 0)) := s39_2 4
theorem i39_39 : q_ins 39 39 = some (.iload_n 1, 1, (0, 0, 0, 0, 0)) := s39_2 7
theorem i39_40 : q_ins 39 40 = some (.bipush 14, 2, (0, 0, 0, 0, 0)) := s39_2 8
theorem i39_42 : q_ins 39 42 = some (.isub, 1, (0, 0, 0, 0, 0)) := s39_2 10
theorem i39_43 : q_ins 39 43 = some (.iaload, 1, (0, 0, 0, 0, 0)) := s39_2 11
theorem i39_44 : q_ins 39 44 = some (.ifCond .le 11, 3, (0, 0, 0, 0, 0)) := s39_2 12
theorem i39_47 : q_ins 39 47 = some (.aload_n 0, 1, (0, 0, 0, 0, 0)) := s39_2 15
theorem i39_48 : q_ins 39 48 = some (.iconst 4, 1, (0, 0, 0, 0, 0)) := s39_3 0
theorem i39_49 : q_ins 39 49 = some (.invokevirtual 77, 3, (90, 40, 2, 0, 4)) := s39_3 1
theorem i39_52 : q_ins 39 52 = some (.goto 136, 3, (0, 0, 0, 0, 0)) := s39_3 4
theorem i39_55 : q_ins 39 55 = some (.aload_n 0, 1, (0, 0, 0, 0, 0)) := s39_3 7
theorem i39_56 : q_ins 39 56 = some (.getfield 47, 3, (42, 4, 10, 0, 0)) := s39_3 8
theorem i39_59 : q_ins 39 59 = some (.bipush 24, 2, (0, 0, 0, 0, 0)) := s39_3 11
theorem i39_61 : q_ins 39 61 = some (.if_icmp .lt 12, 3, (0, 0, 0, 0, 0)) := s39_3 13
theorem i39_64 : q_ins 39 64 = some (.aload_n 0, 1, (0, 0, 0, 0, 0)) := s39_4 0
theorem i39_65 : q_ins 39 65 = some (.bipush 6, 2, (0, 0, 0, 0, 0)) := s39_4 1
theorem i39_67 : q_ins 39 67 = some (.invokevirtual 77, 3, (90, 40, 2, 0, 4)) := s39_4 3
theorem i39_70 : q_ins 39 70 = some (.goto 118, 3, (0, 0, 0, 0, 0)) := s39_4 6
theorem i39_73 : q_ins 39 73 = some (.aload_n 0, 1, (0, 0, 0, 0, 0)) := s39_4 9
theorem i39_74 : q_ins 39 74 = some (.getfield 28, 3, (36, 4, 4, 2, 0)) := s39_4 10
theorem i39_77 : q_ins 39 77 = some (.aload_n 0, 1, (0, 0, 0, 0, 0)) := s39_4 13
theorem i39_78 : q_ins 39 78 = some (.getfield 47, 3, (42, 4, 10, 0, 0)) := s39_4 14
theorem i39_81 : q_ins 39 81 = some (.iload_n 1, 1, (0, 0, 0, 0, 0)) := s39_5 1
theorem i39_82 : q_ins 39 82 = some (.iastore, 1, (0, 0, 0, 0, 0)) := s39_5 2
theorem i39_83 : q_ins 39 83 = some (.aload_n 0, 1, (0, 0, 0, 0, 0)) := s39_5 3
theorem i39_84 : q_ins 39 84 = some (.getfield 31, 3, (37, 4, 5, 2, 0)) := s39_5 4
theorem i39_87 : q_ins 39 87 = some (.aload_n 0, 1, (0, 0, 0, 0, 0)) := s39_5 7
theorem i39_88 : q_ins 39 88 = some (.getfield 47, 3, (42, 4, 10, 0, 0)) := s39_5 8
theorem i39_91 : q_ins 39 91 = some (.iconst (-1), 1, (0, 0, 0, 0, 0)) := s39_5 11
theorem i39_92 : q_ins 39 92 = some (.iastore, 1, (0, 0, 0, 0, 0)) := s39_5 12
theorem i39_93 : q_ins 39 93 = some (.aload_n 0, 1, (0, 0, 0, 0, 0)) := s39_5 13
theorem i39_94 : q_ins 39 94 = some (.getfield 34, 3, (38, 4, 6, 2, 0)) := s39_5 14
theorem i39_97 : q_ins 39 97 = some (.aload_n 0, 1, (0, 0, 0, 0, 0)) := s39_6 1
theorem i39_98 : q_ins 39 98 = some (.getfield 47, 3, (42, 4, 10, 0, 0)) := s39_6 2
theorem i39_101 : q_ins 39 101 = some (.iconst (-1), 1, (0, 0, 0, 0, 0)) := s39_6 5
theorem i39_102 : q_ins 39 102 = some (.iastore, 1, (0, 0, 0, 0, 0)) := s39_6 6
theorem i39_103 : q_ins 39 103 = some (.aload_n 0, 1, (0, 0, 0, 0, 0)) := s39_6 7
theorem i39_104 : q_ins 39 104 = some (.invokevirtual 81, 3, (91, 41, 1, 0, 4)) := s39_6 8
theorem i39_107 : q_ins 39 107 = some (.iload_n 1, 1, (0, 0, 0, 0, 0)) := s39_6 11
theorem i39_108 : q_ins 39 108 = some (.bipush 16, 2, (0, 0, 0, 0, 0)) := s39_6 12
theorem i39_110 : q_ins 39 110 = some (.if_icmp .gt 57, 3, (0, 0, 0, 0, 0)) := s39_6 14
theorem i39_113 : q_ins 39 113 = some (.aload_n 0, 1, (0, 0, 0, 0, 0)) := s39_7 1
theorem i39_114 : q_ins 39 114 = some (.iload_n 1, 1, (0, 0, 0, 0, 0)) := s39_7 2
theorem i39_115 : q_ins 39 115 = some (.bipush 14, 2, (0, 0, 0, 0, 0)) := s39_7 3
theorem i39_117 : q_ins 39 117 = some (.isub, 1, (0, 0, 0, 0, 0)) := s39_7 5
theorem i39_118 : q_ins 39 118 = some (.putfield 50, 3, (43, 4, 11, 0, 0)) := s39_7 6
theorem i39_121 : q_ins 39 121 = some (.aload_n 0, 1, (0, 0, 0, 0, 0)) := s39_7 9
theorem i39_122 : q_ins 39 122 = some (.getfield 22, 3, (34, 4, 2, 2, 0)) := s39_7 10
theorem i39_125 : q_ins 39 125 = some (.aload_n 0, 1, (0, 0, 0, 0, 0)) := s39_7 13
theorem i39_126 : q_ins 39 126 = some (.getfield 50, 3, (43, 4, 11, 0, 0)) := s39_7 14
theorem i39_129 : q_ins 39 129 = some (.aload_n 0, 1, (0, 0, 0, 0, 0)) := s39_8 1
theorem i39_130 : q_ins 39 130 = some (.getfield 44, 3, (41, 4, 9, 0, 0)) := s39_8 2
theorem i39_133 : q_ins 39 133 = some (.iastore, 1, (0, 0, 0, 0, 0)) := s39_8 5
theorem i39_134 : q_ins 39 134 = some (.aload_n 0, 1, (0, 0, 0, 0, 0)) := s39_8 6
theorem i39_135 : q_ins 39 135 = some (.aload_n 0, 1, (0, 0, 0, 0, 0)) := s39_8 7
theorem i39_136 : q_ins 39 136 = some (.getfield 50, 3, (43, 4, 11, 0, 0)) := s39_8 8
theorem i39_139 : q_ins 39 139 = some (.ifCond .ne 7, 3, (0, 0, 0, 0, 0)) := s39_8 11
theorem i39_142 : q_ins 39 142 = some (.iconst 0, 1, (0, 0, 0, 0, 0)) := s39_8 14
theorem i39_143 : q_ins 39 143 = some (.goto 4, 3, (0, 0, 0, 0, 0)) := s39_8 15
theorem i39_146 : q_ins 39 146 = some (.iconst 2, 1, (0, 0, 0, 0, 0)) := s39_9 2
theorem i39_147 : q_ins 39 147 = some (.iconst 0, 1, (0, 0, 0, 0, 0)) := s39_9 3
theorem i39_148 : q_ins 39 148 = some (.invokevirtual 84, 3, (92, 42, 3, 0, 4)) := s39_9 4
theorem i39_151 : q_ins 39 151 = some (.aload_n 0, 1, (0, 0, 0, 0, 0)) := s39_9 7
theorem i39_152 : q_ins 39 152 = some (.getfield 25, 3, (35, 4, 3, 2, 0)) := s39_9 8
theorem i39_155 : q_ins 39 155 = some (.aload_n 0, 1, (0, 0, 0, 0, 0)) := s39_9 11
theorem i39_156 : q_ins 39 156 = some (.getfield 50, 3, (43, 4, 11, 0, 0)) := s39_9 12
theorem i39_159 : q_ins 39 159 = some (.aload_n 0, 1, (0, 0, 0, 0, 0)) := s39_9 15
theorem i39_160 : q_ins 39 160 = some (.getfield 44, 3, (41, 4, 9, 0, 0)) := s39_10 0
theorem i39_163 : q_ins 39 163 = some (.iastore, 1, (0, 0, 0, 0, 0)) := s39_10 3
theorem i39_164 : q_ins 39 164 = some (.goto 8, 3, (0, 0, 0, 0, 0)) := s39_10 4
theorem i39_167 : q_ins 39 167 = some (.aload_n 0, 1, (0, 0, 0, 0, 0)) := s39_10 7
theorem i39_168 : q_ins 39 168 = some (.iload_n 1, 1, (0, 0, 0, 0, 0)) := s39_10 8
theorem i39_169 : q_ins 39 169 = some (.invokevirtual 88, 3, (93, 53, 2, 0, 4)) := s39_10 9
theorem i39_172 : q_ins 39 172 = some (.aload_n 0, 1, (0, 0, 0, 0, 0)) := s39_10 12
theorem i39_173 : q_ins 39 173 = some (.bipush 59, 2, (0, 0, 0, 0, 0)) := s39_10 13
theorem i39_175 : q_ins 39 175 = some (.invokevirtual 91, 3, (94, 51, 2, 0, 4)) := s39_10 15
theorem i39_178 : q_ins 39 178 = some (.aload_n 0, 1, (0, 0, 0, 0, 0)) := s39_11 2
theorem i39_179 : q_ins 39 179 = some (.dup, 1, (0, 0, 0, 0, 0)) := s39_11 3
theorem i39_180 : q_ins 39 180 = some (.getfield 47, 3, (42, 4, 10, 0, 0)) := s39_11 4
theorem i39_183 : q_ins 39 183 = some (.iconst 1, 1, (0, 0, 0, 0, 0)) := s39_11 7
theorem i39_184 : q_ins 39 184 = some (.iadd, 1, (0, 0, 0, 0, 0)) := s39_11 8
theorem i39_185 : q_ins 39 185 = some (.putfield 47, 3, (42, 4, 10, 0, 0)) := s39_11 9
theorem i39_188 : q_ins 39 188 = some (.return_, 1, (0, 0, 0, 0, 0)) := s39_11 12
theorem s40_0 (j : Nat) : q_ins 40 j = q_at q_c40 j := rfl
theorem s40_1 (j : Nat) : q_ins 40 (j + 16) = q_at q_c40_1 j := s40_0 (j + 16)
theorem s40_2 (j : Nat) : q_ins 40 (j + 32) = q_at q_c40_2 j := s40_1 (j + 16)
theorem i40_0 : q_ins 40 0 = some (.aload_n 0, 1, (0, 0, 0, 0, 0)) := s40_0 0
theorem i40_1 : q_ins 40 1 = some (.getfield 57, 3, (45, 4, 13, 0, 0)) := s40_0 1
theorem i40_4 : q_ins 40 4 = some (.ifCond .ne 24, 3, (0, 0, 0, 0, 0)) := s40_0 4
theorem i40_7 : q_ins 40 7 = some (.aload_n 0, 1, (0, 0, 0, 0, 0)) := s40_0 7
theorem i40_8 : q_ins 40 8 = some (.iload_n 1, 1, (0, 0, 0, 0, 0)) := s40_0 8
theorem i40_9 : q_ins 40 9 = some (.putfield 57, 3, (45, 4, 13, 0, 0)) := s40_0 9
theorem i40_12 : q_ins 40 12 = some (.aload_n 0, 1, (0, 0, 0, 0, 0)) := s40_0 12
theorem i40_13 : q_ins 40 13 = some (.aload_n 0, 1, (0, 0, 0, 0, 0)) := s40_0 13
theorem i40_14 : q_ins 40 14 = some (.getfield 12, 3, (32, 4, 0, 2, 0)) := s40_0 14
theorem i40_17 : q_ins 40 17 = some (.getfield 129, 3, (84, 8, 2, 2, 0)) := s40_1 1
theorem i40_20 : q_ins 40 20 = some (.aload_n 0, 1, (0, 0, 0, 0, 0)) := s40_1 4
theorem i40_21 : q_ins 40 21 = some (.getfield 37, 3, (39, 4, 7, 0, 0)) := s40_1 5
theorem i40_24 : q_ins 40 24 = some (.iaload, 1, (0, 0, 0, 0, 0)) := s40_1 8
theorem i40_25 : q_ins 40 25 = some (.putfield 60, 3, (46, 4, 14, 0, 0)) := s40_1 9
theorem i40_28 : q_ins 40 28 = some (.aload_n 0, 1, (0, 0, 0, 0, 0)) := s40_1 12
theorem i40_29 : q_ins 40 29 = some (.sipush 131, 3, (0, 0, 0, 0, 0)) := s40_1 13
theorem i40_32 : q_ins 40 32 = some (.putfield 41, 3, (40, 4, 8, 0, 0)) := s40_2 0
theorem i40_35 : q_ins 40 35 = some (.return_, 1, (0, 0, 0, 0, 0)) := s40_2 3
theorem s41_0 (j : Nat) : q_ins 41 j = q_at q_c41 j := rfl
theorem s41_1 (j : Nat) : q_ins 41 (j + 16) = q_at q_c41_1 j := s41_0 (j + 16)
theorem s41_2 (j : Nat) : q_ins 41 (j + 32) = q_at q_c41_2 j := s41_1 (j + 16)
theorem i41_0 : q_ins 41 0 = some (.aload_n 0, 1, (0, 0, 0, 0, 0)) := s41_0 0
theorem i41_1 : q_ins 41 1 = some (.getfield 57, 3, (45, 4, 13, 0, 0)) := s41_0 1
theorem i41_4 : q_ins 41 4 = some (.ifCond .ne 43, 3, (0, 0, 0, 0, 0)) := s41_0 4
theorem i41_7 : q_ins 41 7 = some (.aload_n 0, 1, (0, 0, 0, 0, 0)) := s41_0 7
theorem i41_8 : q_ins 41 8 = some (.getfield 37, 3, (39, 4, 7, 0, 0)) := s41_0 8
theorem i41_11 : q_ins 41 11 = some (.aload_n 0, 1, (0, 0, 0, 0, 0)) := s41_0 11
theorem i41_12 : q_ins 41 12 = some (.getfield 12, 3, (32, 4, 0, 2, 0)) := s41_0 12
theorem i41_15 : q_ins 41 15 = some (.getfield 126, 3, (85, 8, 4, 0, 0)) := s41_0 15
theorem i41_18 : q_ins 41 18 = some (.if_icmp .ge 29, 3, (0, 0, 0, 0, 0)) := s41_1 2
theorem i41_21 : q_ins 41 21 = some (.aload_n 0, 1, (0, 0, 0, 0, 0)) := s41_1 5
theorem i41_22 : q_ins 41 22 = some (.dup, 1, (0, 0, 0, 0, 0)) := s41_1 6
theorem i41_23 : q_ins 41 23 = some (.getfield 37, 3, (39, 4, 7, 0, 0)) := s41_1 7
theorem i41_26 : q_ins 41 26 = some (.iconst 1, 1, (0, 0, 0, 0, 0)) := s41_1 10
theorem i41_27 : q_ins 41 27 = some (.iadd, 1, (0, 0, 0, 0, 0)) := s41_1 11
theorem i41_28 : q_ins 41 28 = some (.putfield 37, 3, (39, 4, 7, 0, 0)) := s41_1 12
theorem i41_31 : q_ins 41 31 = some (.aload_n 0, 1, (0, 0, 0, 0, 0)) := s41_1 15
theorem i41_32 : q_ins 41 32 = some (.aload_n 0, 1, (0, 0, 0, 0, 0)) := s41_2 0
theorem i41_33 : q_ins 41 33 = some (.getfield 12, 3, (32, 4, 0, 2, 0)) := s41_2 1
theorem i41_36 : q_ins 41 36 = some (.getfield 72, 3, (83, 8, 1, 2, 0)) := s41_2 4
theorem i41_39 : q_ins 41 39 = some (.aload_n 0, 1, (0, 0, 0, 0, 0)) := s41_2 7
theorem i41_40 : q_ins 41 40 = some (.getfield 37, 3, (39, 4, 7, 0, 0)) := s41_2 8
theorem i41_43 : q_ins 41 43 = some (.iaload, 1, (0, 0, 0, 0, 0)) := s41_2 11
theorem i41_44 : q_ins 41 44 = some (.putfield 41, 3, (40, 4, 8, 0, 0)) := s41_2 12
theorem i41_47 : q_ins 41 47 = some (.return_, 1, (0, 0, 0, 0, 0)) := s41_2 15
theorem s42_0 (j : Nat) : q_ins 42 j = q_at q_c42 j := rfl
theorem s42_1 (j : Nat) : q_ins 42 (j + 16) = q_at q_c42_1 j := s42_0 (j + 16)
theorem s42_2 (j : Nat) : q_ins 42 (j + 32) = q_at q_c42_2 j := s42_1 (j + 16)
theorem s42_3 (j : Nat) : q_ins 42 (j + 48) = q_at q_c42_3 j := s42_2 (j + 16)
theorem i42_0 : q_ins 42 0 = some (.aload_n 0, 1, (0, 0, 0, 0, 0)) := s42_0 0
theorem i42_1 : q_ins 42 1 = some (.iload_n 1, 1, (0, 0, 0, 0, 0)) := s42_0 1
theorem i42_2 : q_ins 42 2 = some (.iload_n 2, 1, (0, 0, 0, 0, 0)) := s42_0 2
theorem i42_3 : q_ins 42 3 = some (.invokevirtual 98, 3, (95, 43, 3, 0, 4)) := s42_0 3
theorem i42_6 : q_ins 42 6 = some (.iconst 0, 1, (0, 0, 0, 0, 0)) := s42_0 6
theorem i42_7 : q_ins 42 7 = some (.istore_n 3, 1, (0, 0, 0, 0, 0)) := s42_0 7
theorem i42_8 : q_ins 42 8 = some (.iload_n 3, 1, (0, 0, 0, 0, 0)) := s42_0 8
theorem i42_9 : q_ins 42 9 = some (.sipush 300, 3, (0, 0, 0, 0, 0)) := s42_0 9
theorem i42_12 : q_ins 42 12 = some (.if_icmp .ge 46, 3, (0, 0, 0, 0, 0)) := s42_0 12
theorem i42_15 : q_ins 42 15 = some (.aload_n 0, 1, (0, 0, 0, 0, 0)) := s42_0 15
theorem i42_16 : q_ins 42 16 = some (.getfield 41, 3, (40, 4, 8, 0, 0)) := s42_1 0
theorem i42_19 : q_ins 42 19 = some (.invokestatic 101, 3, (96, 52, 1, 2, 0)) := s42_1 3
theorem i42_22 : q_ins 42 22 = some (.iload_n 1, 1, (0, 0, 0, 0, 0)) := s42_1 6
theorem i42_23 : q_ins 42 23 = some (.if_icmp .ne 35, 3, (0, 0, 0, 0, 0)) := s42_1 7
theorem i42_26 : q_ins 42 26 = some (.aload_n 0, 1, (0, 0, 0, 0, 0)) := s42_1 10
theorem i42_27 : q_ins 42 27 = some (.getfield 41, 3, (40, 4, 8, 0, 0)) := s42_1 11
theorem i42_30 : q_ins 42 30 = some (.istore 4, 2, (0, 0, 0, 0, 0)) := s42_1 14
theorem i42_32 : q_ins 42 32 = some (.aload_n 0, 1, (0, 0, 0, 0, 0)) := s42_2 0
theorem i42_33 : q_ins 42 33 = some (.invokevirtual 81, 3, (91, 41, 1, 0, 4)) := s42_2 1
theorem i42_36 : q_ins 42 36 = some (.aload_n 0, 1, (0, 0, 0, 0, 0)) := s42_2 4
theorem i42_37 : q_ins 42 37 = some (.iload_n 1, 1, (0, 0, 0, 0, 0)) := s42_2 5
theorem i42_38 : q_ins 42 38 = some (.iload_n 2, 1, (0, 0, 0, 0, 0)) := s42_2 6
theorem i42_39 : q_ins 42 39 = some (.invokevirtual 98, 3, (95, 43, 3, 0, 4)) := s42_2 7
theorem i42_42 : q_ins 42 42 = some (.aload_n 0, 1, (0, 0, 0, 0, 0)) := s42_2 10
theorem i42_43 : q_ins 42 43 = some (.sipush 20000, 3, (0, 0, 0, 0, 0)) := s42_2 11
theorem i42_46 : q_ins 42 46 = some (.iload 4, 2, (0, 0, 0, 0, 0)) := s42_2 14
theorem i42_48 : q_ins 42 48 = some (.iadd, 1, (0, 0, 0, 0, 0)) := s42_3 0
theorem i42_49 : q_ins 42 49 = some (.invokevirtual 104, 3, (97, 46, 2, 0, 4)) := s42_3 1
theorem i42_52 : q_ins 42 52 = some (.iinc 3 1, 3, (0, 0, 0, 0, 0)) := s42_3 4
theorem i42_55 : q_ins 42 55 = some (.goto (-47), 3, (0, 0, 0, 0, 0)) := s42_3 7
theorem i42_58 : q_ins 42 58 = some (.return_, 1, (0, 0, 0, 0, 0)) := s42_3 10
theorem s43_0 (j : Nat) : q_ins 43 j = q_at q_c43 j := rfl
theorem s43_1 (j : Nat) : q_ins 43 (j + 16) = q_at q_c43_1 j := s43_0 (j + 16)
theorem s43_2 (j : Nat) : q_ins 43 (j + 32) = q_at q_c43_2 j := s43_1 (j + 16)
theorem s43_3 (j : Nat) : q_ins 43 (j + 48) = q_at q_c43_3 j := s43_2 (j + 16)
theorem i43_0 : q_ins 43 0 = some (.iload_n 1, 1, (0, 0, 0, 0, 0)) := s43_0 0
theorem i43_1 : q_ins 43 1 = some (.tableswitch 53 0 2 #[27, 36, 44], 27, (0, 0, 0, 0, 0)) := s43_0 1
theorem i43_28 : q_ins 43 28 = some (.aload_n 0, 1, (0, 0, 0, 0, 0)) := s43_1 12
theorem i43_29 : q_ins 43 29 = some (.iconst 1, 1, (0, 0, 0, 0, 0)) := s43_1 13
theorem i43_30 : q_ins 43 30 = some (.iload_n 2, 1, (0, 0, 0, 0, 0)) := s43_1 14
theorem i43_31 : q_ins 43 31 = some (.invokevirtual 84, 3, (92, 42, 3, 0, 4)) := s43_1 15
theorem i43_34 : q_ins 43 34 = some (.goto 25, 3, (0, 0, 0, 0, 0)) := s43_2 2
theorem i43_37 : q_ins 43 37 = some (.aload_n 0, 1, (0, 0, 0, 0, 0)) := s43_2 5
theorem i43_38 : q_ins 43 38 = some (.iload_n 2, 1, (0, 0, 0, 0, 0)) := s43_2 6
theorem i43_39 : q_ins 43 39 = some (.invokevirtual 107, 3, (98, 44, 2, 0, 4)) := s43_2 7
theorem i43_42 : q_ins 43 42 = some (.goto 17, 3, (0, 0, 0, 0, 0)) := s43_2 10
theorem i43_45 : q_ins 43 45 = some (.aload_n 0, 1, (0, 0, 0, 0, 0)) := s43_2 13
theorem i43_46 : q_ins 43 46 = some (.iconst 3, 1, (0, 0, 0, 0, 0)) := s43_2 14
theorem i43_47 : q_ins 43 47 = some (.iload_n 2, 1, (0, 0, 0, 0, 0)) := s43_2 15
theorem i43_48 : q_ins 43 48 = some (.invokevirtual 84, 3, (92, 42, 3, 0, 4)) := s43_3 0
theorem i43_51 : q_ins 43 51 = some (.goto 8, 3, (0, 0, 0, 0, 0)) := s43_3 3
theorem i43_54 : q_ins 43 54 = some (.aload_n 0, 1, (0, 0, 0, 0, 0)) := s43_3 6
theorem i43_55 : q_ins 43 55 = some (.iload_n 2, 1, (0, 0, 0, 0, 0)) := s43_3 7
theorem i43_56 : q_ins 43 56 = some (.invokevirtual 110, 3, (99, 48, 2, 0, 4)) := s43_3 8
theorem i43_59 : q_ins 43 59 = some (.return_, 1, (0, 0, 0, 0, 0)) := s43_3 11
theorem s44_0 (j : Nat) : q_ins 44 j = q_at q_c44 j := rfl
theorem s44_1 (j : Nat) : q_ins 44 (j + 16) = q_at q_c44_1 j := s44_0 (j + 16)
theorem s44_2 (j : Nat) : q_ins 44 (j + 32) = q_at q_c44_2 j := s44_1 (j + 16)
theorem s44_3 (j : Nat) : q_ins 44 (j + 48) = q_at q_c44_3 j := s44_2 (j + 16)
theorem s44_4 (j : Nat) : q_ins 44 (j + 64) = q_at q_c44_4 j := s44_3 (j + 16)
theorem i44_0 : q_ins 44 0 = some (.aload_n 0, 1, (0, 0, 0, 0, 0)) := s44_0 0
theorem i44_1 : q_ins 44 1 = some (.getfield 41, 3, (40, 4, 8, 0, 0)) := s44_0 1
theorem i44_4 : q_ins 44 4 = some (.sipush 224, 3, (0, 0, 0, 0, 0)) := s44_0 4
theorem i44_7 : q_ins 44 7 = some (.if_icmp .ne 26, 3, (0, 0, 0, 0, 0)) := s44_0 7
theorem i44_10 : q_ins 44 10 = some (.aload_n 0, 1, (0, 0, 0, 0, 0)) := s44_0 10
theorem i44_11 : q_ins 44 11 = some (.iload_n 1, 1, (0, 0, 0, 0, 0)) := s44_0 11
theorem i44_12 : q_ins 44 12 = some (.invokevirtual 113, 3, (100, 45, 2, 0, 4)) := s44_0 12
theorem i44_15 : q_ins 44 15 = some (.ifCond .eq 17, 3, (0, 0, 0, 0, 0)) := s44_0 15
theorem i44_18 : q_ins 44 18 = some (.aload_n 0, 1, (0, 0, 0, 0, 0)) := s44_1 2
theorem i44_19 : q_ins 44 19 = some (.iload_n 1, 1, (0, 0, 0, 0, 0)) := s44_1 3
theorem i44_20 : q_ins 44 20 = some (.iconst 1, 1, (0, 0, 0, 0, 0)) := s44_1 4
theorem i44_21 : q_ins 44 21 = some (.iadd, 1, (0, 0, 0, 0, 0)) := s44_1 5
theorem i44_22 : q_ins 44 22 = some (.invokevirtual 107, 3, (98, 44, 2, 0, 4)) := s44_1 6
theorem i44_25 : q_ins 44 25 = some (.aload_n 0, 1, (0, 0, 0, 0, 0)) := s44_1 9
theorem i44_26 : q_ins 44 26 = some (.sipush 20224, 3, (0, 0, 0, 0, 0)) := s44_1 10
theorem i44_29 : q_ins 44 29 = some (.invokevirtual 104, 3, (97, 46, 2, 0, 4)) := s44_1 13
theorem i44_32 : q_ins 44 32 = some (.return_, 1, (0, 0, 0, 0, 0)) := s44_2 0
theorem i44_33 : q_ins 44 33 = some (.aload_n 0, 1, (0, 0, 0, 0, 0)) := s44_2 1
theorem i44_34 : q_ins 44 34 = some (.iconst 2, 1, (0, 0, 0, 0, 0)) := s44_2 2
theorem i44_35 : q_ins 44 35 = some (.iload_n 1, 1, (0, 0, 0, 0, 0)) := s44_2 3
theorem i44_36 : q_ins 44 36 = some (.invokevirtual 84, 3, (92, 42, 3, 0, 4)) := s44_2 4
theorem i44_39 : q_ins 44 39 = some (.aload_n 0, 1, (0, 0, 0, 0, 0)) := s44_2 7
theorem i44_40 : q_ins 44 40 = some (.getfield 41, 3, (40, 4, 8, 0, 0)) := s44_2 8
theorem i44_43 : q_ins 44 43 = some (.istore_n 2, 1, (0, 0, 0, 0, 0)) := s44_2 11
theorem i44_44 : q_ins 44 44 = some (.iload_n 2, 1, (0, 0, 0, 0, 0)) := s44_2 12
theorem i44_45 : q_ins 44 45 = some (.invokestatic 117, 3, (101, 47, 1, 2, 0)) := s44_2 13
theorem i44_48 : q_ins 44 48 = some (.ifCond .eq 25, 3, (0, 0, 0, 0, 0)) := s44_3 0
theorem i44_51 : q_ins 44 51 = some (.aload_n 0, 1, (0, 0, 0, 0, 0)) := s44_3 3
theorem i44_52 : q_ins 44 52 = some (.invokevirtual 81, 3, (91, 41, 1, 0, 4)) := s44_3 4
theorem i44_55 : q_ins 44 55 = some (.aload_n 0, 1, (0, 0, 0, 0, 0)) := s44_3 7
theorem i44_56 : q_ins 44 56 = some (.iconst 2, 1, (0, 0, 0, 0, 0)) := s44_3 8
theorem i44_57 : q_ins 44 57 = some (.iload_n 1, 1, (0, 0, 0, 0, 0)) := s44_3 9
theorem i44_58 : q_ins 44 58 = some (.invokevirtual 84, 3, (92, 42, 3, 0, 4)) := s44_3 10
theorem i44_61 : q_ins 44 61 = some (.aload_n 0, 1, (0, 0, 0, 0, 0)) := s44_3 13
theorem i44_62 : q_ins 44 62 = some (.sipush 20000, 3, (0, 0, 0, 0, 0)) := s44_3 14
theorem i44_65 : q_ins 44 65 = some (.iload_n 2, 1, (0, 0, 0, 0, 0)) := s44_4 1
theorem i44_66 : q_ins 44 66 = some (.iadd, 1, (0, 0, 0, 0, 0)) := s44_4 2
theorem i44_67 : q_ins 44 67 = some (.invokevirtual 104, 3, (97, 46, 2, 0, 4)) := s44_4 3
theorem i44_70 : q_ins 44 70 = some (.goto 8, 3, (0, 0, 0, 0, 0)) := s44_4 6
theorem i44_73 : q_ins 44 73 = some (.aload_n 0, 1, (0, 0, 0, 0, 0)) := s44_4 9
theorem i44_74 : q_ins 44 74 = some (.iconst 1, 1, (0, 0, 0, 0, 0)) := s44_4 10
theorem i44_75 : q_ins 44 75 = some (.invokevirtual 77, 3, (90, 40, 2, 0, 4)) := s44_4 11
theorem i44_78 : q_ins 44 78 = some (.return_, 1, (0, 0, 0, 0, 0)) := s44_4 14
theorem s45_0 (j : Nat) : q_ins 45 j = q_at q_c45 j := rfl
theorem s45_1 (j : Nat) : q_ins 45 (j + 16) = q_at q_c45_1 j := s45_0 (j + 16)
theorem i45_0 : q_ins 45 0 = some (.iload_n 1, 1, (0, 0, 0, 0, 0)) := s45_0 0
theorem i45_1 : q_ins 45 1 = some (.bipush 8, 2, (0, 0, 0, 0, 0)) := s45_0 1
theorem i45_3 : q_ins 45 3 = some (.if_icmp .lt 10, 3, (0, 0, 0, 0, 0)) := s45_0 3
theorem i45_6 : q_ins 45 6 = some (.aload_n 0, 1, (0, 0, 0, 0, 0)) := s45_0 6
theorem i45_7 : q_ins 45 7 = some (.iconst 3, 1, (0, 0, 0, 0, 0)) := s45_0 7
theorem i45_8 : q_ins 45 8 = some (.invokevirtual 77, 3, (90, 40, 2, 0, 4)) := s45_0 8
theorem i45_11 : q_ins 45 11 = some (.iconst 0, 1, (0, 0, 0, 0, 0)) := s45_0 11
theorem i45_12 : q_ins 45 12 = some (.ireturn, 1, (0, 0, 0, 0, 0)) := s45_0 12
theorem i45_13 : q_ins 45 13 = some (.aload_n 0, 1, (0, 0, 0, 0, 0)) := s45_0 13
theorem i45_14 : q_ins 45 14 = some (.invokevirtual 81, 3, (91, 41, 1, 0, 4)) := s45_0 14
theorem i45_17 : q_ins 45 17 = some (.iconst 1, 1, (0, 0, 0, 0, 0)) := s45_1 1
theorem i45_18 : q_ins 45 18 = some (.ireturn, 1, (0, 0, 0, 0, 0)) := s45_1 2
theorem s46_0 (j : Nat) : q_ins 46 j = q_at q_c46 j := rfl
theorem s46_1 (j : Nat) : q_ins 46 (j + 16) = q_at q_c46_1 j := s46_0 (j + 16)
theorem i46_0 : q_ins 46 0 = some (.aload_n 0, 1, (0, 0, 0, 0, 0)) := s46_0 0
theorem i46_1 : q_ins 46 1 = some (.getfield 44, 3, (41, 4, 9, 0, 0)) := s46_0 1
theorem i46_4 : q_ins 46 4 = some (.sipush 300, 3, (0, 0, 0, 0, 0)) := s46_0 4
theorem i46_7 : q_ins 46 7 = some (.if_icmp .ge 23, 3, (0, 0, 0, 0, 0)) := s46_0 7
theorem i46_10 : q_ins 46 10 = some (.aload_n 0, 1, (0, 0, 0, 0, 0)) := s46_0 10
theorem i46_11 : q_ins 46 11 = some (.getfield 18, 3, (33, 4, 1, 2, 0)) := s46_0 11
theorem i46_14 : q_ins 46 14 = some (.aload_n 0, 1, (0, 0, 0, 0, 0)) := s46_0 14
theorem i46_15 : q_ins 46 15 = some (.getfield 44, 3, (41, 4, 9, 0, 0)) := s46_0 15
theorem i46_18 : q_ins 46 18 = some (.iload_n 1, 1, (0, 0, 0, 0, 0)) := s46_1 2
theorem i46_19 : q_ins 46 19 = some (.iastore, 1, (0, 0, 0, 0, 0)) := s46_1 3
theorem i46_20 : q_ins 46 20 = some (.aload_n 0, 1, (0, 0, 0, 0, 0)) := s46_1 4
theorem i46_21 : q_ins 46 21 = some (.dup, 1, (0, 0, 0, 0, 0)) := s46_1 5
theorem i46_22 : q_ins 46 22 = some (.getfield 44, 3, (41, 4, 9, 0, 0)) := s46_1 6
theorem i46_25 : q_ins 46 25 = some (.iconst 1, 1, (0, 0, 0, 0, 0)) := s46_1 9
theorem i46_26 : q_ins 46 26 = some (.iadd, 1, (0, 0, 0, 0, 0)) := s46_1 10
theorem i46_27 : q_ins 46 27 = some (.putfield 44, 3, (41, 4, 9, 0, 0)) := s46_1 11
theorem i46_30 : q_ins 46 30 = some (.return_, 1, (0, 0, 0, 0, 0)) := s46_1 14
theorem s47_0 (j : Nat) : q_ins 47 j = q_at q_c47 j := rfl
theorem s47_1 (j : Nat) : q_ins 47 (j + 16) = q_at q_c47_1 j := s47_0 (j + 16)
theorem s47_2 (j : Nat) : q_ins 47 (j + 32) = q_at q_c47_2 j := s47_1 (j + 16)
theorem i47_0 : q_ins 47 0 = some (.iload_n 0, 1, (0, 0, 0, 0, 0)) := s47_0 0
theorem i47_1 : q_ins 47 1 = some (.bipush 60, 2, (0, 0, 0, 0, 0)) := s47_0 1
theorem i47_3 : q_ins 47 3 = some (.if_icmp .eq 35, 3, (0, 0, 0, 0, 0)) := s47_0 3
theorem i47_6 : q_ins 47 6 = some (.iload_n 0, 1, (0, 0, 0, 0, 0)) := s47_0 6
theorem i47_7 : q_ins 47 7 = some (.bipush 62, 2, (0, 0, 0, 0, 0)) := s47_0 7
theorem i47_9 : q_ins 47 9 = some (.if_icmp .eq 29, 3, (0, 0, 0, 0, 0)) := s47_0 9
theorem i47_12 : q_ins 47 12 = some (.iload_n 0, 1, (0, 0, 0, 0, 0)) := s47_0 12
theorem i47_13 : q_ins 47 13 = some (.bipush 61, 2, (0, 0, 0, 0, 0)) := s47_0 13
theorem i47_15 : q_ins 47 15 = some (.if_icmp .eq 23, 3, (0, 0, 0, 0, 0)) := s47_0 15
theorem i47_18 : q_ins 47 18 = some (.iload_n 0, 1, (0, 0, 0, 0, 0)) := s47_1 2
theorem i47_19 : q_ins 47 19 = some (.bipush 35, 2, (0, 0, 0, 0, 0)) := s47_1 3
theorem i47_21 : q_ins 47 21 = some (.if_icmp .eq 17, 3, (0, 0, 0, 0, 0)) := s47_1 5
theorem i47_24 : q_ins 47 24 = some (.iload_n 0, 1, (0, 0, 0, 0, 0)) := s47_1 8
theorem i47_25 : q_ins 47 25 = some (.sipush 128, 3, (0, 0, 0, 0, 0)) := s47_1 9
theorem i47_28 : q_ins 47 28 = some (.if_icmp .eq 10, 3, (0, 0, 0, 0, 0)) := s47_1 12
theorem i47_31 : q_ins 47 31 = some (.iload_n 0, 1, (0, 0, 0, 0, 0)) := s47_1 15
theorem i47_32 : q_ins 47 32 = some (.sipush 129, 3, (0, 0, 0, 0, 0)) := s47_2 0
theorem i47_35 : q_ins 47 35 = some (.if_icmp .ne 7, 3, (0, 0, 0, 0, 0)) := s47_2 3
theorem i47_38 : q_ins 47 38 = some (.iconst 1, 1, (0, 0, 0, 0, 0)) := s47_2 6
theorem i47_39 : q_ins 47 39 = some (.goto 4, 3, (0, 0, 0, 0, 0)) := s47_2 7
theorem i47_42 : q_ins 47 42 = some (.iconst 0, 1, (0, 0, 0, 0, 0)) := s47_2 10
theorem i47_43 : q_ins 47 43 = some (.ireturn, 1, (0, 0, 0, 0, 0)) := s47_2 11
theorem s48_0 (j : Nat) : q_ins 48 j = q_at q_c48 j := rfl
theorem s48_1 (j : Nat) : q_ins 48 (j + 16) = q_at q_c48_1 j := s48_0 (j + 16)
theorem s48_2 (j : Nat) : q_ins 48 (j + 32) = q_at q_c48_2 j := s48_1 (j + 16)
theorem s48_3 (j : Nat) : q_ins 48 (j + 48) = q_at q_c48_3 j := s48_2 (j + 16)
theorem s48_4 (j : Nat) : q_ins 48 (j + 64) = q_at q_c48_4 j := s48_3 (j + 16)
theorem s48_5 (j : Nat) : q_ins 48 (j + 80) = q_at q_c48_5 j := s48_4 (j + 16)
theorem s48_6 (j : Nat) : q_ins 48 (j + 96) = q_at q_c48_6 j := s48_5 (j + 16)
theorem s48_7 (j : Nat) : q_ins 48 (j + 112) = q_at q_c48_7 j := s48_6 (j + 16)
theorem s48_8 (j : Nat) : q_ins 48 (j + 128) = q_at q_c48_8 j := s48_7 (j + 16)
theorem i48_0 : q_ins 48 0 = some (.aload_n 0, 1, (0, 0, 0, 0, 0)) := s48_0 0
theorem i48_1 : q_ins 48 1 = some (.getfield 41, 3, (40, 4, 8, 0, 0)) := s48_0 1
theorem i48_4 : q_ins 48 4 = some (.sipush 300, 3, (0, 0, 0, 0, 0)) := s48_0 4
theorem i48_7 : q_ins 48 7 = some (.if_icmp .lt 17, 3, (0, 0, 0, 0, 0)) := s48_0 7
theorem i48_10 : q_ins 48 10 = some (.aload_n 0, 1, (0, 0, 0, 0, 0)) := s48_0 10
theorem i48_11 : q_ins 48 11 = some (.aload_n 0, 1, (0, 0, 0, 0, 0)) := s48_0 11
theorem i48_12 : q_ins 48 12 = some (.sipush 9999, 3, (0, 0, 0, 0, 0)) := s48_0 12
theorem i48_15 : q_ins 48 15 = some (.invokevirtual 94, 3, (102, 49, 2, 0, 4)) := s48_0 15
theorem i48_18 : q_ins 48 18 = some (.invokevirtual 104, 3, (97, 46, 2, 0, 4)) := s48_1 2
theorem i48_21 : q_ins 48 21 = some (.goto 111, 3, (0, 0, 0, 0, 0)) := s48_1 5
theorem i48_24 : q_ins 48 24 = some (.aload_n 0, 1, (0, 0, 0, 0, 0)) := s48_1 8
theorem i48_25 : q_ins 48 25 = some (.getfield 41, 3, (40, 4, 8, 0, 0)) := s48_1 9
theorem i48_28 : q_ins 48 28 = some (.sipush 200, 3, (0, 0, 0, 0, 0)) := s48_1 12
theorem i48_31 : q_ins 48 31 = some (.if_icmp .lt 28, 3, (0, 0, 0, 0, 0)) := s48_1 15
theorem i48_34 : q_ins 48 34 = some (.aload_n 0, 1, (0, 0, 0, 0, 0)) := s48_2 2
theorem i48_35 : q_ins 48 35 = some (.getfield 41, 3, (40, 4, 8, 0, 0)) := s48_2 3
theorem i48_38 : q_ins 48 38 = some (.sipush 214, 3, (0, 0, 0, 0, 0)) := s48_2 6
theorem i48_41 : q_ins 48 41 = some (.if_icmp .ge 18, 3, (0, 0, 0, 0, 0)) := s48_2 9
theorem i48_44 : q_ins 48 44 = some (.aload_n 0, 1, (0, 0, 0, 0, 0)) := s48_2 12
theorem i48_45 : q_ins 48 45 = some (.aload_n 0, 1, (0, 0, 0, 0, 0)) := s48_2 13
theorem i48_46 : q_ins 48 46 = some (.getfield 41, 3, (40, 4, 8, 0, 0)) := s48_2 14
theorem i48_49 : q_ins 48 49 = some (.sipush 200, 3, (0, 0, 0, 0, 0)) := s48_3 1
theorem i48_52 : q_ins 48 52 = some (.isub, 1, (0, 0, 0, 0, 0)) := s48_3 4
theorem i48_53 : q_ins 48 53 = some (.invokevirtual 120, 3, (103, 50, 2, 0, 4)) := s48_3 5
theorem i48_56 : q_ins 48 56 = some (.goto 76, 3, (0, 0, 0, 0, 0)) := s48_3 8
theorem i48_59 : q_ins 48 59 = some (.aload_n 0, 1, (0, 0, 0, 0, 0)) := s48_3 11
theorem i48_60 : q_ins 48 60 = some (.getfield 41, 3, (40, 4, 8, 0, 0)) := s48_3 12
theorem i48_63 : q_ins 48 63 = some (.bipush 40, 2, (0, 0, 0, 0, 0)) := s48_3 15
theorem i48_65 : q_ins 48 65 = some (.if_icmp .ne 28, 3, (0, 0, 0, 0, 0)) := s48_4 1
theorem i48_68 : q_ins 48 68 = some (.aload_n 0, 1, (0, 0, 0, 0, 0)) := s48_4 4
theorem i48_69 : q_ins 48 69 = some (.iload_n 1, 1, (0, 0, 0, 0, 0)) := s48_4 5
theorem i48_70 : q_ins 48 70 = some (.invokevirtual 113, 3, (100, 45, 2, 0, 4)) := s48_4 6
theorem i48_73 : q_ins 48 73 = some (.ifCond .eq 59, 3, (0, 0, 0, 0, 0)) := s48_4 9
theorem i48_76 : q_ins 48 76 = some (.aload_n 0, 1, (0, 0, 0, 0, 0)) := s48_4 12
theorem i48_77 : q_ins 48 77 = some (.iconst 2, 1, (0, 0, 0, 0, 0)) := s48_4 13
theorem i48_78 : q_ins 48 78 = some (.iload_n 1, 1, (0, 0, 0, 0, 0)) := s48_4 14
theorem i48_79 : q_ins 48 79 = some (.iconst 1, 1, (0, 0, 0, 0, 0)) := s48_4 15
theorem i48_80 : q_ins 48 80 = some (.iadd, 1, (0, 0, 0, 0, 0)) := s48_5 0
theorem i48_81 : q_ins 48 81 = some (.invokevirtual 84, 3, (92, 42, 3, 0, 4)) := s48_5 1
theorem i48_84 : q_ins 48 84 = some (.aload_n 0, 1, (0, 0, 0, 0, 0)) := s48_5 4
theorem i48_85 : q_ins 48 85 = some (.bipush 41, 2, (0, 0, 0, 0, 0)) := s48_5 5
theorem i48_87 : q_ins 48 87 = some (.invokevirtual 91, 3, (94, 51, 2, 0, 4)) := s48_5 7
theorem i48_90 : q_ins 48 90 = some (.goto 42, 3, (0, 0, 0, 0, 0)) := s48_5 10
theorem i48_93 : q_ins 48 93 = some (.aload_n 0, 1, (0, 0, 0, 0, 0)) := s48_5 13
theorem i48_94 : q_ins 48 94 = some (.getfield 41, 3, (40, 4, 8, 0, 0)) := s48_5 14
theorem i48_97 : q_ins 48 97 = some (.bipush 45, 2, (0, 0, 0, 0, 0)) := s48_6 1
theorem i48_99 : q_ins 48 99 = some (.if_icmp .ne 28, 3, (0, 0, 0, 0, 0)) := s48_6 3
theorem i48_102 : q_ins 48 102 = some (.aload_n 0, 1, (0, 0, 0, 0, 0)) := s48_6 6
theorem i48_103 : q_ins 48 103 = some (.iload_n 1, 1, (0, 0, 0, 0, 0)) := s48_6 7
theorem i48_104 : q_ins 48 104 = some (.invokevirtual 113, 3, (100, 45, 2, 0, 4)) := s48_6 8
theorem i48_107 : q_ins 48 107 = some (.ifCond .eq 25, 3, (0, 0, 0, 0, 0)) := s48_6 11
theorem i48_110 : q_ins 48 110 = some (.aload_n 0, 1, (0, 0, 0, 0, 0)) := s48_6 14
theorem i48_111 : q_ins 48 111 = some (.iload_n 1, 1, (0, 0, 0, 0, 0)) := s48_6 15
theorem i48_112 : q_ins 48 112 = some (.iconst 1, 1, (0, 0, 0, 0, 0)) := s48_7 0
theorem i48_113 : q_ins 48 113 = some (.iadd, 1, (0, 0, 0, 0, 0)) := s48_7 1
theorem i48_114 : q_ins 48 114 = some (.invokevirtual 110, 3, (99, 48, 2, 0, 4)) := s48_7 2
theorem i48_117 : q_ins 48 117 = some (.aload_n 0, 1, (0, 0, 0, 0, 0)) := s48_7 5
theorem i48_118 : q_ins 48 118 = some (.sipush 20130, 3, (0, 0, 0, 0, 0)) := s48_7 6
theorem i48_121 : q_ins 48 121 = some (.invokevirtual 104, 3, (97, 46, 2, 0, 4)) := s48_7 9
theorem i48_124 : q_ins 48 124 = some (.goto 8, 3, (0, 0, 0, 0, 0)) := s48_7 12
theorem i48_127 : q_ins 48 127 = some (.aload_n 0, 1, (0, 0, 0, 0, 0)) := s48_7 15
theorem i48_128 : q_ins 48 128 = some (.iconst 1, 1, (0, 0, 0, 0, 0)) := s48_8 0
theorem i48_129 : q_ins 48 129 = some (.invokevirtual 77, 3, (90, 40, 2, 0, 4)) := s48_8 1
theorem i48_132 : q_ins 48 132 = some (.return_, 1, (0, 0, 0, 0, 0)) := s48_8 4
theorem s49_0 (j : Nat) : q_ins 49 j = q_at q_c49 j := rfl
theorem s49_1 (j : Nat) : q_ins 49 (j + 16) = q_at q_c49_1 j := s49_0 (j + 16)
theorem s49_2 (j : Nat) : q_ins 49 (j + 32) = q_at q_c49_2 j := s49_1 (j + 16)
theorem i49_0 : q_ins 49 0 = some (.aload_n 0, 1, (0, 0, 0, 0, 0)) := s49_0 0
theorem i49_1 : q_ins 49 1 = some (.getfield 41, 3, (40, 4, 8, 0, 0)) := s49_0 1
theorem i49_4 : q_ins 49 4 = some (.sipush 300, 3, (0, 0, 0, 0, 0)) := s49_0 4
theorem i49_7 : q_ins 49 7 = some (.isub, 1, (0, 0, 0, 0, 0)) := s49_0 7
theorem i49_8 : q_ins 49 8 = some (.istore_n 2, 1, (0, 0, 0, 0, 0)) := s49_0 8
theorem i49_9 : q_ins 49 9 = some (.iload_n 2, 1, (0, 0, 0, 0, 0)) := s49_0 9
theorem i49_10 : q_ins 49 10 = some (.ifCond .ge 10, 3, (0, 0, 0, 0, 0)) := s49_0 10
theorem i49_13 : q_ins 49 13 = some (.aload_n 0, 1, (0, 0, 0, 0, 0)) := s49_0 13
theorem i49_14 : q_ins 49 14 = some (.iconst 1, 1, (0, 0, 0, 0, 0)) := s49_0 14
theorem i49_15 : q_ins 49 15 = some (.invokevirtual 77, 3, (90, 40, 2, 0, 4)) := s49_0 15
theorem i49_18 : q_ins 49 18 = some (.iconst 0, 1, (0, 0, 0, 0, 0)) := s49_1 2
theorem i49_19 : q_ins 49 19 = some (.ireturn, 1, (0, 0, 0, 0, 0)) := s49_1 3
theorem i49_20 : q_ins 49 20 = some (.iload_n 2, 1, (0, 0, 0, 0, 0)) := s49_1 4
theorem i49_21 : q_ins 49 21 = some (.iload_n 1, 1, (0, 0, 0, 0, 0)) := s49_1 5
theorem i49_22 : q_ins 49 22 = some (.if_icmp .le 10, 3, (0, 0, 0, 0, 0)) := s49_1 6
theorem i49_25 : q_ins 49 25 = some (.aload_n 0, 1, (0, 0, 0, 0, 0)) := s49_1 9
theorem i49_26 : q_ins 49 26 = some (.iconst 2, 1, (0, 0, 0, 0, 0)) := s49_1 10
theorem i49_27 : q_ins 49 27 = some (.invokevirtual 77, 3, (90, 40, 2, 0, 4)) := s49_1 11
theorem i49_30 : q_ins 49 30 = some (.iconst 0, 1, (0, 0, 0, 0, 0)) := s49_1 14
theorem i49_31 : q_ins 49 31 = some (.ireturn, 1, (0, 0, 0, 0, 0)) := s49_1 15
theorem i49_32 : q_ins 49 32 = some (.aload_n 0, 1, (0, 0, 0, 0, 0)) := s49_2 0
theorem i49_33 : q_ins 49 33 = some (.invokevirtual 81, 3, (91, 41, 1, 0, 4)) := s49_2 1
theorem i49_36 : q_ins 49 36 = some (.iload_n 2, 1, (0, 0, 0, 0, 0)) := s49_2 4
theorem i49_37 : q_ins 49 37 = some (.ireturn, 1, (0, 0, 0, 0, 0)) := s49_2 5
theorem s50_0 (j : Nat) : q_ins 50 j = q_at q_c50 j := rfl
theorem s50_1 (j : Nat) : q_ins 50 (j + 16) = q_at q_c50_1 j := s50_0 (j + 16)
theorem s50_2 (j : Nat) : q_ins 50 (j + 32) = q_at q_c50_2 j := s50_1 (j + 16)
theorem s50_3 (j : Nat) : q_ins 50 (j + 48) = q_at q_c50_3 j := s50_2 (j + 16)
theorem i50_0 : q_ins 50 0 = some (.getstatic 123, 3, (2, 3, 0, 0, 0)) := s50_0 0
theorem i50_3 : q_ins 50 3 = some (.aload_n 0, 1, (0, 0, 0, 0, 0)) := s50_0 3
theorem i50_4 : q_ins 50 4 = some (.getfield 50, 3, (43, 4, 11, 0, 0)) := s50_0 4
theorem i50_7 : q_ins 50 7 = some (.iaload, 1, (0, 0, 0, 0, 0)) := s50_0 7
theorem i50_8 : q_ins 50 8 = some (.iload_n 1, 1, (0, 0, 0, 0, 0)) := s50_0 8
theorem i50_9 : q_ins 50 9 = some (.ishr, 1, (0, 0, 0, 0, 0)) := s50_0 9
theorem i50_10 : q_ins 50 10 = some (.iconst 1, 1, (0, 0, 0, 0, 0)) := s50_0 10
theorem i50_11 : q_ins 50 11 = some (.iand, 1, (0, 0, 0, 0, 0)) := s50_0 11
theorem i50_12 : q_ins 50 12 = some (.ifCond .ne 9, 3, (0, 0, 0, 0, 0)) := s50_0 12
theorem i50_15 : q_ins 50 15 = some (.aload_n 0, 1, (0, 0, 0, 0, 0)) := s50_0 15
theorem i50_16 : q_ins 50 16 = some (.iconst 5, 1, (0, 0, 0, 0, 0)) := s50_1 0
theorem i50_17 : q_ins 50 17 = some (.invokevirtual 77, 3, (90, 40, 2, 0, 4)) := s50_1 1
theorem i50_20 : q_ins 50 20 = some (.return_, 1, (0, 0, 0, 0, 0)) := s50_1 4
theorem i50_21 : q_ins 50 21 = some (.aload_n 0, 1, (0, 0, 0, 0, 0)) := s50_1 5
theorem i50_22 : q_ins 50 22 = some (.getfield 50, 3, (43, 4, 11, 0, 0)) := s50_1 6
theorem i50_25 : q_ins 50 25 = some (.ifCond .ne 18, 3, (0, 0, 0, 0, 0)) := s50_1 9
theorem i50_28 : q_ins 50 28 = some (.iload_n 1, 1, (0, 0, 0, 0, 0)) := s50_1 12
theorem i50_29 : q_ins 50 29 = some (.iconst 5, 1, (0, 0, 0, 0, 0)) := s50_1 13
theorem i50_30 : q_ins 50 30 = some (.if_icmp .eq 8, 3, (0, 0, 0, 0, 0)) := s50_1 14
theorem i50_33 : q_ins 50 33 = some (.iload_n 1, 1, (0, 0, 0, 0, 0)) := s50_2 1
theorem i50_34 : q_ins 50 34 = some (.iconst 2, 1, (0, 0, 0, 0, 0)) := s50_2 2
theorem i50_35 : q_ins 50 35 = some (.if_icmp .ne 8, 3, (0, 0, 0, 0, 0)) := s50_2 3
theorem i50_38 : q_ins 50 38 = some (.aload_n 0, 1, (0, 0, 0, 0, 0)) := s50_2 6
theorem i50_39 : q_ins 50 39 = some (.iconst 1, 1, (0, 0, 0, 0, 0)) := s50_2 7
theorem i50_40 : q_ins 50 40 = some (.putfield 53, 3, (44, 4, 12, 3, 0)) := s50_2 8
theorem i50_43 : q_ins 50 43 = some (.aload_n 0, 1, (0, 0, 0, 0, 0)) := s50_2 11
theorem i50_44 : q_ins 50 44 = some (.sipush 10000, 3, (0, 0, 0, 0, 0)) := s50_2 12
theorem i50_47 : q_ins 50 47 = some (.iload_n 1, 1, (0, 0, 0, 0, 0)) := s50_2 15
theorem i50_48 : q_ins 50 48 = some (.iadd, 1, (0, 0, 0, 0, 0)) := s50_3 0
theorem i50_49 : q_ins 50 49 = some (.invokevirtual 104, 3, (97, 46, 2, 0, 4)) := s50_3 1
theorem i50_52 : q_ins 50 52 = some (.aload_n 0, 1, (0, 0, 0, 0, 0)) := s50_3 4
theorem i50_53 : q_ins 50 53 = some (.invokevirtual 81, 3, (91, 41, 1, 0, 4)) := s50_3 5
theorem i50_56 : q_ins 50 56 = some (.return_, 1, (0, 0, 0, 0, 0)) := s50_3 8
theorem s51_0 (j : Nat) : q_ins 51 j = q_at q_c51 j := rfl
theorem s51_1 (j : Nat) : q_ins 51 (j + 16) = q_at q_c51_1 j := s51_0 (j + 16)
theorem i51_0 : q_ins 51 0 = some (.aload_n 0, 1, (0, 0, 0, 0, 0)) := s51_0 0
theorem i51_1 : q_ins 51 1 = some (.getfield 41, 3, (40, 4, 8, 0, 0)) := s51_0 1
theorem i51_4 : q_ins 51 4 = some (.iload_n 1, 1, (0, 0, 0, 0, 0)) := s51_0 4
theorem i51_5 : q_ins 51 5 = some (.if_icmp .ne 10, 3, (0, 0, 0, 0, 0)) := s51_0 5
theorem i51_8 : q_ins 51 8 = some (.aload_n 0, 1, (0, 0, 0, 0, 0)) := s51_0 8
theorem i51_9 : q_ins 51 9 = some (.invokevirtual 81, 3, (91, 41, 1, 0, 4)) := s51_0 9
theorem i51_12 : q_ins 51 12 = some (.goto 8, 3, (0, 0, 0, 0, 0)) := s51_0 12
theorem i51_15 : q_ins 51 15 = some (.aload_n 0, 1, (0, 0, 0, 0, 0)) := s51_0 15
theorem i51_16 : q_ins 51 16 = some (.iconst 1, 1, (0, 0, 0, 0, 0)) := s51_1 0
theorem i51_17 : q_ins 51 17 = some (.invokevirtual 77, 3, (90, 40, 2, 0, 4)) := s51_1 1
theorem i51_20 : q_ins 51 20 = some (.return_, 1, (0, 0, 0, 0, 0)) := s51_1 4
theorem s52_0 (j : Nat) : q_ins 52 j = q_at q_c52 j := rfl
theorem s52_1 (j : Nat) : q_ins 52 (j + 16) = q_at q_c52_1 j := s52_0 (j + 16)
theorem s52_2 (j : Nat) : q_ins 52 (j + 32) = q_at q_c52_2 j := s52_1 (j + 16)
theorem s52_3 (j : Nat) : q_ins 52 (j + 48) = q_at q_c52_3 j := s52_2 (j + 16)
theorem s52_4 (j : Nat) : q_ins 52 (j + 64) = q_at q_c52_4 j := s52_3 (j + 16)
theorem i52_0 : q_ins 52 0 = some (.iload_n 0, 1, (0, 0, 0, 0, 0)) := s52_0 0
theorem i52_1 : q_ins 52 1 = some (.lookupswitch 67 #[(42, 65), (43, 63), (45, 63), (47, 65), (222, 59), (223, 61)], 59, (0, 0, 0, 0, 0)) := s52_0 1
theorem i52_60 : q_ins 52 60 = some (.iconst 0, 1, (0, 0, 0, 0, 0)) := s52_3 12
theorem i52_61 : q_ins 52 61 = some (.ireturn, 1, (0, 0, 0, 0, 0)) := s52_3 13
theorem i52_62 : q_ins 52 62 = some (.iconst 1, 1, (0, 0, 0, 0, 0)) := s52_3 14
theorem i52_63 : q_ins 52 63 = some (.ireturn, 1, (0, 0, 0, 0, 0)) := s52_3 15
theorem i52_64 : q_ins 52 64 = some (.iconst 2, 1, (0, 0, 0, 0, 0)) := s52_4 0
theorem i52_65 : q_ins 52 65 = some (.ireturn, 1, (0, 0, 0, 0, 0)) := s52_4 1
theorem i52_66 : q_ins 52 66 = some (.iconst 3, 1, (0, 0, 0, 0, 0)) := s52_4 2
theorem i52_67 : q_ins 52 67 = some (.ireturn, 1, (0, 0, 0, 0, 0)) := s52_4 3
theorem i52_68 : q_ins 52 68 = some (.iconst (-1), 1, (0, 0, 0, 0, 0)) := s52_4 4
theorem i52_69 : q_ins 52 69 = some (.ireturn, 1, (0, 0, 0, 0, 0)) := s52_4 5
theorem s53_0 (j : Nat) : q_ins 53 j = q_at q_c53 j := rfl
theorem s53_1 (j : Nat) : q_ins 53 (j + 16) = q_at q_c53_1 j := s53_0 (j + 16)
theorem s53_2 (j : Nat) : q_ins 53 (j + 32) = q_at q_c53_2 j := s53_1 (j + 16)
theorem s53_3 (j : Nat) : q_ins 53 (j + 48) = q_at q_c53_3 j := s53_2 (j + 16)
theorem i53_0 : q_ins 53 0 = some (.iload_n 1, 1, (0, 0, 0, 0, 0)) := s53_0 0
theorem i53_1 : q_ins 53 1 = some (.bipush 20, 2, (0, 0, 0, 0, 0)) := s53_0 1
theorem i53_3 : q_ins 53 3 = some (.if_icmp .eq 17, 3, (0, 0, 0, 0, 0)) := s53_0 3
theorem i53_6 : q_ins 53 6 = some (.aload_n 0, 1, (0, 0, 0, 0, 0)) := s53_0 6
theorem i53_7 : q_ins 53 7 = some (.getfield 31, 3, (37, 4, 5, 2, 0)) := s53_0 7
theorem i53_10 : q_ins 53 10 = some (.aload_n 0, 1, (0, 0, 0, 0, 0)) := s53_0 10
theorem i53_11 : q_ins 53 11 = some (.getfield 47, 3, (42, 4, 10, 0, 0)) := s53_0 11
theorem i53_14 : q_ins 53 14 = some (.aload_n 0, 1, (0, 0, 0, 0, 0)) := s53_0 14
theorem i53_15 : q_ins 53 15 = some (.iconst 5, 1, (0, 0, 0, 0, 0)) := s53_0 15
theorem i53_16 : q_ins 53 16 = some (.invokevirtual 94, 3, (102, 49, 2, 0, 4)) := s53_1 0
theorem i53_19 : q_ins 53 19 = some (.iastore, 1, (0, 0, 0, 0, 0)) := s53_1 3
theorem i53_20 : q_ins 53 20 = some (.iload_n 1, 1, (0, 0, 0, 0, 0)) := s53_1 4
theorem i53_21 : q_ins 53 21 = some (.bipush 17, 2, (0, 0, 0, 0, 0)) := s53_1 5
theorem i53_23 : q_ins 53 23 = some (.if_icmp .ne 25, 3, (0, 0, 0, 0, 0)) := s53_1 7
theorem i53_26 : q_ins 53 26 = some (.aload_n 0, 1, (0, 0, 0, 0, 0)) := s53_1 10
theorem i53_27 : q_ins 53 27 = some (.sipush 221, 3, (0, 0, 0, 0, 0)) := s53_1 11
theorem i53_30 : q_ins 53 30 = some (.invokevirtual 91, 3, (94, 51, 2, 0, 4)) := s53_1 14
theorem i53_33 : q_ins 53 33 = some (.aload_n 0, 1, (0, 0, 0, 0, 0)) := s53_2 1
theorem i53_34 : q_ins 53 34 = some (.getfield 34, 3, (38, 4, 6, 2, 0)) := s53_2 2
theorem i53_37 : q_ins 53 37 = some (.aload_n 0, 1, (0, 0, 0, 0, 0)) := s53_2 5
theorem i53_38 : q_ins 53 38 = some (.getfield 47, 3, (42, 4, 10, 0, 0)) := s53_2 6
theorem i53_41 : q_ins 53 41 = some (.aload_n 0, 1, (0, 0, 0, 0, 0)) := s53_2 9
theorem i53_42 : q_ins 53 42 = some (.bipush 15, 2, (0, 0, 0, 0, 0)) := s53_2 10
theorem i53_44 : q_ins 53 44 = some (.invokevirtual 94, 3, (102, 49, 2, 0, 4)) := s53_2 12
theorem i53_47 : q_ins 53 47 = some (.iastore, 1, (0, 0, 0, 0, 0)) := s53_2 15
theorem i53_48 : q_ins 53 48 = some (.return_, 1, (0, 0, 0, 0, 0)) := s53_3 0
theorem s54_0 (j : Nat) : q_ins 54 j = q_at q_c54 j := rfl
theorem s54_1 (j : Nat) : q_ins 54 (j + 16) = q_at q_c54_1 j := s54_0 (j + 16)
theorem s54_2 (j : Nat) : q_ins 54 (j + 32) = q_at q_c54_2 j := s54_1 (j + 16)
theorem s54_3 (j : Nat) : q_ins 54 (j + 48) = q_at q_c54_3 j := s54_2 (j + 16)
theorem s54_4 (j : Nat) : q_ins 54 (j + 64) = q_at q_c54_4 j := s54_3 (j + 16)
theorem s54_5 (j : Nat) : q_ins 54 (j + 80) = q_at q_c54_5 j := s54_4 (j + 16)
theorem s54_6 (j : Nat) : q_ins 54 (j + 96) = q_at q_c54_6 j := s54_5 (j + 16)
theorem i54_0 : q_ins 54 0 = some (.aload_n 0, 1, (0, 0, 0, 0, 0)) := s54_0 0
theorem i54_1 : q_ins 54 1 = some (.invokespecial 3, 3, (671, 0, 0, 9, 0)) := s54_0 1
theorem i54_4 : q_ins 54 4 = some (.aload_n 0, 1, (0, 0, 0, 0, 0)) := s54_0 4
theorem i54_5 : q_ins 54 5 = some (.aload_n 1, 1, (0, 0, 0, 0, 0)) := s54_0 5
theorem i54_6 : q_ins 54 6 = some (.getfield 9, 3, (86, 4, 1, 2, 0)) := s54_0 6
theorem i54_9 : q_ins 54 9 = some (.aload_n 1, 1, (0, 0, 0, 0, 0)) := s54_0 9
theorem i54_10 : q_ins 54 10 = some (.getfield 15, 3, (87, 4, 9, 0, 0)) := s54_0 10
theorem i54_13 : q_ins 54 13 = some (.invokestatic 19, 3, (104, 55, 2, 2, 0)) := s54_0 13
theorem i54_16 : q_ins 54 16 = some (.putfield 25, 3, (88, 6, 0, 2, 0)) := s54_1 0
theorem i54_19 : q_ins 54 19 = some (.aload_n 0, 1, (0, 0, 0, 0, 0)) := s54_1 3
theorem i54_20 : q_ins 54 20 = some (.aload_n 1, 1, (0, 0, 0, 0, 0)) := s54_1 4
theorem i54_21 : q_ins 54 21 = some (.getfield 28, 3, (89, 4, 2, 2, 0)) := s54_1 5
theorem i54_24 : q_ins 54 24 = some (.iconst 3, 1, (0, 0, 0, 0, 0)) := s54_1 8
theorem i54_25 : q_ins 54 25 = some (.invokestatic 19, 3, (104, 55, 2, 2, 0)) := s54_1 9
theorem i54_28 : q_ins 54 28 = some (.putfield 31, 3, (90, 6, 1, 2, 0)) := s54_1 12
theorem i54_31 : q_ins 54 31 = some (.aload_n 0, 1, (0, 0, 0, 0, 0)) := s54_1 15
theorem i54_32 : q_ins 54 32 = some (.aload_n 1, 1, (0, 0, 0, 0, 0)) := s54_2 0
theorem i54_33 : q_ins 54 33 = some (.getfield 32, 3, (91, 4, 3, 2, 0)) := s54_2 1
theorem i54_36 : q_ins 54 36 = some (.iconst 3, 1, (0, 0, 0, 0, 0)) := s54_2 4
theorem i54_37 : q_ins 54 37 = some (.invokestatic 19, 3, (104, 55, 2, 2, 0)) := s54_2 5
theorem i54_40 : q_ins 54 40 = some (.putfield 35, 3, (92, 6, 2, 2, 0)) := s54_2 8
theorem i54_43 : q_ins 54 43 = some (.aload_n 0, 1, (0, 0, 0, 0, 0)) := s54_2 11
theorem i54_44 : q_ins 54 44 = some (.aload_n 1, 1, (0, 0, 0, 0, 0)) := s54_2 12
theorem i54_45 : q_ins 54 45 = some (.getfield 36, 3, (93, 4, 4, 2, 0)) := s54_2 13
theorem i54_48 : q_ins 54 48 = some (.aload_n 1, 1, (0, 0, 0, 0, 0)) := s54_3 0
theorem i54_49 : q_ins 54 49 = some (.getfield 39, 3, (94, 4, 10, 0, 0)) := s54_3 1
theorem i54_52 : q_ins 54 52 = some (.invokestatic 19, 3, (104, 55, 2, 2, 0)) := s54_3 4
theorem i54_55 : q_ins 54 55 = some (.putfield 42, 3, (95, 6, 3, 2, 0)) := s54_3 7
theorem i54_58 : q_ins 54 58 = some (.aload_n 0, 1, (0, 0, 0, 0, 0)) := s54_3 10
theorem i54_59 : q_ins 54 59 = some (.aload_n 1, 1, (0, 0, 0, 0, 0)) := s54_3 11
theorem i54_60 : q_ins 54 60 = some (.getfield 43, 3, (96, 4, 5, 2, 0)) := s54_3 12
theorem i54_63 : q_ins 54 63 = some (.aload_n 1, 1, (0, 0, 0, 0, 0)) := s54_3 15
theorem i54_64 : q_ins 54 64 = some (.getfield 39, 3, (94, 4, 10, 0, 0)) := s54_4 0
theorem i54_67 : q_ins 54 67 = some (.invokestatic 19, 3, (104, 55, 2, 2, 0)) := s54_4 3
theorem i54_70 : q_ins 54 70 = some (.putfield 46, 3, (97, 6, 4, 2, 0)) := s54_4 6
theorem i54_73 : q_ins 54 73 = some (.aload_n 0, 1, (0, 0, 0, 0, 0)) := s54_4 9
theorem i54_74 : q_ins 54 74 = some (.aload_n 1, 1, (0, 0, 0, 0, 0)) := s54_4 10
theorem i54_75 : q_ins 54 75 = some (.getfield 47, 3, (98, 4, 6, 2, 0)) := s54_4 11
theorem i54_78 : q_ins 54 78 = some (.aload_n 1, 1, (0, 0, 0, 0, 0)) := s54_4 14
theorem i54_79 : q_ins 54 79 = some (.getfield 39, 3, (94, 4, 10, 0, 0)) := s54_4 15
theorem i54_82 : q_ins 54 82 = some (.invokestatic 19, 3, (104, 55, 2, 2, 0)) := s54_5 2
theorem i54_85 : q_ins 54 85 = some (.putfield 50, 3, (99, 6, 5, 2, 0)) := s54_5 5
theorem i54_88 : q_ins 54 88 = some (.aload_n 0, 1, (0, 0, 0, 0, 0)) := s54_5 8
theorem i54_89 : q_ins 54 89 = some (.aload_n 1, 1, (0, 0, 0, 0, 0)) := s54_5 9
theorem i54_90 : q_ins 54 90 = some (.getfield 51, 3, (100, 4, 12, 3, 0)) := s54_5 10
theorem i54_93 : q_ins 54 93 = some (.putfield 55, 3, (101, 6, 6, 3, 0)) := s54_5 13
theorem i54_96 : q_ins 54 96 = some (.return_, 1, (0, 0, 0, 0, 0)) := s54_6 0
theorem s55_0 (j : Nat) : q_ins 55 j = q_at q_c55 j := rfl
theorem s55_1 (j : Nat) : q_ins 55 (j + 16) = q_at q_c55_1 j := s55_0 (j + 16)
theorem s55_2 (j : Nat) : q_ins 55 (j + 32) = q_at q_c55_2 j := s55_1 (j + 16)
theorem i55_0 : q_ins 55 0 = some (.iload_n 1, 1, (0, 0, 0, 0, 0)) := s55_0 0
theorem i55_1 : q_ins 55 1 = some (.aload_n 0, 1, (0, 0, 0, 0, 0)) := s55_0 1
theorem i55_2 : q_ins 55 2 = some (.arraylength, 1, (0, 0, 0, 0, 0)) := s55_0 2
theorem i55_3 : q_ins 55 3 = some (.if_icmp .ne 11, 3, (0, 0, 0, 0, 0)) := s55_0 3
theorem i55_6 : q_ins 55 6 = some (.aload_n 0, 1, (0, 0, 0, 0, 0)) := s55_0 6
theorem i55_7 : q_ins 55 7 = some (.invokevirtual 316, 3, (675, 0, 0, 7, 0)) := s55_0 7
theorem i55_10 : q_ins 55 10 = some (.checkcast 317, 3, (681, 0, 0, 0, 0)) := s55_0 10
theorem i55_13 : q_ins 55 13 = some (.areturn, 1, (0, 0, 0, 0, 0)) := s55_0 13
theorem i55_14 : q_ins 55 14 = some (.iload_n 1, 1, (0, 0, 0, 0, 0)) := s55_0 14
theorem i55_15 : q_ins 55 15 = some (.newarray .int, 2, (0, 0, 0, 0, 0)) := s55_0 15
theorem i55_17 : q_ins 55 17 = some (.astore_n 2, 1, (0, 0, 0, 0, 0)) := s55_1 1
theorem i55_18 : q_ins 55 18 = some (.aload_n 0, 1, (0, 0, 0, 0, 0)) := s55_1 2
theorem i55_19 : q_ins 55 19 = some (.iconst 0, 1, (0, 0, 0, 0, 0)) := s55_1 3
theorem i55_20 : q_ins 55 20 = some (.aload_n 2, 1, (0, 0, 0, 0, 0)) := s55_1 4
theorem i55_21 : q_ins 55 21 = some (.iconst 0, 1, (0, 0, 0, 0, 0)) := s55_1 5
theorem i55_22 : q_ins 55 22 = some (.aload_n 0, 1, (0, 0, 0, 0, 0)) := s55_1 6
theorem i55_23 : q_ins 55 23 = some (.arraylength, 1, (0, 0, 0, 0, 0)) := s55_1 7
theorem i55_24 : q_ins 55 24 = some (.iload_n 1, 1, (0, 0, 0, 0, 0)) := s55_1 8
theorem i55_25 : q_ins 55 25 = some (.invokestatic 304, 3, (682, 0, 0, 11, 0)) := s55_1 9
theorem i55_28 : q_ins 55 28 = some (.invokestatic 150, 3, (683, 0, 0, 8, 0)) := s55_1 12
theorem i55_31 : q_ins 55 31 = some (.aload_n 2, 1, (0, 0, 0, 0, 0)) := s55_1 15
theorem i55_32 : q_ins 55 32 = some (.areturn, 1, (0, 0, 0, 0, 0)) := s55_2 0
theorem s56_0 (j : Nat) : q_ins 56 j = q_at q_c56 j := rfl
theorem s56_1 (j : Nat) : q_ins 56 (j + 16) = q_at q_c56_1 j := s56_0 (j + 16)
theorem s56_2 (j : Nat) : q_ins 56 (j + 32) = q_at q_c56_2 j := s56_1 (j + 16)
theorem i56_0 : q_ins 56 0 = some (.aload_n 0, 1, (0, 0, 0, 0, 0)) := s56_0 0
theorem i56_1 : q_ins 56 1 = some (.getfield 62, 3, (21, 2, 14, 0, 0)) := s56_0 1
theorem i56_4 : q_ins 56 4 = some (.iconst 4, 1, (0, 0, 0, 0, 0)) := s56_0 4
theorem i56_5 : q_ins 56 5 = some (.if_icmp .lt 5, 3, (0, 0, 0, 0, 0)) := s56_0 5
theorem i56_8 : q_ins 56 8 = some (.iconst (-1), 1, (0, 0, 0, 0, 0)) := s56_0 8
theorem i56_9 : q_ins 56 9 = some (.ireturn, 1, (0, 0, 0, 0, 0)) := s56_0 9
theorem i56_10 : q_ins 56 10 = some (.aload_n 0, 1, (0, 0, 0, 0, 0)) := s56_0 10
theorem i56_11 : q_ins 56 11 = some (.getfield 38, 3, (15, 2, 8, 2, 0)) := s56_0 11
theorem i56_14 : q_ins 56 14 = some (.aload_n 0, 1, (0, 0, 0, 0, 0)) := s56_0 14
theorem i56_15 : q_ins 56 15 = some (.getfield 62, 3, (21, 2, 14, 0, 0)) := s56_0 15
theorem i56_18 : q_ins 56 18 = some (.aload_n 1, 1, (0, 0, 0, 0, 0)) := s56_1 2
theorem i56_19 : q_ins 56 19 = some (.aastore, 1, (0, 0, 0, 0, 0)) := s56_1 3
theorem i56_20 : q_ins 56 20 = some (.aload_n 0, 1, (0, 0, 0, 0, 0)) := s56_1 4
theorem i56_21 : q_ins 56 21 = some (.dup, 1, (0, 0, 0, 0, 0)) := s56_1 5
theorem i56_22 : q_ins 56 22 = some (.getfield 62, 3, (21, 2, 14, 0, 0)) := s56_1 6
theorem i56_25 : q_ins 56 25 = some (.iconst 1, 1, (0, 0, 0, 0, 0)) := s56_1 9
theorem i56_26 : q_ins 56 26 = some (.iadd, 1, (0, 0, 0, 0, 0)) := s56_1 10
theorem i56_27 : q_ins 56 27 = some (.putfield 62, 3, (21, 2, 14, 0, 0)) := s56_1 11
theorem i56_30 : q_ins 56 30 = some (.aload_n 0, 1, (0, 0, 0, 0, 0)) := s56_1 14
theorem i56_31 : q_ins 56 31 = some (.getfield 62, 3, (21, 2, 14, 0, 0)) := s56_1 15
theorem i56_34 : q_ins 56 34 = some (.iconst 1, 1, (0, 0, 0, 0, 0)) := s56_2 2
theorem i56_35 : q_ins 56 35 = some (.isub, 1, (0, 0, 0, 0, 0)) := s56_2 3
theorem i56_36 : q_ins 56 36 = some (.ireturn, 1, (0, 0, 0, 0, 0)) := s56_2 4
theorem s57_0 (j : Nat) : q_ins 57 j = q_at q_c57 j := rfl
theorem s57_1 (j : Nat) : q_ins 57 (j + 16) = q_at q_c57_1 j := s57_0 (j + 16)
theorem i57_0 : q_ins 57 0 = some (.iload_n 1, 1, (0, 0, 0, 0, 0)) := s57_0 0
theorem i57_1 : q_ins 57 1 = some (.ifCond .ne 11, 3, (0, 0, 0, 0, 0)) := s57_0 1
theorem i57_4 : q_ins 57 4 = some (.aload_n 0, 1, (0, 0, 0, 0, 0)) := s57_0 4
theorem i57_5 : q_ins 57 5 = some (.getfield 22, 3, (2, 9, 2, 2, 0)) := s57_0 5
theorem i57_8 : q_ins 57 8 = some (.getfield 108, 3, (102, 4, 13, 0, 0)) := s57_0 8
theorem i57_11 : q_ins 57 11 = some (.ireturn, 1, (0, 0, 0, 0, 0)) := s57_0 11
theorem i57_12 : q_ins 57 12 = some (.iload_n 1, 1, (0, 0, 0, 0, 0)) := s57_0 12
theorem i57_13 : q_ins 57 13 = some (.iconst 1, 1, (0, 0, 0, 0, 0)) := s57_0 13
theorem i57_14 : q_ins 57 14 = some (.if_icmp .ne 13, 3, (0, 0, 0, 0, 0)) := s57_0 14
theorem i57_17 : q_ins 57 17 = some (.aload_n 0, 1, (0, 0, 0, 0, 0)) := s57_1 1
theorem i57_18 : q_ins 57 18 = some (.getfield 22, 3, (2, 9, 2, 2, 0)) := s57_1 2
theorem i57_21 : q_ins 57 21 = some (.getfield 111, 3, (103, 4, 14, 0, 0)) := s57_1 5
theorem i57_24 : q_ins 57 24 = some (.goto 4, 3, (0, 0, 0, 0, 0)) := s57_1 8
theorem i57_27 : q_ins 57 27 = some (.iconst (-1), 1, (0, 0, 0, 0, 0)) := s57_1 11
theorem i57_28 : q_ins 57 28 = some (.ireturn, 1, (0, 0, 0, 0, 0)) := s57_1 12
theorem s58_0 (j : Nat) : q_ins 58 j = q_at q_c58 j := rfl
theorem s58_1 (j : Nat) : q_ins 58 (j + 16) = q_at q_c58_1 j := s58_0 (j + 16)
theorem s58_2 (j : Nat) : q_ins 58 (j + 32) = q_at q_c58_2 j := s58_1 (j + 16)
theorem i58_0 : q_ins 58 0 = some (.iload_n 1, 1, (0, 0, 0, 0, 0)) := s58_0 0
theorem i58_1 : q_ins 58 1 = some (.iconst (-1), 1, (0, 0, 0, 0, 0)) := s58_0 1
theorem i58_2 : q_ins 58 2 = some (.if_icmp .eq 21, 3, (0, 0, 0, 0, 0)) := s58_0 2
theorem i58_5 : q_ins 58 5 = some (.iload_n 1, 1, (0, 0, 0, 0, 0)) := s58_0 5
theorem i58_6 : q_ins 58 6 = some (.aload_n 0, 1, (0, 0, 0, 0, 0)) := s58_0 6
theorem i58_7 : q_ins 58 7 = some (.getfield 10, 3, (0, 9, 0, 2, 0)) := s58_0 7
theorem i58_10 : q_ins 58 10 = some (.getfield 92, 3, (82, 2, 14, 0, 0)) := s58_0 10
theorem i58_13 : q_ins 58 13 = some (.iconst 1, 1, (0, 0, 0, 0, 0)) := s58_0 13
theorem i58_14 : q_ins 58 14 = some (.isub, 1, (0, 0, 0, 0, 0)) := s58_0 14
theorem i58_15 : q_ins 58 15 = some (.invokestatic 60, 3, (64, 12, 2, 2, 0)) := s58_0 15
theorem i58_18 : q_ins 58 18 = some (.ifCond .ne 5, 3, (0, 0, 0, 0, 0)) := s58_1 2
theorem i58_21 : q_ins 58 21 = some (.iconst 0, 1, (0, 0, 0, 0, 0)) := s58_1 5
theorem i58_22 : q_ins 58 22 = some (.ireturn, 1, (0, 0, 0, 0, 0)) := s58_1 6
theorem i58_23 : q_ins 58 23 = some (.aload_n 0, 1, (0, 0, 0, 0, 0)) := s58_1 7
theorem i58_24 : q_ins 58 24 = some (.getfield 10, 3, (0, 9, 0, 2, 0)) := s58_1 8
theorem i58_27 : q_ins 58 27 = some (.iload_n 1, 1, (0, 0, 0, 0, 0)) := s58_1 11
theorem i58_28 : q_ins 58 28 = some (.putfield 114, 3, (104, 2, 15, 0, 0)) := s58_1 12
theorem i58_31 : q_ins 58 31 = some (.aload_n 0, 1, (0, 0, 0, 0, 0)) := s58_1 15
theorem i58_32 : q_ins 58 32 = some (.getfield 38, 3, (4, 9, 4, 2, 0)) := s58_2 0
theorem i58_35 : q_ins 58 35 = some (.invokevirtual 117, 3, (105, 59, 1, 0, 0)) := s58_2 3
theorem i58_38 : q_ins 58 38 = some (.aload_n 0, 1, (0, 0, 0, 0, 0)) := s58_2 6
theorem i58_39 : q_ins 58 39 = some (.getfield 56, 3, (6, 9, 6, 2, 0)) := s58_2 7
theorem i58_42 : q_ins 58 42 = some (.invokevirtual 68, 3, (66, 15, 1, 0, 5)) := s58_2 10
theorem i58_45 : q_ins 58 45 = some (.iconst 1, 1, (0, 0, 0, 0, 0)) := s58_2 13
theorem i58_46 : q_ins 58 46 = some (.ireturn, 1, (0, 0, 0, 0, 0)) := s58_2 14
theorem s59_0 (j : Nat) : q_ins 59 j = q_at q_c59 j := rfl
theorem s59_1 (j : Nat) : q_ins 59 (j + 16) = q_at q_c59_1 j := s59_0 (j + 16)
theorem i59_0 : q_ins 59 0 = some (.aload_n 0, 1, (0, 0, 0, 0, 0)) := s59_0 0
theorem i59_1 : q_ins 59 1 = some (.getfield 9, 3, (54, 0, 2, 2, 0)) := s59_0 1
theorem i59_4 : q_ins 59 4 = some (.iconst 0, 1, (0, 0, 0, 0, 0)) := s59_0 4
theorem i59_5 : q_ins 59 5 = some (.invokestatic 36, 3, (62, 8, 2, 2, 0)) := s59_0 5
theorem i59_8 : q_ins 59 8 = some (.aload_n 0, 1, (0, 0, 0, 0, 0)) := s59_0 8
theorem i59_9 : q_ins 59 9 = some (.getfield 15, 3, (55, 0, 3, 2, 0)) := s59_0 9
theorem i59_12 : q_ins 59 12 = some (.iconst 0, 1, (0, 0, 0, 0, 0)) := s59_0 12
theorem i59_13 : q_ins 59 13 = some (.invokestatic 36, 3, (62, 8, 2, 2, 0)) := s59_0 13
theorem i59_16 : q_ins 59 16 = some (.aload_n 0, 1, (0, 0, 0, 0, 0)) := s59_1 0
theorem i59_17 : q_ins 59 17 = some (.getfield 18, 3, (56, 0, 4, 2, 0)) := s59_1 1
theorem i59_20 : q_ins 59 20 = some (.iconst (-1), 1, (0, 0, 0, 0, 0)) := s59_1 4
theorem i59_21 : q_ins 59 21 = some (.invokestatic 36, 3, (62, 8, 2, 2, 0)) := s59_1 5
theorem i59_24 : q_ins 59 24 = some (.return_, 1, (0, 0, 0, 0, 0)) := s59_1 8
theorem s60_0 (j : Nat) : q_ins 60 j = q_at q_c60 j := rfl
theorem s60_1 (j : Nat) : q_ins 60 (j + 16) = q_at q_c60_1 j := s60_0 (j + 16)
theorem i60_0 : q_ins 60 0 = some (.aload_n 0, 1, (0, 0, 0, 0, 0)) := s60_0 0
theorem i60_1 : q_ins 60 1 = some (.getfield 56, 3, (6, 9, 6, 2, 0)) := s60_0 1
theorem i60_4 : q_ins 60 4 = some (.invokevirtual 68, 3, (66, 15, 1, 0, 5)) := s60_0 4
theorem i60_7 : q_ins 60 7 = some (.aload_n 0, 1, (0, 0, 0, 0, 0)) := s60_0 7
theorem i60_8 : q_ins 60 8 = some (.getfield 10, 3, (0, 9, 0, 2, 0)) := s60_0 8
theorem i60_11 : q_ins 60 11 = some (.iload_n 1, 1, (0, 0, 0, 0, 0)) := s60_0 11
theorem i60_12 : q_ins 60 12 = some (.iload_n 2, 1, (0, 0, 0, 0, 0)) := s60_0 12
theorem i60_13 : q_ins 60 13 = some (.invokevirtual 118, 3, (106, 61, 3, 0, 2)) := s60_0 13
theorem i60_16 : q_ins 60 16 = some (.ireturn, 1, (0, 0, 0, 0, 0)) := s60_1 0
theorem s61_0 (j : Nat) : q_ins 61 j = q_at q_c61 j := rfl
theorem s61_1 (j : Nat) : q_ins 61 (j + 16) = q_at q_c61_1 j := s61_0 (j + 16)
theorem s61_2 (j : Nat) : q_ins 61 (j + 32) = q_at q_c61_2 j := s61_1 (j + 16)
theorem s61_3 (j : Nat) : q_ins 61 (j + 48) = q_at q_c61_3 j := s61_2 (j + 16)
theorem i61_0 : q_ins 61 0 = some (.aload_n 0, 1, (0, 0, 0, 0, 0)) := s61_0 0
theorem i61_1 : q_ins 61 1 = some (.iload_n 1, 1, (0, 0, 0, 0, 0)) := s61_0 1
theorem i61_2 : q_ins 61 2 = some (.invokevirtual 74, 3, (107, 62, 2, 0, 2)) := s61_0 2
theorem i61_5 : q_ins 61 5 = some (.ifCond .eq 24, 3, (0, 0, 0, 0, 0)) := s61_0 5
theorem i61_8 : q_ins 61 8 = some (.iload_n 2, 1, (0, 0, 0, 0, 0)) := s61_0 8
theorem i61_9 : q_ins 61 9 = some (.iconst (-1), 1, (0, 0, 0, 0, 0)) := s61_0 9
theorem i61_10 : q_ins 61 10 = some (.if_icmp .lt 19, 3, (0, 0, 0, 0, 0)) := s61_0 10
theorem i61_13 : q_ins 61 13 = some (.iload_n 2, 1, (0, 0, 0, 0, 0)) := s61_0 13
theorem i61_14 : q_ins 61 14 = some (.bipush 16, 2, (0, 0, 0, 0, 0)) := s61_0 14
theorem i61_16 : q_ins 61 16 = some (.if_icmp .ge 13, 3, (0, 0, 0, 0, 0)) := s61_1 0
theorem i61_19 : q_ins 61 19 = some (.aload_n 0, 1, (0, 0, 0, 0, 0)) := s61_1 3
theorem i61_20 : q_ins 61 20 = some (.getfield 21, 3, (10, 2, 3, 2, 0)) := s61_1 4
theorem i61_23 : q_ins 61 23 = some (.iload_n 1, 1, (0, 0, 0, 0, 0)) := s61_1 7
theorem i61_24 : q_ins 61 24 = some (.iaload, 1, (0, 0, 0, 0, 0)) := s61_1 8
theorem i61_25 : q_ins 61 25 = some (.iload_n 2, 1, (0, 0, 0, 0, 0)) := s61_1 9
theorem i61_26 : q_ins 61 26 = some (.if_icmp .ne 5, 3, (0, 0, 0, 0, 0)) := s61_1 10
theorem i61_29 : q_ins 61 29 = some (.iconst 0, 1, (0, 0, 0, 0, 0)) := s61_1 13
theorem i61_30 : q_ins 61 30 = some (.ireturn, 1, (0, 0, 0, 0, 0)) := s61_1 14
theorem i61_31 : q_ins 61 31 = some (.iload_n 2, 1, (0, 0, 0, 0, 0)) := s61_1 15
theorem i61_32 : q_ins 61 32 = some (.iconst (-1), 1, (0, 0, 0, 0, 0)) := s61_2 0
theorem i61_33 : q_ins 61 33 = some (.if_icmp .eq 14, 3, (0, 0, 0, 0, 0)) := s61_2 1
theorem i61_36 : q_ins 61 36 = some (.aload_n 0, 1, (0, 0, 0, 0, 0)) := s61_2 4
theorem i61_37 : q_ins 61 37 = some (.iload_n 2, 1, (0, 0, 0, 0, 0)) := s61_2 5
theorem i61_38 : q_ins 61 38 = some (.invokevirtual 78, 3, (108, 63, 2, 0, 2)) := s61_2 6
theorem i61_41 : q_ins 61 41 = some (.iconst (-1), 1, (0, 0, 0, 0, 0)) := s61_2 9
theorem i61_42 : q_ins 61 42 = some (.if_icmp .eq 5, 3, (0, 0, 0, 0, 0)) := s61_2 10
theorem i61_45 : q_ins 61 45 = some (.iconst 0, 1, (0, 0, 0, 0, 0)) := s61_2 13
theorem i61_46 : q_ins 61 46 = some (.ireturn, 1, (0, 0, 0, 0, 0)) := s61_2 14
theorem i61_47 : q_ins 61 47 = some (.aload_n 0, 1, (0, 0, 0, 0, 0)) := s61_2 15
theorem i61_48 : q_ins 61 48 = some (.getfield 45, 3, (16, 2, 9, 2, 0)) := s61_3 0
theorem i61_51 : q_ins 61 51 = some (.aload_n 0, 1, (0, 0, 0, 0, 0)) := s61_3 3
theorem i61_52 : q_ins 61 52 = some (.invokevirtual 82, 3, (109, 64, 2, 0, 7)) := s61_3 4
theorem i61_55 : q_ins 61 55 = some (.aload_n 0, 1, (0, 0, 0, 0, 0)) := s61_3 7
theorem i61_56 : q_ins 61 56 = some (.getfield 21, 3, (10, 2, 3, 2, 0)) := s61_3 8
theorem i61_59 : q_ins 61 59 = some (.iload_n 1, 1, (0, 0, 0, 0, 0)) := s61_3 11
theorem i61_60 : q_ins 61 60 = some (.iload_n 2, 1, (0, 0, 0, 0, 0)) := s61_3 12
theorem i61_61 : q_ins 61 61 = some (.iastore, 1, (0, 0, 0, 0, 0)) := s61_3 13
theorem i61_62 : q_ins 61 62 = some (.iconst 1, 1, (0, 0, 0, 0, 0)) := s61_3 14
theorem i61_63 : q_ins 61 63 = some (.ireturn, 1, (0, 0, 0, 0, 0)) := s61_3 15
theorem s62_0 (j : Nat) : q_ins 62 j = q_at q_c62 j := rfl
theorem s62_1 (j : Nat) : q_ins 62 (j + 16) = q_at q_c62_1 j := s62_0 (j + 16)
theorem i62_0 : q_ins 62 0 = some (.iload_n 1, 1, (0, 0, 0, 0, 0)) := s62_0 0
theorem i62_1 : q_ins 62 1 = some (.ifCond .lt 21, 3, (0, 0, 0, 0, 0)) := s62_0 1
theorem i62_4 : q_ins 62 4 = some (.iload_n 1, 1, (0, 0, 0, 0, 0)) := s62_0 4
theorem i62_5 : q_ins 62 5 = some (.aload_n 0, 1, (0, 0, 0, 0, 0)) := s62_0 5
theorem i62_6 : q_ins 62 6 = some (.getfield 49, 3, (17, 2, 10, 0, 0)) := s62_0 6
theorem i62_9 : q_ins 62 9 = some (.if_icmp .ge 13, 3, (0, 0, 0, 0, 0)) := s62_0 9
theorem i62_12 : q_ins 62 12 = some (.iload_n 1, 1, (0, 0, 0, 0, 0)) := s62_0 12
theorem i62_13 : q_ins 62 13 = some (.bipush 6, 2, (0, 0, 0, 0, 0)) := s62_0 13
theorem i62_15 : q_ins 62 15 = some (.if_icmp .ge 7, 3, (0, 0, 0, 0, 0)) := s62_0 15
theorem i62_18 : q_ins 62 18 = some (.iconst 1, 1, (0, 0, 0, 0, 0)) := s62_1 2
theorem i62_19 : q_ins 62 19 = some (.goto 4, 3, (0, 0, 0, 0, 0)) := s62_1 3
theorem i62_22 : q_ins 62 22 = some (.iconst 0, 1, (0, 0, 0, 0, 0)) := s62_1 6
theorem i62_23 : q_ins 62 23 = some (.ireturn, 1, (0, 0, 0, 0, 0)) := s62_1 7
theorem s63_0 (j : Nat) : q_ins 63 j = q_at q_c63 j := rfl
theorem s63_1 (j : Nat) : q_ins 63 (j + 16) = q_at q_c63_1 j := s63_0 (j + 16)
theorem i63_0 : q_ins 63 0 = some (.iconst 0, 1, (0, 0, 0, 0, 0)) := s63_0 0
theorem i63_1 : q_ins 63 1 = some (.istore_n 2, 1, (0, 0, 0, 0, 0)) := s63_0 1
theorem i63_2 : q_ins 63 2 = some (.iload_n 2, 1, (0, 0, 0, 0, 0)) := s63_0 2
theorem i63_3 : q_ins 63 3 = some (.bipush 6, 2, (0, 0, 0, 0, 0)) := s63_0 3
theorem i63_5 : q_ins 63 5 = some (.if_icmp .ge 21, 3, (0, 0, 0, 0, 0)) := s63_0 5
theorem i63_8 : q_ins 63 8 = some (.aload_n 0, 1, (0, 0, 0, 0, 0)) := s63_0 8
theorem i63_9 : q_ins 63 9 = some (.getfield 21, 3, (10, 2, 3, 2, 0)) := s63_0 9
theorem i63_12 : q_ins 63 12 = some (.iload_n 2, 1, (0, 0, 0, 0, 0)) := s63_0 12
theorem i63_13 : q_ins 63 13 = some (.iaload, 1, (0, 0, 0, 0, 0)) := s63_0 13
theorem i63_14 : q_ins 63 14 = some (.iload_n 1, 1, (0, 0, 0, 0, 0)) := s63_0 14
theorem i63_15 : q_ins 63 15 = some (.if_icmp .ne 5, 3, (0, 0, 0, 0, 0)) := s63_0 15
theorem i63_18 : q_ins 63 18 = some (.iload_n 2, 1, (0, 0, 0, 0, 0)) := s63_1 2
theorem i63_19 : q_ins 63 19 = some (.ireturn, 1, (0, 0, 0, 0, 0)) := s63_1 3
theorem i63_20 : q_ins 63 20 = some (.iinc 2 1, 3, (0, 0, 0, 0, 0)) := s63_1 4
theorem i63_23 : q_ins 63 23 = some (.goto (-21), 3, (0, 0, 0, 0, 0)) := s63_1 7
theorem i63_26 : q_ins 63 26 = some (.iconst (-1), 1, (0, 0, 0, 0, 0)) := s63_1 10
theorem i63_27 : q_ins 63 27 = some (.ireturn, 1, (0, 0, 0, 0, 0)) := s63_1 11
theorem s64_0 (j : Nat) : q_ins 64 j = q_at q_c64 j := rfl
theorem s64_1 (j : Nat) : q_ins 64 (j + 16) = q_at q_c64_1 j := s64_0 (j + 16)
theorem s64_2 (j : Nat) : q_ins 64 (j + 32) = q_at q_c64_2 j := s64_1 (j + 16)
theorem s64_3 (j : Nat) : q_ins 64 (j + 48) = q_at q_c64_3 j := s64_2 (j + 16)
theorem s64_4 (j : Nat) : q_ins 64 (j + 64) = q_at q_c64_4 j := s64_3 (j + 16)
theorem s64_5 (j : Nat) : q_ins 64 (j + 80) = q_at q_c64_5 j := s64_4 (j + 16)
theorem s64_6 (j : Nat) : q_ins 64 (j + 96) = q_at q_c64_6 j := s64_5 (j + 16)
theorem s64_7 (j : Nat) : q_ins 64 (j + 112) = q_at q_c64_7 j := s64_6 (j + 16)
theorem i64_0 : q_ins 64 0 = some (.aload_n 0, 1, (0, 0, 0, 0, 0)) := s64_0 0
theorem i64_1 : q_ins 64 1 = some (.getfield 27, 3, (30, 7, 5, 0, 0)) := s64_0 1
theorem i64_4 : q_ins 64 4 = some (.aload_n 0, 1, (0, 0, 0, 0, 0)) := s64_0 4
theorem i64_5 : q_ins 64 5 = some (.getfield 31, 3, (31, 7, 6, 0, 0)) := s64_0 5
theorem i64_8 : q_ins 64 8 = some (.iadd, 1, (0, 0, 0, 0, 0)) := s64_0 8
theorem i64_9 : q_ins 64 9 = some (.bipush 30, 2, (0, 0, 0, 0, 0)) := s64_0 9
theorem i64_11 : q_ins 64 11 = some (.irem, 1, (0, 0, 0, 0, 0)) := s64_0 11
theorem i64_12 : q_ins 64 12 = some (.istore_n 2, 1, (0, 0, 0, 0, 0)) := s64_0 12
theorem i64_13 : q_ins 64 13 = some (.aload_n 0, 1, (0, 0, 0, 0, 0)) := s64_0 13
theorem i64_14 : q_ins 64 14 = some (.getfield 31, 3, (31, 7, 6, 0, 0)) := s64_0 14
theorem i64_17 : q_ins 64 17 = some (.bipush 30, 2, (0, 0, 0, 0, 0)) := s64_1 1
theorem i64_19 : q_ins 64 19 = some (.if_icmp .ge 16, 3, (0, 0, 0, 0, 0)) := s64_1 3
theorem i64_22 : q_ins 64 22 = some (.aload_n 0, 1, (0, 0, 0, 0, 0)) := s64_1 6
theorem i64_23 : q_ins 64 23 = some (.dup, 1, (0, 0, 0, 0, 0)) := s64_1 7
theorem i64_24 : q_ins 64 24 = some (.getfield 31, 3, (31, 7, 6, 0, 0)) := s64_1 8
theorem i64_27 : q_ins 64 27 = some (.iconst 1, 1, (0, 0, 0, 0, 0)) := s64_1 11
theorem i64_28 : q_ins 64 28 = some (.iadd, 1, (0, 0, 0, 0, 0)) := s64_1 12
theorem i64_29 : q_ins 64 29 = some (.putfield 31, 3, (31, 7, 6, 0, 0)) := s64_1 13
theorem i64_32 : q_ins 64 32 = some (.goto 16, 3, (0, 0, 0, 0, 0)) := s64_2 0
theorem i64_35 : q_ins 64 35 = some (.aload_n 0, 1, (0, 0, 0, 0, 0)) := s64_2 3
theorem i64_36 : q_ins 64 36 = some (.aload_n 0, 1, (0, 0, 0, 0, 0)) := s64_2 4
theorem i64_37 : q_ins 64 37 = some (.getfield 27, 3, (30, 7, 5, 0, 0)) := s64_2 5
theorem i64_40 : q_ins 64 40 = some (.iconst 1, 1, (0, 0, 0, 0, 0)) := s64_2 8
theorem i64_41 : q_ins 64 41 = some (.iadd, 1, (0, 0, 0, 0, 0)) := s64_2 9
theorem i64_42 : q_ins 64 42 = some (.bipush 30, 2, (0, 0, 0, 0, 0)) := s64_2 10
theorem i64_44 : q_ins 64 44 = some (.irem, 1, (0, 0, 0, 0, 0)) := s64_2 12
theorem i64_45 : q_ins 64 45 = some (.putfield 27, 3, (30, 7, 5, 0, 0)) := s64_2 13
theorem i64_48 : q_ins 64 48 = some (.aload_n 1, 1, (0, 0, 0, 0, 0)) := s64_3 0
theorem i64_49 : q_ins 64 49 = some (.getfield 34, 3, (105, 2, 3, 2, 0)) := s64_3 1
theorem i64_52 : q_ins 64 52 = some (.iconst 0, 1, (0, 0, 0, 0, 0)) := s64_3 4
theorem i64_53 : q_ins 64 53 = some (.aload_n 0, 1, (0, 0, 0, 0, 0)) := s64_3 5
theorem i64_54 : q_ins 64 54 = some (.getfield 9, 3, (25, 7, 0, 2, 0)) := s64_3 6
theorem i64_57 : q_ins 64 57 = some (.iload_n 2, 1, (0, 0, 0, 0, 0)) := s64_3 9
theorem i64_58 : q_ins 64 58 = some (.bipush 6, 2, (0, 0, 0, 0, 0)) := s64_3 10
theorem i64_60 : q_ins 64 60 = some (.imul, 1, (0, 0, 0, 0, 0)) := s64_3 12
theorem i64_61 : q_ins 64 61 = some (.bipush 6, 2, (0, 0, 0, 0, 0)) := s64_3 13
theorem i64_63 : q_ins 64 63 = some (.invokestatic 37, 3, (751, 0, 0, 8, 0)) := s64_3 15
theorem i64_66 : q_ins 64 66 = some (.aload_n 1, 1, (0, 0, 0, 0, 0)) := s64_4 2
theorem i64_67 : q_ins 64 67 = some (.getfield 43, 3, (106, 2, 4, 2, 0)) := s64_4 3
theorem i64_70 : q_ins 64 70 = some (.iconst 0, 1, (0, 0, 0, 0, 0)) := s64_4 6
theorem i64_71 : q_ins 64 71 = some (.aload_n 0, 1, (0, 0, 0, 0, 0)) := s64_4 7
theorem i64_72 : q_ins 64 72 = some (.getfield 15, 3, (26, 7, 1, 2, 0)) := s64_4 8
theorem i64_75 : q_ins 64 75 = some (.iload_n 2, 1, (0, 0, 0, 0, 0)) := s64_4 11
theorem i64_76 : q_ins 64 76 = some (.bipush 6, 2, (0, 0, 0, 0, 0)) := s64_4 12
theorem i64_78 : q_ins 64 78 = some (.imul, 1, (0, 0, 0, 0, 0)) := s64_4 14
theorem i64_79 : q_ins 64 79 = some (.bipush 6, 2, (0, 0, 0, 0, 0)) := s64_4 15
theorem i64_81 : q_ins 64 81 = some (.invokestatic 37, 3, (751, 0, 0, 8, 0)) := s64_5 1
theorem i64_84 : q_ins 64 84 = some (.aload_n 0, 1, (0, 0, 0, 0, 0)) := s64_5 4
theorem i64_85 : q_ins 64 85 = some (.getfield 18, 3, (27, 7, 2, 2, 0)) := s64_5 5
theorem i64_88 : q_ins 64 88 = some (.iload_n 2, 1, (0, 0, 0, 0, 0)) := s64_5 8
theorem i64_89 : q_ins 64 89 = some (.aload_n 1, 1, (0, 0, 0, 0, 0)) := s64_5 9
theorem i64_90 : q_ins 64 90 = some (.getfield 44, 3, (107, 2, 11, 0, 0)) := s64_5 10
theorem i64_93 : q_ins 64 93 = some (.iastore, 1, (0, 0, 0, 0, 0)) := s64_5 13
theorem i64_94 : q_ins 64 94 = some (.aload_n 0, 1, (0, 0, 0, 0, 0)) := s64_5 14
theorem i64_95 : q_ins 64 95 = some (.getfield 21, 3, (28, 7, 3, 2, 0)) := s64_5 15
theorem i64_98 : q_ins 64 98 = some (.iload_n 2, 1, (0, 0, 0, 0, 0)) := s64_6 2
theorem i64_99 : q_ins 64 99 = some (.aload_n 1, 1, (0, 0, 0, 0, 0)) := s64_6 3
theorem i64_100 : q_ins 64 100 = some (.getfield 46, 3, (108, 2, 16, 0, 0)) := s64_6 4
theorem i64_103 : q_ins 64 103 = some (.iastore, 1, (0, 0, 0, 0, 0)) := s64_6 7
theorem i64_104 : q_ins 64 104 = some (.aload_n 0, 1, (0, 0, 0, 0, 0)) := s64_6 8
theorem i64_105 : q_ins 64 105 = some (.getfield 24, 3, (29, 7, 4, 2, 0)) := s64_6 9
theorem i64_108 : q_ins 64 108 = some (.iload_n 2, 1, (0, 0, 0, 0, 0)) := s64_6 12
theorem i64_109 : q_ins 64 109 = some (.aload_n 1, 1, (0, 0, 0, 0, 0)) := s64_6 13
theorem i64_110 : q_ins 64 110 = some (.getfield 48, 3, (109, 2, 17, 0, 0)) := s64_6 14
theorem i64_113 : q_ins 64 113 = some (.iastore, 1, (0, 0, 0, 0, 0)) := s64_7 1
theorem i64_114 : q_ins 64 114 = some (.return_, 1, (0, 0, 0, 0, 0)) := s64_7 2
theorem s65_0 (j : Nat) : q_ins 65 j = q_at q_c65 j := rfl
theorem s65_1 (j : Nat) : q_ins 65 (j + 16) = q_at q_c65_1 j := s65_0 (j + 16)
theorem i65_0 : q_ins 65 0 = some (.aload_n 0, 1, (0, 0, 0, 0, 0)) := s65_0 0
theorem i65_1 : q_ins 65 1 = some (.getfield 56, 3, (6, 9, 6, 2, 0)) := s65_0 1
theorem i65_4 : q_ins 65 4 = some (.invokevirtual 68, 3, (66, 15, 1, 0, 5)) := s65_0 4
theorem i65_7 : q_ins 65 7 = some (.aload_n 0, 1, (0, 0, 0, 0, 0)) := s65_0 7
theorem i65_8 : q_ins 65 8 = some (.getfield 10, 3, (0, 9, 0, 2, 0)) := s65_0 8
theorem i65_11 : q_ins 65 11 = some (.iload_n 1, 1, (0, 0, 0, 0, 0)) := s65_0 11
theorem i65_12 : q_ins 65 12 = some (.iload_n 2, 1, (0, 0, 0, 0, 0)) := s65_0 12
theorem i65_13 : q_ins 65 13 = some (.invokevirtual 121, 3, (110, 66, 3, 0, 2)) := s65_0 13
theorem i65_16 : q_ins 65 16 = some (.ireturn, 1, (0, 0, 0, 0, 0)) := s65_1 0
theorem s66_0 (j : Nat) : q_ins 66 j = q_at q_c66 j := rfl
theorem s66_1 (j : Nat) : q_ins 66 (j + 16) = q_at q_c66_1 j := s66_0 (j + 16)
theorem s66_2 (j : Nat) : q_ins 66 (j + 32) = q_at q_c66_2 j := s66_1 (j + 16)
theorem s66_3 (j : Nat) : q_ins 66 (j + 48) = q_at q_c66_3 j := s66_2 (j + 16)
theorem i66_0 : q_ins 66 0 = some (.aload_n 0, 1, (0, 0, 0, 0, 0)) := s66_0 0
theorem i66_1 : q_ins 66 1 = some (.iload_n 1, 1, (0, 0, 0, 0, 0)) := s66_0 1
theorem i66_2 : q_ins 66 2 = some (.invokevirtual 74, 3, (107, 62, 2, 0, 2)) := s66_0 2
theorem i66_5 : q_ins 66 5 = some (.ifCond .eq 23, 3, (0, 0, 0, 0, 0)) := s66_0 5
theorem i66_8 : q_ins 66 8 = some (.aload_n 0, 1, (0, 0, 0, 0, 0)) := s66_0 8
theorem i66_9 : q_ins 66 9 = some (.getfield 53, 3, (18, 2, 11, 0, 0)) := s66_0 9
theorem i66_12 : q_ins 66 12 = some (.iload_n 1, 1, (0, 0, 0, 0, 0)) := s66_0 12
theorem i66_13 : q_ins 66 13 = some (.ishr, 1, (0, 0, 0, 0, 0)) := s66_0 13
theorem i66_14 : q_ins 66 14 = some (.iconst 1, 1, (0, 0, 0, 0, 0)) := s66_0 14
theorem i66_15 : q_ins 66 15 = some (.iand, 1, (0, 0, 0, 0, 0)) := s66_0 15
theorem i66_16 : q_ins 66 16 = some (.iload_n 2, 1, (0, 0, 0, 0, 0)) := s66_1 0
theorem i66_17 : q_ins 66 17 = some (.ifCond .eq 7, 3, (0, 0, 0, 0, 0)) := s66_1 1
theorem i66_20 : q_ins 66 20 = some (.iconst 1, 1, (0, 0, 0, 0, 0)) := s66_1 4
theorem i66_21 : q_ins 66 21 = some (.goto 4, 3, (0, 0, 0, 0, 0)) := s66_1 5
theorem i66_24 : q_ins 66 24 = some (.iconst 0, 1, (0, 0, 0, 0, 0)) := s66_1 8
theorem i66_25 : q_ins 66 25 = some (.if_icmp .ne 5, 3, (0, 0, 0, 0, 0)) := s66_1 9
theorem i66_28 : q_ins 66 28 = some (.iconst 0, 1, (0, 0, 0, 0, 0)) := s66_1 12
theorem i66_29 : q_ins 66 29 = some (.ireturn, 1, (0, 0, 0, 0, 0)) := s66_1 13
theorem i66_30 : q_ins 66 30 = some (.aload_n 0, 1, (0, 0, 0, 0, 0)) := s66_1 14
theorem i66_31 : q_ins 66 31 = some (.getfield 45, 3, (16, 2, 9, 2, 0)) := s66_1 15
theorem i66_34 : q_ins 66 34 = some (.aload_n 0, 1, (0, 0, 0, 0, 0)) := s66_2 2
theorem i66_35 : q_ins 66 35 = some (.invokevirtual 82, 3, (109, 64, 2, 0, 7)) := s66_2 3
theorem i66_38 : q_ins 66 38 = some (.aload_n 0, 1, (0, 0, 0, 0, 0)) := s66_2 6
theorem i66_39 : q_ins 66 39 = some (.dup, 1, (0, 0, 0, 0, 0)) := s66_2 7
theorem i66_40 : q_ins 66 40 = some (.getfield 53, 3, (18, 2, 11, 0, 0)) := s66_2 8
theorem i66_43 : q_ins 66 43 = some (.iconst 1, 1, (0, 0, 0, 0, 0)) := s66_2 11
theorem i66_44 : q_ins 66 44 = some (.iload_n 1, 1, (0, 0, 0, 0, 0)) := s66_2 12
theorem i66_45 : q_ins 66 45 = some (.ishl, 1, (0, 0, 0, 0, 0)) := s66_2 13
theorem i66_46 : q_ins 66 46 = some (.ixor, 1, (0, 0, 0, 0, 0)) := s66_2 14
theorem i66_47 : q_ins 66 47 = some (.putfield 53, 3, (18, 2, 11, 0, 0)) := s66_2 15
theorem i66_50 : q_ins 66 50 = some (.iconst 1, 1, (0, 0, 0, 0, 0)) := s66_3 2
theorem i66_51 : q_ins 66 51 = some (.ireturn, 1, (0, 0, 0, 0, 0)) := s66_3 3
theorem s67_0 (j : Nat) : q_ins 67 j = q_at q_c67 j := rfl
theorem i67_0 : q_ins 67 0 = some (.aload_n 0, 1, (0, 0, 0, 0, 0)) := s67_0 0
theorem i67_1 : q_ins 67 1 = some (.getfield 47, 3, (5, 9, 5, 2, 0)) := s67_0 1
theorem i67_4 : q_ins 67 4 = some (.invokevirtual 125, 3, (111, 68, 1, 0, 1)) := s67_0 4
theorem i67_7 : q_ins 67 7 = some (.ireturn, 1, (0, 0, 0, 0, 0)) := s67_0 7
theorem s68_0 (j : Nat) : q_ins 68 j = q_at q_c68 j := rfl
theorem s68_1 (j : Nat) : q_ins 68 (j + 16) = q_at q_c68_1 j := s68_0 (j + 16)
theorem s68_2 (j : Nat) : q_ins 68 (j + 32) = q_at q_c68_2 j := s68_1 (j + 16)
theorem s68_3 (j : Nat) : q_ins 68 (j + 48) = q_at q_c68_3 j := s68_2 (j + 16)
theorem s68_4 (j : Nat) : q_ins 68 (j + 64) = q_at q_c68_4 j := s68_3 (j + 16)
theorem s68_5 (j : Nat) : q_ins 68 (j + 80) = q_at q_c68_5 j := s68_4 (j + 16)
theorem s68_6 (j : Nat) : q_ins 68 (j + 96) = q_at q_c68_6 j := s68_5 (j + 16)
theorem s68_7 (j : Nat) : q_ins 68 (j + 112) = q_at q_c68_7 j := s68_6 (j + 16)
theorem s68_8 (j : Nat) : q_ins 68 (j + 128) = q_at q_c68_8 j := s68_7 (j + 16)
theorem s68_9 (j : Nat) : q_ins 68 (j + 144) = q_at q_c68_9 j := s68_8 (j + 16)
theorem s68_10 (j : Nat) : q_ins 68 (j + 160) = q_at q_c68_10 j := s68_9 (j + 16)
theorem i68_0 : q_ins 68 0 = some (.aload_n 0, 1, (0, 0, 0, 0, 0)) := s68_0 0
theorem i68_1 : q_ins 68 1 = some (.getfield 18, 3, (63, 1, 0, 2, 0)) := s68_0 1
theorem i68_4 : q_ins 68 4 = some (.invokevirtual 30, 3, (112, 69, 1, 0, 2)) := s68_0 4
theorem i68_7 : q_ins 68 7 = some (.istore_n 1, 1, (0, 0, 0, 0, 0)) := s68_0 7
theorem i68_8 : q_ins 68 8 = some (.iload_n 1, 1, (0, 0, 0, 0, 0)) := s68_0 8
theorem i68_9 : q_ins 68 9 = some (.ifCond .ne 5, 3, (0, 0, 0, 0, 0)) := s68_0 9
theorem i68_12 : q_ins 68 12 = some (.iconst (-1), 1, (0, 0, 0, 0, 0)) := s68_0 12
theorem i68_13 : q_ins 68 13 = some (.ireturn, 1, (0, 0, 0, 0, 0)) := s68_0 13
theorem i68_14 : q_ins 68 14 = some (.aload_n 0, 1, (0, 0, 0, 0, 0)) := s68_0 14
theorem i68_15 : q_ins 68 15 = some (.getfield 18, 3, (63, 1, 0, 2, 0)) := s68_0 15
theorem i68_18 : q_ins 68 18 = some (.getfield 36, 3, (110, 2, 9, 2, 0)) := s68_1 2
theorem i68_21 : q_ins 68 21 = some (.aload_n 0, 1, (0, 0, 0, 0, 0)) := s68_1 5
theorem i68_22 : q_ins 68 22 = some (.getfield 18, 3, (63, 1, 0, 2, 0)) := s68_1 6
theorem i68_25 : q_ins 68 25 = some (.invokevirtual 40, 3, (113, 64, 2, 0, 7)) := s68_1 9
theorem i68_28 : q_ins 68 28 = some (.aload_n 0, 1, (0, 0, 0, 0, 0)) := s68_1 12
theorem i68_29 : q_ins 68 29 = some (.getfield 9, 3, (61, 1, 3, 2, 0)) := s68_1 13
theorem i68_32 : q_ins 68 32 = some (.iconst 0, 1, (0, 0, 0, 0, 0)) := s68_2 0
theorem i68_33 : q_ins 68 33 = some (.invokestatic 46, 3, (114, 8, 2, 2, 0)) := s68_2 1
theorem i68_36 : q_ins 68 36 = some (.aload_n 0, 1, (0, 0, 0, 0, 0)) := s68_2 4
theorem i68_37 : q_ins 68 37 = some (.getfield 15, 3, (62, 1, 4, 2, 0)) := s68_2 5
theorem i68_40 : q_ins 68 40 = some (.iconst 0, 1, (0, 0, 0, 0, 0)) := s68_2 8
theorem i68_41 : q_ins 68 41 = some (.invokestatic 46, 3, (114, 8, 2, 2, 0)) := s68_2 9
theorem i68_44 : q_ins 68 44 = some (.iconst 0, 1, (0, 0, 0, 0, 0)) := s68_2 12
theorem i68_45 : q_ins 68 45 = some (.istore_n 2, 1, (0, 0, 0, 0, 0)) := s68_2 13
theorem i68_46 : q_ins 68 46 = some (.iconst 0, 1, (0, 0, 0, 0, 0)) := s68_2 14
theorem i68_47 : q_ins 68 47 = some (.istore_n 3, 1, (0, 0, 0, 0, 0)) := s68_2 15
theorem i68_48 : q_ins 68 48 = some (.iload_n 3, 1, (0, 0, 0, 0, 0)) := s68_3 0
theorem i68_49 : q_ins 68 49 = some (.aload_n 0, 1, (0, 0, 0, 0, 0)) := s68_3 1
theorem i68_50 : q_ins 68 50 = some (.getfield 18, 3, (63, 1, 0, 2, 0)) := s68_3 2
theorem i68_53 : q_ins 68 53 = some (.getfield 52, 3, (111, 2, 12, 0, 0)) := s68_3 5
theorem i68_56 : q_ins 68 56 = some (.if_icmp .ge 48, 3, (0, 0, 0, 0, 0)) := s68_3 8
theorem i68_59 : q_ins 68 59 = some (.aload_n 0, 1, (0, 0, 0, 0, 0)) := s68_3 11
theorem i68_60 : q_ins 68 60 = some (.getfield 26, 3, (65, 1, 2, 2, 0)) := s68_3 12
theorem i68_63 : q_ins 68 63 = some (.iload_n 3, 1, (0, 0, 0, 0, 0)) := s68_3 15
theorem i68_64 : q_ins 68 64 = some (.iload_n 1, 1, (0, 0, 0, 0, 0)) := s68_4 0
theorem i68_65 : q_ins 68 65 = some (.aload_n 0, 1, (0, 0, 0, 0, 0)) := s68_4 1
theorem i68_66 : q_ins 68 66 = some (.getfield 18, 3, (63, 1, 0, 2, 0)) := s68_4 2
theorem i68_69 : q_ins 68 69 = some (.getfield 56, 3, (112, 2, 11, 0, 0)) := s68_4 5
theorem i68_72 : q_ins 68 72 = some (.aload_n 0, 1, (0, 0, 0, 0, 0)) := s68_4 8
theorem i68_73 : q_ins 68 73 = some (.getfield 18, 3, (63, 1, 0, 2, 0)) := s68_4 9
theorem i68_76 : q_ins 68 76 = some (.getfield 59, 3, (113, 2, 3, 2, 0)) := s68_4 12
theorem i68_79 : q_ins 68 79 = some (.invokevirtual 62, 3, (115, 70, 5, 0, 0)) := s68_4 15
theorem i68_82 : q_ins 68 82 = some (.iload_n 2, 1, (0, 0, 0, 0, 0)) := s68_5 2
theorem i68_83 : q_ins 68 83 = some (.aload_n 0, 1, (0, 0, 0, 0, 0)) := s68_5 3
theorem i68_84 : q_ins 68 84 = some (.getfield 26, 3, (65, 1, 2, 2, 0)) := s68_5 4
theorem i68_87 : q_ins 68 87 = some (.iload_n 3, 1, (0, 0, 0, 0, 0)) := s68_5 7
theorem i68_88 : q_ins 68 88 = some (.aload_n 0, 1, (0, 0, 0, 0, 0)) := s68_5 8
theorem i68_89 : q_ins 68 89 = some (.iload_n 1, 1, (0, 0, 0, 0, 0)) := s68_5 9
theorem i68_90 : q_ins 68 90 = some (.invokevirtual 68, 3, (116, 78, 2, 0, 1)) := s68_5 10
theorem i68_93 : q_ins 68 93 = some (.invokevirtual 72, 3, (117, 79, 3, 0, 0)) := s68_5 13
theorem i68_96 : q_ins 68 96 = some (.iadd, 1, (0, 0, 0, 0, 0)) := s68_6 0
theorem i68_97 : q_ins 68 97 = some (.istore_n 2, 1, (0, 0, 0, 0, 0)) := s68_6 1
theorem i68_98 : q_ins 68 98 = some (.iinc 3 1, 3, (0, 0, 0, 0, 0)) := s68_6 2
theorem i68_101 : q_ins 68 101 = some (.goto (-53), 3, (0, 0, 0, 0, 0)) := s68_6 5
theorem i68_104 : q_ins 68 104 = some (.iconst 0, 1, (0, 0, 0, 0, 0)) := s68_6 8
theorem i68_105 : q_ins 68 105 = some (.istore_n 3, 1, (0, 0, 0, 0, 0)) := s68_6 9
theorem i68_106 : q_ins 68 106 = some (.iload_n 3, 1, (0, 0, 0, 0, 0)) := s68_6 10
theorem i68_107 : q_ins 68 107 = some (.bipush 6, 2, (0, 0, 0, 0, 0)) := s68_6 11
theorem i68_109 : q_ins 68 109 = some (.if_icmp .ge 42, 3, (0, 0, 0, 0, 0)) := s68_6 13
theorem i68_112 : q_ins 68 112 = some (.aload_n 0, 1, (0, 0, 0, 0, 0)) := s68_7 0
theorem i68_113 : q_ins 68 113 = some (.getfield 18, 3, (63, 1, 0, 2, 0)) := s68_7 1
theorem i68_116 : q_ins 68 116 = some (.iload_n 3, 1, (0, 0, 0, 0, 0)) := s68_7 4
theorem i68_117 : q_ins 68 117 = some (.invokevirtual 76, 3, (118, 80, 2, 0, 2)) := s68_7 5
theorem i68_120 : q_ins 68 120 = some (.ifCond .eq 25, 3, (0, 0, 0, 0, 0)) := s68_7 8
theorem i68_123 : q_ins 68 123 = some (.aload_n 0, 1, (0, 0, 0, 0, 0)) := s68_7 11
theorem i68_124 : q_ins 68 124 = some (.getfield 18, 3, (63, 1, 0, 2, 0)) := s68_7 12
theorem i68_127 : q_ins 68 127 = some (.getfield 80, 3, (114, 2, 4, 2, 0)) := s68_7 15
theorem i68_130 : q_ins 68 130 = some (.iload_n 3, 1, (0, 0, 0, 0, 0)) := s68_8 2
theorem i68_131 : q_ins 68 131 = some (.dup2, 1, (0, 0, 0, 0, 0)) := s68_8 3
theorem i68_132 : q_ins 68 132 = some (.iaload, 1, (0, 0, 0, 0, 0)) := s68_8 4
theorem i68_133 : q_ins 68 133 = some (.aload_n 0, 1, (0, 0, 0, 0, 0)) := s68_8 5
theorem i68_134 : q_ins 68 134 = some (.iload_n 3, 1, (0, 0, 0, 0, 0)) := s68_8 6
theorem i68_135 : q_ins 68 135 = some (.iload_n 2, 1, (0, 0, 0, 0, 0)) := s68_8 7
theorem i68_136 : q_ins 68 136 = some (.iload_n 1, 1, (0, 0, 0, 0, 0)) := s68_8 8
theorem i68_137 : q_ins 68 137 = some (.invokestatic 83, 3, (119, 71, 1, 2, 0)) := s68_8 9
theorem i68_140 : q_ins 68 140 = some (.invokevirtual 88, 3, (120, 81, 4, 0, 1)) := s68_8 12
theorem i68_143 : q_ins 68 143 = some (.iadd, 1, (0, 0, 0, 0, 0)) := s68_8 15
theorem i68_144 : q_ins 68 144 = some (.iastore, 1, (0, 0, 0, 0, 0)) := s68_9 0
theorem i68_145 : q_ins 68 145 = some (.iinc 3 1, 3, (0, 0, 0, 0, 0)) := s68_9 1
theorem i68_148 : q_ins 68 148 = some (.goto (-42), 3, (0, 0, 0, 0, 0)) := s68_9 4
theorem i68_151 : q_ins 68 151 = some (.aload_n 0, 1, (0, 0, 0, 0, 0)) := s68_9 7
theorem i68_152 : q_ins 68 152 = some (.getfield 18, 3, (63, 1, 0, 2, 0)) := s68_9 8
theorem i68_155 : q_ins 68 155 = some (.dup, 1, (0, 0, 0, 0, 0)) := s68_9 11
theorem i68_156 : q_ins 68 156 = some (.getfield 92, 3, (115, 2, 17, 0, 0)) := s68_9 12
theorem i68_159 : q_ins 68 159 = some (.iconst 1, 1, (0, 0, 0, 0, 0)) := s68_9 15
theorem i68_160 : q_ins 68 160 = some (.iadd, 1, (0, 0, 0, 0, 0)) := s68_10 0
theorem i68_161 : q_ins 68 161 = some (.putfield 92, 3, (115, 2, 17, 0, 0)) := s68_10 1
theorem i68_164 : q_ins 68 164 = some (.iload_n 2, 1, (0, 0, 0, 0, 0)) := s68_10 4
theorem i68_165 : q_ins 68 165 = some (.ireturn, 1, (0, 0, 0, 0, 0)) := s68_10 5
theorem s69_0 (j : Nat) : q_ins 69 j = q_at q_c69 j := rfl
theorem s69_1 (j : Nat) : q_ins 69 (j + 16) = q_at q_c69_1 j := s69_0 (j + 16)
theorem s69_2 (j : Nat) : q_ins 69 (j + 32) = q_at q_c69_2 j := s69_1 (j + 16)
theorem i69_0 : q_ins 69 0 = some (.iconst 0, 1, (0, 0, 0, 0, 0)) := s69_0 0
theorem i69_1 : q_ins 69 1 = some (.istore_n 1, 1, (0, 0, 0, 0, 0)) := s69_0 1
theorem i69_2 : q_ins 69 2 = some (.iconst 0, 1, (0, 0, 0, 0, 0)) := s69_0 2
theorem i69_3 : q_ins 69 3 = some (.istore_n 2, 1, (0, 0, 0, 0, 0)) := s69_0 3
theorem i69_4 : q_ins 69 4 = some (.iload_n 2, 1, (0, 0, 0, 0, 0)) := s69_0 4
theorem i69_5 : q_ins 69 5 = some (.bipush 6, 2, (0, 0, 0, 0, 0)) := s69_0 5
theorem i69_7 : q_ins 69 7 = some (.if_icmp .ge 25, 3, (0, 0, 0, 0, 0)) := s69_0 7
theorem i69_10 : q_ins 69 10 = some (.aload_n 0, 1, (0, 0, 0, 0, 0)) := s69_0 10
theorem i69_11 : q_ins 69 11 = some (.getfield 21, 3, (10, 2, 3, 2, 0)) := s69_0 11
theorem i69_14 : q_ins 69 14 = some (.iload_n 2, 1, (0, 0, 0, 0, 0)) := s69_0 14
theorem i69_15 : q_ins 69 15 = some (.iaload, 1, (0, 0, 0, 0, 0)) := s69_0 15
theorem i69_16 : q_ins 69 16 = some (.iconst (-1), 1, (0, 0, 0, 0, 0)) := s69_1 0
theorem i69_17 : q_ins 69 17 = some (.if_icmp .eq 9, 3, (0, 0, 0, 0, 0)) := s69_1 1
theorem i69_20 : q_ins 69 20 = some (.iload_n 1, 1, (0, 0, 0, 0, 0)) := s69_1 4
theorem i69_21 : q_ins 69 21 = some (.iconst 1, 1, (0, 0, 0, 0, 0)) := s69_1 5
theorem i69_22 : q_ins 69 22 = some (.iload_n 2, 1, (0, 0, 0, 0, 0)) := s69_1 6
theorem i69_23 : q_ins 69 23 = some (.ishl, 1, (0, 0, 0, 0, 0)) := s69_1 7
theorem i69_24 : q_ins 69 24 = some (.ior, 1, (0, 0, 0, 0, 0)) := s69_1 8
theorem i69_25 : q_ins 69 25 = some (.istore_n 1, 1, (0, 0, 0, 0, 0)) := s69_1 9
theorem i69_26 : q_ins 69 26 = some (.iinc 2 1, 3, (0, 0, 0, 0, 0)) := s69_1 10
theorem i69_29 : q_ins 69 29 = some (.goto (-25), 3, (0, 0, 0, 0, 0)) := s69_1 13
theorem i69_32 : q_ins 69 32 = some (.iload_n 1, 1, (0, 0, 0, 0, 0)) := s69_2 0
theorem i69_33 : q_ins 69 33 = some (.ireturn, 1, (0, 0, 0, 0, 0)) := s69_2 1
theorem s70_0 (j : Nat) : q_ins 70 j = q_at q_c70 j := rfl
theorem s70_1 (j : Nat) : q_ins 70 (j + 16) = q_at q_c70_1 j := s70_0 (j + 16)
theorem s70_2 (j : Nat) : q_ins 70 (j + 32) = q_at q_c70_2 j := s70_1 (j + 16)
theorem s70_3 (j : Nat) : q_ins 70 (j + 48) = q_at q_c70_3 j := s70_2 (j + 16)
theorem s70_4 (j : Nat) : q_ins 70 (j + 64) = q_at q_c70_4 j := s70_3 (j + 16)
theorem s70_5 (j : Nat) : q_ins 70 (j + 80) = q_at q_c70_5 j := s70_4 (j + 16)
theorem s70_6 (j : Nat) : q_ins 70 (j + 96) = q_at q_c70_6 j := s70_5 (j + 16)
theorem s70_7 (j : Nat) : q_ins 70 (j + 112) = q_at q_c70_7 j := s70_6 (j + 16)
theorem s70_8 (j : Nat) : q_ins 70 (j + 128) = q_at q_c70_8 j := s70_7 (j + 16)
theorem s70_9 (j : Nat) : q_ins 70 (j + 144) = q_at q_c70_9 j := s70_8 (j + 16)
theorem s70_10 (j : Nat) : q_ins 70 (j + 160) = q_at q_c70_10 j := s70_9 (j + 16)
theorem s70_11 (j : Nat) : q_ins 70 (j + 176) = q_at q_c70_11 j := s70_10 (j + 16)
theorem s70_12 (j : Nat) : q_ins 70 (j + 192) = q_at q_c70_12 j := s70_11 (j + 16)
theorem s70_13 (j : Nat) : q_ins 70 (j + 208) = q_at q_c70_13 j := s70_12 (j + 16)
theorem i70_0 : q_ins 70 0 = some (.iload_n 2, 1, (0, 0, 0, 0, 0)) := s70_0 0
theorem i70_1 : q_ins 70 1 = some (.iload_n 3, 1, (0, 0, 0, 0, 0)) := s70_0 1
theorem i70_2 : q_ins 70 2 = some (.iconst (-1), 1, (0, 0, 0, 0, 0)) := s70_0 2
theorem i70_3 : q_ins 70 3 = some (.ixor, 1, (0, 0, 0, 0, 0)) := s70_0 3
theorem i70_4 : q_ins 70 4 = some (.iand, 1, (0, 0, 0, 0, 0)) := s70_0 4
theorem i70_5 : q_ins 70 5 = some (.istore 5, 2, (0, 0, 0, 0, 0)) := s70_0 5
theorem i70_7 : q_ins 70 7 = some (.iconst 0, 1, (0, 0, 0, 0, 0)) := s70_0 7
theorem i70_8 : q_ins 70 8 = some (.istore 6, 2, (0, 0, 0, 0, 0)) := s70_0 8
theorem i70_10 : q_ins 70 10 = some (.iconst 1, 1, (0, 0, 0, 0, 0)) := s70_0 10
theorem i70_11 : q_ins 70 11 = some (.istore 7, 2, (0, 0, 0, 0, 0)) := s70_0 11
theorem i70_13 : q_ins 70 13 = some (.aload_n 0, 1, (0, 0, 0, 0, 0)) := s70_0 13
theorem i70_14 : q_ins 70 14 = some (.iconst 0, 1, (0, 0, 0, 0, 0)) := s70_0 14
theorem i70_15 : q_ins 70 15 = some (.putfield 21, 3, (57, 0, 5, 0, 0)) := s70_0 15
theorem i70_18 : q_ins 70 18 = some (.aload_n 0, 1, (0, 0, 0, 0, 0)) := s70_1 2
theorem i70_19 : q_ins 70 19 = some (.iconst 0, 1, (0, 0, 0, 0, 0)) := s70_1 3
theorem i70_20 : q_ins 70 20 = some (.putfield 25, 3, (58, 0, 6, 0, 0)) := s70_1 4
theorem i70_23 : q_ins 70 23 = some (.iconst 0, 1, (0, 0, 0, 0, 0)) := s70_1 7
theorem i70_24 : q_ins 70 24 = some (.istore 8, 2, (0, 0, 0, 0, 0)) := s70_1 8
theorem i70_26 : q_ins 70 26 = some (.iload 8, 2, (0, 0, 0, 0, 0)) := s70_1 10
theorem i70_28 : q_ins 70 28 = some (.bipush 6, 2, (0, 0, 0, 0, 0)) := s70_1 12
theorem i70_30 : q_ins 70 30 = some (.if_icmp .ge 191, 3, (0, 0, 0, 0, 0)) := s70_1 14
theorem i70_33 : q_ins 70 33 = some (.iload 7, 2, (0, 0, 0, 0, 0)) := s70_2 1
theorem i70_35 : q_ins 70 35 = some (.ifCond .eq 186, 3, (0, 0, 0, 0, 0)) := s70_2 3
theorem i70_38 : q_ins 70 38 = some (.iconst 0, 1, (0, 0, 0, 0, 0)) := s70_2 6
theorem i70_39 : q_ins 70 39 = some (.istore 9, 2, (0, 0, 0, 0, 0)) := s70_2 7
theorem i70_41 : q_ins 70 41 = some (.iconst 0, 1, (0, 0, 0, 0, 0)) := s70_2 9
theorem i70_42 : q_ins 70 42 = some (.istore 10, 2, (0, 0, 0, 0, 0)) := s70_2 10
theorem i70_44 : q_ins 70 44 = some (.aload_n 0, 1, (0, 0, 0, 0, 0)) := s70_2 12
theorem i70_45 : q_ins 70 45 = some (.getfield 21, 3, (57, 0, 5, 0, 0)) := s70_2 13
theorem i70_48 : q_ins 70 48 = some (.invokestatic 42, 3, (121, 71, 1, 2, 0)) := s70_3 0
theorem i70_51 : q_ins 70 51 = some (.istore 11, 2, (0, 0, 0, 0, 0)) := s70_3 3
theorem i70_53 : q_ins 70 53 = some (.iconst 0, 1, (0, 0, 0, 0, 0)) := s70_3 5
theorem i70_54 : q_ins 70 54 = some (.istore 12, 2, (0, 0, 0, 0, 0)) := s70_3 6
theorem i70_56 : q_ins 70 56 = some (.iload 12, 2, (0, 0, 0, 0, 0)) := s70_3 8
theorem i70_58 : q_ins 70 58 = some (.bipush 6, 2, (0, 0, 0, 0, 0)) := s70_3 10
theorem i70_60 : q_ins 70 60 = some (.if_icmp .ge 97, 3, (0, 0, 0, 0, 0)) := s70_3 12
theorem i70_63 : q_ins 70 63 = some (.iload 12, 2, (0, 0, 0, 0, 0)) := s70_3 15
theorem i70_65 : q_ins 70 65 = some (.aload 4, 2, (0, 0, 0, 0, 0)) := s70_4 1
theorem i70_67 : q_ins 70 67 = some (.arraylength, 1, (0, 0, 0, 0, 0)) := s70_4 3
theorem i70_68 : q_ins 70 68 = some (.if_icmp .ge 89, 3, (0, 0, 0, 0, 0)) := s70_4 4
theorem i70_71 : q_ins 70 71 = some (.aload 4, 2, (0, 0, 0, 0, 0)) := s70_4 7
theorem i70_73 : q_ins 70 73 = some (.iload 12, 2, (0, 0, 0, 0, 0)) := s70_4 9
theorem i70_75 : q_ins 70 75 = some (.iaload, 1, (0, 0, 0, 0, 0)) := s70_4 11
theorem i70_76 : q_ins 70 76 = some (.istore 13, 2, (0, 0, 0, 0, 0)) := s70_4 12
theorem i70_78 : q_ins 70 78 = some (.iload 5, 2, (0, 0, 0, 0, 0)) := s70_4 14
theorem i70_80 : q_ins 70 80 = some (.iload 12, 2, (0, 0, 0, 0, 0)) := s70_5 0
theorem i70_82 : q_ins 70 82 = some (.ishr, 1, (0, 0, 0, 0, 0)) := s70_5 2
theorem i70_83 : q_ins 70 83 = some (.iconst 1, 1, (0, 0, 0, 0, 0)) := s70_5 3
theorem i70_84 : q_ins 70 84 = some (.iand, 1, (0, 0, 0, 0, 0)) := s70_5 4
theorem i70_85 : q_ins 70 85 = some (.ifCond .eq 66, 3, (0, 0, 0, 0, 0)) := s70_5 5
theorem i70_88 : q_ins 70 88 = some (.iload 13, 2, (0, 0, 0, 0, 0)) := s70_5 8
theorem i70_90 : q_ins 70 90 = some (.bipush 15, 2, (0, 0, 0, 0, 0)) := s70_5 10
theorem i70_92 : q_ins 70 92 = some (.invokestatic 48, 3, (122, 12, 2, 2, 0)) := s70_5 12
theorem i70_95 : q_ins 70 95 = some (.ifCond .ne 6, 3, (0, 0, 0, 0, 0)) := s70_5 15
theorem i70_98 : q_ins 70 98 = some (.goto 53, 3, (0, 0, 0, 0, 0)) := s70_6 2
theorem i70_101 : q_ins 70 101 = some (.iload 6, 2, (0, 0, 0, 0, 0)) := s70_6 5
theorem i70_103 : q_ins 70 103 = some (.getstatic 52, 3, (3, 1, 0, 0, 0)) := s70_6 7
theorem i70_106 : q_ins 70 106 = some (.iload 13, 2, (0, 0, 0, 0, 0)) := s70_6 10
theorem i70_108 : q_ins 70 108 = some (.iaload, 1, (0, 0, 0, 0, 0)) := s70_6 12
theorem i70_109 : q_ins 70 109 = some (.iand, 1, (0, 0, 0, 0, 0)) := s70_6 13
theorem i70_110 : q_ins 70 110 = some (.invokestatic 42, 3, (121, 71, 1, 2, 0)) := s70_6 14
theorem i70_113 : q_ins 70 113 = some (.istore 14, 2, (0, 0, 0, 0, 0)) := s70_7 1
theorem i70_115 : q_ins 70 115 = some (.aload_n 0, 1, (0, 0, 0, 0, 0)) := s70_7 3
theorem i70_116 : q_ins 70 116 = some (.iload_n 1, 1, (0, 0, 0, 0, 0)) := s70_7 4
theorem i70_117 : q_ins 70 117 = some (.iload 12, 2, (0, 0, 0, 0, 0)) := s70_7 5
theorem i70_119 : q_ins 70 119 = some (.iload 13, 2, (0, 0, 0, 0, 0)) := s70_7 7
theorem i70_121 : q_ins 70 121 = some (.iconst 4, 1, (0, 0, 0, 0, 0)) := s70_7 9
theorem i70_122 : q_ins 70 122 = some (.idiv, 1, (0, 0, 0, 0, 0)) := s70_7 10
theorem i70_123 : q_ins 70 123 = some (.iload 14, 2, (0, 0, 0, 0, 0)) := s70_7 11
theorem i70_125 : q_ins 70 125 = some (.iload 11, 2, (0, 0, 0, 0, 0)) := s70_7 13
theorem i70_127 : q_ins 70 127 = some (.invokevirtual 55, 3, (123, 72, 6, 0, 0)) := s70_7 15
theorem i70_130 : q_ins 70 130 = some (.ifCond .eq 21, 3, (0, 0, 0, 0, 0)) := s70_8 2
theorem i70_133 : q_ins 70 133 = some (.iload 9, 2, (0, 0, 0, 0, 0)) := s70_8 5
theorem i70_135 : q_ins 70 135 = some (.iconst 1, 1, (0, 0, 0, 0, 0)) := s70_8 7
theorem i70_136 : q_ins 70 136 = some (.iload 12, 2, (0, 0, 0, 0, 0)) := s70_8 8
theorem i70_138 : q_ins 70 138 = some (.ishl, 1, (0, 0, 0, 0, 0)) := s70_8 10
theorem i70_139 : q_ins 70 139 = some (.ior, 1, (0, 0, 0, 0, 0)) := s70_8 11
theorem i70_140 : q_ins 70 140 = some (.istore 9, 2, (0, 0, 0, 0, 0)) := s70_8 12
theorem i70_142 : q_ins 70 142 = some (.iload 10, 2, (0, 0, 0, 0, 0)) := s70_8 14
theorem i70_144 : q_ins 70 144 = some (.iconst 1, 1, (0, 0, 0, 0, 0)) := s70_9 0
theorem i70_145 : q_ins 70 145 = some (.iload 13, 2, (0, 0, 0, 0, 0)) := s70_9 1
theorem i70_147 : q_ins 70 147 = some (.ishl, 1, (0, 0, 0, 0, 0)) := s70_9 3
theorem i70_148 : q_ins 70 148 = some (.ior, 1, (0, 0, 0, 0, 0)) := s70_9 4
theorem i70_149 : q_ins 70 149 = some (.istore 10, 2, (0, 0, 0, 0, 0)) := s70_9 5
theorem i70_151 : q_ins 70 151 = some (.iinc 12 1, 3, (0, 0, 0, 0, 0)) := s70_9 7
theorem i70_154 : q_ins 70 154 = some (.goto (-98), 3, (0, 0, 0, 0, 0)) := s70_9 10
theorem i70_157 : q_ins 70 157 = some (.aload_n 0, 1, (0, 0, 0, 0, 0)) := s70_9 13
theorem i70_158 : q_ins 70 158 = some (.dup, 1, (0, 0, 0, 0, 0)) := s70_9 14
theorem i70_159 : q_ins 70 159 = some (.getfield 21, 3, (57, 0, 5, 0, 0)) := s70_9 15
theorem i70_162 : q_ins 70 162 = some (.iload 9, 2, (0, 0, 0, 0, 0)) := s70_10 2
theorem i70_164 : q_ins 70 164 = some (.ior, 1, (0, 0, 0, 0, 0)) := s70_10 4
theorem i70_165 : q_ins 70 165 = some (.putfield 21, 3, (57, 0, 5, 0, 0)) := s70_10 5
theorem i70_168 : q_ins 70 168 = some (.iload 6, 2, (0, 0, 0, 0, 0)) := s70_10 8
theorem i70_170 : q_ins 70 170 = some (.iload 10, 2, (0, 0, 0, 0, 0)) := s70_10 10
theorem i70_172 : q_ins 70 172 = some (.ior, 1, (0, 0, 0, 0, 0)) := s70_10 12
theorem i70_173 : q_ins 70 173 = some (.istore 6, 2, (0, 0, 0, 0, 0)) := s70_10 13
theorem i70_175 : q_ins 70 175 = some (.iload 5, 2, (0, 0, 0, 0, 0)) := s70_10 15
theorem i70_177 : q_ins 70 177 = some (.iload 9, 2, (0, 0, 0, 0, 0)) := s70_11 1
theorem i70_179 : q_ins 70 179 = some (.iconst (-1), 1, (0, 0, 0, 0, 0)) := s70_11 3
theorem i70_180 : q_ins 70 180 = some (.ixor, 1, (0, 0, 0, 0, 0)) := s70_11 4
theorem i70_181 : q_ins 70 181 = some (.iand, 1, (0, 0, 0, 0, 0)) := s70_11 5
theorem i70_182 : q_ins 70 182 = some (.istore 5, 2, (0, 0, 0, 0, 0)) := s70_11 6
theorem i70_184 : q_ins 70 184 = some (.iload 9, 2, (0, 0, 0, 0, 0)) := s70_11 8
theorem i70_186 : q_ins 70 186 = some (.ifCond .eq 7, 3, (0, 0, 0, 0, 0)) := s70_11 10
theorem i70_189 : q_ins 70 189 = some (.iconst 1, 1, (0, 0, 0, 0, 0)) := s70_11 13
theorem i70_190 : q_ins 70 190 = some (.goto 4, 3, (0, 0, 0, 0, 0)) := s70_11 14
theorem i70_193 : q_ins 70 193 = some (.iconst 0, 1, (0, 0, 0, 0, 0)) := s70_12 1
theorem i70_194 : q_ins 70 194 = some (.istore 7, 2, (0, 0, 0, 0, 0)) := s70_12 2
theorem i70_196 : q_ins 70 196 = some (.aload_n 0, 1, (0, 0, 0, 0, 0)) := s70_12 4
theorem i70_197 : q_ins 70 197 = some (.dup, 1, (0, 0, 0, 0, 0)) := s70_12 5
theorem i70_198 : q_ins 70 198 = some (.getfield 25, 3, (58, 0, 6, 0, 0)) := s70_12 6
theorem i70_201 : q_ins 70 201 = some (.iload 7, 2, (0, 0, 0, 0, 0)) := s70_12 9
theorem i70_203 : q_ins 70 203 = some (.ifCond .eq 7, 3, (0, 0, 0, 0, 0)) := s70_12 11
theorem i70_206 : q_ins 70 206 = some (.iconst 1, 1, (0, 0, 0, 0, 0)) := s70_12 14
theorem i70_207 : q_ins 70 207 = some (.goto 4, 3, (0, 0, 0, 0, 0)) := s70_12 15
theorem i70_210 : q_ins 70 210 = some (.iconst 0, 1, (0, 0, 0, 0, 0)) := s70_13 2
theorem i70_211 : q_ins 70 211 = some (.iadd, 1, (0, 0, 0, 0, 0)) := s70_13 3
theorem i70_212 : q_ins 70 212 = some (.putfield 25, 3, (58, 0, 6, 0, 0)) := s70_13 4
theorem i70_215 : q_ins 70 215 = some (.iinc 8 1, 3, (0, 0, 0, 0, 0)) := s70_13 7
theorem i70_218 : q_ins 70 218 = some (.goto (-192), 3, (0, 0, 0, 0, 0)) := s70_13 10
theorem i70_221 : q_ins 70 221 = some (.return_, 1, (0, 0, 0, 0, 0)) := s70_13 13
theorem s71_0 (j : Nat) : q_ins 71 j = q_at q_c71 j := rfl
theorem s71_1 (j : Nat) : q_ins 71 (j + 16) = q_at q_c71_1 j := s71_0 (j + 16)
theorem s71_2 (j : Nat) : q_ins 71 (j + 32) = q_at q_c71_2 j := s71_1 (j + 16)
theorem s71_3 (j : Nat) : q_ins 71 (j + 48) = q_at q_c71_3 j := s71_2 (j + 16)
theorem i71_0 : q_ins 71 0 = some (.iload_n 0, 1, (0, 0, 0, 0, 0)) := s71_0 0
theorem i71_1 : q_ins 71 1 = some (.iload_n 0, 1, (0, 0, 0, 0, 0)) := s71_0 1
theorem i71_2 : q_ins 71 2 = some (.iconst 1, 1, (0, 0, 0, 0, 0)) := s71_0 2
theorem i71_3 : q_ins 71 3 = some (.iushr, 1, (0, 0, 0, 0, 0)) := s71_0 3
theorem i71_4 : q_ins 71 4 = some (.ldc_w 265, 3, (781, 0, 0, 0, 1431655765)) := s71_0 4
theorem i71_7 : q_ins 71 7 = some (.iand, 1, (0, 0, 0, 0, 0)) := s71_0 7
theorem i71_8 : q_ins 71 8 = some (.isub, 1, (0, 0, 0, 0, 0)) := s71_0 8
theorem i71_9 : q_ins 71 9 = some (.istore_n 0, 1, (0, 0, 0, 0, 0)) := s71_0 9
theorem i71_10 : q_ins 71 10 = some (.iload_n 0, 1, (0, 0, 0, 0, 0)) := s71_0 10
theorem i71_11 : q_ins 71 11 = some (.ldc_w 266, 3, (782, 0, 0, 0, 858993459)) := s71_0 11
theorem i71_14 : q_ins 71 14 = some (.iand, 1, (0, 0, 0, 0, 0)) := s71_0 14
theorem i71_15 : q_ins 71 15 = some (.iload_n 0, 1, (0, 0, 0, 0, 0)) := s71_0 15
theorem i71_16 : q_ins 71 16 = some (.iconst 2, 1, (0, 0, 0, 0, 0)) := s71_1 0
theorem i71_17 : q_ins 71 17 = some (.iushr, 1, (0, 0, 0, 0, 0)) := s71_1 1
theorem i71_18 : q_ins 71 18 = some (.ldc_w 266, 3, (782, 0, 0, 0, 858993459)) := s71_1 2
theorem i71_21 : q_ins 71 21 = some (.iand, 1, (0, 0, 0, 0, 0)) := s71_1 5
theorem i71_22 : q_ins 71 22 = some (.iadd, 1, (0, 0, 0, 0, 0)) := s71_1 6
theorem i71_23 : q_ins 71 23 = some (.istore_n 0, 1, (0, 0, 0, 0, 0)) := s71_1 7
theorem i71_24 : q_ins 71 24 = some (.iload_n 0, 1, (0, 0, 0, 0, 0)) := s71_1 8
theorem i71_25 : q_ins 71 25 = some (.iload_n 0, 1, (0, 0, 0, 0, 0)) := s71_1 9
theorem i71_26 : q_ins 71 26 = some (.iconst 4, 1, (0, 0, 0, 0, 0)) := s71_1 10
theorem i71_27 : q_ins 71 27 = some (.iushr, 1, (0, 0, 0, 0, 0)) := s71_1 11
theorem i71_28 : q_ins 71 28 = some (.iadd, 1, (0, 0, 0, 0, 0)) := s71_1 12
theorem i71_29 : q_ins 71 29 = some (.ldc_w 267, 3, (783, 0, 0, 0, 252645135)) := s71_1 13
theorem i71_32 : q_ins 71 32 = some (.iand, 1, (0, 0, 0, 0, 0)) := s71_2 0
theorem i71_33 : q_ins 71 33 = some (.istore_n 0, 1, (0, 0, 0, 0, 0)) := s71_2 1
theorem i71_34 : q_ins 71 34 = some (.iload_n 0, 1, (0, 0, 0, 0, 0)) := s71_2 2
theorem i71_35 : q_ins 71 35 = some (.iload_n 0, 1, (0, 0, 0, 0, 0)) := s71_2 3
theorem i71_36 : q_ins 71 36 = some (.bipush 8, 2, (0, 0, 0, 0, 0)) := s71_2 4
theorem i71_38 : q_ins 71 38 = some (.iushr, 1, (0, 0, 0, 0, 0)) := s71_2 6
theorem i71_39 : q_ins 71 39 = some (.iadd, 1, (0, 0, 0, 0, 0)) := s71_2 7
theorem i71_40 : q_ins 71 40 = some (.istore_n 0, 1, (0, 0, 0, 0, 0)) := s71_2 8
theorem i71_41 : q_ins 71 41 = some (.iload_n 0, 1, (0, 0, 0, 0, 0)) := s71_2 9
theorem i71_42 : q_ins 71 42 = some (.iload_n 0, 1, (0, 0, 0, 0, 0)) := s71_2 10
theorem i71_43 : q_ins 71 43 = some (.bipush 16, 2, (0, 0, 0, 0, 0)) := s71_2 11
theorem i71_45 : q_ins 71 45 = some (.iushr, 1, (0, 0, 0, 0, 0)) := s71_2 13
theorem i71_46 : q_ins 71 46 = some (.iadd, 1, (0, 0, 0, 0, 0)) := s71_2 14
theorem i71_47 : q_ins 71 47 = some (.istore_n 0, 1, (0, 0, 0, 0, 0)) := s71_2 15
theorem i71_48 : q_ins 71 48 = some (.iload_n 0, 1, (0, 0, 0, 0, 0)) := s71_3 0
theorem i71_49 : q_ins 71 49 = some (.bipush 63, 2, (0, 0, 0, 0, 0)) := s71_3 1
theorem i71_51 : q_ins 71 51 = some (.iand, 1, (0, 0, 0, 0, 0)) := s71_3 3
theorem i71_52 : q_ins 71 52 = some (.ireturn, 1, (0, 0, 0, 0, 0)) := s71_3 4
theorem s72_0 (j : Nat) : q_ins 72 j = q_at q_c72 j := rfl
theorem s72_1 (j : Nat) : q_ins 72 (j + 16) = q_at q_c72_1 j := s72_0 (j + 16)
theorem s72_2 (j : Nat) : q_ins 72 (j + 32) = q_at q_c72_2 j := s72_1 (j + 16)
theorem s72_3 (j : Nat) : q_ins 72 (j + 48) = q_at q_c72_3 j := s72_2 (j + 16)
theorem s72_4 (j : Nat) : q_ins 72 (j + 64) = q_at q_c72_4 j := s72_3 (j + 16)
theorem s72_5 (j : Nat) : q_ins 72 (j + 80) = q_at q_c72_5 j := s72_4 (j + 16)
theorem s72_6 (j : Nat) : q_ins 72 (j + 96) = q_at q_c72_6 j := s72_5 (j + 16)
theorem s72_7 (j : Nat) : q_ins 72 (j + 112) = q_at q_c72_7 j := s72_6 (j + 16)
theorem s72_8 (j : Nat) : q_ins 72 (j + 128) = q_at q_c72_8 j := s72_7 (j + 16)
theorem s72_9 (j : Nat) : q_ins 72 (j + 144) = q_at q_c72_9 j := s72_8 (j + 16)
theorem s72_10 (j : Nat) : q_ins 72 (j + 160) = q_at q_c72_10 j := s72_9 (j + 16)
theorem s72_11 (j : Nat) : q_ins 72 (j + 176) = q_at q_c72_11 j := s72_10 (j + 16)
theorem s72_12 (j : Nat) : q_ins 72 (j + 192) = q_at q_c72_12 j := s72_11 (j + 16)
theorem s72_13 (j : Nat) : q_ins 72 (j + 208) = q_at q_c72_13 j := s72_12 (j + 16)
theorem s72_14 (j : Nat) : q_ins 72 (j + 224) = q_at q_c72_14 j := s72_13 (j + 16)
theorem s72_15 (j : Nat) : q_ins 72 (j + 240) = q_at q_c72_15 j := s72_14 (j + 16)
theorem s72_16 (j : Nat) : q_ins 72 (j + 256) = q_at q_c72_16 j := s72_15 (j + 16)
theorem s72_17 (j : Nat) : q_ins 72 (j + 272) = q_at q_c72_17 j := s72_16 (j + 16)
theorem i72_0 : q_ins 72 0 = some (.iload_n 1, 1, (0, 0, 0, 0, 0)) := s72_0 0
theorem i72_1 : q_ins 72 1 = some (.bipush 9, 2, (0, 0, 0, 0, 0)) := s72_0 1
theorem i72_3 : q_ins 72 3 = some (.invokestatic 48, 3, (122, 12, 2, 2, 0)) := s72_0 3
theorem i72_6 : q_ins 72 6 = some (.ifCond .eq 19, 3, (0, 0, 0, 0, 0)) := s72_0 6
theorem i72_9 : q_ins 72 9 = some (.iload_n 2, 1, (0, 0, 0, 0, 0)) := s72_0 9
theorem i72_10 : q_ins 72 10 = some (.iconst 5, 1, (0, 0, 0, 0, 0)) := s72_0 10
theorem i72_11 : q_ins 72 11 = some (.invokestatic 48, 3, (122, 12, 2, 2, 0)) := s72_0 11
theorem i72_14 : q_ins 72 14 = some (.ifCond .eq 11, 3, (0, 0, 0, 0, 0)) := s72_0 14
theorem i72_17 : q_ins 72 17 = some (.iload_n 3, 1, (0, 0, 0, 0, 0)) := s72_1 1
theorem i72_18 : q_ins 72 18 = some (.iconst 3, 1, (0, 0, 0, 0, 0)) := s72_1 2
theorem i72_19 : q_ins 72 19 = some (.invokestatic 48, 3, (122, 12, 2, 2, 0)) := s72_1 3
theorem i72_22 : q_ins 72 22 = some (.ifCond .ne 5, 3, (0, 0, 0, 0, 0)) := s72_1 6
theorem i72_25 : q_ins 72 25 = some (.iconst 0, 1, (0, 0, 0, 0, 0)) := s72_1 9
theorem i72_26 : q_ins 72 26 = some (.ireturn, 1, (0, 0, 0, 0, 0)) := s72_1 10
theorem i72_27 : q_ins 72 27 = some (.aload_n 0, 1, (0, 0, 0, 0, 0)) := s72_1 11
theorem i72_28 : q_ins 72 28 = some (.getfield 28, 3, (59, 0, 0, 2, 0)) := s72_1 12
theorem i72_31 : q_ins 72 31 = some (.iconst 0, 1, (0, 0, 0, 0, 0)) := s72_1 15
theorem i72_32 : q_ins 72 32 = some (.invokevirtual 59, 3, (124, 73, 2, 0, 2)) := s72_2 0
theorem i72_35 : q_ins 72 35 = some (.astore 6, 2, (0, 0, 0, 0, 0)) := s72_2 3
theorem i72_37 : q_ins 72 37 = some (.aload 6, 2, (0, 0, 0, 0, 0)) := s72_2 5
theorem i72_39 : q_ins 72 39 = some (.ifnonnull 43, 3, (0, 0, 0, 0, 0)) := s72_2 7
theorem i72_42 : q_ins 72 42 = some (.aload_n 0, 1, (0, 0, 0, 0, 0)) := s72_2 10
theorem i72_43 : q_ins 72 43 = some (.getfield 28, 3, (59, 0, 0, 2, 0)) := s72_2 11
theorem i72_46 : q_ins 72 46 = some (.getfield 70, 3, (116, 2, 5, 2, 0)) := s72_2 14
theorem i72_49 : q_ins 72 49 = some (.iload_n 1, 1, (0, 0, 0, 0, 0)) := s72_3 1
theorem i72_50 : q_ins 72 50 = some (.iaload, 1, (0, 0, 0, 0, 0)) := s72_3 2
theorem i72_51 : q_ins 72 51 = some (.iconst 1, 1, (0, 0, 0, 0, 0)) := s72_3 3
theorem i72_52 : q_ins 72 52 = some (.if_icmp .ne 28, 3, (0, 0, 0, 0, 0)) := s72_3 4
theorem i72_55 : q_ins 72 55 = some (.aload_n 0, 1, (0, 0, 0, 0, 0)) := s72_3 7
theorem i72_56 : q_ins 72 56 = some (.getfield 28, 3, (59, 0, 0, 2, 0)) := s72_3 8
theorem i72_59 : q_ins 72 59 = some (.getfield 73, 3, (117, 2, 6, 2, 0)) := s72_3 11
theorem i72_62 : q_ins 72 62 = some (.iload_n 1, 1, (0, 0, 0, 0, 0)) := s72_3 14
theorem i72_63 : q_ins 72 63 = some (.iaload, 1, (0, 0, 0, 0, 0)) := s72_3 15
theorem i72_64 : q_ins 72 64 = some (.aload_n 0, 1, (0, 0, 0, 0, 0)) := s72_4 0
theorem i72_65 : q_ins 72 65 = some (.getfield 28, 3, (59, 0, 0, 2, 0)) := s72_4 1
theorem i72_68 : q_ins 72 68 = some (.getfield 99, 3, (118, 2, 1, 2, 0)) := s72_4 4
theorem i72_71 : q_ins 72 71 = some (.iload_n 2, 1, (0, 0, 0, 0, 0)) := s72_4 7
theorem i72_72 : q_ins 72 72 = some (.iaload, 1, (0, 0, 0, 0, 0)) := s72_4 8
theorem i72_73 : q_ins 72 73 = some (.if_icmp .le 7, 3, (0, 0, 0, 0, 0)) := s72_4 9
theorem i72_76 : q_ins 72 76 = some (.iconst 1, 1, (0, 0, 0, 0, 0)) := s72_4 12
theorem i72_77 : q_ins 72 77 = some (.goto 4, 3, (0, 0, 0, 0, 0)) := s72_4 13
theorem i72_80 : q_ins 72 80 = some (.iconst 0, 1, (0, 0, 0, 0, 0)) := s72_5 0
theorem i72_81 : q_ins 72 81 = some (.ireturn, 1, (0, 0, 0, 0, 0)) := s72_5 1
theorem i72_82 : q_ins 72 82 = some (.iload_n 1, 1, (0, 0, 0, 0, 0)) := s72_5 2
theorem i72_83 : q_ins 72 83 = some (.bipush 6, 2, (0, 0, 0, 0, 0)) := s72_5 3
theorem i72_85 : q_ins 72 85 = some (.imul, 1, (0, 0, 0, 0, 0)) := s72_5 5
theorem i72_86 : q_ins 72 86 = some (.iload_n 2, 1, (0, 0, 0, 0, 0)) := s72_5 6
theorem i72_87 : q_ins 72 87 = some (.iadd, 1, (0, 0, 0, 0, 0)) := s72_5 7
theorem i72_88 : q_ins 72 88 = some (.iconst 4, 1, (0, 0, 0, 0, 0)) := s72_5 8
theorem i72_89 : q_ins 72 89 = some (.imul, 1, (0, 0, 0, 0, 0)) := s72_5 9
theorem i72_90 : q_ins 72 90 = some (.iload_n 3, 1, (0, 0, 0, 0, 0)) := s72_5 10
theorem i72_91 : q_ins 72 91 = some (.iadd, 1, (0, 0, 0, 0, 0)) := s72_5 11
theorem i72_92 : q_ins 72 92 = some (.istore 7, 2, (0, 0, 0, 0, 0)) := s72_5 12
theorem i72_94 : q_ins 72 94 = some (.iconst 1, 1, (0, 0, 0, 0, 0)) := s72_5 14
theorem i72_95 : q_ins 72 95 = some (.iload 4, 2, (0, 0, 0, 0, 0)) := s72_5 15
theorem i72_97 : q_ins 72 97 = some (.bipush 6, 2, (0, 0, 0, 0, 0)) := s72_6 1
theorem i72_99 : q_ins 72 99 = some (.imul, 1, (0, 0, 0, 0, 0)) := s72_6 3
theorem i72_100 : q_ins 72 100 = some (.iload 5, 2, (0, 0, 0, 0, 0)) := s72_6 4
theorem i72_102 : q_ins 72 102 = some (.iadd, 1, (0, 0, 0, 0, 0)) := s72_6 6
theorem i72_103 : q_ins 72 103 = some (.ishl, 1, (0, 0, 0, 0, 0)) := s72_6 7
theorem i72_104 : q_ins 72 104 = some (.istore 8, 2, (0, 0, 0, 0, 0)) := s72_6 8
theorem i72_106 : q_ins 72 106 = some (.aload_n 0, 1, (0, 0, 0, 0, 0)) := s72_6 10
theorem i72_107 : q_ins 72 107 = some (.getfield 9, 3, (54, 0, 2, 2, 0)) := s72_6 11
theorem i72_110 : q_ins 72 110 = some (.iload 7, 2, (0, 0, 0, 0, 0)) := s72_6 14
theorem i72_112 : q_ins 72 112 = some (.iaload, 1, (0, 0, 0, 0, 0)) := s72_7 0
theorem i72_113 : q_ins 72 113 = some (.iload 8, 2, (0, 0, 0, 0, 0)) := s72_7 1
theorem i72_115 : q_ins 72 115 = some (.iand, 1, (0, 0, 0, 0, 0)) := s72_7 3
theorem i72_116 : q_ins 72 116 = some (.ifCond .ne 145, 3, (0, 0, 0, 0, 0)) := s72_7 4
theorem i72_119 : q_ins 72 119 = some (.aload_n 0, 1, (0, 0, 0, 0, 0)) := s72_7 7
theorem i72_120 : q_ins 72 120 = some (.getfield 9, 3, (54, 0, 2, 2, 0)) := s72_7 8
theorem i72_123 : q_ins 72 123 = some (.iload 7, 2, (0, 0, 0, 0, 0)) := s72_7 11
theorem i72_125 : q_ins 72 125 = some (.dup2, 1, (0, 0, 0, 0, 0)) := s72_7 13
theorem i72_126 : q_ins 72 126 = some (.iaload, 1, (0, 0, 0, 0, 0)) := s72_7 14
theorem i72_127 : q_ins 72 127 = some (.iload 8, 2, (0, 0, 0, 0, 0)) := s72_7 15
theorem i72_129 : q_ins 72 129 = some (.ior, 1, (0, 0, 0, 0, 0)) := s72_8 1
theorem i72_130 : q_ins 72 130 = some (.iastore, 1, (0, 0, 0, 0, 0)) := s72_8 2
theorem i72_131 : q_ins 72 131 = some (.aload_n 0, 1, (0, 0, 0, 0, 0)) := s72_8 3
theorem i72_132 : q_ins 72 132 = some (.getfield 32, 3, (60, 0, 1, 2, 0)) := s72_8 4
theorem i72_135 : q_ins 72 135 = some (.getfield 65, 3, (119, 3, 0, 2, 0)) := s72_8 7
theorem i72_138 : q_ins 72 138 = some (.iconst 0, 1, (0, 0, 0, 0, 0)) := s72_8 10
theorem i72_139 : q_ins 72 139 = some (.aload_n 0, 1, (0, 0, 0, 0, 0)) := s72_8 11
theorem i72_140 : q_ins 72 140 = some (.getfield 28, 3, (59, 0, 0, 2, 0)) := s72_8 12
theorem i72_143 : q_ins 72 143 = some (.getfield 102, 3, (120, 2, 0, 2, 0)) := s72_8 15
theorem i72_146 : q_ins 72 146 = some (.iload_n 2, 1, (0, 0, 0, 0, 0)) := s72_9 2
theorem i72_147 : q_ins 72 147 = some (.iaload, 1, (0, 0, 0, 0, 0)) := s72_9 3
theorem i72_148 : q_ins 72 148 = some (.iastore, 1, (0, 0, 0, 0, 0)) := s72_9 4
theorem i72_149 : q_ins 72 149 = some (.aload_n 0, 1, (0, 0, 0, 0, 0)) := s72_9 5
theorem i72_150 : q_ins 72 150 = some (.getfield 32, 3, (60, 0, 1, 2, 0)) := s72_9 6
theorem i72_153 : q_ins 72 153 = some (.getfield 65, 3, (119, 3, 0, 2, 0)) := s72_9 9
theorem i72_156 : q_ins 72 156 = some (.iconst 1, 1, (0, 0, 0, 0, 0)) := s72_9 12
theorem i72_157 : q_ins 72 157 = some (.aload_n 0, 1, (0, 0, 0, 0, 0)) := s72_9 13
theorem i72_158 : q_ins 72 158 = some (.getfield 28, 3, (59, 0, 0, 2, 0)) := s72_9 14
theorem i72_161 : q_ins 72 161 = some (.getfield 99, 3, (118, 2, 1, 2, 0)) := s72_10 1
theorem i72_164 : q_ins 72 164 = some (.iload_n 2, 1, (0, 0, 0, 0, 0)) := s72_10 4
theorem i72_165 : q_ins 72 165 = some (.iaload, 1, (0, 0, 0, 0, 0)) := s72_10 5
theorem i72_166 : q_ins 72 166 = some (.iastore, 1, (0, 0, 0, 0, 0)) := s72_10 6
theorem i72_167 : q_ins 72 167 = some (.aload_n 0, 1, (0, 0, 0, 0, 0)) := s72_10 7
theorem i72_168 : q_ins 72 168 = some (.getfield 32, 3, (60, 0, 1, 2, 0)) := s72_10 8
theorem i72_171 : q_ins 72 171 = some (.getfield 65, 3, (119, 3, 0, 2, 0)) := s72_10 11
theorem i72_174 : q_ins 72 174 = some (.iconst 2, 1, (0, 0, 0, 0, 0)) := s72_10 14
theorem i72_175 : q_ins 72 175 = some (.iload_n 3, 1, (0, 0, 0, 0, 0)) := s72_10 15
theorem i72_176 : q_ins 72 176 = some (.iastore, 1, (0, 0, 0, 0, 0)) := s72_11 0
theorem i72_177 : q_ins 72 177 = some (.aload_n 0, 1, (0, 0, 0, 0, 0)) := s72_11 1
theorem i72_178 : q_ins 72 178 = some (.getfield 32, 3, (60, 0, 1, 2, 0)) := s72_11 2
theorem i72_181 : q_ins 72 181 = some (.getfield 65, 3, (119, 3, 0, 2, 0)) := s72_11 5
theorem i72_184 : q_ins 72 184 = some (.iconst 3, 1, (0, 0, 0, 0, 0)) := s72_11 8
theorem i72_185 : q_ins 72 185 = some (.aload_n 0, 1, (0, 0, 0, 0, 0)) := s72_11 9
theorem i72_186 : q_ins 72 186 = some (.getfield 28, 3, (59, 0, 0, 2, 0)) := s72_11 10
theorem i72_189 : q_ins 72 189 = some (.getfield 70, 3, (116, 2, 5, 2, 0)) := s72_11 13
theorem i72_192 : q_ins 72 192 = some (.iload_n 1, 1, (0, 0, 0, 0, 0)) := s72_12 0
theorem i72_193 : q_ins 72 193 = some (.iaload, 1, (0, 0, 0, 0, 0)) := s72_12 1
theorem i72_194 : q_ins 72 194 = some (.iastore, 1, (0, 0, 0, 0, 0)) := s72_12 2
theorem i72_195 : q_ins 72 195 = some (.aload_n 0, 1, (0, 0, 0, 0, 0)) := s72_12 3
theorem i72_196 : q_ins 72 196 = some (.getfield 32, 3, (60, 0, 1, 2, 0)) := s72_12 4
theorem i72_199 : q_ins 72 199 = some (.getfield 65, 3, (119, 3, 0, 2, 0)) := s72_12 7
theorem i72_202 : q_ins 72 202 = some (.iconst 4, 1, (0, 0, 0, 0, 0)) := s72_12 10
theorem i72_203 : q_ins 72 203 = some (.aload_n 0, 1, (0, 0, 0, 0, 0)) := s72_12 11
theorem i72_204 : q_ins 72 204 = some (.getfield 28, 3, (59, 0, 0, 2, 0)) := s72_12 12
theorem i72_207 : q_ins 72 207 = some (.getfield 73, 3, (117, 2, 6, 2, 0)) := s72_12 15
theorem i72_210 : q_ins 72 210 = some (.iload_n 1, 1, (0, 0, 0, 0, 0)) := s72_13 2
theorem i72_211 : q_ins 72 211 = some (.iaload, 1, (0, 0, 0, 0, 0)) := s72_13 3
theorem i72_212 : q_ins 72 212 = some (.iastore, 1, (0, 0, 0, 0, 0)) := s72_13 4
theorem i72_213 : q_ins 72 213 = some (.aload_n 0, 1, (0, 0, 0, 0, 0)) := s72_13 5
theorem i72_214 : q_ins 72 214 = some (.getfield 32, 3, (60, 0, 1, 2, 0)) := s72_13 6
theorem i72_217 : q_ins 72 217 = some (.getfield 65, 3, (119, 3, 0, 2, 0)) := s72_13 9
theorem i72_220 : q_ins 72 220 = some (.iconst 5, 1, (0, 0, 0, 0, 0)) := s72_13 12
theorem i72_221 : q_ins 72 221 = some (.iload 4, 2, (0, 0, 0, 0, 0)) := s72_13 13
theorem i72_223 : q_ins 72 223 = some (.iastore, 1, (0, 0, 0, 0, 0)) := s72_13 15
theorem i72_224 : q_ins 72 224 = some (.aload_n 0, 1, (0, 0, 0, 0, 0)) := s72_14 0
theorem i72_225 : q_ins 72 225 = some (.getfield 32, 3, (60, 0, 1, 2, 0)) := s72_14 1
theorem i72_228 : q_ins 72 228 = some (.getfield 65, 3, (119, 3, 0, 2, 0)) := s72_14 4
theorem i72_231 : q_ins 72 231 = some (.bipush 6, 2, (0, 0, 0, 0, 0)) := s72_14 7
theorem i72_233 : q_ins 72 233 = some (.iload 5, 2, (0, 0, 0, 0, 0)) := s72_14 9
theorem i72_235 : q_ins 72 235 = some (.iastore, 1, (0, 0, 0, 0, 0)) := s72_14 11
theorem i72_236 : q_ins 72 236 = some (.aload_n 0, 1, (0, 0, 0, 0, 0)) := s72_14 12
theorem i72_237 : q_ins 72 237 = some (.getfield 32, 3, (60, 0, 1, 2, 0)) := s72_14 13
theorem i72_240 : q_ins 72 240 = some (.aload 6, 2, (0, 0, 0, 0, 0)) := s72_15 0
theorem i72_242 : q_ins 72 242 = some (.iconst 0, 1, (0, 0, 0, 0, 0)) := s72_15 2
theorem i72_243 : q_ins 72 243 = some (.invokevirtual 76, 3, (125, 75, 3, 0, 3)) := s72_15 3
theorem i72_246 : q_ins 72 246 = some (.ifCond .eq 15, 3, (0, 0, 0, 0, 0)) := s72_15 6
theorem i72_249 : q_ins 72 249 = some (.aload_n 0, 1, (0, 0, 0, 0, 0)) := s72_15 9
theorem i72_250 : q_ins 72 250 = some (.getfield 15, 3, (55, 0, 3, 2, 0)) := s72_15 10
theorem i72_253 : q_ins 72 253 = some (.iload 7, 2, (0, 0, 0, 0, 0)) := s72_15 13
theorem i72_255 : q_ins 72 255 = some (.dup2, 1, (0, 0, 0, 0, 0)) := s72_15 15
theorem i72_256 : q_ins 72 256 = some (.iaload, 1, (0, 0, 0, 0, 0)) := s72_16 0
theorem i72_257 : q_ins 72 257 = some (.iload 8, 2, (0, 0, 0, 0, 0)) := s72_16 1
theorem i72_259 : q_ins 72 259 = some (.ior, 1, (0, 0, 0, 0, 0)) := s72_16 3
theorem i72_260 : q_ins 72 260 = some (.iastore, 1, (0, 0, 0, 0, 0)) := s72_16 4
theorem i72_261 : q_ins 72 261 = some (.aload_n 0, 1, (0, 0, 0, 0, 0)) := s72_16 5
theorem i72_262 : q_ins 72 262 = some (.getfield 15, 3, (55, 0, 3, 2, 0)) := s72_16 6
theorem i72_265 : q_ins 72 265 = some (.iload 7, 2, (0, 0, 0, 0, 0)) := s72_16 9
theorem i72_267 : q_ins 72 267 = some (.iaload, 1, (0, 0, 0, 0, 0)) := s72_16 11
theorem i72_268 : q_ins 72 268 = some (.iload 8, 2, (0, 0, 0, 0, 0)) := s72_16 12
theorem i72_270 : q_ins 72 270 = some (.iand, 1, (0, 0, 0, 0, 0)) := s72_16 14
theorem i72_271 : q_ins 72 271 = some (.ifCond .eq 7, 3, (0, 0, 0, 0, 0)) := s72_16 15
theorem i72_274 : q_ins 72 274 = some (.iconst 1, 1, (0, 0, 0, 0, 0)) := s72_17 2
theorem i72_275 : q_ins 72 275 = some (.goto 4, 3, (0, 0, 0, 0, 0)) := s72_17 3
theorem i72_278 : q_ins 72 278 = some (.iconst 0, 1, (0, 0, 0, 0, 0)) := s72_17 6
theorem i72_279 : q_ins 72 279 = some (.ireturn, 1, (0, 0, 0, 0, 0)) := s72_17 7
theorem s73_0 (j : Nat) : q_ins 73 j = q_at q_c73 j := rfl
theorem s73_1 (j : Nat) : q_ins 73 (j + 16) = q_at q_c73_1 j := s73_0 (j + 16)
theorem s73_2 (j : Nat) : q_ins 73 (j + 32) = q_at q_c73_2 j := s73_1 (j + 16)
theorem i73_0 : q_ins 73 0 = some (.aload_n 0, 1, (0, 0, 0, 0, 0)) := s73_0 0
theorem i73_1 : q_ins 73 1 = some (.getfield 65, 3, (22, 2, 15, 0, 0)) := s73_0 1
theorem i73_4 : q_ins 73 4 = some (.ifCond .lt 11, 3, (0, 0, 0, 0, 0)) := s73_0 4
theorem i73_7 : q_ins 73 7 = some (.aload_n 0, 1, (0, 0, 0, 0, 0)) := s73_0 7
theorem i73_8 : q_ins 73 8 = some (.getfield 65, 3, (22, 2, 15, 0, 0)) := s73_0 8
theorem i73_11 : q_ins 73 11 = some (.iconst 4, 1, (0, 0, 0, 0, 0)) := s73_0 11
theorem i73_12 : q_ins 73 12 = some (.if_icmp .lt 5, 3, (0, 0, 0, 0, 0)) := s73_0 12
theorem i73_15 : q_ins 73 15 = some (.aconst_null, 1, (0, 0, 0, 0, 0)) := s73_0 15
theorem i73_16 : q_ins 73 16 = some (.areturn, 1, (0, 0, 0, 0, 0)) := s73_1 0
theorem i73_17 : q_ins 73 17 = some (.aload_n 0, 1, (0, 0, 0, 0, 0)) := s73_1 1
theorem i73_18 : q_ins 73 18 = some (.getfield 38, 3, (15, 2, 8, 2, 0)) := s73_1 2
theorem i73_21 : q_ins 73 21 = some (.aload_n 0, 1, (0, 0, 0, 0, 0)) := s73_1 5
theorem i73_22 : q_ins 73 22 = some (.getfield 65, 3, (22, 2, 15, 0, 0)) := s73_1 6
theorem i73_25 : q_ins 73 25 = some (.aaload, 1, (0, 0, 0, 0, 0)) := s73_1 9
theorem i73_26 : q_ins 73 26 = some (.astore_n 2, 1, (0, 0, 0, 0, 0)) := s73_1 10
theorem i73_27 : q_ins 73 27 = some (.aload_n 2, 1, (0, 0, 0, 0, 0)) := s73_1 11
theorem i73_28 : q_ins 73 28 = some (.ifnull 15, 3, (0, 0, 0, 0, 0)) := s73_1 12
theorem i73_31 : q_ins 73 31 = some (.aload_n 2, 1, (0, 0, 0, 0, 0)) := s73_1 15
theorem i73_32 : q_ins 73 32 = some (.iload_n 1, 1, (0, 0, 0, 0, 0)) := s73_2 0
theorem i73_33 : q_ins 73 33 = some (.invokevirtual 86, 3, (126, 74, 2, 0, 6)) := s73_2 1
theorem i73_36 : q_ins 73 36 = some (.ifCond .eq 7, 3, (0, 0, 0, 0, 0)) := s73_2 4
theorem i73_39 : q_ins 73 39 = some (.aload_n 2, 1, (0, 0, 0, 0, 0)) := s73_2 7
theorem i73_40 : q_ins 73 40 = some (.goto 4, 3, (0, 0, 0, 0, 0)) := s73_2 8
theorem i73_43 : q_ins 73 43 = some (.aconst_null, 1, (0, 0, 0, 0, 0)) := s73_2 11
theorem i73_44 : q_ins 73 44 = some (.areturn, 1, (0, 0, 0, 0, 0)) := s73_2 12
theorem s74_0 (j : Nat) : q_ins 74 j = q_at q_c74 j := rfl
theorem s74_1 (j : Nat) : q_ins 74 (j + 16) = q_at q_c74_1 j := s74_0 (j + 16)
theorem i74_0 : q_ins 74 0 = some (.iload_n 1, 1, (0, 0, 0, 0, 0)) := s74_0 0
theorem i74_1 : q_ins 74 1 = some (.ifCond .lt 27, 3, (0, 0, 0, 0, 0)) := s74_0 1
theorem i74_4 : q_ins 74 4 = some (.iload_n 1, 1, (0, 0, 0, 0, 0)) := s74_0 4
theorem i74_5 : q_ins 74 5 = some (.iconst 3, 1, (0, 0, 0, 0, 0)) := s74_0 5
theorem i74_6 : q_ins 74 6 = some (.if_icmp .ge 22, 3, (0, 0, 0, 0, 0)) := s74_0 6
theorem i74_9 : q_ins 74 9 = some (.aload_n 0, 1, (0, 0, 0, 0, 0)) := s74_0 9
theorem i74_10 : q_ins 74 10 = some (.getfield 31, 3, (90, 6, 1, 2, 0)) := s74_0 10
theorem i74_13 : q_ins 74 13 = some (.iload_n 1, 1, (0, 0, 0, 0, 0)) := s74_0 13
theorem i74_14 : q_ins 74 14 = some (.iaload, 1, (0, 0, 0, 0, 0)) := s74_0 14
theorem i74_15 : q_ins 74 15 = some (.aload_n 0, 1, (0, 0, 0, 0, 0)) := s74_0 15
theorem i74_16 : q_ins 74 16 = some (.getfield 35, 3, (92, 6, 2, 2, 0)) := s74_1 0
theorem i74_19 : q_ins 74 19 = some (.iload_n 1, 1, (0, 0, 0, 0, 0)) := s74_1 3
theorem i74_20 : q_ins 74 20 = some (.iaload, 1, (0, 0, 0, 0, 0)) := s74_1 4
theorem i74_21 : q_ins 74 21 = some (.if_icmp .ge 7, 3, (0, 0, 0, 0, 0)) := s74_1 5
theorem i74_24 : q_ins 74 24 = some (.iconst 1, 1, (0, 0, 0, 0, 0)) := s74_1 8
theorem i74_25 : q_ins 74 25 = some (.goto 4, 3, (0, 0, 0, 0, 0)) := s74_1 9
theorem i74_28 : q_ins 74 28 = some (.iconst 0, 1, (0, 0, 0, 0, 0)) := s74_1 12
theorem i74_29 : q_ins 74 29 = some (.ireturn, 1, (0, 0, 0, 0, 0)) := s74_1 13
theorem s75_0 (j : Nat) : q_ins 75 j = q_at q_c75 j := rfl
theorem s75_1 (j : Nat) : q_ins 75 (j + 16) = q_at q_c75_1 j := s75_0 (j + 16)
theorem s75_2 (j : Nat) : q_ins 75 (j + 32) = q_at q_c75_2 j := s75_1 (j + 16)
theorem s75_3 (j : Nat) : q_ins 75 (j + 48) = q_at q_c75_3 j := s75_2 (j + 16)
theorem s75_4 (j : Nat) : q_ins 75 (j + 64) = q_at q_c75_4 j := s75_3 (j + 16)
theorem s75_5 (j : Nat) : q_ins 75 (j + 80) = q_at q_c75_5 j := s75_4 (j + 16)
theorem s75_6 (j : Nat) : q_ins 75 (j + 96) = q_at q_c75_6 j := s75_5 (j + 16)
theorem s75_7 (j : Nat) : q_ins 75 (j + 112) = q_at q_c75_7 j := s75_6 (j + 16)
theorem s75_8 (j : Nat) : q_ins 75 (j + 128) = q_at q_c75_8 j := s75_7 (j + 16)
theorem s75_9 (j : Nat) : q_ins 75 (j + 144) = q_at q_c75_9 j := s75_8 (j + 16)
theorem s75_10 (j : Nat) : q_ins 75 (j + 160) = q_at q_c75_10 j := s75_9 (j + 16)
theorem s75_11 (j : Nat) : q_ins 75 (j + 176) = q_at q_c75_11 j := s75_10 (j + 16)
theorem s75_12 (j : Nat) : q_ins 75 (j + 192) = q_at q_c75_12 j := s75_11 (j + 16)
theorem s75_13 (j : Nat) : q_ins 75 (j + 208) = q_at q_c75_13 j := s75_12 (j + 16)
theorem s75_14 (j : Nat) : q_ins 75 (j + 224) = q_at q_c75_14 j := s75_13 (j + 16)
theorem i75_0 : q_ins 75 0 = some (.aload_n 1, 1, (0, 0, 0, 0, 0)) := s75_0 0
theorem i75_1 : q_ins 75 1 = some (.iload_n 2, 1, (0, 0, 0, 0, 0)) := s75_0 1
theorem i75_2 : q_ins 75 2 = some (.invokevirtual 18, 3, (127, 74, 2, 0, 6)) := s75_0 2
theorem i75_5 : q_ins 75 5 = some (.ifCond .ne 5, 3, (0, 0, 0, 0, 0)) := s75_0 5
theorem i75_8 : q_ins 75 8 = some (.iconst 0, 1, (0, 0, 0, 0, 0)) := s75_0 8
theorem i75_9 : q_ins 75 9 = some (.ireturn, 1, (0, 0, 0, 0, 0)) := s75_0 9
theorem i75_10 : q_ins 75 10 = some (.iconst 0, 1, (0, 0, 0, 0, 0)) := s75_0 10
theorem i75_11 : q_ins 75 11 = some (.istore_n 3, 1, (0, 0, 0, 0, 0)) := s75_0 11
theorem i75_12 : q_ins 75 12 = some (.aload_n 1, 1, (0, 0, 0, 0, 0)) := s75_0 12
theorem i75_13 : q_ins 75 13 = some (.getfield 24, 3, (121, 6, 2, 2, 0)) := s75_0 13
theorem i75_16 : q_ins 75 16 = some (.iload_n 2, 1, (0, 0, 0, 0, 0)) := s75_1 0
theorem i75_17 : q_ins 75 17 = some (.iaload, 1, (0, 0, 0, 0, 0)) := s75_1 1
theorem i75_18 : q_ins 75 18 = some (.aload_n 1, 1, (0, 0, 0, 0, 0)) := s75_1 2
theorem i75_19 : q_ins 75 19 = some (.getfield 27, 3, (122, 6, 0, 2, 0)) := s75_1 3
theorem i75_22 : q_ins 75 22 = some (.arraylength, 1, (0, 0, 0, 0, 0)) := s75_1 6
theorem i75_23 : q_ins 75 23 = some (.invokestatic 30, 3, (804, 0, 0, 11, 0)) := s75_1 7
theorem i75_26 : q_ins 75 26 = some (.istore 4, 2, (0, 0, 0, 0, 0)) := s75_1 10
theorem i75_28 : q_ins 75 28 = some (.aload_n 1, 1, (0, 0, 0, 0, 0)) := s75_1 12
theorem i75_29 : q_ins 75 29 = some (.getfield 36, 3, (123, 6, 1, 2, 0)) := s75_1 13
theorem i75_32 : q_ins 75 32 = some (.iload_n 2, 1, (0, 0, 0, 0, 0)) := s75_2 0
theorem i75_33 : q_ins 75 33 = some (.iaload, 1, (0, 0, 0, 0, 0)) := s75_2 1
theorem i75_34 : q_ins 75 34 = some (.istore 5, 2, (0, 0, 0, 0, 0)) := s75_2 2
theorem i75_36 : q_ins 75 36 = some (.iload 5, 2, (0, 0, 0, 0, 0)) := s75_2 4
theorem i75_38 : q_ins 75 38 = some (.iload 4, 2, (0, 0, 0, 0, 0)) := s75_2 6
theorem i75_40 : q_ins 75 40 = some (.if_icmp .ge 167, 3, (0, 0, 0, 0, 0)) := s75_2 8
theorem i75_43 : q_ins 75 43 = some (.aload_n 1, 1, (0, 0, 0, 0, 0)) := s75_2 11
theorem i75_44 : q_ins 75 44 = some (.getfield 27, 3, (122, 6, 0, 2, 0)) := s75_2 12
theorem i75_47 : q_ins 75 47 = some (.iload 5, 2, (0, 0, 0, 0, 0)) := s75_2 15
theorem i75_49 : q_ins 75 49 = some (.iaload, 1, (0, 0, 0, 0, 0)) := s75_3 1
theorem i75_50 : q_ins 75 50 = some (.istore 6, 2, (0, 0, 0, 0, 0)) := s75_3 2
theorem i75_52 : q_ins 75 52 = some (.iload 6, 2, (0, 0, 0, 0, 0)) := s75_3 4
theorem i75_54 : q_ins 75 54 = some (.sipush 20000, 3, (0, 0, 0, 0, 0)) := s75_3 6
theorem i75_57 : q_ins 75 57 = some (.if_icmp .ge 45, 3, (0, 0, 0, 0, 0)) := s75_3 9
theorem i75_60 : q_ins 75 60 = some (.iload_n 3, 1, (0, 0, 0, 0, 0)) := s75_3 12
theorem i75_61 : q_ins 75 61 = some (.sipush 300, 3, (0, 0, 0, 0, 0)) := s75_3 13
theorem i75_64 : q_ins 75 64 = some (.if_icmp .ge 137, 3, (0, 0, 0, 0, 0)) := s75_4 0
theorem i75_67 : q_ins 75 67 = some (.aload_n 0, 1, (0, 0, 0, 0, 0)) := s75_4 3
theorem i75_68 : q_ins 75 68 = some (.getfield 15, 3, (53, 3, 1, 2, 0)) := s75_4 4
theorem i75_71 : q_ins 75 71 = some (.iload_n 3, 1, (0, 0, 0, 0, 0)) := s75_4 7
theorem i75_72 : q_ins 75 72 = some (.iload 6, 2, (0, 0, 0, 0, 0)) := s75_4 8
theorem i75_74 : q_ins 75 74 = some (.sipush 10000, 3, (0, 0, 0, 0, 0)) := s75_4 10
theorem i75_77 : q_ins 75 77 = some (.if_icmp .ge 8, 3, (0, 0, 0, 0, 0)) := s75_4 13
theorem i75_80 : q_ins 75 80 = some (.iload 6, 2, (0, 0, 0, 0, 0)) := s75_5 0
theorem i75_82 : q_ins 75 82 = some (.goto 13, 3, (0, 0, 0, 0, 0)) := s75_5 2
theorem i75_85 : q_ins 75 85 = some (.aload_n 0, 1, (0, 0, 0, 0, 0)) := s75_5 5
theorem i75_86 : q_ins 75 86 = some (.iload 6, 2, (0, 0, 0, 0, 0)) := s75_5 6
theorem i75_88 : q_ins 75 88 = some (.sipush 10000, 3, (0, 0, 0, 0, 0)) := s75_5 8
theorem i75_91 : q_ins 75 91 = some (.isub, 1, (0, 0, 0, 0, 0)) := s75_5 11
theorem i75_92 : q_ins 75 92 = some (.invokevirtual 39, 3, (128, 76, 2, 0, 3)) := s75_5 12
theorem i75_95 : q_ins 75 95 = some (.iastore, 1, (0, 0, 0, 0, 0)) := s75_5 15
theorem i75_96 : q_ins 75 96 = some (.iinc 3 1, 3, (0, 0, 0, 0, 0)) := s75_6 0
theorem i75_99 : q_ins 75 99 = some (.goto 102, 3, (0, 0, 0, 0, 0)) := s75_6 3
theorem i75_102 : q_ins 75 102 = some (.iload 6, 2, (0, 0, 0, 0, 0)) := s75_6 6
theorem i75_104 : q_ins 75 104 = some (.sipush 20224, 3, (0, 0, 0, 0, 0)) := s75_6 8
theorem i75_107 : q_ins 75 107 = some (.if_icmp .eq 11, 3, (0, 0, 0, 0, 0)) := s75_6 11
theorem i75_110 : q_ins 75 110 = some (.iload 6, 2, (0, 0, 0, 0, 0)) := s75_6 14
theorem i75_112 : q_ins 75 112 = some (.sipush 20130, 3, (0, 0, 0, 0, 0)) := s75_7 0
theorem i75_115 : q_ins 75 115 = some (.if_icmp .ne 47, 3, (0, 0, 0, 0, 0)) := s75_7 3
theorem i75_118 : q_ins 75 118 = some (.iload_n 3, 1, (0, 0, 0, 0, 0)) := s75_7 6
theorem i75_119 : q_ins 75 119 = some (.iconst 1, 1, (0, 0, 0, 0, 0)) := s75_7 7
theorem i75_120 : q_ins 75 120 = some (.if_icmp .lt 81, 3, (0, 0, 0, 0, 0)) := s75_7 8
theorem i75_123 : q_ins 75 123 = some (.aload_n 0, 1, (0, 0, 0, 0, 0)) := s75_7 11
theorem i75_124 : q_ins 75 124 = some (.getfield 15, 3, (53, 3, 1, 2, 0)) := s75_7 12
theorem i75_127 : q_ins 75 127 = some (.iload_n 3, 1, (0, 0, 0, 0, 0)) := s75_7 15
theorem i75_128 : q_ins 75 128 = some (.iconst 1, 1, (0, 0, 0, 0, 0)) := s75_8 0
theorem i75_129 : q_ins 75 129 = some (.isub, 1, (0, 0, 0, 0, 0)) := s75_8 1
theorem i75_130 : q_ins 75 130 = some (.iaload, 1, (0, 0, 0, 0, 0)) := s75_8 2
theorem i75_131 : q_ins 75 131 = some (.istore 7, 2, (0, 0, 0, 0, 0)) := s75_8 3
theorem i75_133 : q_ins 75 133 = some (.aload_n 0, 1, (0, 0, 0, 0, 0)) := s75_8 5
theorem i75_134 : q_ins 75 134 = some (.getfield 15, 3, (53, 3, 1, 2, 0)) := s75_8 6
theorem i75_137 : q_ins 75 137 = some (.iload_n 3, 1, (0, 0, 0, 0, 0)) := s75_8 9
theorem i75_138 : q_ins 75 138 = some (.iconst 1, 1, (0, 0, 0, 0, 0)) := s75_8 10
theorem i75_139 : q_ins 75 139 = some (.isub, 1, (0, 0, 0, 0, 0)) := s75_8 11
theorem i75_140 : q_ins 75 140 = some (.iload 6, 2, (0, 0, 0, 0, 0)) := s75_8 12
theorem i75_142 : q_ins 75 142 = some (.sipush 20130, 3, (0, 0, 0, 0, 0)) := s75_8 14
theorem i75_145 : q_ins 75 145 = some (.if_icmp .ne 9, 3, (0, 0, 0, 0, 0)) := s75_9 1
theorem i75_148 : q_ins 75 148 = some (.iload 7, 2, (0, 0, 0, 0, 0)) := s75_9 4
theorem i75_150 : q_ins 75 150 = some (.ineg, 1, (0, 0, 0, 0, 0)) := s75_9 6
theorem i75_151 : q_ins 75 151 = some (.goto 7, 3, (0, 0, 0, 0, 0)) := s75_9 7
theorem i75_154 : q_ins 75 154 = some (.iconst 1, 1, (0, 0, 0, 0, 0)) := s75_9 10
theorem i75_155 : q_ins 75 155 = some (.iload 7, 2, (0, 0, 0, 0, 0)) := s75_9 11
theorem i75_157 : q_ins 75 157 = some (.isub, 1, (0, 0, 0, 0, 0)) := s75_9 13
theorem i75_158 : q_ins 75 158 = some (.iastore, 1, (0, 0, 0, 0, 0)) := s75_9 14
theorem i75_159 : q_ins 75 159 = some (.goto 42, 3, (0, 0, 0, 0, 0)) := s75_9 15
theorem i75_162 : q_ins 75 162 = some (.iload_n 3, 1, (0, 0, 0, 0, 0)) := s75_10 2
theorem i75_163 : q_ins 75 163 = some (.iconst 2, 1, (0, 0, 0, 0, 0)) := s75_10 3
theorem i75_164 : q_ins 75 164 = some (.if_icmp .lt 37, 3, (0, 0, 0, 0, 0)) := s75_10 4
theorem i75_167 : q_ins 75 167 = some (.iinc 3 (-1), 3, (0, 0, 0, 0, 0)) := s75_10 7
theorem i75_170 : q_ins 75 170 = some (.aload_n 0, 1, (0, 0, 0, 0, 0)) := s75_10 10
theorem i75_171 : q_ins 75 171 = some (.getfield 15, 3, (53, 3, 1, 2, 0)) := s75_10 11
theorem i75_174 : q_ins 75 174 = some (.iload_n 3, 1, (0, 0, 0, 0, 0)) := s75_10 14
theorem i75_175 : q_ins 75 175 = some (.iconst 1, 1, (0, 0, 0, 0, 0)) := s75_10 15
theorem i75_176 : q_ins 75 176 = some (.isub, 1, (0, 0, 0, 0, 0)) := s75_11 0
theorem i75_177 : q_ins 75 177 = some (.iload 6, 2, (0, 0, 0, 0, 0)) := s75_11 1
theorem i75_179 : q_ins 75 179 = some (.sipush 20000, 3, (0, 0, 0, 0, 0)) := s75_11 3
theorem i75_182 : q_ins 75 182 = some (.isub, 1, (0, 0, 0, 0, 0)) := s75_11 6
theorem i75_183 : q_ins 75 183 = some (.aload_n 0, 1, (0, 0, 0, 0, 0)) := s75_11 7
theorem i75_184 : q_ins 75 184 = some (.getfield 15, 3, (53, 3, 1, 2, 0)) := s75_11 8
theorem i75_187 : q_ins 75 187 = some (.iload_n 3, 1, (0, 0, 0, 0, 0)) := s75_11 11
theorem i75_188 : q_ins 75 188 = some (.iconst 1, 1, (0, 0, 0, 0, 0)) := s75_11 12
theorem i75_189 : q_ins 75 189 = some (.isub, 1, (0, 0, 0, 0, 0)) := s75_11 13
theorem i75_190 : q_ins 75 190 = some (.iaload, 1, (0, 0, 0, 0, 0)) := s75_11 14
theorem i75_191 : q_ins 75 191 = some (.aload_n 0, 1, (0, 0, 0, 0, 0)) := s75_11 15
theorem i75_192 : q_ins 75 192 = some (.getfield 15, 3, (53, 3, 1, 2, 0)) := s75_12 0
theorem i75_195 : q_ins 75 195 = some (.iload_n 3, 1, (0, 0, 0, 0, 0)) := s75_12 3
theorem i75_196 : q_ins 75 196 = some (.iaload, 1, (0, 0, 0, 0, 0)) := s75_12 4
theorem i75_197 : q_ins 75 197 = some (.invokestatic 43, 3, (129, 77, 3, 2, 0)) := s75_12 5
theorem i75_200 : q_ins 75 200 = some (.iastore, 1, (0, 0, 0, 0, 0)) := s75_12 8
theorem i75_201 : q_ins 75 201 = some (.iinc 5 1, 3, (0, 0, 0, 0, 0)) := s75_12 9
theorem i75_204 : q_ins 75 204 = some (.goto (-168), 3, (0, 0, 0, 0, 0)) := s75_12 12
theorem i75_207 : q_ins 75 207 = some (.iload_n 3, 1, (0, 0, 0, 0, 0)) := s75_12 15
theorem i75_208 : q_ins 75 208 = some (.iconst 1, 1, (0, 0, 0, 0, 0)) := s75_13 0
theorem i75_209 : q_ins 75 209 = some (.if_icmp .lt 14, 3, (0, 0, 0, 0, 0)) := s75_13 1
theorem i75_212 : q_ins 75 212 = some (.aload_n 0, 1, (0, 0, 0, 0, 0)) := s75_13 4
theorem i75_213 : q_ins 75 213 = some (.getfield 15, 3, (53, 3, 1, 2, 0)) := s75_13 5
theorem i75_216 : q_ins 75 216 = some (.iload_n 3, 1, (0, 0, 0, 0, 0)) := s75_13 8
theorem i75_217 : q_ins 75 217 = some (.iconst 1, 1, (0, 0, 0, 0, 0)) := s75_13 9
theorem i75_218 : q_ins 75 218 = some (.isub, 1, (0, 0, 0, 0, 0)) := s75_13 10
theorem i75_219 : q_ins 75 219 = some (.iaload, 1, (0, 0, 0, 0, 0)) := s75_13 11
theorem i75_220 : q_ins 75 220 = some (.goto 4, 3, (0, 0, 0, 0, 0)) := s75_13 12
theorem i75_223 : q_ins 75 223 = some (.iconst 0, 1, (0, 0, 0, 0, 0)) := s75_13 15
theorem i75_224 : q_ins 75 224 = some (.ireturn, 1, (0, 0, 0, 0, 0)) := s75_14 0
theorem s76_0 (j : Nat) : q_ins 76 j = q_at q_c76 j := rfl
theorem s76_1 (j : Nat) : q_ins 76 (j + 16) = q_at q_c76_1 j := s76_0 (j + 16)
theorem i76_0 : q_ins 76 0 = some (.iload_n 1, 1, (0, 0, 0, 0, 0)) := s76_0 0
theorem i76_1 : q_ins 76 1 = some (.ifCond .lt 18, 3, (0, 0, 0, 0, 0)) := s76_0 1
theorem i76_4 : q_ins 76 4 = some (.iload_n 1, 1, (0, 0, 0, 0, 0)) := s76_0 4
theorem i76_5 : q_ins 76 5 = some (.bipush 14, 2, (0, 0, 0, 0, 0)) := s76_0 5
theorem i76_7 : q_ins 76 7 = some (.if_icmp .ge 12, 3, (0, 0, 0, 0, 0)) := s76_0 7
theorem i76_10 : q_ins 76 10 = some (.aload_n 0, 1, (0, 0, 0, 0, 0)) := s76_0 10
theorem i76_11 : q_ins 76 11 = some (.getfield 9, 3, (52, 3, 0, 2, 0)) := s76_0 11
theorem i76_14 : q_ins 76 14 = some (.iload_n 1, 1, (0, 0, 0, 0, 0)) := s76_0 14
theorem i76_15 : q_ins 76 15 = some (.iaload, 1, (0, 0, 0, 0, 0)) := s76_0 15
theorem i76_16 : q_ins 76 16 = some (.goto 4, 3, (0, 0, 0, 0, 0)) := s76_1 0
theorem i76_19 : q_ins 76 19 = some (.iconst 0, 1, (0, 0, 0, 0, 0)) := s76_1 3
theorem i76_20 : q_ins 76 20 = some (.ireturn, 1, (0, 0, 0, 0, 0)) := s76_1 4
theorem s77_0 (j : Nat) : q_ins 77 j = q_at q_c77 j := rfl
theorem s77_1 (j : Nat) : q_ins 77 (j + 16) = q_at q_c77_1 j := s77_0 (j + 16)
theorem s77_2 (j : Nat) : q_ins 77 (j + 32) = q_at q_c77_2 j := s77_1 (j + 16)
theorem s77_3 (j : Nat) : q_ins 77 (j + 48) = q_at q_c77_3 j := s77_2 (j + 16)
theorem s77_4 (j : Nat) : q_ins 77 (j + 64) = q_at q_c77_4 j := s77_3 (j + 16)
theorem s77_5 (j : Nat) : q_ins 77 (j + 80) = q_at q_c77_5 j := s77_4 (j + 16)
theorem s77_6 (j : Nat) : q_ins 77 (j + 96) = q_at q_c77_6 j := s77_5 (j + 16)
theorem s77_7 (j : Nat) : q_ins 77 (j + 112) = q_at q_c77_7 j := s77_6 (j + 16)
theorem s77_8 (j : Nat) : q_ins 77 (j + 128) = q_at q_c77_8 j := s77_7 (j + 16)
theorem s77_9 (j : Nat) : q_ins 77 (j + 144) = q_at q_c77_9 j := s77_8 (j + 16)
theorem s77_10 (j : Nat) : q_ins 77 (j + 160) = q_at q_c77_10 j := s77_9 (j + 16)
theorem s77_11 (j : Nat) : q_ins 77 (j + 176) = q_at q_c77_11 j := s77_10 (j + 16)
theorem s77_12 (j : Nat) : q_ins 77 (j + 192) = q_at q_c77_12 j := s77_11 (j + 16)
theorem s77_13 (j : Nat) : q_ins 77 (j + 208) = q_at q_c77_13 j := s77_12 (j + 16)
theorem s77_14 (j : Nat) : q_ins 77 (j + 224) = q_at q_c77_14 j := s77_13 (j + 16)
theorem s77_15 (j : Nat) : q_ins 77 (j + 240) = q_at q_c77_15 j := s77_14 (j + 16)
theorem s77_16 (j : Nat) : q_ins 77 (j + 256) = q_at q_c77_16 j := s77_15 (j + 16)
theorem i77_0 : q_ins 77 0 = some (.iload_n 0, 1, (0, 0, 0, 0, 0)) := s77_0 0
theorem i77_1 : q_ins 77 1 = some (.lookupswitch 235 #[(35, 185), (42, 117), (43, 99), (45, 108), (47, 126), (60, 143), (61, 171), (62, 157), (128, 199), (129, 213), (222, 227)], 99, (0, 0, 0, 0, 0)) := s77_0 1
theorem i77_100 : q_ins 77 100 = some (.iload_n 1, 1, (0, 0, 0, 0, 0)) := s77_6 4
theorem i77_101 : q_ins 77 101 = some (.i2l, 1, (0, 0, 0, 0, 0)) := s77_6 5
theorem i77_102 : q_ins 77 102 = some (.iload_n 2, 1, (0, 0, 0, 0, 0)) := s77_6 6
theorem i77_103 : q_ins 77 103 = some (.i2l, 1, (0, 0, 0, 0, 0)) := s77_6 7
theorem i77_104 : q_ins 77 104 = some (.ladd, 1, (0, 0, 0, 0, 0)) := s77_6 8
theorem i77_105 : q_ins 77 105 = some (.lstore_n 3, 1, (0, 0, 0, 0, 0)) := s77_6 9
theorem i77_106 : q_ins 77 106 = some (.goto 135, 3, (0, 0, 0, 0, 0)) := s77_6 10
theorem i77_109 : q_ins 77 109 = some (.iload_n 1, 1, (0, 0, 0, 0, 0)) := s77_6 13
theorem i77_110 : q_ins 77 110 = some (.i2l, 1, (0, 0, 0, 0, 0)) := s77_6 14
theorem i77_111 : q_ins 77 111 = some (.iload_n 2, 1, (0, 0, 0, 0, 0)) := s77_6 15
theorem i77_112 : q_ins 77 112 = some (.i2l, 1, (0, 0, 0, 0, 0)) := s77_7 0
theorem i77_113 : q_ins 77 113 = some (.lsub, 1, (0, 0, 0, 0, 0)) := s77_7 1
theorem i77_114 : q_ins 77 114 = some (.lstore_n 3, 1, (0, 0, 0, 0, 0)) := s77_7 2
theorem i77_115 : q_ins 77 115 = some (.goto 126, 3, (0, 0, 0, 0, 0)) := s77_7 3
theorem i77_118 : q_ins 77 118 = some (.iload_n 1, 1, (0, 0, 0, 0, 0)) := s77_7 6
theorem i77_119 : q_ins 77 119 = some (.i2l, 1, (0, 0, 0, 0, 0)) := s77_7 7
theorem i77_120 : q_ins 77 120 = some (.iload_n 2, 1, (0, 0, 0, 0, 0)) := s77_7 8
theorem i77_121 : q_ins 77 121 = some (.i2l, 1, (0, 0, 0, 0, 0)) := s77_7 9
theorem i77_122 : q_ins 77 122 = some (.lmul, 1, (0, 0, 0, 0, 0)) := s77_7 10
theorem i77_123 : q_ins 77 123 = some (.lstore_n 3, 1, (0, 0, 0, 0, 0)) := s77_7 11
theorem i77_124 : q_ins 77 124 = some (.goto 117, 3, (0, 0, 0, 0, 0)) := s77_7 12
theorem i77_127 : q_ins 77 127 = some (.iload_n 2, 1, (0, 0, 0, 0, 0)) := s77_7 15
theorem i77_128 : q_ins 77 128 = some (.ifCond .ne 7, 3, (0, 0, 0, 0, 0)) := s77_8 0
theorem i77_131 : q_ins 77 131 = some (.lconst 0, 1, (0, 0, 0, 0, 0)) := s77_8 3
theorem i77_132 : q_ins 77 132 = some (.goto 8, 3, (0, 0, 0, 0, 0)) := s77_8 4
theorem i77_135 : q_ins 77 135 = some (.iload_n 1, 1, (0, 0, 0, 0, 0)) := s77_8 7
theorem i77_136 : q_ins 77 136 = some (.i2l, 1, (0, 0, 0, 0, 0)) := s77_8 8
theorem i77_137 : q_ins 77 137 = some (.iload_n 2, 1, (0, 0, 0, 0, 0)) := s77_8 9
theorem i77_138 : q_ins 77 138 = some (.i2l, 1, (0, 0, 0, 0, 0)) := s77_8 10
theorem i77_139 : q_ins 77 139 = some (.ldiv, 1, (0, 0, 0, 0, 0)) := s77_8 11
theorem i77_140 : q_ins 77 140 = some (.lstore_n 3, 1, (0, 0, 0, 0, 0)) := s77_8 12
theorem i77_141 : q_ins 77 141 = some (.goto 100, 3, (0, 0, 0, 0, 0)) := s77_8 13
theorem i77_144 : q_ins 77 144 = some (.iload_n 1, 1, (0, 0, 0, 0, 0)) := s77_9 0
theorem i77_145 : q_ins 77 145 = some (.iload_n 2, 1, (0, 0, 0, 0, 0)) := s77_9 1
theorem i77_146 : q_ins 77 146 = some (.if_icmp .ge 7, 3, (0, 0, 0, 0, 0)) := s77_9 2
theorem i77_149 : q_ins 77 149 = some (.lconst 1, 1, (0, 0, 0, 0, 0)) := s77_9 5
theorem i77_150 : q_ins 77 150 = some (.goto 4, 3, (0, 0, 0, 0, 0)) := s77_9 6
theorem i77_153 : q_ins 77 153 = some (.lconst 0, 1, (0, 0, 0, 0, 0)) := s77_9 9
theorem i77_154 : q_ins 77 154 = some (.lstore_n 3, 1, (0, 0, 0, 0, 0)) := s77_9 10
theorem i77_155 : q_ins 77 155 = some (.goto 86, 3, (0, 0, 0, 0, 0)) := s77_9 11
theorem i77_158 : q_ins 77 158 = some (.iload_n 1, 1, (0, 0, 0, 0, 0)) := s77_9 14
theorem i77_159 : q_ins 77 159 = some (.iload_n 2, 1, (0, 0, 0, 0, 0)) := s77_9 15
theorem i77_160 : q_ins 77 160 = some (.if_icmp .le 7, 3, (0, 0, 0, 0, 0)) := s77_10 0
theorem i77_163 : q_ins 77 163 = some (.lconst 1, 1, (0, 0, 0, 0, 0)) := s77_10 3
theorem i77_164 : q_ins 77 164 = some (.goto 4, 3, (0, 0, 0, 0, 0)) := s77_10 4
theorem i77_167 : q_ins 77 167 = some (.lconst 0, 1, (0, 0, 0, 0, 0)) := s77_10 7
theorem i77_168 : q_ins 77 168 = some (.lstore_n 3, 1, (0, 0, 0, 0, 0)) := s77_10 8
theorem i77_169 : q_ins 77 169 = some (.goto 72, 3, (0, 0, 0, 0, 0)) := s77_10 9
theorem i77_172 : q_ins 77 172 = some (.iload_n 1, 1, (0, 0, 0, 0, 0)) := s77_10 12
theorem i77_173 : q_ins 77 173 = some (.iload_n 2, 1, (0, 0, 0, 0, 0)) := s77_10 13
theorem i77_174 : q_ins 77 174 = some (.if_icmp .ne 7, 3, (0, 0, 0, 0, 0)) := s77_10 14
theorem i77_177 : q_ins 77 177 = some (.lconst 1, 1, (0, 0, 0, 0, 0)) := s77_11 1
theorem i77_178 : q_ins 77 178 = some (.goto 4, 3, (0, 0, 0, 0, 0)) := s77_11 2
theorem i77_181 : q_ins 77 181 = some (.lconst 0, 1, (0, 0, 0, 0, 0)) := s77_11 5
theorem i77_182 : q_ins 77 182 = some (.lstore_n 3, 1, (0, 0, 0, 0, 0)) := s77_11 6
theorem i77_183 : q_ins 77 183 = some (.goto 58, 3, (0, 0, 0, 0, 0)) := s77_11 7
theorem i77_186 : q_ins 77 186 = some (.iload_n 1, 1, (0, 0, 0, 0, 0)) := s77_11 10
theorem i77_187 : q_ins 77 187 = some (.iload_n 2, 1, (0, 0, 0, 0, 0)) := s77_11 11
theorem i77_188 : q_ins 77 188 = some (.if_icmp .eq 7, 3, (0, 0, 0, 0, 0)) := s77_11 12
theorem i77_191 : q_ins 77 191 = some (.lconst 1, 1, (0, 0, 0, 0, 0)) := s77_11 15
theorem i77_192 : q_ins 77 192 = some (.goto 4, 3, (0, 0, 0, 0, 0)) := s77_12 0
theorem i77_195 : q_ins 77 195 = some (.lconst 0, 1, (0, 0, 0, 0, 0)) := s77_12 3
theorem i77_196 : q_ins 77 196 = some (.lstore_n 3, 1, (0, 0, 0, 0, 0)) := s77_12 4
theorem i77_197 : q_ins 77 197 = some (.goto 44, 3, (0, 0, 0, 0, 0)) := s77_12 5
theorem i77_200 : q_ins 77 200 = some (.iload_n 1, 1, (0, 0, 0, 0, 0)) := s77_12 8
theorem i77_201 : q_ins 77 201 = some (.iload_n 2, 1, (0, 0, 0, 0, 0)) := s77_12 9
theorem i77_202 : q_ins 77 202 = some (.if_icmp .gt 7, 3, (0, 0, 0, 0, 0)) := s77_12 10
theorem i77_205 : q_ins 77 205 = some (.lconst 1, 1, (0, 0, 0, 0, 0)) := s77_12 13
theorem i77_206 : q_ins 77 206 = some (.goto 4, 3, (0, 0, 0, 0, 0)) := s77_12 14
theorem i77_209 : q_ins 77 209 = some (.lconst 0, 1, (0, 0, 0, 0, 0)) := s77_13 1
theorem i77_210 : q_ins 77 210 = some (.lstore_n 3, 1, (0, 0, 0, 0, 0)) := s77_13 2
theorem i77_211 : q_ins 77 211 = some (.goto 30, 3, (0, 0, 0, 0, 0)) := s77_13 3
theorem i77_214 : q_ins 77 214 = some (.iload_n 1, 1, (0, 0, 0, 0, 0)) := s77_13 6
theorem i77_215 : q_ins 77 215 = some (.iload_n 2, 1, (0, 0, 0, 0, 0)) := s77_13 7
theorem i77_216 : q_ins 77 216 = some (.if_icmp .lt 7, 3, (0, 0, 0, 0, 0)) := s77_13 8
theorem i77_219 : q_ins 77 219 = some (.lconst 1, 1, (0, 0, 0, 0, 0)) := s77_13 11
theorem i77_220 : q_ins 77 220 = some (.goto 4, 3, (0, 0, 0, 0, 0)) := s77_13 12
theorem i77_223 : q_ins 77 223 = some (.lconst 0, 1, (0, 0, 0, 0, 0)) := s77_13 15
theorem i77_224 : q_ins 77 224 = some (.lstore_n 3, 1, (0, 0, 0, 0, 0)) := s77_14 0
theorem i77_225 : q_ins 77 225 = some (.goto 16, 3, (0, 0, 0, 0, 0)) := s77_14 1
theorem i77_228 : q_ins 77 228 = some (.iload_n 1, 1, (0, 0, 0, 0, 0)) := s77_14 4
theorem i77_229 : q_ins 77 229 = some (.iload_n 2, 1, (0, 0, 0, 0, 0)) := s77_14 5
theorem i77_230 : q_ins 77 230 = some (.ior, 1, (0, 0, 0, 0, 0)) := s77_14 6
theorem i77_231 : q_ins 77 231 = some (.i2l, 1, (0, 0, 0, 0, 0)) := s77_14 7
theorem i77_232 : q_ins 77 232 = some (.lstore_n 3, 1, (0, 0, 0, 0, 0)) := s77_14 8
theorem i77_233 : q_ins 77 233 = some (.goto 8, 3, (0, 0, 0, 0, 0)) := s77_14 9
theorem i77_236 : q_ins 77 236 = some (.iload_n 1, 1, (0, 0, 0, 0, 0)) := s77_14 12
theorem i77_237 : q_ins 77 237 = some (.iload_n 2, 1, (0, 0, 0, 0, 0)) := s77_14 13
theorem i77_238 : q_ins 77 238 = some (.iand, 1, (0, 0, 0, 0, 0)) := s77_14 14
theorem i77_239 : q_ins 77 239 = some (.i2l, 1, (0, 0, 0, 0, 0)) := s77_14 15
theorem i77_240 : q_ins 77 240 = some (.lstore_n 3, 1, (0, 0, 0, 0, 0)) := s77_15 0
theorem i77_241 : q_ins 77 241 = some (.lload_n 3, 1, (0, 0, 0, 0, 0)) := s77_15 1
theorem i77_242 : q_ins 77 242 = some (.ldc2_w 47, 3, (812, 0, 0, 0, 1000000)) := s77_15 2
theorem i77_245 : q_ins 77 245 = some (.lcmp, 1, (0, 0, 0, 0, 0)) := s77_15 5
theorem i77_246 : q_ins 77 246 = some (.ifCond .le 6, 3, (0, 0, 0, 0, 0)) := s77_15 6
theorem i77_249 : q_ins 77 249 = some (.ldc 49, 2, (813, 0, 0, 0, 1000000)) := s77_15 9
theorem i77_251 : q_ins 77 251 = some (.ireturn, 1, (0, 0, 0, 0, 0)) := s77_15 11
theorem i77_252 : q_ins 77 252 = some (.lload_n 3, 1, (0, 0, 0, 0, 0)) := s77_15 12
theorem i77_253 : q_ins 77 253 = some (.ldc2_w 50, 3, (814, 0, 0, 0, (-1000000))) := s77_15 13
theorem i77_256 : q_ins 77 256 = some (.lcmp, 1, (0, 0, 0, 0, 0)) := s77_16 0
theorem i77_257 : q_ins 77 257 = some (.ifCond .ge 8, 3, (0, 0, 0, 0, 0)) := s77_16 1
theorem i77_260 : q_ins 77 260 = some (.ldc 52, 2, (815, 0, 0, 0, (-1000000))) := s77_16 4
theorem i77_262 : q_ins 77 262 = some (.goto 5, 3, (0, 0, 0, 0, 0)) := s77_16 6
theorem i77_265 : q_ins 77 265 = some (.lload_n 3, 1, (0, 0, 0, 0, 0)) := s77_16 9
theorem i77_266 : q_ins 77 266 = some (.l2i, 1, (0, 0, 0, 0, 0)) := s77_16 10
theorem i77_267 : q_ins 77 267 = some (.ireturn, 1, (0, 0, 0, 0, 0)) := s77_16 11
theorem s78_0 (j : Nat) : q_ins 78 j = q_at q_c78 j := rfl
theorem s78_1 (j : Nat) : q_ins 78 (j + 16) = q_at q_c78_1 j := s78_0 (j + 16)
theorem s78_2 (j : Nat) : q_ins 78 (j + 32) = q_at q_c78_2 j := s78_1 (j + 16)
theorem s78_3 (j : Nat) : q_ins 78 (j + 48) = q_at q_c78_3 j := s78_2 (j + 16)
theorem s78_4 (j : Nat) : q_ins 78 (j + 64) = q_at q_c78_4 j := s78_3 (j + 16)
theorem s78_5 (j : Nat) : q_ins 78 (j + 80) = q_at q_c78_5 j := s78_4 (j + 16)
theorem s78_6 (j : Nat) : q_ins 78 (j + 96) = q_at q_c78_6 j := s78_5 (j + 16)
theorem i78_0 : q_ins 78 0 = some (.iconst 0, 1, (0, 0, 0, 0, 0)) := s78_0 0
theorem i78_1 : q_ins 78 1 = some (.istore_n 2, 1, (0, 0, 0, 0, 0)) := s78_0 1
theorem i78_2 : q_ins 78 2 = some (.iconst 0, 1, (0, 0, 0, 0, 0)) := s78_0 2
theorem i78_3 : q_ins 78 3 = some (.istore_n 3, 1, (0, 0, 0, 0, 0)) := s78_0 3
theorem i78_4 : q_ins 78 4 = some (.iload_n 3, 1, (0, 0, 0, 0, 0)) := s78_0 4
theorem i78_5 : q_ins 78 5 = some (.bipush 6, 2, (0, 0, 0, 0, 0)) := s78_0 5
theorem i78_7 : q_ins 78 7 = some (.if_icmp .ge 100, 3, (0, 0, 0, 0, 0)) := s78_0 7
theorem i78_10 : q_ins 78 10 = some (.iload_n 1, 1, (0, 0, 0, 0, 0)) := s78_0 10
theorem i78_11 : q_ins 78 11 = some (.iload_n 3, 1, (0, 0, 0, 0, 0)) := s78_0 11
theorem i78_12 : q_ins 78 12 = some (.ishr, 1, (0, 0, 0, 0, 0)) := s78_0 12
theorem i78_13 : q_ins 78 13 = some (.iconst 1, 1, (0, 0, 0, 0, 0)) := s78_0 13
theorem i78_14 : q_ins 78 14 = some (.iand, 1, (0, 0, 0, 0, 0)) := s78_0 14
theorem i78_15 : q_ins 78 15 = some (.ifCond .ne 6, 3, (0, 0, 0, 0, 0)) := s78_0 15
theorem i78_18 : q_ins 78 18 = some (.goto 83, 3, (0, 0, 0, 0, 0)) := s78_1 2
theorem i78_21 : q_ins 78 21 = some (.aload_n 0, 1, (0, 0, 0, 0, 0)) := s78_1 5
theorem i78_22 : q_ins 78 22 = some (.getfield 9, 3, (61, 1, 3, 2, 0)) := s78_1 6
theorem i78_25 : q_ins 78 25 = some (.iload_n 3, 1, (0, 0, 0, 0, 0)) := s78_1 9
theorem i78_26 : q_ins 78 26 = some (.dup2, 1, (0, 0, 0, 0, 0)) := s78_1 10
theorem i78_27 : q_ins 78 27 = some (.iaload, 1, (0, 0, 0, 0, 0)) := s78_1 11
theorem i78_28 : q_ins 78 28 = some (.aload_n 0, 1, (0, 0, 0, 0, 0)) := s78_1 12
theorem i78_29 : q_ins 78 29 = some (.getfield 26, 3, (65, 1, 2, 2, 0)) := s78_1 13
theorem i78_32 : q_ins 78 32 = some (.getfield 95, 3, (124, 0, 5, 0, 0)) := s78_2 0
theorem i78_35 : q_ins 78 35 = some (.iload_n 3, 1, (0, 0, 0, 0, 0)) := s78_2 3
theorem i78_36 : q_ins 78 36 = some (.ishr, 1, (0, 0, 0, 0, 0)) := s78_2 4
theorem i78_37 : q_ins 78 37 = some (.iconst 1, 1, (0, 0, 0, 0, 0)) := s78_2 5
theorem i78_38 : q_ins 78 38 = some (.iand, 1, (0, 0, 0, 0, 0)) := s78_2 6
theorem i78_39 : q_ins 78 39 = some (.iadd, 1, (0, 0, 0, 0, 0)) := s78_2 7
theorem i78_40 : q_ins 78 40 = some (.iastore, 1, (0, 0, 0, 0, 0)) := s78_2 8
theorem i78_41 : q_ins 78 41 = some (.aload_n 0, 1, (0, 0, 0, 0, 0)) := s78_2 9
theorem i78_42 : q_ins 78 42 = some (.getfield 18, 3, (63, 1, 0, 2, 0)) := s78_2 10
theorem i78_45 : q_ins 78 45 = some (.getfield 98, 3, (125, 2, 16, 0, 0)) := s78_2 13
theorem i78_48 : q_ins 78 48 = some (.bipush 10, 2, (0, 0, 0, 0, 0)) := s78_3 0
theorem i78_50 : q_ins 78 50 = some (.irem, 1, (0, 0, 0, 0, 0)) := s78_3 2
theorem i78_51 : q_ins 78 51 = some (.aload_n 0, 1, (0, 0, 0, 0, 0)) := s78_3 3
theorem i78_52 : q_ins 78 52 = some (.getfield 18, 3, (63, 1, 0, 2, 0)) := s78_3 4
theorem i78_55 : q_ins 78 55 = some (.getfield 101, 3, (126, 2, 2, 2, 0)) := s78_3 7
theorem i78_58 : q_ins 78 58 = some (.iload_n 3, 1, (0, 0, 0, 0, 0)) := s78_3 10
theorem i78_59 : q_ins 78 59 = some (.iaload, 1, (0, 0, 0, 0, 0)) := s78_3 11
theorem i78_60 : q_ins 78 60 = some (.if_icmp .ge 16, 3, (0, 0, 0, 0, 0)) := s78_3 12
theorem i78_63 : q_ins 78 63 = some (.aload_n 0, 1, (0, 0, 0, 0, 0)) := s78_3 15
theorem i78_64 : q_ins 78 64 = some (.getfield 15, 3, (62, 1, 4, 2, 0)) := s78_4 0
theorem i78_67 : q_ins 78 67 = some (.iload_n 3, 1, (0, 0, 0, 0, 0)) := s78_4 3
theorem i78_68 : q_ins 78 68 = some (.dup2, 1, (0, 0, 0, 0, 0)) := s78_4 4
theorem i78_69 : q_ins 78 69 = some (.iaload, 1, (0, 0, 0, 0, 0)) := s78_4 5
theorem i78_70 : q_ins 78 70 = some (.iconst 1, 1, (0, 0, 0, 0, 0)) := s78_4 6
theorem i78_71 : q_ins 78 71 = some (.iadd, 1, (0, 0, 0, 0, 0)) := s78_4 7
theorem i78_72 : q_ins 78 72 = some (.iastore, 1, (0, 0, 0, 0, 0)) := s78_4 8
theorem i78_73 : q_ins 78 73 = some (.iinc 2 1, 3, (0, 0, 0, 0, 0)) := s78_4 9
theorem i78_76 : q_ins 78 76 = some (.aload_n 0, 1, (0, 0, 0, 0, 0)) := s78_4 12
theorem i78_77 : q_ins 78 77 = some (.getfield 18, 3, (63, 1, 0, 2, 0)) := s78_4 13
theorem i78_80 : q_ins 78 80 = some (.aload_n 0, 1, (0, 0, 0, 0, 0)) := s78_5 0
theorem i78_81 : q_ins 78 81 = some (.getfield 18, 3, (63, 1, 0, 2, 0)) := s78_5 1
theorem i78_84 : q_ins 78 84 = some (.getfield 98, 3, (125, 2, 16, 0, 0)) := s78_5 4
theorem i78_87 : q_ins 78 87 = some (.sipush 227, 3, (0, 0, 0, 0, 0)) := s78_5 7
theorem i78_90 : q_ins 78 90 = some (.imul, 1, (0, 0, 0, 0, 0)) := s78_5 10
theorem i78_91 : q_ins 78 91 = some (.bipush 61, 2, (0, 0, 0, 0, 0)) := s78_5 11
theorem i78_93 : q_ins 78 93 = some (.iadd, 1, (0, 0, 0, 0, 0)) := s78_5 13
theorem i78_94 : q_ins 78 94 = some (.sipush 30119, 3, (0, 0, 0, 0, 0)) := s78_5 14
theorem i78_97 : q_ins 78 97 = some (.irem, 1, (0, 0, 0, 0, 0)) := s78_6 1
theorem i78_98 : q_ins 78 98 = some (.putfield 98, 3, (125, 2, 16, 0, 0)) := s78_6 2
theorem i78_101 : q_ins 78 101 = some (.iinc 3 1, 3, (0, 0, 0, 0, 0)) := s78_6 5
theorem i78_104 : q_ins 78 104 = some (.goto (-100), 3, (0, 0, 0, 0, 0)) := s78_6 8
theorem i78_107 : q_ins 78 107 = some (.iload_n 2, 1, (0, 0, 0, 0, 0)) := s78_6 11
theorem i78_108 : q_ins 78 108 = some (.ireturn, 1, (0, 0, 0, 0, 0)) := s78_6 12
theorem s79_0 (j : Nat) : q_ins 79 j = q_at q_c79 j := rfl
theorem s79_1 (j : Nat) : q_ins 79 (j + 16) = q_at q_c79_1 j := s79_0 (j + 16)
theorem s79_2 (j : Nat) : q_ins 79 (j + 32) = q_at q_c79_2 j := s79_1 (j + 16)
theorem s79_3 (j : Nat) : q_ins 79 (j + 48) = q_at q_c79_3 j := s79_2 (j + 16)
theorem s79_4 (j : Nat) : q_ins 79 (j + 64) = q_at q_c79_4 j := s79_3 (j + 16)
theorem s79_5 (j : Nat) : q_ins 79 (j + 80) = q_at q_c79_5 j := s79_4 (j + 16)
theorem s79_6 (j : Nat) : q_ins 79 (j + 96) = q_at q_c79_6 j := s79_5 (j + 16)
theorem s79_7 (j : Nat) : q_ins 79 (j + 112) = q_at q_c79_7 j := s79_6 (j + 16)
theorem s79_8 (j : Nat) : q_ins 79 (j + 128) = q_at q_c79_8 j := s79_7 (j + 16)
theorem s79_9 (j : Nat) : q_ins 79 (j + 144) = q_at q_c79_9 j := s79_8 (j + 16)
theorem s79_10 (j : Nat) : q_ins 79 (j + 160) = q_at q_c79_10 j := s79_9 (j + 16)
theorem s79_11 (j : Nat) : q_ins 79 (j + 176) = q_at q_c79_11 j := s79_10 (j + 16)
theorem i79_0 : q_ins 79 0 = some (.aload_n 0, 1, (0, 0, 0, 0, 0)) := s79_0 0
theorem i79_1 : q_ins 79 1 = some (.getfield 21, 3, (57, 0, 5, 0, 0)) := s79_0 1
theorem i79_4 : q_ins 79 4 = some (.invokestatic 42, 3, (121, 71, 1, 2, 0)) := s79_0 4
theorem i79_7 : q_ins 79 7 = some (.istore_n 3, 1, (0, 0, 0, 0, 0)) := s79_0 7
theorem i79_8 : q_ins 79 8 = some (.aload_n 0, 1, (0, 0, 0, 0, 0)) := s79_0 8
theorem i79_9 : q_ins 79 9 = some (.getfield 28, 3, (59, 0, 0, 2, 0)) := s79_0 9
theorem i79_12 : q_ins 79 12 = some (.iconst 1, 1, (0, 0, 0, 0, 0)) := s79_0 12
theorem i79_13 : q_ins 79 13 = some (.invokevirtual 59, 3, (124, 73, 2, 0, 2)) := s79_0 13
theorem i79_16 : q_ins 79 16 = some (.astore 4, 2, (0, 0, 0, 0, 0)) := s79_1 0
theorem i79_18 : q_ins 79 18 = some (.aload 4, 2, (0, 0, 0, 0, 0)) := s79_1 2
theorem i79_20 : q_ins 79 20 = some (.ifnull 12, 3, (0, 0, 0, 0, 0)) := s79_1 4
theorem i79_23 : q_ins 79 23 = some (.iload_n 1, 1, (0, 0, 0, 0, 0)) := s79_1 7
theorem i79_24 : q_ins 79 24 = some (.bipush 9, 2, (0, 0, 0, 0, 0)) := s79_1 8
theorem i79_26 : q_ins 79 26 = some (.invokestatic 48, 3, (122, 12, 2, 2, 0)) := s79_1 10
theorem i79_29 : q_ins 79 29 = some (.ifCond .ne 7, 3, (0, 0, 0, 0, 0)) := s79_1 13
theorem i79_32 : q_ins 79 32 = some (.iload_n 3, 1, (0, 0, 0, 0, 0)) := s79_2 0
theorem i79_33 : q_ins 79 33 = some (.iload_n 2, 1, (0, 0, 0, 0, 0)) := s79_2 1
theorem i79_34 : q_ins 79 34 = some (.iadd, 1, (0, 0, 0, 0, 0)) := s79_2 2
theorem i79_35 : q_ins 79 35 = some (.ireturn, 1, (0, 0, 0, 0, 0)) := s79_2 3
theorem i79_36 : q_ins 79 36 = some (.iload_n 1, 1, (0, 0, 0, 0, 0)) := s79_2 4
theorem i79_37 : q_ins 79 37 = some (.bipush 7, 2, (0, 0, 0, 0, 0)) := s79_2 5
theorem i79_39 : q_ins 79 39 = some (.imul, 1, (0, 0, 0, 0, 0)) := s79_2 7
theorem i79_40 : q_ins 79 40 = some (.iload_n 3, 1, (0, 0, 0, 0, 0)) := s79_2 8
theorem i79_41 : q_ins 79 41 = some (.iadd, 1, (0, 0, 0, 0, 0)) := s79_2 9
theorem i79_42 : q_ins 79 42 = some (.bipush 7, 2, (0, 0, 0, 0, 0)) := s79_2 10
theorem i79_44 : q_ins 79 44 = some (.imul, 1, (0, 0, 0, 0, 0)) := s79_2 12
theorem i79_45 : q_ins 79 45 = some (.aload_n 0, 1, (0, 0, 0, 0, 0)) := s79_2 13
theorem i79_46 : q_ins 79 46 = some (.getfield 25, 3, (58, 0, 6, 0, 0)) := s79_2 14
theorem i79_49 : q_ins 79 49 = some (.iadd, 1, (0, 0, 0, 0, 0)) := s79_3 1
theorem i79_50 : q_ins 79 50 = some (.istore 5, 2, (0, 0, 0, 0, 0)) := s79_3 2
theorem i79_52 : q_ins 79 52 = some (.iload_n 2, 1, (0, 0, 0, 0, 0)) := s79_3 4
theorem i79_53 : q_ins 79 53 = some (.ifCond .ne 22, 3, (0, 0, 0, 0, 0)) := s79_3 5
theorem i79_56 : q_ins 79 56 = some (.aload_n 0, 1, (0, 0, 0, 0, 0)) := s79_3 8
theorem i79_57 : q_ins 79 57 = some (.getfield 18, 3, (56, 0, 4, 2, 0)) := s79_3 9
theorem i79_60 : q_ins 79 60 = some (.iload 5, 2, (0, 0, 0, 0, 0)) := s79_3 12
theorem i79_62 : q_ins 79 62 = some (.iaload, 1, (0, 0, 0, 0, 0)) := s79_3 14
theorem i79_63 : q_ins 79 63 = some (.iconst (-1), 1, (0, 0, 0, 0, 0)) := s79_3 15
theorem i79_64 : q_ins 79 64 = some (.if_icmp .eq 11, 3, (0, 0, 0, 0, 0)) := s79_4 0
theorem i79_67 : q_ins 79 67 = some (.aload_n 0, 1, (0, 0, 0, 0, 0)) := s79_4 3
theorem i79_68 : q_ins 79 68 = some (.getfield 18, 3, (56, 0, 4, 2, 0)) := s79_4 4
theorem i79_71 : q_ins 79 71 = some (.iload 5, 2, (0, 0, 0, 0, 0)) := s79_4 7
theorem i79_73 : q_ins 79 73 = some (.iaload, 1, (0, 0, 0, 0, 0)) := s79_4 9
theorem i79_74 : q_ins 79 74 = some (.ireturn, 1, (0, 0, 0, 0, 0)) := s79_4 10
theorem i79_75 : q_ins 79 75 = some (.aload_n 0, 1, (0, 0, 0, 0, 0)) := s79_4 11
theorem i79_76 : q_ins 79 76 = some (.getfield 32, 3, (60, 0, 1, 2, 0)) := s79_4 12
theorem i79_79 : q_ins 79 79 = some (.getfield 65, 3, (119, 3, 0, 2, 0)) := s79_4 15
theorem i79_82 : q_ins 79 82 = some (.iconst 3, 1, (0, 0, 0, 0, 0)) := s79_5 2
theorem i79_83 : q_ins 79 83 = some (.aload_n 0, 1, (0, 0, 0, 0, 0)) := s79_5 3
theorem i79_84 : q_ins 79 84 = some (.getfield 28, 3, (59, 0, 0, 2, 0)) := s79_5 4
theorem i79_87 : q_ins 79 87 = some (.getfield 70, 3, (116, 2, 5, 2, 0)) := s79_5 7
theorem i79_90 : q_ins 79 90 = some (.iload_n 1, 1, (0, 0, 0, 0, 0)) := s79_5 10
theorem i79_91 : q_ins 79 91 = some (.iaload, 1, (0, 0, 0, 0, 0)) := s79_5 11
theorem i79_92 : q_ins 79 92 = some (.iastore, 1, (0, 0, 0, 0, 0)) := s79_5 12
theorem i79_93 : q_ins 79 93 = some (.aload_n 0, 1, (0, 0, 0, 0, 0)) := s79_5 13
theorem i79_94 : q_ins 79 94 = some (.getfield 32, 3, (60, 0, 1, 2, 0)) := s79_5 14
theorem i79_97 : q_ins 79 97 = some (.getfield 65, 3, (119, 3, 0, 2, 0)) := s79_6 1
theorem i79_100 : q_ins 79 100 = some (.iconst 4, 1, (0, 0, 0, 0, 0)) := s79_6 4
theorem i79_101 : q_ins 79 101 = some (.aload_n 0, 1, (0, 0, 0, 0, 0)) := s79_6 5
theorem i79_102 : q_ins 79 102 = some (.getfield 28, 3, (59, 0, 0, 2, 0)) := s79_6 6
theorem i79_105 : q_ins 79 105 = some (.getfield 73, 3, (117, 2, 6, 2, 0)) := s79_6 9
theorem i79_108 : q_ins 79 108 = some (.iload_n 1, 1, (0, 0, 0, 0, 0)) := s79_6 12
theorem i79_109 : q_ins 79 109 = some (.iaload, 1, (0, 0, 0, 0, 0)) := s79_6 13
theorem i79_110 : q_ins 79 110 = some (.iastore, 1, (0, 0, 0, 0, 0)) := s79_6 14
theorem i79_111 : q_ins 79 111 = some (.aload_n 0, 1, (0, 0, 0, 0, 0)) := s79_6 15
theorem i79_112 : q_ins 79 112 = some (.getfield 32, 3, (60, 0, 1, 2, 0)) := s79_7 0
theorem i79_115 : q_ins 79 115 = some (.getfield 65, 3, (119, 3, 0, 2, 0)) := s79_7 3
theorem i79_118 : q_ins 79 118 = some (.bipush 7, 2, (0, 0, 0, 0, 0)) := s79_7 6
theorem i79_120 : q_ins 79 120 = some (.iload_n 3, 1, (0, 0, 0, 0, 0)) := s79_7 8
theorem i79_121 : q_ins 79 121 = some (.iastore, 1, (0, 0, 0, 0, 0)) := s79_7 9
theorem i79_122 : q_ins 79 122 = some (.aload_n 0, 1, (0, 0, 0, 0, 0)) := s79_7 10
theorem i79_123 : q_ins 79 123 = some (.getfield 32, 3, (60, 0, 1, 2, 0)) := s79_7 11
theorem i79_126 : q_ins 79 126 = some (.getfield 65, 3, (119, 3, 0, 2, 0)) := s79_7 14
theorem i79_129 : q_ins 79 129 = some (.bipush 8, 2, (0, 0, 0, 0, 0)) := s79_8 1
theorem i79_131 : q_ins 79 131 = some (.aload_n 0, 1, (0, 0, 0, 0, 0)) := s79_8 3
theorem i79_132 : q_ins 79 132 = some (.getfield 25, 3, (58, 0, 6, 0, 0)) := s79_8 4
theorem i79_135 : q_ins 79 135 = some (.iastore, 1, (0, 0, 0, 0, 0)) := s79_8 7
theorem i79_136 : q_ins 79 136 = some (.aload_n 0, 1, (0, 0, 0, 0, 0)) := s79_8 8
theorem i79_137 : q_ins 79 137 = some (.getfield 32, 3, (60, 0, 1, 2, 0)) := s79_8 9
theorem i79_140 : q_ins 79 140 = some (.getfield 65, 3, (119, 3, 0, 2, 0)) := s79_8 12
theorem i79_143 : q_ins 79 143 = some (.bipush 9, 2, (0, 0, 0, 0, 0)) := s79_8 15
theorem i79_145 : q_ins 79 145 = some (.iload_n 2, 1, (0, 0, 0, 0, 0)) := s79_9 1
theorem i79_146 : q_ins 79 146 = some (.iastore, 1, (0, 0, 0, 0, 0)) := s79_9 2
theorem i79_147 : q_ins 79 147 = some (.iconst 0, 1, (0, 0, 0, 0, 0)) := s79_9 3
theorem i79_148 : q_ins 79 148 = some (.bipush 99, 2, (0, 0, 0, 0, 0)) := s79_9 4
theorem i79_150 : q_ins 79 150 = some (.aload_n 0, 1, (0, 0, 0, 0, 0)) := s79_9 6
theorem i79_151 : q_ins 79 151 = some (.getfield 32, 3, (60, 0, 1, 2, 0)) := s79_9 7
theorem i79_154 : q_ins 79 154 = some (.aload 4, 2, (0, 0, 0, 0, 0)) := s79_9 10
theorem i79_156 : q_ins 79 156 = some (.iconst 1, 1, (0, 0, 0, 0, 0)) := s79_9 12
theorem i79_157 : q_ins 79 157 = some (.invokevirtual 76, 3, (125, 75, 3, 0, 3)) := s79_9 13
theorem i79_160 : q_ins 79 160 = some (.invokestatic 80, 3, (824, 0, 0, 11, 0)) := s79_10 0
theorem i79_163 : q_ins 79 163 = some (.invokestatic 86, 3, (825, 0, 0, 10, 0)) := s79_10 3
theorem i79_166 : q_ins 79 166 = some (.istore 6, 2, (0, 0, 0, 0, 0)) := s79_10 6
theorem i79_168 : q_ins 79 168 = some (.iload_n 2, 1, (0, 0, 0, 0, 0)) := s79_10 8
theorem i79_169 : q_ins 79 169 = some (.ifCond .ne 12, 3, (0, 0, 0, 0, 0)) := s79_10 9
theorem i79_172 : q_ins 79 172 = some (.aload_n 0, 1, (0, 0, 0, 0, 0)) := s79_10 12
theorem i79_173 : q_ins 79 173 = some (.getfield 18, 3, (56, 0, 4, 2, 0)) := s79_10 13
theorem i79_176 : q_ins 79 176 = some (.iload 5, 2, (0, 0, 0, 0, 0)) := s79_11 0
theorem i79_178 : q_ins 79 178 = some (.iload 6, 2, (0, 0, 0, 0, 0)) := s79_11 2
theorem i79_180 : q_ins 79 180 = some (.iastore, 1, (0, 0, 0, 0, 0)) := s79_11 4
theorem i79_181 : q_ins 79 181 = some (.iload 6, 2, (0, 0, 0, 0, 0)) := s79_11 5
theorem i79_183 : q_ins 79 183 = some (.ireturn, 1, (0, 0, 0, 0, 0)) := s79_11 7
theorem s80_0 (j : Nat) : q_ins 80 j = q_at q_c80 j := rfl
theorem s80_1 (j : Nat) : q_ins 80 (j + 16) = q_at q_c80_1 j := s80_0 (j + 16)
theorem i80_0 : q_ins 80 0 = some (.aload_n 0, 1, (0, 0, 0, 0, 0)) := s80_0 0
theorem i80_1 : q_ins 80 1 = some (.iload_n 1, 1, (0, 0, 0, 0, 0)) := s80_0 1
theorem i80_2 : q_ins 80 2 = some (.invokevirtual 74, 3, (107, 62, 2, 0, 2)) := s80_0 2
theorem i80_5 : q_ins 80 5 = some (.ifCond .eq 17, 3, (0, 0, 0, 0, 0)) := s80_0 5
theorem i80_8 : q_ins 80 8 = some (.aload_n 0, 1, (0, 0, 0, 0, 0)) := s80_0 8
theorem i80_9 : q_ins 80 9 = some (.getfield 21, 3, (10, 2, 3, 2, 0)) := s80_0 9
theorem i80_12 : q_ins 80 12 = some (.iload_n 1, 1, (0, 0, 0, 0, 0)) := s80_0 12
theorem i80_13 : q_ins 80 13 = some (.iaload, 1, (0, 0, 0, 0, 0)) := s80_0 13
theorem i80_14 : q_ins 80 14 = some (.iconst (-1), 1, (0, 0, 0, 0, 0)) := s80_0 14
theorem i80_15 : q_ins 80 15 = some (.if_icmp .eq 7, 3, (0, 0, 0, 0, 0)) := s80_0 15
theorem i80_18 : q_ins 80 18 = some (.iconst 1, 1, (0, 0, 0, 0, 0)) := s80_1 2
theorem i80_19 : q_ins 80 19 = some (.goto 4, 3, (0, 0, 0, 0, 0)) := s80_1 3
theorem i80_22 : q_ins 80 22 = some (.iconst 0, 1, (0, 0, 0, 0, 0)) := s80_1 6
theorem i80_23 : q_ins 80 23 = some (.ireturn, 1, (0, 0, 0, 0, 0)) := s80_1 7
theorem s81_0 (j : Nat) : q_ins 81 j = q_at q_c81 j := rfl
theorem s81_1 (j : Nat) : q_ins 81 (j + 16) = q_at q_c81_1 j := s81_0 (j + 16)
theorem s81_2 (j : Nat) : q_ins 81 (j + 32) = q_at q_c81_2 j := s81_1 (j + 16)
theorem s81_3 (j : Nat) : q_ins 81 (j + 48) = q_at q_c81_3 j := s81_2 (j + 16)
theorem s81_4 (j : Nat) : q_ins 81 (j + 64) = q_at q_c81_4 j := s81_3 (j + 16)
theorem s81_5 (j : Nat) : q_ins 81 (j + 80) = q_at q_c81_5 j := s81_4 (j + 16)
theorem s81_6 (j : Nat) : q_ins 81 (j + 96) = q_at q_c81_6 j := s81_5 (j + 16)
theorem s81_7 (j : Nat) : q_ins 81 (j + 112) = q_at q_c81_7 j := s81_6 (j + 16)
theorem s81_8 (j : Nat) : q_ins 81 (j + 128) = q_at q_c81_8 j := s81_7 (j + 16)
theorem s81_9 (j : Nat) : q_ins 81 (j + 144) = q_at q_c81_9 j := s81_8 (j + 16)
theorem i81_0 : q_ins 81 0 = some (.aload_n 0, 1, (0, 0, 0, 0, 0)) := s81_0 0
theorem i81_1 : q_ins 81 1 = some (.getfield 18, 3, (63, 1, 0, 2, 0)) := s81_0 1
theorem i81_4 : q_ins 81 4 = some (.iconst 2, 1, (0, 0, 0, 0, 0)) := s81_0 4
theorem i81_5 : q_ins 81 5 = some (.invokevirtual 104, 3, (130, 73, 2, 0, 2)) := s81_0 5
theorem i81_8 : q_ins 81 8 = some (.astore 4, 2, (0, 0, 0, 0, 0)) := s81_0 8
theorem i81_10 : q_ins 81 10 = some (.aload 4, 2, (0, 0, 0, 0, 0)) := s81_0 10
theorem i81_12 : q_ins 81 12 = some (.ifnonnull 15, 3, (0, 0, 0, 0, 0)) := s81_0 12
theorem i81_15 : q_ins 81 15 = some (.iload_n 3, 1, (0, 0, 0, 0, 0)) := s81_0 15
theorem i81_16 : q_ins 81 16 = some (.ifCond .le 9, 3, (0, 0, 0, 0, 0)) := s81_1 0
theorem i81_19 : q_ins 81 19 = some (.iload_n 2, 1, (0, 0, 0, 0, 0)) := s81_1 3
theorem i81_20 : q_ins 81 20 = some (.iload_n 3, 1, (0, 0, 0, 0, 0)) := s81_1 4
theorem i81_21 : q_ins 81 21 = some (.idiv, 1, (0, 0, 0, 0, 0)) := s81_1 5
theorem i81_22 : q_ins 81 22 = some (.goto 4, 3, (0, 0, 0, 0, 0)) := s81_1 6
theorem i81_25 : q_ins 81 25 = some (.iconst 0, 1, (0, 0, 0, 0, 0)) := s81_1 9
theorem i81_26 : q_ins 81 26 = some (.ireturn, 1, (0, 0, 0, 0, 0)) := s81_1 10
theorem i81_27 : q_ins 81 27 = some (.aload_n 0, 1, (0, 0, 0, 0, 0)) := s81_1 11
theorem i81_28 : q_ins 81 28 = some (.getfield 22, 3, (64, 1, 1, 2, 0)) := s81_1 12
theorem i81_31 : q_ins 81 31 = some (.getfield 108, 3, (127, 3, 0, 2, 0)) := s81_1 15
theorem i81_34 : q_ins 81 34 = some (.iconst 0, 1, (0, 0, 0, 0, 0)) := s81_2 2
theorem i81_35 : q_ins 81 35 = some (.aload_n 0, 1, (0, 0, 0, 0, 0)) := s81_2 3
theorem i81_36 : q_ins 81 36 = some (.getfield 18, 3, (63, 1, 0, 2, 0)) := s81_2 4
theorem i81_39 : q_ins 81 39 = some (.getfield 113, 3, (128, 2, 0, 2, 0)) := s81_2 7
theorem i81_42 : q_ins 81 42 = some (.iload_n 1, 1, (0, 0, 0, 0, 0)) := s81_2 10
theorem i81_43 : q_ins 81 43 = some (.iaload, 1, (0, 0, 0, 0, 0)) := s81_2 11
theorem i81_44 : q_ins 81 44 = some (.iastore, 1, (0, 0, 0, 0, 0)) := s81_2 12
theorem i81_45 : q_ins 81 45 = some (.aload_n 0, 1, (0, 0, 0, 0, 0)) := s81_2 13
theorem i81_46 : q_ins 81 46 = some (.getfield 22, 3, (64, 1, 1, 2, 0)) := s81_2 14
theorem i81_49 : q_ins 81 49 = some (.getfield 108, 3, (127, 3, 0, 2, 0)) := s81_3 1
theorem i81_52 : q_ins 81 52 = some (.iconst 1, 1, (0, 0, 0, 0, 0)) := s81_3 4
theorem i81_53 : q_ins 81 53 = some (.aload_n 0, 1, (0, 0, 0, 0, 0)) := s81_3 5
theorem i81_54 : q_ins 81 54 = some (.getfield 18, 3, (63, 1, 0, 2, 0)) := s81_3 6
theorem i81_57 : q_ins 81 57 = some (.getfield 116, 3, (129, 2, 1, 2, 0)) := s81_3 9
theorem i81_60 : q_ins 81 60 = some (.iload_n 1, 1, (0, 0, 0, 0, 0)) := s81_3 12
theorem i81_61 : q_ins 81 61 = some (.iaload, 1, (0, 0, 0, 0, 0)) := s81_3 13
theorem i81_62 : q_ins 81 62 = some (.iastore, 1, (0, 0, 0, 0, 0)) := s81_3 14
theorem i81_63 : q_ins 81 63 = some (.aload_n 0, 1, (0, 0, 0, 0, 0)) := s81_3 15
theorem i81_64 : q_ins 81 64 = some (.getfield 22, 3, (64, 1, 1, 2, 0)) := s81_4 0
theorem i81_67 : q_ins 81 67 = some (.getfield 108, 3, (127, 3, 0, 2, 0)) := s81_4 3
theorem i81_70 : q_ins 81 70 = some (.iconst 2, 1, (0, 0, 0, 0, 0)) := s81_4 6
theorem i81_71 : q_ins 81 71 = some (.aload_n 0, 1, (0, 0, 0, 0, 0)) := s81_4 7
theorem i81_72 : q_ins 81 72 = some (.getfield 18, 3, (63, 1, 0, 2, 0)) := s81_4 8
theorem i81_75 : q_ins 81 75 = some (.getfield 59, 3, (113, 2, 3, 2, 0)) := s81_4 11
theorem i81_78 : q_ins 81 78 = some (.iload_n 1, 1, (0, 0, 0, 0, 0)) := s81_4 14
theorem i81_79 : q_ins 81 79 = some (.iaload, 1, (0, 0, 0, 0, 0)) := s81_4 15
theorem i81_80 : q_ins 81 80 = some (.iconst 4, 1, (0, 0, 0, 0, 0)) := s81_5 0
theorem i81_81 : q_ins 81 81 = some (.idiv, 1, (0, 0, 0, 0, 0)) := s81_5 1
theorem i81_82 : q_ins 81 82 = some (.iastore, 1, (0, 0, 0, 0, 0)) := s81_5 2
theorem i81_83 : q_ins 81 83 = some (.aload_n 0, 1, (0, 0, 0, 0, 0)) := s81_5 3
theorem i81_84 : q_ins 81 84 = some (.getfield 22, 3, (64, 1, 1, 2, 0)) := s81_5 4
theorem i81_87 : q_ins 81 87 = some (.getfield 108, 3, (127, 3, 0, 2, 0)) := s81_5 7
theorem i81_90 : q_ins 81 90 = some (.bipush 10, 2, (0, 0, 0, 0, 0)) := s81_5 10
theorem i81_92 : q_ins 81 92 = some (.iload_n 2, 1, (0, 0, 0, 0, 0)) := s81_5 12
theorem i81_93 : q_ins 81 93 = some (.iastore, 1, (0, 0, 0, 0, 0)) := s81_5 13
theorem i81_94 : q_ins 81 94 = some (.aload_n 0, 1, (0, 0, 0, 0, 0)) := s81_5 14
theorem i81_95 : q_ins 81 95 = some (.getfield 22, 3, (64, 1, 1, 2, 0)) := s81_5 15
theorem i81_98 : q_ins 81 98 = some (.getfield 108, 3, (127, 3, 0, 2, 0)) := s81_6 2
theorem i81_101 : q_ins 81 101 = some (.bipush 11, 2, (0, 0, 0, 0, 0)) := s81_6 5
theorem i81_103 : q_ins 81 103 = some (.iload_n 3, 1, (0, 0, 0, 0, 0)) := s81_6 7
theorem i81_104 : q_ins 81 104 = some (.iastore, 1, (0, 0, 0, 0, 0)) := s81_6 8
theorem i81_105 : q_ins 81 105 = some (.aload_n 0, 1, (0, 0, 0, 0, 0)) := s81_6 9
theorem i81_106 : q_ins 81 106 = some (.getfield 22, 3, (64, 1, 1, 2, 0)) := s81_6 10
theorem i81_109 : q_ins 81 109 = some (.getfield 108, 3, (127, 3, 0, 2, 0)) := s81_6 13
theorem i81_112 : q_ins 81 112 = some (.bipush 12, 2, (0, 0, 0, 0, 0)) := s81_7 0
theorem i81_114 : q_ins 81 114 = some (.aload_n 0, 1, (0, 0, 0, 0, 0)) := s81_7 2
theorem i81_115 : q_ins 81 115 = some (.getfield 9, 3, (61, 1, 3, 2, 0)) := s81_7 3
theorem i81_118 : q_ins 81 118 = some (.iload_n 1, 1, (0, 0, 0, 0, 0)) := s81_7 6
theorem i81_119 : q_ins 81 119 = some (.iaload, 1, (0, 0, 0, 0, 0)) := s81_7 7
theorem i81_120 : q_ins 81 120 = some (.iastore, 1, (0, 0, 0, 0, 0)) := s81_7 8
theorem i81_121 : q_ins 81 121 = some (.aload_n 0, 1, (0, 0, 0, 0, 0)) := s81_7 9
theorem i81_122 : q_ins 81 122 = some (.getfield 22, 3, (64, 1, 1, 2, 0)) := s81_7 10
theorem i81_125 : q_ins 81 125 = some (.getfield 108, 3, (127, 3, 0, 2, 0)) := s81_7 13
theorem i81_128 : q_ins 81 128 = some (.bipush 13, 2, (0, 0, 0, 0, 0)) := s81_8 0
theorem i81_130 : q_ins 81 130 = some (.aload_n 0, 1, (0, 0, 0, 0, 0)) := s81_8 2
theorem i81_131 : q_ins 81 131 = some (.getfield 15, 3, (62, 1, 4, 2, 0)) := s81_8 3
theorem i81_134 : q_ins 81 134 = some (.iload_n 1, 1, (0, 0, 0, 0, 0)) := s81_8 6
theorem i81_135 : q_ins 81 135 = some (.iaload, 1, (0, 0, 0, 0, 0)) := s81_8 7
theorem i81_136 : q_ins 81 136 = some (.iastore, 1, (0, 0, 0, 0, 0)) := s81_8 8
theorem i81_137 : q_ins 81 137 = some (.iconst 0, 1, (0, 0, 0, 0, 0)) := s81_8 9
theorem i81_138 : q_ins 81 138 = some (.sipush 999, 3, (0, 0, 0, 0, 0)) := s81_8 10
theorem i81_141 : q_ins 81 141 = some (.aload_n 0, 1, (0, 0, 0, 0, 0)) := s81_8 13
theorem i81_142 : q_ins 81 142 = some (.getfield 22, 3, (64, 1, 1, 2, 0)) := s81_8 14
theorem i81_145 : q_ins 81 145 = some (.aload 4, 2, (0, 0, 0, 0, 0)) := s81_9 1
theorem i81_147 : q_ins 81 147 = some (.iconst 2, 1, (0, 0, 0, 0, 0)) := s81_9 3
theorem i81_148 : q_ins 81 148 = some (.invokevirtual 119, 3, (131, 75, 3, 0, 3)) := s81_9 4
theorem i81_151 : q_ins 81 151 = some (.invokestatic 123, 3, (839, 0, 0, 11, 0)) := s81_9 7
theorem i81_154 : q_ins 81 154 = some (.invokestatic 128, 3, (840, 0, 0, 10, 0)) := s81_9 10
theorem i81_157 : q_ins 81 157 = some (.ireturn, 1, (0, 0, 0, 0, 0)) := s81_9 13
theorem s82_0 (j : Nat) : q_ins 82 j = q_at q_c82 j := rfl
theorem s82_1 (j : Nat) : q_ins 82 (j + 16) = q_at q_c82_1 j := s82_0 (j + 16)
theorem s82_2 (j : Nat) : q_ins 82 (j + 32) = q_at q_c82_2 j := s82_1 (j + 16)
theorem s82_3 (j : Nat) : q_ins 82 (j + 48) = q_at q_c82_3 j := s82_2 (j + 16)
theorem s82_4 (j : Nat) : q_ins 82 (j + 64) = q_at q_c82_4 j := s82_3 (j + 16)
theorem i82_0 : q_ins 82 0 = some (.iload_n 1, 1, (0, 0, 0, 0, 0)) := s82_0 0
theorem i82_1 : q_ins 82 1 = some (.iconst 3, 1, (0, 0, 0, 0, 0)) := s82_0 1
theorem i82_2 : q_ins 82 2 = some (.invokestatic 60, 3, (64, 12, 2, 2, 0)) := s82_0 2
theorem i82_5 : q_ins 82 5 = some (.ifCond .ne 6, 3, (0, 0, 0, 0, 0)) := s82_0 5
theorem i82_8 : q_ins 82 8 = some (.bipush (-2), 2, (0, 0, 0, 0, 0)) := s82_0 8
theorem i82_10 : q_ins 82 10 = some (.ireturn, 1, (0, 0, 0, 0, 0)) := s82_0 10
theorem i82_11 : q_ins 82 11 = some (.aload_n 0, 1, (0, 0, 0, 0, 0)) := s82_0 11
theorem i82_12 : q_ins 82 12 = some (.getfield 10, 3, (0, 9, 0, 2, 0)) := s82_0 12
theorem i82_15 : q_ins 82 15 = some (.getfield 129, 3, (130, 2, 8, 2, 0)) := s82_0 15
theorem i82_18 : q_ins 82 18 = some (.iload_n 1, 1, (0, 0, 0, 0, 0)) := s82_1 2
theorem i82_19 : q_ins 82 19 = some (.aaload, 1, (0, 0, 0, 0, 0)) := s82_1 3
theorem i82_20 : q_ins 82 20 = some (.astore_n 2, 1, (0, 0, 0, 0, 0)) := s82_1 4
theorem i82_21 : q_ins 82 21 = some (.iload_n 1, 1, (0, 0, 0, 0, 0)) := s82_1 5
theorem i82_22 : q_ins 82 22 = some (.aload_n 0, 1, (0, 0, 0, 0, 0)) := s82_1 6
theorem i82_23 : q_ins 82 23 = some (.getfield 10, 3, (0, 9, 0, 2, 0)) := s82_1 7
theorem i82_26 : q_ins 82 26 = some (.getfield 92, 3, (82, 2, 14, 0, 0)) := s82_1 10
theorem i82_29 : q_ins 82 29 = some (.if_icmp .ge 7, 3, (0, 0, 0, 0, 0)) := s82_1 13
theorem i82_32 : q_ins 82 32 = some (.aload_n 2, 1, (0, 0, 0, 0, 0)) := s82_2 0
theorem i82_33 : q_ins 82 33 = some (.ifnonnull 6, 3, (0, 0, 0, 0, 0)) := s82_2 1
theorem i82_36 : q_ins 82 36 = some (.bipush (-2), 2, (0, 0, 0, 0, 0)) := s82_2 4
theorem i82_38 : q_ins 82 38 = some (.ireturn, 1, (0, 0, 0, 0, 0)) := s82_2 6
theorem i82_39 : q_ins 82 39 = some (.aload_n 0, 1, (0, 0, 0, 0, 0)) := s82_2 7
theorem i82_40 : q_ins 82 40 = some (.getfield 56, 3, (6, 9, 6, 2, 0)) := s82_2 8
theorem i82_43 : q_ins 82 43 = some (.invokevirtual 68, 3, (66, 15, 1, 0, 5)) := s82_2 11
theorem i82_46 : q_ins 82 46 = some (.iconst 0, 1, (0, 0, 0, 0, 0)) := s82_2 14
theorem i82_47 : q_ins 82 47 = some (.istore_n 3, 1, (0, 0, 0, 0, 0)) := s82_2 15
theorem i82_48 : q_ins 82 48 = some (.iload_n 3, 1, (0, 0, 0, 0, 0)) := s82_3 0
theorem i82_49 : q_ins 82 49 = some (.aload_n 2, 1, (0, 0, 0, 0, 0)) := s82_3 1
theorem i82_50 : q_ins 82 50 = some (.getfield 133, 3, (131, 6, 3, 2, 0)) := s82_3 2
theorem i82_53 : q_ins 82 53 = some (.arraylength, 1, (0, 0, 0, 0, 0)) := s82_3 5
theorem i82_54 : q_ins 82 54 = some (.if_icmp .ge 20, 3, (0, 0, 0, 0, 0)) := s82_3 6
theorem i82_57 : q_ins 82 57 = some (.aload_n 0, 1, (0, 0, 0, 0, 0)) := s82_3 9
theorem i82_58 : q_ins 82 58 = some (.aload_n 2, 1, (0, 0, 0, 0, 0)) := s82_3 10
theorem i82_59 : q_ins 82 59 = some (.iload_n 3, 1, (0, 0, 0, 0, 0)) := s82_3 11
theorem i82_60 : q_ins 82 60 = some (.invokevirtual 137, 3, (132, 83, 3, 0, 9)) := s82_3 12
theorem i82_63 : q_ins 82 63 = some (.ifCond .ne 5, 3, (0, 0, 0, 0, 0)) := s82_3 15
theorem i82_66 : q_ins 82 66 = some (.iload_n 3, 1, (0, 0, 0, 0, 0)) := s82_4 2
theorem i82_67 : q_ins 82 67 = some (.ireturn, 1, (0, 0, 0, 0, 0)) := s82_4 3
theorem i82_68 : q_ins 82 68 = some (.iinc 3 1, 3, (0, 0, 0, 0, 0)) := s82_4 4
theorem i82_71 : q_ins 82 71 = some (.goto (-23), 3, (0, 0, 0, 0, 0)) := s82_4 7
theorem i82_74 : q_ins 82 74 = some (.iconst (-1), 1, (0, 0, 0, 0, 0)) := s82_4 10
theorem i82_75 : q_ins 82 75 = some (.ireturn, 1, (0, 0, 0, 0, 0)) := s82_4 11
theorem s83_0 (j : Nat) : q_ins 83 j = q_at q_c83 j := rfl
theorem s83_1 (j : Nat) : q_ins 83 (j + 16) = q_at q_c83_1 j := s83_0 (j + 16)
theorem s83_2 (j : Nat) : q_ins 83 (j + 32) = q_at q_c83_2 j := s83_1 (j + 16)
theorem s83_3 (j : Nat) : q_ins 83 (j + 48) = q_at q_c83_3 j := s83_2 (j + 16)
theorem s83_4 (j : Nat) : q_ins 83 (j + 64) = q_at q_c83_4 j := s83_3 (j + 16)
theorem s83_5 (j : Nat) : q_ins 83 (j + 80) = q_at q_c83_5 j := s83_4 (j + 16)
theorem s83_6 (j : Nat) : q_ins 83 (j + 96) = q_at q_c83_6 j := s83_5 (j + 16)
theorem i83_0 : q_ins 83 0 = some (.aload_n 1, 1, (0, 0, 0, 0, 0)) := s83_0 0
theorem i83_1 : q_ins 83 1 = some (.getfield 255, 3, (132, 6, 4, 2, 0)) := s83_0 1
theorem i83_4 : q_ins 83 4 = some (.iload_n 2, 1, (0, 0, 0, 0, 0)) := s83_0 4
theorem i83_5 : q_ins 83 5 = some (.iaload, 1, (0, 0, 0, 0, 0)) := s83_0 5
theorem i83_6 : q_ins 83 6 = some (.istore_n 3, 1, (0, 0, 0, 0, 0)) := s83_0 6
theorem i83_7 : q_ins 83 7 = some (.aload_n 1, 1, (0, 0, 0, 0, 0)) := s83_0 7
theorem i83_8 : q_ins 83 8 = some (.getfield 133, 3, (131, 6, 3, 2, 0)) := s83_0 8
theorem i83_11 : q_ins 83 11 = some (.iload_n 2, 1, (0, 0, 0, 0, 0)) := s83_0 11
theorem i83_12 : q_ins 83 12 = some (.iaload, 1, (0, 0, 0, 0, 0)) := s83_0 12
theorem i83_13 : q_ins 83 13 = some (.tableswitch 83 17 20 #[31, 46, 56, 66], 31, (0, 0, 0, 0, 0)) := s83_0 13
theorem i83_44 : q_ins 83 44 = some (.aload_n 0, 1, (0, 0, 0, 0, 0)) := s83_2 12
theorem i83_45 : q_ins 83 45 = some (.getfield 10, 3, (0, 9, 0, 2, 0)) := s83_2 13
theorem i83_48 : q_ins 83 48 = some (.iload_n 3, 1, (0, 0, 0, 0, 0)) := s83_3 0
theorem i83_49 : q_ins 83 49 = some (.aload_n 1, 1, (0, 0, 0, 0, 0)) := s83_3 1
theorem i83_50 : q_ins 83 50 = some (.getfield 258, 3, (133, 6, 5, 2, 0)) := s83_3 2
theorem i83_53 : q_ins 83 53 = some (.iload_n 2, 1, (0, 0, 0, 0, 0)) := s83_3 5
theorem i83_54 : q_ins 83 54 = some (.iaload, 1, (0, 0, 0, 0, 0)) := s83_3 6
theorem i83_55 : q_ins 83 55 = some (.invokevirtual 118, 3, (106, 61, 3, 0, 2)) := s83_3 7
theorem i83_58 : q_ins 83 58 = some (.ireturn, 1, (0, 0, 0, 0, 0)) := s83_3 10
theorem i83_59 : q_ins 83 59 = some (.aload_n 0, 1, (0, 0, 0, 0, 0)) := s83_3 11
theorem i83_60 : q_ins 83 60 = some (.getfield 10, 3, (0, 9, 0, 2, 0)) := s83_3 12
theorem i83_63 : q_ins 83 63 = some (.iload_n 3, 1, (0, 0, 0, 0, 0)) := s83_3 15
theorem i83_64 : q_ins 83 64 = some (.iconst (-1), 1, (0, 0, 0, 0, 0)) := s83_4 0
theorem i83_65 : q_ins 83 65 = some (.invokevirtual 118, 3, (106, 61, 3, 0, 2)) := s83_4 1
theorem i83_68 : q_ins 83 68 = some (.ireturn, 1, (0, 0, 0, 0, 0)) := s83_4 4
theorem i83_69 : q_ins 83 69 = some (.aload_n 0, 1, (0, 0, 0, 0, 0)) := s83_4 5
theorem i83_70 : q_ins 83 70 = some (.getfield 10, 3, (0, 9, 0, 2, 0)) := s83_4 6
theorem i83_73 : q_ins 83 73 = some (.iload_n 3, 1, (0, 0, 0, 0, 0)) := s83_4 9
theorem i83_74 : q_ins 83 74 = some (.iconst 1, 1, (0, 0, 0, 0, 0)) := s83_4 10
theorem i83_75 : q_ins 83 75 = some (.invokevirtual 121, 3, (110, 66, 3, 0, 2)) := s83_4 11
theorem i83_78 : q_ins 83 78 = some (.ireturn, 1, (0, 0, 0, 0, 0)) := s83_4 14
theorem i83_79 : q_ins 83 79 = some (.aload_n 0, 1, (0, 0, 0, 0, 0)) := s83_4 15
theorem i83_80 : q_ins 83 80 = some (.getfield 47, 3, (5, 9, 5, 2, 0)) := s83_5 0
theorem i83_83 : q_ins 83 83 = some (.invokevirtual 125, 3, (111, 68, 1, 0, 1)) := s83_5 3
theorem i83_86 : q_ins 83 86 = some (.iconst (-1), 1, (0, 0, 0, 0, 0)) := s83_5 6
theorem i83_87 : q_ins 83 87 = some (.if_icmp .eq 7, 3, (0, 0, 0, 0, 0)) := s83_5 7
theorem i83_90 : q_ins 83 90 = some (.iconst 1, 1, (0, 0, 0, 0, 0)) := s83_5 10
theorem i83_91 : q_ins 83 91 = some (.goto 4, 3, (0, 0, 0, 0, 0)) := s83_5 11
theorem i83_94 : q_ins 83 94 = some (.iconst 0, 1, (0, 0, 0, 0, 0)) := s83_5 14
theorem i83_95 : q_ins 83 95 = some (.ireturn, 1, (0, 0, 0, 0, 0)) := s83_5 15
theorem i83_96 : q_ins 83 96 = some (.iconst 1, 1, (0, 0, 0, 0, 0)) := s83_6 0
theorem i83_97 : q_ins 83 97 = some (.ireturn, 1, (0, 0, 0, 0, 0)) := s83_6 1
theorem s84_0 (j : Nat) : q_ins 84 j = q_at q_c84 j := rfl
theorem s84_1 (j : Nat) : q_ins 84 (j + 16) = q_at q_c84_1 j := s84_0 (j + 16)
theorem s84_2 (j : Nat) : q_ins 84 (j + 32) = q_at q_c84_2 j := s84_1 (j + 16)
theorem i84_0 : q_ins 84 0 = some (.aload_n 0, 1, (0, 0, 0, 0, 0)) := s84_0 0
theorem i84_1 : q_ins 84 1 = some (.getfield 10, 3, (0, 9, 0, 2, 0)) := s84_0 1
theorem i84_4 : q_ins 84 4 = some (.getfield 141, 3, (134, 2, 9, 2, 0)) := s84_0 4
theorem i84_7 : q_ins 84 7 = some (.aload_n 0, 1, (0, 0, 0, 0, 0)) := s84_0 7
theorem i84_8 : q_ins 84 8 = some (.getfield 10, 3, (0, 9, 0, 2, 0)) := s84_0 8
theorem i84_11 : q_ins 84 11 = some (.invokevirtual 145, 3, (133, 85, 2, 0, 7)) := s84_0 11
theorem i84_14 : q_ins 84 14 = some (.ifCond .ne 5, 3, (0, 0, 0, 0, 0)) := s84_0 14
theorem i84_17 : q_ins 84 17 = some (.iconst (-1), 1, (0, 0, 0, 0, 0)) := s84_1 1
theorem i84_18 : q_ins 84 18 = some (.ireturn, 1, (0, 0, 0, 0, 0)) := s84_1 2
theorem i84_19 : q_ins 84 19 = some (.aload_n 0, 1, (0, 0, 0, 0, 0)) := s84_1 3
theorem i84_20 : q_ins 84 20 = some (.getfield 56, 3, (6, 9, 6, 2, 0)) := s84_1 4
theorem i84_23 : q_ins 84 23 = some (.invokevirtual 68, 3, (66, 15, 1, 0, 5)) := s84_1 7
theorem i84_26 : q_ins 84 26 = some (.aload_n 0, 1, (0, 0, 0, 0, 0)) := s84_1 10
theorem i84_27 : q_ins 84 27 = some (.getfield 10, 3, (0, 9, 0, 2, 0)) := s84_1 11
theorem i84_30 : q_ins 84 30 = some (.getfield 141, 3, (134, 2, 9, 2, 0)) := s84_1 14
theorem i84_33 : q_ins 84 33 = some (.getfield 151, 3, (135, 7, 6, 0, 0)) := s84_2 1
theorem i84_36 : q_ins 84 36 = some (.ireturn, 1, (0, 0, 0, 0, 0)) := s84_2 4
theorem s85_0 (j : Nat) : q_ins 85 j = q_at q_c85 j := rfl
theorem s85_1 (j : Nat) : q_ins 85 (j + 16) = q_at q_c85_1 j := s85_0 (j + 16)
theorem s85_2 (j : Nat) : q_ins 85 (j + 32) = q_at q_c85_2 j := s85_1 (j + 16)
theorem s85_3 (j : Nat) : q_ins 85 (j + 48) = q_at q_c85_3 j := s85_2 (j + 16)
theorem s85_4 (j : Nat) : q_ins 85 (j + 64) = q_at q_c85_4 j := s85_3 (j + 16)
theorem s85_5 (j : Nat) : q_ins 85 (j + 80) = q_at q_c85_5 j := s85_4 (j + 16)
theorem s85_6 (j : Nat) : q_ins 85 (j + 96) = q_at q_c85_6 j := s85_5 (j + 16)
theorem i85_0 : q_ins 85 0 = some (.aload_n 0, 1, (0, 0, 0, 0, 0)) := s85_0 0
theorem i85_1 : q_ins 85 1 = some (.getfield 31, 3, (31, 7, 6, 0, 0)) := s85_0 1
theorem i85_4 : q_ins 85 4 = some (.ifCond .gt 5, 3, (0, 0, 0, 0, 0)) := s85_0 4
theorem i85_7 : q_ins 85 7 = some (.iconst 0, 1, (0, 0, 0, 0, 0)) := s85_0 7
theorem i85_8 : q_ins 85 8 = some (.ireturn, 1, (0, 0, 0, 0, 0)) := s85_0 8
theorem i85_9 : q_ins 85 9 = some (.aload_n 0, 1, (0, 0, 0, 0, 0)) := s85_0 9
theorem i85_10 : q_ins 85 10 = some (.dup, 1, (0, 0, 0, 0, 0)) := s85_0 10
theorem i85_11 : q_ins 85 11 = some (.getfield 31, 3, (31, 7, 6, 0, 0)) := s85_0 11
theorem i85_14 : q_ins 85 14 = some (.iconst 1, 1, (0, 0, 0, 0, 0)) := s85_0 14
theorem i85_15 : q_ins 85 15 = some (.isub, 1, (0, 0, 0, 0, 0)) := s85_0 15
theorem i85_16 : q_ins 85 16 = some (.putfield 31, 3, (31, 7, 6, 0, 0)) := s85_1 0
theorem i85_19 : q_ins 85 19 = some (.aload_n 0, 1, (0, 0, 0, 0, 0)) := s85_1 3
theorem i85_20 : q_ins 85 20 = some (.getfield 27, 3, (30, 7, 5, 0, 0)) := s85_1 4
theorem i85_23 : q_ins 85 23 = some (.aload_n 0, 1, (0, 0, 0, 0, 0)) := s85_1 7
theorem i85_24 : q_ins 85 24 = some (.getfield 31, 3, (31, 7, 6, 0, 0)) := s85_1 8
theorem i85_27 : q_ins 85 27 = some (.iadd, 1, (0, 0, 0, 0, 0)) := s85_1 11
theorem i85_28 : q_ins 85 28 = some (.bipush 30, 2, (0, 0, 0, 0, 0)) := s85_1 12
theorem i85_30 : q_ins 85 30 = some (.irem, 1, (0, 0, 0, 0, 0)) := s85_1 14
theorem i85_31 : q_ins 85 31 = some (.istore_n 2, 1, (0, 0, 0, 0, 0)) := s85_1 15
theorem i85_32 : q_ins 85 32 = some (.aload_n 0, 1, (0, 0, 0, 0, 0)) := s85_2 0
theorem i85_33 : q_ins 85 33 = some (.getfield 9, 3, (25, 7, 0, 2, 0)) := s85_2 1
theorem i85_36 : q_ins 85 36 = some (.iload_n 2, 1, (0, 0, 0, 0, 0)) := s85_2 4
theorem i85_37 : q_ins 85 37 = some (.bipush 6, 2, (0, 0, 0, 0, 0)) := s85_2 5
theorem i85_39 : q_ins 85 39 = some (.imul, 1, (0, 0, 0, 0, 0)) := s85_2 7
theorem i85_40 : q_ins 85 40 = some (.aload_n 1, 1, (0, 0, 0, 0, 0)) := s85_2 8
theorem i85_41 : q_ins 85 41 = some (.getfield 34, 3, (105, 2, 3, 2, 0)) := s85_2 9
theorem i85_44 : q_ins 85 44 = some (.iconst 0, 1, (0, 0, 0, 0, 0)) := s85_2 12
theorem i85_45 : q_ins 85 45 = some (.bipush 6, 2, (0, 0, 0, 0, 0)) := s85_2 13
theorem i85_47 : q_ins 85 47 = some (.invokestatic 37, 3, (751, 0, 0, 8, 0)) := s85_2 15
theorem i85_50 : q_ins 85 50 = some (.aload_n 0, 1, (0, 0, 0, 0, 0)) := s85_3 2
theorem i85_51 : q_ins 85 51 = some (.getfield 15, 3, (26, 7, 1, 2, 0)) := s85_3 3
theorem i85_54 : q_ins 85 54 = some (.iload_n 2, 1, (0, 0, 0, 0, 0)) := s85_3 6
theorem i85_55 : q_ins 85 55 = some (.bipush 6, 2, (0, 0, 0, 0, 0)) := s85_3 7
theorem i85_57 : q_ins 85 57 = some (.imul, 1, (0, 0, 0, 0, 0)) := s85_3 9
theorem i85_58 : q_ins 85 58 = some (.aload_n 1, 1, (0, 0, 0, 0, 0)) := s85_3 10
theorem i85_59 : q_ins 85 59 = some (.getfield 43, 3, (106, 2, 4, 2, 0)) := s85_3 11
theorem i85_62 : q_ins 85 62 = some (.iconst 0, 1, (0, 0, 0, 0, 0)) := s85_3 14
theorem i85_63 : q_ins 85 63 = some (.bipush 6, 2, (0, 0, 0, 0, 0)) := s85_3 15
theorem i85_65 : q_ins 85 65 = some (.invokestatic 37, 3, (751, 0, 0, 8, 0)) := s85_4 1
theorem i85_68 : q_ins 85 68 = some (.aload_n 1, 1, (0, 0, 0, 0, 0)) := s85_4 4
theorem i85_69 : q_ins 85 69 = some (.aload_n 0, 1, (0, 0, 0, 0, 0)) := s85_4 5
theorem i85_70 : q_ins 85 70 = some (.getfield 18, 3, (27, 7, 2, 2, 0)) := s85_4 6
theorem i85_73 : q_ins 85 73 = some (.iload_n 2, 1, (0, 0, 0, 0, 0)) := s85_4 9
theorem i85_74 : q_ins 85 74 = some (.iaload, 1, (0, 0, 0, 0, 0)) := s85_4 10
theorem i85_75 : q_ins 85 75 = some (.putfield 44, 3, (107, 2, 11, 0, 0)) := s85_4 11
theorem i85_78 : q_ins 85 78 = some (.aload_n 1, 1, (0, 0, 0, 0, 0)) := s85_4 14
theorem i85_79 : q_ins 85 79 = some (.aload_n 0, 1, (0, 0, 0, 0, 0)) := s85_4 15
theorem i85_80 : q_ins 85 80 = some (.getfield 21, 3, (28, 7, 3, 2, 0)) := s85_5 0
theorem i85_83 : q_ins 85 83 = some (.iload_n 2, 1, (0, 0, 0, 0, 0)) := s85_5 3
theorem i85_84 : q_ins 85 84 = some (.iaload, 1, (0, 0, 0, 0, 0)) := s85_5 4
theorem i85_85 : q_ins 85 85 = some (.putfield 46, 3, (108, 2, 16, 0, 0)) := s85_5 5
theorem i85_88 : q_ins 85 88 = some (.aload_n 1, 1, (0, 0, 0, 0, 0)) := s85_5 8
theorem i85_89 : q_ins 85 89 = some (.aload_n 0, 1, (0, 0, 0, 0, 0)) := s85_5 9
theorem i85_90 : q_ins 85 90 = some (.getfield 24, 3, (29, 7, 4, 2, 0)) := s85_5 10
theorem i85_93 : q_ins 85 93 = some (.iload_n 2, 1, (0, 0, 0, 0, 0)) := s85_5 13
theorem i85_94 : q_ins 85 94 = some (.iaload, 1, (0, 0, 0, 0, 0)) := s85_5 14
theorem i85_95 : q_ins 85 95 = some (.putfield 48, 3, (109, 2, 17, 0, 0)) := s85_5 15
theorem i85_98 : q_ins 85 98 = some (.iconst 1, 1, (0, 0, 0, 0, 0)) := s85_6 2
theorem i85_99 : q_ins 85 99 = some (.ireturn, 1, (0, 0, 0, 0, 0)) := s85_6 3
theorem s86_0 (j : Nat) : q_ins 86 j = q_at q_c86 j := rfl
theorem s86_1 (j : Nat) : q_ins 86 (j + 16) = q_at q_c86_1 j := s86_0 (j + 16)
theorem s86_2 (j : Nat) : q_ins 86 (j + 32) = q_at q_c86_2 j := s86_1 (j + 16)
theorem s86_3 (j : Nat) : q_ins 86 (j + 48) = q_at q_c86_3 j := s86_2 (j + 16)
theorem s86_4 (j : Nat) : q_ins 86 (j + 64) = q_at q_c86_4 j := s86_3 (j + 16)
theorem s86_5 (j : Nat) : q_ins 86 (j + 80) = q_at q_c86_5 j := s86_4 (j + 16)
theorem s86_6 (j : Nat) : q_ins 86 (j + 96) = q_at q_c86_6 j := s86_5 (j + 16)
theorem s86_7 (j : Nat) : q_ins 86 (j + 112) = q_at q_c86_7 j := s86_6 (j + 16)
theorem i86_0 : q_ins 86 0 = some (.aload_n 0, 1, (0, 0, 0, 0, 0)) := s86_0 0
theorem i86_1 : q_ins 86 1 = some (.getfield 10, 3, (0, 9, 0, 2, 0)) := s86_0 1
theorem i86_4 : q_ins 86 4 = some (.iload_n 1, 1, (0, 0, 0, 0, 0)) := s86_0 4
theorem i86_5 : q_ins 86 5 = some (.invokevirtual 154, 3, (134, 62, 2, 0, 2)) := s86_0 5
theorem i86_8 : q_ins 86 8 = some (.ifCond .ne 6, 3, (0, 0, 0, 0, 0)) := s86_0 8
theorem i86_11 : q_ins 86 11 = some (.bipush (-2), 2, (0, 0, 0, 0, 0)) := s86_0 11
theorem i86_13 : q_ins 86 13 = some (.ireturn, 1, (0, 0, 0, 0, 0)) := s86_0 13
theorem i86_14 : q_ins 86 14 = some (.iload_n 2, 1, (0, 0, 0, 0, 0)) := s86_0 14
theorem i86_15 : q_ins 86 15 = some (.tableswitch 99 0 5 #[37, 47, 59, 69, 79, 89], 37, (0, 0, 0, 0, 0)) := s86_0 15
theorem i86_52 : q_ins 86 52 = some (.aload_n 0, 1, (0, 0, 0, 0, 0)) := s86_3 4
theorem i86_53 : q_ins 86 53 = some (.getfield 10, 3, (0, 9, 0, 2, 0)) := s86_3 5
theorem i86_56 : q_ins 86 56 = some (.getfield 158, 3, (136, 2, 3, 2, 0)) := s86_3 8
theorem i86_59 : q_ins 86 59 = some (.iload_n 1, 1, (0, 0, 0, 0, 0)) := s86_3 11
theorem i86_60 : q_ins 86 60 = some (.iaload, 1, (0, 0, 0, 0, 0)) := s86_3 12
theorem i86_61 : q_ins 86 61 = some (.ireturn, 1, (0, 0, 0, 0, 0)) := s86_3 13
theorem i86_62 : q_ins 86 62 = some (.aload_n 0, 1, (0, 0, 0, 0, 0)) := s86_3 14
theorem i86_63 : q_ins 86 63 = some (.getfield 10, 3, (0, 9, 0, 2, 0)) := s86_3 15
theorem i86_66 : q_ins 86 66 = some (.getfield 161, 3, (137, 2, 11, 0, 0)) := s86_4 2
theorem i86_69 : q_ins 86 69 = some (.iload_n 1, 1, (0, 0, 0, 0, 0)) := s86_4 5
theorem i86_70 : q_ins 86 70 = some (.ishr, 1, (0, 0, 0, 0, 0)) := s86_4 6
theorem i86_71 : q_ins 86 71 = some (.iconst 1, 1, (0, 0, 0, 0, 0)) := s86_4 7
theorem i86_72 : q_ins 86 72 = some (.iand, 1, (0, 0, 0, 0, 0)) := s86_4 8
theorem i86_73 : q_ins 86 73 = some (.ireturn, 1, (0, 0, 0, 0, 0)) := s86_4 9
theorem i86_74 : q_ins 86 74 = some (.aload_n 0, 1, (0, 0, 0, 0, 0)) := s86_4 10
theorem i86_75 : q_ins 86 75 = some (.getfield 10, 3, (0, 9, 0, 2, 0)) := s86_4 11
theorem i86_78 : q_ins 86 78 = some (.getfield 164, 3, (138, 2, 4, 2, 0)) := s86_4 14
theorem i86_81 : q_ins 86 81 = some (.iload_n 1, 1, (0, 0, 0, 0, 0)) := s86_5 1
theorem i86_82 : q_ins 86 82 = some (.iaload, 1, (0, 0, 0, 0, 0)) := s86_5 2
theorem i86_83 : q_ins 86 83 = some (.ireturn, 1, (0, 0, 0, 0, 0)) := s86_5 3
theorem i86_84 : q_ins 86 84 = some (.aload_n 0, 1, (0, 0, 0, 0, 0)) := s86_5 4
theorem i86_85 : q_ins 86 85 = some (.getfield 10, 3, (0, 9, 0, 2, 0)) := s86_5 5
theorem i86_88 : q_ins 86 88 = some (.getfield 167, 3, (139, 2, 0, 2, 0)) := s86_5 8
theorem i86_91 : q_ins 86 91 = some (.iload_n 1, 1, (0, 0, 0, 0, 0)) := s86_5 11
theorem i86_92 : q_ins 86 92 = some (.iaload, 1, (0, 0, 0, 0, 0)) := s86_5 12
theorem i86_93 : q_ins 86 93 = some (.ireturn, 1, (0, 0, 0, 0, 0)) := s86_5 13
theorem i86_94 : q_ins 86 94 = some (.aload_n 0, 1, (0, 0, 0, 0, 0)) := s86_5 14
theorem i86_95 : q_ins 86 95 = some (.getfield 10, 3, (0, 9, 0, 2, 0)) := s86_5 15
theorem i86_98 : q_ins 86 98 = some (.getfield 170, 3, (140, 2, 1, 2, 0)) := s86_6 2
theorem i86_101 : q_ins 86 101 = some (.iload_n 1, 1, (0, 0, 0, 0, 0)) := s86_6 5
theorem i86_102 : q_ins 86 102 = some (.iaload, 1, (0, 0, 0, 0, 0)) := s86_6 6
theorem i86_103 : q_ins 86 103 = some (.ireturn, 1, (0, 0, 0, 0, 0)) := s86_6 7
theorem i86_104 : q_ins 86 104 = some (.aload_n 0, 1, (0, 0, 0, 0, 0)) := s86_6 8
theorem i86_105 : q_ins 86 105 = some (.getfield 10, 3, (0, 9, 0, 2, 0)) := s86_6 9
theorem i86_108 : q_ins 86 108 = some (.getfield 173, 3, (141, 2, 2, 2, 0)) := s86_6 12
theorem i86_111 : q_ins 86 111 = some (.iload_n 1, 1, (0, 0, 0, 0, 0)) := s86_6 15
theorem i86_112 : q_ins 86 112 = some (.iaload, 1, (0, 0, 0, 0, 0)) := s86_7 0
theorem i86_113 : q_ins 86 113 = some (.ireturn, 1, (0, 0, 0, 0, 0)) := s86_7 1
theorem i86_114 : q_ins 86 114 = some (.bipush (-2), 2, (0, 0, 0, 0, 0)) := s86_7 2
theorem i86_116 : q_ins 86 116 = some (.ireturn, 1, (0, 0, 0, 0, 0)) := s86_7 4
theorem s87_0 (j : Nat) : q_ins 87 j = q_at q_c87 j := rfl
theorem s87_1 (j : Nat) : q_ins 87 (j + 16) = q_at q_c87_1 j := s87_0 (j + 16)
theorem s87_2 (j : Nat) : q_ins 87 (j + 32) = q_at q_c87_2 j := s87_1 (j + 16)
theorem s87_3 (j : Nat) : q_ins 87 (j + 48) = q_at q_c87_3 j := s87_2 (j + 16)
theorem s87_4 (j : Nat) : q_ins 87 (j + 64) = q_at q_c87_4 j := s87_3 (j + 16)
theorem s87_5 (j : Nat) : q_ins 87 (j + 80) = q_at q_c87_5 j := s87_4 (j + 16)
theorem s87_6 (j : Nat) : q_ins 87 (j + 96) = q_at q_c87_6 j := s87_5 (j + 16)
theorem s87_7 (j : Nat) : q_ins 87 (j + 112) = q_at q_c87_7 j := s87_6 (j + 16)
theorem s87_8 (j : Nat) : q_ins 87 (j + 128) = q_at q_c87_8 j := s87_7 (j + 16)
theorem i87_0 : q_ins 87 0 = some (.iload_n 1, 1, (0, 0, 0, 0, 0)) := s87_0 0
theorem i87_1 : q_ins 87 1 = some (.aload_n 0, 1, (0, 0, 0, 0, 0)) := s87_0 1
theorem i87_2 : q_ins 87 2 = some (.getfield 10, 3, (0, 9, 0, 2, 0)) := s87_0 2
theorem i87_5 : q_ins 87 5 = some (.getfield 176, 3, (142, 2, 12, 0, 0)) := s87_0 5
theorem i87_8 : q_ins 87 8 = some (.iconst 1, 1, (0, 0, 0, 0, 0)) := s87_0 8
theorem i87_9 : q_ins 87 9 = some (.isub, 1, (0, 0, 0, 0, 0)) := s87_0 9
theorem i87_10 : q_ins 87 10 = some (.invokestatic 60, 3, (64, 12, 2, 2, 0)) := s87_0 10
theorem i87_13 : q_ins 87 13 = some (.ifCond .ne 5, 3, (0, 0, 0, 0, 0)) := s87_0 13
theorem i87_16 : q_ins 87 16 = some (.iconst (-1), 1, (0, 0, 0, 0, 0)) := s87_1 0
theorem i87_17 : q_ins 87 17 = some (.ireturn, 1, (0, 0, 0, 0, 0)) := s87_1 1
theorem i87_18 : q_ins 87 18 = some (.aload_n 0, 1, (0, 0, 0, 0, 0)) := s87_1 2
theorem i87_19 : q_ins 87 19 = some (.getfield 38, 3, (4, 9, 4, 2, 0)) := s87_1 3
theorem i87_22 : q_ins 87 22 = some (.iload_n 1, 1, (0, 0, 0, 0, 0)) := s87_1 6
theorem i87_23 : q_ins 87 23 = some (.aload_n 0, 1, (0, 0, 0, 0, 0)) := s87_1 7
theorem i87_24 : q_ins 87 24 = some (.getfield 10, 3, (0, 9, 0, 2, 0)) := s87_1 8
theorem i87_27 : q_ins 87 27 = some (.invokevirtual 179, 3, (135, 69, 1, 0, 2)) := s87_1 11
theorem i87_30 : q_ins 87 30 = some (.aload_n 0, 1, (0, 0, 0, 0, 0)) := s87_1 14
theorem i87_31 : q_ins 87 31 = some (.getfield 10, 3, (0, 9, 0, 2, 0)) := s87_1 15
theorem i87_34 : q_ins 87 34 = some (.getfield 161, 3, (137, 2, 11, 0, 0)) := s87_2 2
theorem i87_37 : q_ins 87 37 = some (.aload_n 0, 1, (0, 0, 0, 0, 0)) := s87_2 5
theorem i87_38 : q_ins 87 38 = some (.getfield 10, 3, (0, 9, 0, 2, 0)) := s87_2 6
theorem i87_41 : q_ins 87 41 = some (.getfield 158, 3, (136, 2, 3, 2, 0)) := s87_2 9
theorem i87_44 : q_ins 87 44 = some (.invokevirtual 182, 3, (136, 70, 5, 0, 0)) := s87_2 12
theorem i87_47 : q_ins 87 47 = some (.iload_n 2, 1, (0, 0, 0, 0, 0)) := s87_2 15
theorem i87_48 : q_ins 87 48 = some (.tableswitch 82 0 4 #[36, 44, 52, 62, 72], 36, (0, 0, 0, 0, 0)) := s87_3 0
theorem i87_84 : q_ins 87 84 = some (.aload_n 0, 1, (0, 0, 0, 0, 0)) := s87_5 4
theorem i87_85 : q_ins 87 85 = some (.getfield 38, 3, (4, 9, 4, 2, 0)) := s87_5 5
theorem i87_88 : q_ins 87 88 = some (.getfield 186, 3, (143, 0, 5, 0, 0)) := s87_5 8
theorem i87_91 : q_ins 87 91 = some (.ireturn, 1, (0, 0, 0, 0, 0)) := s87_5 11
theorem i87_92 : q_ins 87 92 = some (.aload_n 0, 1, (0, 0, 0, 0, 0)) := s87_5 12
theorem i87_93 : q_ins 87 93 = some (.getfield 38, 3, (4, 9, 4, 2, 0)) := s87_5 13
theorem i87_96 : q_ins 87 96 = some (.getfield 189, 3, (144, 0, 6, 0, 0)) := s87_6 0
theorem i87_99 : q_ins 87 99 = some (.ireturn, 1, (0, 0, 0, 0, 0)) := s87_6 3
theorem i87_100 : q_ins 87 100 = some (.aload_n 0, 1, (0, 0, 0, 0, 0)) := s87_6 4
theorem i87_101 : q_ins 87 101 = some (.getfield 38, 3, (4, 9, 4, 2, 0)) := s87_6 5
theorem i87_104 : q_ins 87 104 = some (.iload_n 1, 1, (0, 0, 0, 0, 0)) := s87_6 8
theorem i87_105 : q_ins 87 105 = some (.iconst 0, 1, (0, 0, 0, 0, 0)) := s87_6 9
theorem i87_106 : q_ins 87 106 = some (.invokevirtual 192, 3, (137, 79, 3, 0, 0)) := s87_6 10
theorem i87_109 : q_ins 87 109 = some (.ireturn, 1, (0, 0, 0, 0, 0)) := s87_6 13
theorem i87_110 : q_ins 87 110 = some (.aload_n 0, 1, (0, 0, 0, 0, 0)) := s87_6 14
theorem i87_111 : q_ins 87 111 = some (.getfield 10, 3, (0, 9, 0, 2, 0)) := s87_6 15
theorem i87_114 : q_ins 87 114 = some (.getfield 195, 3, (145, 2, 5, 2, 0)) := s87_7 2
theorem i87_117 : q_ins 87 117 = some (.iload_n 1, 1, (0, 0, 0, 0, 0)) := s87_7 5
theorem i87_118 : q_ins 87 118 = some (.iaload, 1, (0, 0, 0, 0, 0)) := s87_7 6
theorem i87_119 : q_ins 87 119 = some (.ireturn, 1, (0, 0, 0, 0, 0)) := s87_7 7
theorem i87_120 : q_ins 87 120 = some (.aload_n 0, 1, (0, 0, 0, 0, 0)) := s87_7 8
theorem i87_121 : q_ins 87 121 = some (.getfield 10, 3, (0, 9, 0, 2, 0)) := s87_7 9
theorem i87_124 : q_ins 87 124 = some (.getfield 198, 3, (146, 2, 6, 2, 0)) := s87_7 12
theorem i87_127 : q_ins 87 127 = some (.iload_n 1, 1, (0, 0, 0, 0, 0)) := s87_7 15
theorem i87_128 : q_ins 87 128 = some (.iaload, 1, (0, 0, 0, 0, 0)) := s87_8 0
theorem i87_129 : q_ins 87 129 = some (.ireturn, 1, (0, 0, 0, 0, 0)) := s87_8 1
theorem i87_130 : q_ins 87 130 = some (.iconst (-1), 1, (0, 0, 0, 0, 0)) := s87_8 2
theorem i87_131 : q_ins 87 131 = some (.ireturn, 1, (0, 0, 0, 0, 0)) := s87_8 3
theorem s88_0 (j : Nat) : q_ins 88 j = q_at q_c88 j := rfl
theorem s88_1 (j : Nat) : q_ins 88 (j + 16) = q_at q_c88_1 j := s88_0 (j + 16)
theorem i88_0 : q_ins 88 0 = some (.iload_n 1, 1, (0, 0, 0, 0, 0)) := s88_0 0
theorem i88_1 : q_ins 88 1 = some (.bipush 63, 2, (0, 0, 0, 0, 0)) := s88_0 1
theorem i88_3 : q_ins 88 3 = some (.invokestatic 60, 3, (64, 12, 2, 2, 0)) := s88_0 3
theorem i88_6 : q_ins 88 6 = some (.ifCond .eq 14, 3, (0, 0, 0, 0, 0)) := s88_0 6
theorem i88_9 : q_ins 88 9 = some (.aload_n 0, 1, (0, 0, 0, 0, 0)) := s88_0 9
theorem i88_10 : q_ins 88 10 = some (.getfield 56, 3, (6, 9, 6, 2, 0)) := s88_0 10
theorem i88_13 : q_ins 88 13 = some (.iload_n 1, 1, (0, 0, 0, 0, 0)) := s88_0 13
theorem i88_14 : q_ins 88 14 = some (.invokevirtual 201, 3, (138, 89, 2, 0, 5)) := s88_0 14
theorem i88_17 : q_ins 88 17 = some (.goto 4, 3, (0, 0, 0, 0, 0)) := s88_1 1
theorem i88_20 : q_ins 88 20 = some (.iconst (-1), 1, (0, 0, 0, 0, 0)) := s88_1 4
theorem i88_21 : q_ins 88 21 = some (.ireturn, 1, (0, 0, 0, 0, 0)) := s88_1 5
theorem s89_0 (j : Nat) : q_ins 89 j = q_at q_c89 j := rfl
theorem s89_1 (j : Nat) : q_ins 89 (j + 16) = q_at q_c89_1 j := s89_0 (j + 16)
theorem s89_2 (j : Nat) : q_ins 89 (j + 32) = q_at q_c89_2 j := s89_1 (j + 16)
theorem s89_3 (j : Nat) : q_ins 89 (j + 48) = q_at q_c89_3 j := s89_2 (j + 16)
theorem i89_0 : q_ins 89 0 = some (.iload_n 1, 1, (0, 0, 0, 0, 0)) := s89_0 0
theorem i89_1 : q_ins 89 1 = some (.bipush 63, 2, (0, 0, 0, 0, 0)) := s89_0 1
theorem i89_3 : q_ins 89 3 = some (.iand, 1, (0, 0, 0, 0, 0)) := s89_0 3
theorem i89_4 : q_ins 89 4 = some (.aload_n 0, 1, (0, 0, 0, 0, 0)) := s89_0 4
theorem i89_5 : q_ins 89 5 = some (.getfield 47, 3, (77, 5, 0, 2, 0)) := s89_0 5
theorem i89_8 : q_ins 89 8 = some (.invokevirtual 61, 3, (139, 69, 1, 0, 2)) := s89_0 8
theorem i89_11 : q_ins 89 11 = some (.iand, 1, (0, 0, 0, 0, 0)) := s89_0 11
theorem i89_12 : q_ins 89 12 = some (.istore_n 2, 1, (0, 0, 0, 0, 0)) := s89_0 12
theorem i89_13 : q_ins 89 13 = some (.aload_n 0, 1, (0, 0, 0, 0, 0)) := s89_0 13
theorem i89_14 : q_ins 89 14 = some (.getfield 9, 3, (66, 5, 2, 2, 0)) := s89_0 14
theorem i89_17 : q_ins 89 17 = some (.iload_n 2, 1, (0, 0, 0, 0, 0)) := s89_1 1
theorem i89_18 : q_ins 89 18 = some (.iaload, 1, (0, 0, 0, 0, 0)) := s89_1 2
theorem i89_19 : q_ins 89 19 = some (.iconst (-1), 1, (0, 0, 0, 0, 0)) := s89_1 3
theorem i89_20 : q_ins 89 20 = some (.if_icmp .ne 34, 3, (0, 0, 0, 0, 0)) := s89_1 4
theorem i89_23 : q_ins 89 23 = some (.aload_n 0, 1, (0, 0, 0, 0, 0)) := s89_1 7
theorem i89_24 : q_ins 89 24 = some (.getfield 9, 3, (66, 5, 2, 2, 0)) := s89_1 8
theorem i89_27 : q_ins 89 27 = some (.iload_n 2, 1, (0, 0, 0, 0, 0)) := s89_1 11
theorem i89_28 : q_ins 89 28 = some (.aload_n 0, 1, (0, 0, 0, 0, 0)) := s89_1 12
theorem i89_29 : q_ins 89 29 = some (.getfield 51, 3, (78, 5, 1, 2, 0)) := s89_1 13
theorem i89_32 : q_ins 89 32 = some (.iload_n 2, 1, (0, 0, 0, 0, 0)) := s89_2 0
theorem i89_33 : q_ins 89 33 = some (.aload_n 0, 1, (0, 0, 0, 0, 0)) := s89_2 1
theorem i89_34 : q_ins 89 34 = some (.getfield 47, 3, (77, 5, 0, 2, 0)) := s89_2 2
theorem i89_37 : q_ins 89 37 = some (.getfield 67, 3, (147, 2, 11, 0, 0)) := s89_2 5
theorem i89_40 : q_ins 89 40 = some (.aload_n 0, 1, (0, 0, 0, 0, 0)) := s89_2 8
theorem i89_41 : q_ins 89 41 = some (.getfield 47, 3, (77, 5, 0, 2, 0)) := s89_2 9
theorem i89_44 : q_ins 89 44 = some (.getfield 70, 3, (148, 2, 3, 2, 0)) := s89_2 12
theorem i89_47 : q_ins 89 47 = some (.sipush 991, 3, (0, 0, 0, 0, 0)) := s89_2 15
theorem i89_50 : q_ins 89 50 = some (.invokevirtual 73, 3, (140, 90, 5, 0, 0)) := s89_3 2
theorem i89_53 : q_ins 89 53 = some (.iastore, 1, (0, 0, 0, 0, 0)) := s89_3 5
theorem i89_54 : q_ins 89 54 = some (.aload_n 0, 1, (0, 0, 0, 0, 0)) := s89_3 6
theorem i89_55 : q_ins 89 55 = some (.getfield 9, 3, (66, 5, 2, 2, 0)) := s89_3 7
theorem i89_58 : q_ins 89 58 = some (.iload_n 2, 1, (0, 0, 0, 0, 0)) := s89_3 10
theorem i89_59 : q_ins 89 59 = some (.iaload, 1, (0, 0, 0, 0, 0)) := s89_3 11
theorem i89_60 : q_ins 89 60 = some (.ireturn, 1, (0, 0, 0, 0, 0)) := s89_3 12
theorem s90_0 (j : Nat) : q_ins 90 j = q_at q_c90 j := rfl
theorem s90_1 (j : Nat) : q_ins 90 (j + 16) = q_at q_c90_1 j := s90_0 (j + 16)
theorem s90_2 (j : Nat) : q_ins 90 (j + 32) = q_at q_c90_2 j := s90_1 (j + 16)
theorem s90_3 (j : Nat) : q_ins 90 (j + 48) = q_at q_c90_3 j := s90_2 (j + 16)
theorem i90_0 : q_ins 90 0 = some (.iconst 0, 1, (0, 0, 0, 0, 0)) := s90_0 0
theorem i90_1 : q_ins 90 1 = some (.istore 5, 2, (0, 0, 0, 0, 0)) := s90_0 1
theorem i90_3 : q_ins 90 3 = some (.iconst 0, 1, (0, 0, 0, 0, 0)) := s90_0 3
theorem i90_4 : q_ins 90 4 = some (.istore 6, 2, (0, 0, 0, 0, 0)) := s90_0 4
theorem i90_6 : q_ins 90 6 = some (.iload 6, 2, (0, 0, 0, 0, 0)) := s90_0 6
theorem i90_8 : q_ins 90 8 = some (.aload_n 0, 1, (0, 0, 0, 0, 0)) := s90_0 8
theorem i90_9 : q_ins 90 9 = some (.getfield 28, 3, (59, 0, 0, 2, 0)) := s90_0 9
theorem i90_12 : q_ins 90 12 = some (.getfield 89, 3, (149, 2, 12, 0, 0)) := s90_0 12
theorem i90_15 : q_ins 90 15 = some (.if_icmp .ge 37, 3, (0, 0, 0, 0, 0)) := s90_0 15
theorem i90_18 : q_ins 90 18 = some (.iload 5, 2, (0, 0, 0, 0, 0)) := s90_1 2
theorem i90_20 : q_ins 90 20 = some (.iload 4, 2, (0, 0, 0, 0, 0)) := s90_1 4
theorem i90_22 : q_ins 90 22 = some (.if_icmp .ge 30, 3, (0, 0, 0, 0, 0)) := s90_1 6
theorem i90_25 : q_ins 90 25 = some (.aload_n 0, 1, (0, 0, 0, 0, 0)) := s90_1 9
theorem i90_26 : q_ins 90 26 = some (.iload 6, 2, (0, 0, 0, 0, 0)) := s90_1 10
theorem i90_28 : q_ins 90 28 = some (.iload_n 1, 1, (0, 0, 0, 0, 0)) := s90_1 12
theorem i90_29 : q_ins 90 29 = some (.iload_n 2, 1, (0, 0, 0, 0, 0)) := s90_1 13
theorem i90_30 : q_ins 90 30 = some (.aload_n 3, 1, (0, 0, 0, 0, 0)) := s90_1 14
theorem i90_31 : q_ins 90 31 = some (.invokevirtual 92, 3, (141, 70, 5, 0, 0)) := s90_1 15
theorem i90_34 : q_ins 90 34 = some (.iload 5, 2, (0, 0, 0, 0, 0)) := s90_2 2
theorem i90_36 : q_ins 90 36 = some (.aload_n 0, 1, (0, 0, 0, 0, 0)) := s90_2 4
theorem i90_37 : q_ins 90 37 = some (.iload 6, 2, (0, 0, 0, 0, 0)) := s90_2 5
theorem i90_39 : q_ins 90 39 = some (.iconst 0, 1, (0, 0, 0, 0, 0)) := s90_2 7
theorem i90_40 : q_ins 90 40 = some (.invokevirtual 96, 3, (142, 79, 3, 0, 0)) := s90_2 8
theorem i90_43 : q_ins 90 43 = some (.iadd, 1, (0, 0, 0, 0, 0)) := s90_2 11
theorem i90_44 : q_ins 90 44 = some (.istore 5, 2, (0, 0, 0, 0, 0)) := s90_2 12
theorem i90_46 : q_ins 90 46 = some (.iinc 6 1, 3, (0, 0, 0, 0, 0)) := s90_2 14
theorem i90_49 : q_ins 90 49 = some (.goto (-43), 3, (0, 0, 0, 0, 0)) := s90_3 1
theorem i90_52 : q_ins 90 52 = some (.iload 5, 2, (0, 0, 0, 0, 0)) := s90_3 4
theorem i90_54 : q_ins 90 54 = some (.ireturn, 1, (0, 0, 0, 0, 0)) := s90_3 6
theorem s91_0 (j : Nat) : q_ins 91 j = q_at q_c91 j := rfl
theorem s91_1 (j : Nat) : q_ins 91 (j + 16) = q_at q_c91_1 j := s91_0 (j + 16)
theorem s91_2 (j : Nat) : q_ins 91 (j + 32) = q_at q_c91_2 j := s91_1 (j + 16)
theorem i91_0 : q_ins 91 0 = some (.aload_n 0, 1, (0, 0, 0, 0, 0)) := s91_0 0
theorem i91_1 : q_ins 91 1 = some (.getfield 10, 3, (0, 9, 0, 2, 0)) := s91_0 1
theorem i91_4 : q_ins 91 4 = some (.iload_n 1, 1, (0, 0, 0, 0, 0)) := s91_0 4
theorem i91_5 : q_ins 91 5 = some (.invokevirtual 205, 3, (143, 80, 2, 0, 2)) := s91_0 5
theorem i91_8 : q_ins 91 8 = some (.ifCond .ne 7, 3, (0, 0, 0, 0, 0)) := s91_0 8
theorem i91_11 : q_ins 91 11 = some (.sipush (-1000), 3, (0, 0, 0, 0, 0)) := s91_0 11
theorem i91_14 : q_ins 91 14 = some (.ireturn, 1, (0, 0, 0, 0, 0)) := s91_0 14
theorem i91_15 : q_ins 91 15 = some (.aload_n 0, 1, (0, 0, 0, 0, 0)) := s91_0 15
theorem i91_16 : q_ins 91 16 = some (.getfield 56, 3, (6, 9, 6, 2, 0)) := s91_1 0
theorem i91_19 : q_ins 91 19 = some (.bipush 63, 2, (0, 0, 0, 0, 0)) := s91_1 3
theorem i91_21 : q_ins 91 21 = some (.invokevirtual 201, 3, (138, 89, 2, 0, 5)) := s91_1 5
theorem i91_24 : q_ins 91 24 = some (.aload_n 0, 1, (0, 0, 0, 0, 0)) := s91_1 8
theorem i91_25 : q_ins 91 25 = some (.getfield 56, 3, (6, 9, 6, 2, 0)) := s91_1 9
theorem i91_28 : q_ins 91 28 = some (.bipush 63, 2, (0, 0, 0, 0, 0)) := s91_1 12
theorem i91_30 : q_ins 91 30 = some (.iconst 1, 1, (0, 0, 0, 0, 0)) := s91_1 14
theorem i91_31 : q_ins 91 31 = some (.iload_n 1, 1, (0, 0, 0, 0, 0)) := s91_1 15
theorem i91_32 : q_ins 91 32 = some (.ishl, 1, (0, 0, 0, 0, 0)) := s91_2 0
theorem i91_33 : q_ins 91 33 = some (.iconst (-1), 1, (0, 0, 0, 0, 0)) := s91_2 1
theorem i91_34 : q_ins 91 34 = some (.ixor, 1, (0, 0, 0, 0, 0)) := s91_2 2
theorem i91_35 : q_ins 91 35 = some (.iand, 1, (0, 0, 0, 0, 0)) := s91_2 3
theorem i91_36 : q_ins 91 36 = some (.invokevirtual 201, 3, (138, 89, 2, 0, 5)) := s91_2 4
theorem i91_39 : q_ins 91 39 = some (.isub, 1, (0, 0, 0, 0, 0)) := s91_2 7
theorem i91_40 : q_ins 91 40 = some (.ireturn, 1, (0, 0, 0, 0, 0)) := s91_2 8
theorem s92_0 (j : Nat) : q_ins 92 j = q_at q_c92 j := rfl
theorem s92_1 (j : Nat) : q_ins 92 (j + 16) = q_at q_c92_1 j := s92_0 (j + 16)
theorem s92_2 (j : Nat) : q_ins 92 (j + 32) = q_at q_c92_2 j := s92_1 (j + 16)
theorem s92_3 (j : Nat) : q_ins 92 (j + 48) = q_at q_c92_3 j := s92_2 (j + 16)
theorem i92_0 : q_ins 92 0 = some (.aload_n 0, 1, (0, 0, 0, 0, 0)) := s92_0 0
theorem i92_1 : q_ins 92 1 = some (.getfield 10, 3, (0, 9, 0, 2, 0)) := s92_0 1
theorem i92_4 : q_ins 92 4 = some (.iload_n 1, 1, (0, 0, 0, 0, 0)) := s92_0 4
theorem i92_5 : q_ins 92 5 = some (.invokevirtual 205, 3, (143, 80, 2, 0, 2)) := s92_0 5
theorem i92_8 : q_ins 92 8 = some (.ifCond .eq 11, 3, (0, 0, 0, 0, 0)) := s92_0 8
theorem i92_11 : q_ins 92 11 = some (.iload_n 2, 1, (0, 0, 0, 0, 0)) := s92_0 11
theorem i92_12 : q_ins 92 12 = some (.iconst 1, 1, (0, 0, 0, 0, 0)) := s92_0 12
theorem i92_13 : q_ins 92 13 = some (.invokestatic 60, 3, (64, 12, 2, 2, 0)) := s92_0 13
theorem i92_16 : q_ins 92 16 = some (.ifCond .ne 6, 3, (0, 0, 0, 0, 0)) := s92_1 0
theorem i92_19 : q_ins 92 19 = some (.ldc 208, 2, (893, 0, 0, 0, (-1000000))) := s92_1 3
theorem i92_21 : q_ins 92 21 = some (.ireturn, 1, (0, 0, 0, 0, 0)) := s92_1 5
theorem i92_22 : q_ins 92 22 = some (.aload_n 0, 1, (0, 0, 0, 0, 0)) := s92_1 6
theorem i92_23 : q_ins 92 23 = some (.getfield 56, 3, (6, 9, 6, 2, 0)) := s92_1 7
theorem i92_26 : q_ins 92 26 = some (.iload_n 1, 1, (0, 0, 0, 0, 0)) := s92_1 10
theorem i92_27 : q_ins 92 27 = some (.invokevirtual 209, 3, (144, 93, 2, 0, 5)) := s92_1 11
theorem i92_30 : q_ins 92 30 = some (.iload_n 2, 1, (0, 0, 0, 0, 0)) := s92_1 14
theorem i92_31 : q_ins 92 31 = some (.ifCond .ne 13, 3, (0, 0, 0, 0, 0)) := s92_1 15
theorem i92_34 : q_ins 92 34 = some (.aload_n 0, 1, (0, 0, 0, 0, 0)) := s92_2 2
theorem i92_35 : q_ins 92 35 = some (.getfield 56, 3, (6, 9, 6, 2, 0)) := s92_2 3
theorem i92_38 : q_ins 92 38 = some (.getfield 212, 3, (150, 5, 11, 0, 0)) := s92_2 6
theorem i92_41 : q_ins 92 41 = some (.goto 10, 3, (0, 0, 0, 0, 0)) := s92_2 9
theorem i92_44 : q_ins 92 44 = some (.aload_n 0, 1, (0, 0, 0, 0, 0)) := s92_2 12
theorem i92_45 : q_ins 92 45 = some (.getfield 56, 3, (6, 9, 6, 2, 0)) := s92_2 13
theorem i92_48 : q_ins 92 48 = some (.getfield 215, 3, (151, 5, 12, 0, 0)) := s92_3 0
theorem i92_51 : q_ins 92 51 = some (.ireturn, 1, (0, 0, 0, 0, 0)) := s92_3 3
theorem s93_0 (j : Nat) : q_ins 93 j = q_at q_c93 j := rfl
theorem s93_1 (j : Nat) : q_ins 93 (j + 16) = q_at q_c93_1 j := s93_0 (j + 16)
theorem s93_2 (j : Nat) : q_ins 93 (j + 32) = q_at q_c93_2 j := s93_1 (j + 16)
theorem s93_3 (j : Nat) : q_ins 93 (j + 48) = q_at q_c93_3 j := s93_2 (j + 16)
theorem s93_4 (j : Nat) : q_ins 93 (j + 64) = q_at q_c93_4 j := s93_3 (j + 16)
theorem s93_5 (j : Nat) : q_ins 93 (j + 80) = q_at q_c93_5 j := s93_4 (j + 16)
theorem s93_6 (j : Nat) : q_ins 93 (j + 96) = q_at q_c93_6 j := s93_5 (j + 16)
theorem s93_7 (j : Nat) : q_ins 93 (j + 112) = q_at q_c93_7 j := s93_6 (j + 16)
theorem s93_8 (j : Nat) : q_ins 93 (j + 128) = q_at q_c93_8 j := s93_7 (j + 16)
theorem s93_9 (j : Nat) : q_ins 93 (j + 144) = q_at q_c93_9 j := s93_8 (j + 16)
theorem s93_10 (j : Nat) : q_ins 93 (j + 160) = q_at q_c93_10 j := s93_9 (j + 16)
theorem i93_0 : q_ins 93 0 = some (.aload_n 0, 1, (0, 0, 0, 0, 0)) := s93_0 0
theorem i93_1 : q_ins 93 1 = some (.getfield 47, 3, (77, 5, 0, 2, 0)) := s93_0 1
theorem i93_4 : q_ins 93 4 = some (.invokevirtual 61, 3, (139, 69, 1, 0, 2)) := s93_0 4
theorem i93_7 : q_ins 93 7 = some (.istore_n 2, 1, (0, 0, 0, 0, 0)) := s93_0 7
theorem i93_8 : q_ins 93 8 = some (.iload_n 2, 1, (0, 0, 0, 0, 0)) := s93_0 8
theorem i93_9 : q_ins 93 9 = some (.invokestatic 79, 3, (145, 71, 1, 2, 0)) := s93_0 9
theorem i93_12 : q_ins 93 12 = some (.istore_n 3, 1, (0, 0, 0, 0, 0)) := s93_0 12
theorem i93_13 : q_ins 93 13 = some (.iload_n 2, 1, (0, 0, 0, 0, 0)) := s93_0 13
theorem i93_14 : q_ins 93 14 = some (.iconst 1, 1, (0, 0, 0, 0, 0)) := s93_0 14
theorem i93_15 : q_ins 93 15 = some (.iload_n 1, 1, (0, 0, 0, 0, 0)) := s93_0 15
theorem i93_16 : q_ins 93 16 = some (.ishl, 1, (0, 0, 0, 0, 0)) := s93_1 0
theorem i93_17 : q_ins 93 17 = some (.iconst (-1), 1, (0, 0, 0, 0, 0)) := s93_1 1
theorem i93_18 : q_ins 93 18 = some (.ixor, 1, (0, 0, 0, 0, 0)) := s93_1 2
theorem i93_19 : q_ins 93 19 = some (.iand, 1, (0, 0, 0, 0, 0)) := s93_1 3
theorem i93_20 : q_ins 93 20 = some (.istore 4, 2, (0, 0, 0, 0, 0)) := s93_1 4
theorem i93_22 : q_ins 93 22 = some (.iconst 0, 1, (0, 0, 0, 0, 0)) := s93_1 6
theorem i93_23 : q_ins 93 23 = some (.istore 5, 2, (0, 0, 0, 0, 0)) := s93_1 7
theorem i93_25 : q_ins 93 25 = some (.iconst 0, 1, (0, 0, 0, 0, 0)) := s93_1 9
theorem i93_26 : q_ins 93 26 = some (.istore 6, 2, (0, 0, 0, 0, 0)) := s93_1 10
theorem i93_28 : q_ins 93 28 = some (.iload 6, 2, (0, 0, 0, 0, 0)) := s93_1 12
theorem i93_30 : q_ins 93 30 = some (.bipush 63, 2, (0, 0, 0, 0, 0)) := s93_1 14
theorem i93_32 : q_ins 93 32 = some (.if_icmp .gt 78, 3, (0, 0, 0, 0, 0)) := s93_2 0
theorem i93_35 : q_ins 93 35 = some (.iload_n 3, 1, (0, 0, 0, 0, 0)) := s93_2 3
theorem i93_36 : q_ins 93 36 = some (.iconst 1, 1, (0, 0, 0, 0, 0)) := s93_2 4
theorem i93_37 : q_ins 93 37 = some (.isub, 1, (0, 0, 0, 0, 0)) := s93_2 5
theorem i93_38 : q_ins 93 38 = some (.iload 6, 2, (0, 0, 0, 0, 0)) := s93_2 6
theorem i93_40 : q_ins 93 40 = some (.invokestatic 79, 3, (145, 71, 1, 2, 0)) := s93_2 8
theorem i93_43 : q_ins 93 43 = some (.isub, 1, (0, 0, 0, 0, 0)) := s93_2 11
theorem i93_44 : q_ins 93 44 = some (.istore 7, 2, (0, 0, 0, 0, 0)) := s93_2 12
theorem i93_46 : q_ins 93 46 = some (.iload 6, 2, (0, 0, 0, 0, 0)) := s93_2 14
theorem i93_48 : q_ins 93 48 = some (.iload 4, 2, (0, 0, 0, 0, 0)) := s93_3 0
theorem i93_50 : q_ins 93 50 = some (.iconst (-1), 1, (0, 0, 0, 0, 0)) := s93_3 2
theorem i93_51 : q_ins 93 51 = some (.ixor, 1, (0, 0, 0, 0, 0)) := s93_3 3
theorem i93_52 : q_ins 93 52 = some (.iand, 1, (0, 0, 0, 0, 0)) := s93_3 4
theorem i93_53 : q_ins 93 53 = some (.ifCond .ne 51, 3, (0, 0, 0, 0, 0)) := s93_3 5
theorem i93_56 : q_ins 93 56 = some (.iload 7, 2, (0, 0, 0, 0, 0)) := s93_3 8
theorem i93_58 : q_ins 93 58 = some (.ifCond .lt 46, 3, (0, 0, 0, 0, 0)) := s93_3 10
theorem i93_61 : q_ins 93 61 = some (.getstatic 85, 3, (4, 2, 0, 0, 0)) := s93_3 13
theorem i93_64 : q_ins 93 64 = some (.iload 6, 2, (0, 0, 0, 0, 0)) := s93_4 0
theorem i93_66 : q_ins 93 66 = some (.invokestatic 79, 3, (145, 71, 1, 2, 0)) := s93_4 2
theorem i93_69 : q_ins 93 69 = some (.iaload, 1, (0, 0, 0, 0, 0)) := s93_4 5
theorem i93_70 : q_ins 93 70 = some (.getstatic 85, 3, (4, 2, 0, 0, 0)) := s93_4 6
theorem i93_73 : q_ins 93 73 = some (.iload 7, 2, (0, 0, 0, 0, 0)) := s93_4 9
theorem i93_75 : q_ins 93 75 = some (.iaload, 1, (0, 0, 0, 0, 0)) := s93_4 11
theorem i93_76 : q_ins 93 76 = some (.imul, 1, (0, 0, 0, 0, 0)) := s93_4 12
theorem i93_77 : q_ins 93 77 = some (.istore 8, 2, (0, 0, 0, 0, 0)) := s93_4 13
theorem i93_79 : q_ins 93 79 = some (.iload 5, 2, (0, 0, 0, 0, 0)) := s93_4 15
theorem i93_81 : q_ins 93 81 = some (.iload 8, 2, (0, 0, 0, 0, 0)) := s93_5 1
theorem i93_83 : q_ins 93 83 = some (.aload_n 0, 1, (0, 0, 0, 0, 0)) := s93_5 3
theorem i93_84 : q_ins 93 84 = some (.iload 6, 2, (0, 0, 0, 0, 0)) := s93_5 4
theorem i93_86 : q_ins 93 86 = some (.iconst 1, 1, (0, 0, 0, 0, 0)) := s93_5 6
theorem i93_87 : q_ins 93 87 = some (.iload_n 1, 1, (0, 0, 0, 0, 0)) := s93_5 7
theorem i93_88 : q_ins 93 88 = some (.ishl, 1, (0, 0, 0, 0, 0)) := s93_5 8
theorem i93_89 : q_ins 93 89 = some (.ior, 1, (0, 0, 0, 0, 0)) := s93_5 9
theorem i93_90 : q_ins 93 90 = some (.invokevirtual 88, 3, (146, 89, 2, 0, 5)) := s93_5 10
theorem i93_93 : q_ins 93 93 = some (.aload_n 0, 1, (0, 0, 0, 0, 0)) := s93_5 13
theorem i93_94 : q_ins 93 94 = some (.iload 6, 2, (0, 0, 0, 0, 0)) := s93_5 14
theorem i93_96 : q_ins 93 96 = some (.invokevirtual 88, 3, (146, 89, 2, 0, 5)) := s93_6 0
theorem i93_99 : q_ins 93 99 = some (.isub, 1, (0, 0, 0, 0, 0)) := s93_6 3
theorem i93_100 : q_ins 93 100 = some (.imul, 1, (0, 0, 0, 0, 0)) := s93_6 4
theorem i93_101 : q_ins 93 101 = some (.iadd, 1, (0, 0, 0, 0, 0)) := s93_6 5
theorem i93_102 : q_ins 93 102 = some (.istore 5, 2, (0, 0, 0, 0, 0)) := s93_6 6
theorem i93_104 : q_ins 93 104 = some (.iinc 6 1, 3, (0, 0, 0, 0, 0)) := s93_6 8
theorem i93_107 : q_ins 93 107 = some (.goto (-79), 3, (0, 0, 0, 0, 0)) := s93_6 11
theorem i93_110 : q_ins 93 110 = some (.iload 5, 2, (0, 0, 0, 0, 0)) := s93_6 14
theorem i93_112 : q_ins 93 112 = some (.invokestatic 91, 3, (902, 0, 0, 12, 0)) := s93_7 0
theorem i93_115 : q_ins 93 115 = some (.getstatic 85, 3, (4, 2, 0, 0, 0)) := s93_7 3
theorem i93_118 : q_ins 93 118 = some (.iload_n 3, 1, (0, 0, 0, 0, 0)) := s93_7 6
theorem i93_119 : q_ins 93 119 = some (.iaload, 1, (0, 0, 0, 0, 0)) := s93_7 7
theorem i93_120 : q_ins 93 120 = some (.invokestatic 96, 3, (147, 94, 2, 2, 0)) := s93_7 8
theorem i93_123 : q_ins 93 123 = some (.istore 6, 2, (0, 0, 0, 0, 0)) := s93_7 11
theorem i93_125 : q_ins 93 125 = some (.aload_n 0, 1, (0, 0, 0, 0, 0)) := s93_7 13
theorem i93_126 : q_ins 93 126 = some (.iload 6, 2, (0, 0, 0, 0, 0)) := s93_7 14
theorem i93_128 : q_ins 93 128 = some (.ifCond .le 11, 3, (0, 0, 0, 0, 0)) := s93_8 0
theorem i93_131 : q_ins 93 131 = some (.iload 5, 2, (0, 0, 0, 0, 0)) := s93_8 3
theorem i93_133 : q_ins 93 133 = some (.iload 6, 2, (0, 0, 0, 0, 0)) := s93_8 5
theorem i93_135 : q_ins 93 135 = some (.idiv, 1, (0, 0, 0, 0, 0)) := s93_8 7
theorem i93_136 : q_ins 93 136 = some (.goto 4, 3, (0, 0, 0, 0, 0)) := s93_8 8
theorem i93_139 : q_ins 93 139 = some (.iconst 0, 1, (0, 0, 0, 0, 0)) := s93_8 11
theorem i93_140 : q_ins 93 140 = some (.putfield 41, 3, (75, 5, 11, 0, 0)) := s93_8 12
theorem i93_143 : q_ins 93 143 = some (.aload_n 0, 1, (0, 0, 0, 0, 0)) := s93_8 15
theorem i93_144 : q_ins 93 144 = some (.iload 6, 2, (0, 0, 0, 0, 0)) := s93_9 0
theorem i93_146 : q_ins 93 146 = some (.ifCond .le 14, 3, (0, 0, 0, 0, 0)) := s93_9 2
theorem i93_149 : q_ins 93 149 = some (.getstatic 85, 3, (4, 2, 0, 0, 0)) := s93_9 5
theorem i93_152 : q_ins 93 152 = some (.iload_n 3, 1, (0, 0, 0, 0, 0)) := s93_9 8
theorem i93_153 : q_ins 93 153 = some (.iaload, 1, (0, 0, 0, 0, 0)) := s93_9 9
theorem i93_154 : q_ins 93 154 = some (.iload 6, 2, (0, 0, 0, 0, 0)) := s93_9 10
theorem i93_156 : q_ins 93 156 = some (.idiv, 1, (0, 0, 0, 0, 0)) := s93_9 12
theorem i93_157 : q_ins 93 157 = some (.goto 4, 3, (0, 0, 0, 0, 0)) := s93_9 13
theorem i93_160 : q_ins 93 160 = some (.iconst 1, 1, (0, 0, 0, 0, 0)) := s93_10 0
theorem i93_161 : q_ins 93 161 = some (.putfield 44, 3, (76, 5, 12, 0, 0)) := s93_10 1
theorem i93_164 : q_ins 93 164 = some (.return_, 1, (0, 0, 0, 0, 0)) := s93_10 4
theorem s94_0 (j : Nat) : q_ins 94 j = q_at q_c94 j := rfl
theorem s94_1 (j : Nat) : q_ins 94 (j + 16) = q_at q_c94_1 j := s94_0 (j + 16)
theorem s94_2 (j : Nat) : q_ins 94 (j + 32) = q_at q_c94_2 j := s94_1 (j + 16)
theorem i94_0 : q_ins 94 0 = some (.iload_n 0, 1, (0, 0, 0, 0, 0)) := s94_0 0
theorem i94_1 : q_ins 94 1 = some (.istore_n 2, 1, (0, 0, 0, 0, 0)) := s94_0 1
theorem i94_2 : q_ins 94 2 = some (.iload_n 1, 1, (0, 0, 0, 0, 0)) := s94_0 2
theorem i94_3 : q_ins 94 3 = some (.istore_n 3, 1, (0, 0, 0, 0, 0)) := s94_0 3
theorem i94_4 : q_ins 94 4 = some (.iconst 0, 1, (0, 0, 0, 0, 0)) := s94_0 4
theorem i94_5 : q_ins 94 5 = some (.istore 4, 2, (0, 0, 0, 0, 0)) := s94_0 5
theorem i94_7 : q_ins 94 7 = some (.iload 4, 2, (0, 0, 0, 0, 0)) := s94_0 7
theorem i94_9 : q_ins 94 9 = some (.bipush 100, 2, (0, 0, 0, 0, 0)) := s94_0 9
theorem i94_11 : q_ins 94 11 = some (.if_icmp .ge 23, 3, (0, 0, 0, 0, 0)) := s94_0 11
theorem i94_14 : q_ins 94 14 = some (.iload_n 3, 1, (0, 0, 0, 0, 0)) := s94_0 14
theorem i94_15 : q_ins 94 15 = some (.ifCond .eq 19, 3, (0, 0, 0, 0, 0)) := s94_0 15
theorem i94_18 : q_ins 94 18 = some (.iload_n 2, 1, (0, 0, 0, 0, 0)) := s94_1 2
theorem i94_19 : q_ins 94 19 = some (.iload_n 3, 1, (0, 0, 0, 0, 0)) := s94_1 3
theorem i94_20 : q_ins 94 20 = some (.irem, 1, (0, 0, 0, 0, 0)) := s94_1 4
theorem i94_21 : q_ins 94 21 = some (.istore 5, 2, (0, 0, 0, 0, 0)) := s94_1 5
theorem i94_23 : q_ins 94 23 = some (.iload_n 3, 1, (0, 0, 0, 0, 0)) := s94_1 7
theorem i94_24 : q_ins 94 24 = some (.istore_n 2, 1, (0, 0, 0, 0, 0)) := s94_1 8
theorem i94_25 : q_ins 94 25 = some (.iload 5, 2, (0, 0, 0, 0, 0)) := s94_1 9
theorem i94_27 : q_ins 94 27 = some (.istore_n 3, 1, (0, 0, 0, 0, 0)) := s94_1 11
theorem i94_28 : q_ins 94 28 = some (.iinc 4 1, 3, (0, 0, 0, 0, 0)) := s94_1 12
theorem i94_31 : q_ins 94 31 = some (.goto (-24), 3, (0, 0, 0, 0, 0)) := s94_1 15
theorem i94_34 : q_ins 94 34 = some (.iload_n 2, 1, (0, 0, 0, 0, 0)) := s94_2 2
theorem i94_35 : q_ins 94 35 = some (.ireturn, 1, (0, 0, 0, 0, 0)) := s94_2 3
theorem s95_0 (j : Nat) : q_ins 95 j = q_at q_c95 j := rfl
theorem s95_1 (j : Nat) : q_ins 95 (j + 16) = q_at q_c95_1 j := s95_0 (j + 16)
theorem s95_2 (j : Nat) : q_ins 95 (j + 32) = q_at q_c95_2 j := s95_1 (j + 16)
theorem s95_3 (j : Nat) : q_ins 95 (j + 48) = q_at q_c95_3 j := s95_2 (j + 16)
theorem i95_0 : q_ins 95 0 = some (.iload_n 1, 1, (0, 0, 0, 0, 0)) := s95_0 0
theorem i95_1 : q_ins 95 1 = some (.iconst (-1), 1, (0, 0, 0, 0, 0)) := s95_0 1
theorem i95_2 : q_ins 95 2 = some (.if_icmp .eq 15, 3, (0, 0, 0, 0, 0)) := s95_0 2
theorem i95_5 : q_ins 95 5 = some (.iload_n 1, 1, (0, 0, 0, 0, 0)) := s95_0 5
theorem i95_6 : q_ins 95 6 = some (.bipush 15, 2, (0, 0, 0, 0, 0)) := s95_0 6
theorem i95_8 : q_ins 95 8 = some (.invokestatic 60, 3, (64, 12, 2, 2, 0)) := s95_0 8
theorem i95_11 : q_ins 95 11 = some (.ifCond .ne 6, 3, (0, 0, 0, 0, 0)) := s95_0 11
theorem i95_14 : q_ins 95 14 = some (.bipush (-2), 2, (0, 0, 0, 0, 0)) := s95_0 14
theorem i95_16 : q_ins 95 16 = some (.ireturn, 1, (0, 0, 0, 0, 0)) := s95_1 0
theorem i95_17 : q_ins 95 17 = some (.aload_n 0, 1, (0, 0, 0, 0, 0)) := s95_1 1
theorem i95_18 : q_ins 95 18 = some (.getfield 56, 3, (6, 9, 6, 2, 0)) := s95_1 2
theorem i95_21 : q_ins 95 21 = some (.invokevirtual 218, 3, (148, 96, 1, 0, 5)) := s95_1 5
theorem i95_24 : q_ins 95 24 = some (.iload_n 1, 1, (0, 0, 0, 0, 0)) := s95_1 8
theorem i95_25 : q_ins 95 25 = some (.iconst (-1), 1, (0, 0, 0, 0, 0)) := s95_1 9
theorem i95_26 : q_ins 95 26 = some (.if_icmp .ne 13, 3, (0, 0, 0, 0, 0)) := s95_1 10
theorem i95_29 : q_ins 95 29 = some (.aload_n 0, 1, (0, 0, 0, 0, 0)) := s95_1 13
theorem i95_30 : q_ins 95 30 = some (.getfield 56, 3, (6, 9, 6, 2, 0)) := s95_1 14
theorem i95_33 : q_ins 95 33 = some (.getfield 221, 3, (152, 5, 10, 0, 0)) := s95_2 1
theorem i95_36 : q_ins 95 36 = some (.goto 12, 3, (0, 0, 0, 0, 0)) := s95_2 4
theorem i95_39 : q_ins 95 39 = some (.aload_n 0, 1, (0, 0, 0, 0, 0)) := s95_2 7
theorem i95_40 : q_ins 95 40 = some (.getfield 56, 3, (6, 9, 6, 2, 0)) := s95_2 8
theorem i95_43 : q_ins 95 43 = some (.getfield 224, 3, (153, 5, 7, 2, 0)) := s95_2 11
theorem i95_46 : q_ins 95 46 = some (.iload_n 1, 1, (0, 0, 0, 0, 0)) := s95_2 14
theorem i95_47 : q_ins 95 47 = some (.iaload, 1, (0, 0, 0, 0, 0)) := s95_2 15
theorem i95_48 : q_ins 95 48 = some (.ireturn, 1, (0, 0, 0, 0, 0)) := s95_3 0
theorem s96_0 (j : Nat) : q_ins 96 j = q_at q_c96 j := rfl
theorem s96_1 (j : Nat) : q_ins 96 (j + 16) = q_at q_c96_1 j := s96_0 (j + 16)
theorem s96_2 (j : Nat) : q_ins 96 (j + 32) = q_at q_c96_2 j := s96_1 (j + 16)
theorem s96_3 (j : Nat) : q_ins 96 (j + 48) = q_at q_c96_3 j := s96_2 (j + 16)
theorem s96_4 (j : Nat) : q_ins 96 (j + 64) = q_at q_c96_4 j := s96_3 (j + 16)
theorem s96_5 (j : Nat) : q_ins 96 (j + 80) = q_at q_c96_5 j := s96_4 (j + 16)
theorem s96_6 (j : Nat) : q_ins 96 (j + 96) = q_at q_c96_6 j := s96_5 (j + 16)
theorem s96_7 (j : Nat) : q_ins 96 (j + 112) = q_at q_c96_7 j := s96_6 (j + 16)
theorem s96_8 (j : Nat) : q_ins 96 (j + 128) = q_at q_c96_8 j := s96_7 (j + 16)
theorem s96_9 (j : Nat) : q_ins 96 (j + 144) = q_at q_c96_9 j := s96_8 (j + 16)
theorem s96_10 (j : Nat) : q_ins 96 (j + 160) = q_at q_c96_10 j := s96_9 (j + 16)
theorem i96_0 : q_ins 96 0 = some (.aload_n 0, 1, (0, 0, 0, 0, 0)) := s96_0 0
theorem i96_1 : q_ins 96 1 = some (.getfield 34, 3, (73, 5, 9, 3, 0)) := s96_0 1
theorem i96_4 : q_ins 96 4 = some (.ifCond .eq 4, 3, (0, 0, 0, 0, 0)) := s96_0 4
theorem i96_7 : q_ins 96 7 = some (.return_, 1, (0, 0, 0, 0, 0)) := s96_0 7
theorem i96_8 : q_ins 96 8 = some (.aload_n 0, 1, (0, 0, 0, 0, 0)) := s96_0 8
theorem i96_9 : q_ins 96 9 = some (.iconst 1, 1, (0, 0, 0, 0, 0)) := s96_0 9
theorem i96_10 : q_ins 96 10 = some (.putfield 34, 3, (73, 5, 9, 3, 0)) := s96_0 10
theorem i96_13 : q_ins 96 13 = some (.aload_n 0, 1, (0, 0, 0, 0, 0)) := s96_0 13
theorem i96_14 : q_ins 96 14 = some (.invokevirtual 100, 3, (149, 97, 1, 0, 5)) := s96_0 14
theorem i96_17 : q_ins 96 17 = some (.aload_n 0, 1, (0, 0, 0, 0, 0)) := s96_1 1
theorem i96_18 : q_ins 96 18 = some (.sipush 991, 3, (0, 0, 0, 0, 0)) := s96_1 2
theorem i96_21 : q_ins 96 21 = some (.putfield 38, 3, (74, 5, 10, 0, 0)) := s96_1 5
theorem i96_24 : q_ins 96 24 = some (.aload_n 0, 1, (0, 0, 0, 0, 0)) := s96_1 8
theorem i96_25 : q_ins 96 25 = some (.getfield 47, 3, (77, 5, 0, 2, 0)) := s96_1 9
theorem i96_28 : q_ins 96 28 = some (.iconst 0, 1, (0, 0, 0, 0, 0)) := s96_1 12
theorem i96_29 : q_ins 96 29 = some (.invokevirtual 103, 3, (150, 73, 2, 0, 2)) := s96_1 13
theorem i96_32 : q_ins 96 32 = some (.astore_n 1, 1, (0, 0, 0, 0, 0)) := s96_2 0
theorem i96_33 : q_ins 96 33 = some (.aload_n 1, 1, (0, 0, 0, 0, 0)) := s96_2 1
theorem i96_34 : q_ins 96 34 = some (.ifnull 21, 3, (0, 0, 0, 0, 0)) := s96_2 2
theorem i96_37 : q_ins 96 37 = some (.aload_n 1, 1, (0, 0, 0, 0, 0)) := s96_2 5
theorem i96_38 : q_ins 96 38 = some (.getfield 107, 3, (154, 6, 6, 3, 0)) := s96_2 6
theorem i96_41 : q_ins 96 41 = some (.ifCond .eq 14, 3, (0, 0, 0, 0, 0)) := s96_2 9
theorem i96_44 : q_ins 96 44 = some (.getstatic 85, 3, (4, 2, 0, 0, 0)) := s96_2 12
theorem i96_47 : q_ins 96 47 = some (.aload_n 0, 1, (0, 0, 0, 0, 0)) := s96_2 15
theorem i96_48 : q_ins 96 48 = some (.getfield 30, 3, (72, 5, 8, 0, 0)) := s96_3 0
theorem i96_51 : q_ins 96 51 = some (.iaload, 1, (0, 0, 0, 0, 0)) := s96_3 3
theorem i96_52 : q_ins 96 52 = some (.goto 4, 3, (0, 0, 0, 0, 0)) := s96_3 4
theorem i96_55 : q_ins 96 55 = some (.iconst 1, 1, (0, 0, 0, 0, 0)) := s96_3 7
theorem i96_56 : q_ins 96 56 = some (.istore_n 2, 1, (0, 0, 0, 0, 0)) := s96_3 8
theorem i96_57 : q_ins 96 57 = some (.iconst 0, 1, (0, 0, 0, 0, 0)) := s96_3 9
theorem i96_58 : q_ins 96 58 = some (.istore_n 3, 1, (0, 0, 0, 0, 0)) := s96_3 10
theorem i96_59 : q_ins 96 59 = some (.iload_n 3, 1, (0, 0, 0, 0, 0)) := s96_3 11
theorem i96_60 : q_ins 96 60 = some (.iload_n 2, 1, (0, 0, 0, 0, 0)) := s96_3 12
theorem i96_61 : q_ins 96 61 = some (.if_icmp .ge 100, 3, (0, 0, 0, 0, 0)) := s96_3 13
theorem i96_64 : q_ins 96 64 = some (.iconst 0, 1, (0, 0, 0, 0, 0)) := s96_4 0
theorem i96_65 : q_ins 96 65 = some (.istore 4, 2, (0, 0, 0, 0, 0)) := s96_4 1
theorem i96_67 : q_ins 96 67 = some (.iload 4, 2, (0, 0, 0, 0, 0)) := s96_4 3
theorem i96_69 : q_ins 96 69 = some (.aload_n 0, 1, (0, 0, 0, 0, 0)) := s96_4 5
theorem i96_70 : q_ins 96 70 = some (.getfield 30, 3, (72, 5, 8, 0, 0)) := s96_4 6
theorem i96_73 : q_ins 96 73 = some (.if_icmp .ge 28, 3, (0, 0, 0, 0, 0)) := s96_4 9
theorem i96_76 : q_ins 96 76 = some (.aload_n 0, 1, (0, 0, 0, 0, 0)) := s96_4 12
theorem i96_77 : q_ins 96 77 = some (.getfield 24, 3, (70, 5, 6, 2, 0)) := s96_4 13
theorem i96_80 : q_ins 96 80 = some (.aload_n 0, 1, (0, 0, 0, 0, 0)) := s96_5 0
theorem i96_81 : q_ins 96 81 = some (.getfield 21, 3, (69, 5, 5, 2, 0)) := s96_5 1
theorem i96_84 : q_ins 96 84 = some (.iload 4, 2, (0, 0, 0, 0, 0)) := s96_5 4
theorem i96_86 : q_ins 96 86 = some (.iaload, 1, (0, 0, 0, 0, 0)) := s96_5 6
theorem i96_87 : q_ins 96 87 = some (.aload_n 0, 1, (0, 0, 0, 0, 0)) := s96_5 7
theorem i96_88 : q_ins 96 88 = some (.getfield 18, 3, (68, 5, 4, 2, 0)) := s96_5 8
theorem i96_91 : q_ins 96 91 = some (.iload 4, 2, (0, 0, 0, 0, 0)) := s96_5 11
theorem i96_93 : q_ins 96 93 = some (.iaload, 1, (0, 0, 0, 0, 0)) := s96_5 13
theorem i96_94 : q_ins 96 94 = some (.iastore, 1, (0, 0, 0, 0, 0)) := s96_5 14
theorem i96_95 : q_ins 96 95 = some (.iinc 4 1, 3, (0, 0, 0, 0, 0)) := s96_5 15
theorem i96_98 : q_ins 96 98 = some (.goto (-31), 3, (0, 0, 0, 0, 0)) := s96_6 2
theorem i96_101 : q_ins 96 101 = some (.aload_n 0, 1, (0, 0, 0, 0, 0)) := s96_6 5
theorem i96_102 : q_ins 96 102 = some (.getfield 51, 3, (78, 5, 1, 2, 0)) := s96_6 6
theorem i96_105 : q_ins 96 105 = some (.aload_n 0, 1, (0, 0, 0, 0, 0)) := s96_6 9
theorem i96_106 : q_ins 96 106 = some (.getfield 47, 3, (77, 5, 0, 2, 0)) := s96_6 10
theorem i96_109 : q_ins 96 109 = some (.invokevirtual 61, 3, (139, 69, 1, 0, 2)) := s96_6 13
theorem i96_112 : q_ins 96 112 = some (.aload_n 0, 1, (0, 0, 0, 0, 0)) := s96_7 0
theorem i96_113 : q_ins 96 113 = some (.getfield 47, 3, (77, 5, 0, 2, 0)) := s96_7 1
theorem i96_116 : q_ins 96 116 = some (.getfield 67, 3, (147, 2, 11, 0, 0)) := s96_7 4
theorem i96_119 : q_ins 96 119 = some (.aload_n 0, 1, (0, 0, 0, 0, 0)) := s96_7 7
theorem i96_120 : q_ins 96 120 = some (.getfield 24, 3, (70, 5, 6, 2, 0)) := s96_7 8
theorem i96_123 : q_ins 96 123 = some (.aload_n 0, 1, (0, 0, 0, 0, 0)) := s96_7 11
theorem i96_124 : q_ins 96 124 = some (.getfield 38, 3, (74, 5, 10, 0, 0)) := s96_7 12
theorem i96_127 : q_ins 96 127 = some (.invokevirtual 73, 3, (140, 90, 5, 0, 0)) := s96_7 15
theorem i96_130 : q_ins 96 130 = some (.istore 4, 2, (0, 0, 0, 0, 0)) := s96_8 2
theorem i96_132 : q_ins 96 132 = some (.iload 4, 2, (0, 0, 0, 0, 0)) := s96_8 4
theorem i96_134 : q_ins 96 134 = some (.aload_n 0, 1, (0, 0, 0, 0, 0)) := s96_8 6
theorem i96_135 : q_ins 96 135 = some (.getfield 38, 3, (74, 5, 10, 0, 0)) := s96_8 7
theorem i96_138 : q_ins 96 138 = some (.if_icmp .ge 13, 3, (0, 0, 0, 0, 0)) := s96_8 10
theorem i96_141 : q_ins 96 141 = some (.aload_n 0, 1, (0, 0, 0, 0, 0)) := s96_8 13
theorem i96_142 : q_ins 96 142 = some (.iload 4, 2, (0, 0, 0, 0, 0)) := s96_8 14
theorem i96_144 : q_ins 96 144 = some (.putfield 38, 3, (74, 5, 10, 0, 0)) := s96_9 0
theorem i96_147 : q_ins 96 147 = some (.aload_n 0, 1, (0, 0, 0, 0, 0)) := s96_9 3
theorem i96_148 : q_ins 96 148 = some (.invokevirtual 112, 3, (151, 98, 1, 0, 5)) := s96_9 4
theorem i96_151 : q_ins 96 151 = some (.aload_n 0, 1, (0, 0, 0, 0, 0)) := s96_9 7
theorem i96_152 : q_ins 96 152 = some (.invokevirtual 115, 3, (152, 99, 1, 0, 5)) := s96_9 8
theorem i96_155 : q_ins 96 155 = some (.iinc 3 1, 3, (0, 0, 0, 0, 0)) := s96_9 11
theorem i96_158 : q_ins 96 158 = some (.goto (-99), 3, (0, 0, 0, 0, 0)) := s96_9 14
theorem i96_161 : q_ins 96 161 = some (.return_, 1, (0, 0, 0, 0, 0)) := s96_10 1
theorem s97_0 (j : Nat) : q_ins 97 j = q_at q_c97 j := rfl
theorem s97_1 (j : Nat) : q_ins 97 (j + 16) = q_at q_c97_1 j := s97_0 (j + 16)
theorem s97_2 (j : Nat) : q_ins 97 (j + 32) = q_at q_c97_2 j := s97_1 (j + 16)
theorem s97_3 (j : Nat) : q_ins 97 (j + 48) = q_at q_c97_3 j := s97_2 (j + 16)
theorem s97_4 (j : Nat) : q_ins 97 (j + 64) = q_at q_c97_4 j := s97_3 (j + 16)
theorem s97_5 (j : Nat) : q_ins 97 (j + 80) = q_at q_c97_5 j := s97_4 (j + 16)
theorem i97_0 : q_ins 97 0 = some (.aload_n 0, 1, (0, 0, 0, 0, 0)) := s97_0 0
theorem i97_1 : q_ins 97 1 = some (.iconst 0, 1, (0, 0, 0, 0, 0)) := s97_0 1
theorem i97_2 : q_ins 97 2 = some (.putfield 30, 3, (72, 5, 8, 0, 0)) := s97_0 2
theorem i97_5 : q_ins 97 5 = some (.iconst 0, 1, (0, 0, 0, 0, 0)) := s97_0 5
theorem i97_6 : q_ins 97 6 = some (.istore_n 1, 1, (0, 0, 0, 0, 0)) := s97_0 6
theorem i97_7 : q_ins 97 7 = some (.iload_n 1, 1, (0, 0, 0, 0, 0)) := s97_0 7
theorem i97_8 : q_ins 97 8 = some (.bipush 6, 2, (0, 0, 0, 0, 0)) := s97_0 8
theorem i97_10 : q_ins 97 10 = some (.if_icmp .ge 40, 3, (0, 0, 0, 0, 0)) := s97_0 10
theorem i97_13 : q_ins 97 13 = some (.aload_n 0, 1, (0, 0, 0, 0, 0)) := s97_0 13
theorem i97_14 : q_ins 97 14 = some (.getfield 47, 3, (77, 5, 0, 2, 0)) := s97_0 14
theorem i97_17 : q_ins 97 17 = some (.iload_n 1, 1, (0, 0, 0, 0, 0)) := s97_1 1
theorem i97_18 : q_ins 97 18 = some (.invokevirtual 118, 3, (153, 80, 2, 0, 2)) := s97_1 2
theorem i97_21 : q_ins 97 21 = some (.ifCond .eq 23, 3, (0, 0, 0, 0, 0)) := s97_1 5
theorem i97_24 : q_ins 97 24 = some (.aload_n 0, 1, (0, 0, 0, 0, 0)) := s97_1 8
theorem i97_25 : q_ins 97 25 = some (.getfield 21, 3, (69, 5, 5, 2, 0)) := s97_1 9
theorem i97_28 : q_ins 97 28 = some (.aload_n 0, 1, (0, 0, 0, 0, 0)) := s97_1 12
theorem i97_29 : q_ins 97 29 = some (.getfield 30, 3, (72, 5, 8, 0, 0)) := s97_1 13
theorem i97_32 : q_ins 97 32 = some (.iload_n 1, 1, (0, 0, 0, 0, 0)) := s97_2 0
theorem i97_33 : q_ins 97 33 = some (.iastore, 1, (0, 0, 0, 0, 0)) := s97_2 1
theorem i97_34 : q_ins 97 34 = some (.aload_n 0, 1, (0, 0, 0, 0, 0)) := s97_2 2
theorem i97_35 : q_ins 97 35 = some (.dup, 1, (0, 0, 0, 0, 0)) := s97_2 3
theorem i97_36 : q_ins 97 36 = some (.getfield 30, 3, (72, 5, 8, 0, 0)) := s97_2 4
theorem i97_39 : q_ins 97 39 = some (.iconst 1, 1, (0, 0, 0, 0, 0)) := s97_2 7
theorem i97_40 : q_ins 97 40 = some (.iadd, 1, (0, 0, 0, 0, 0)) := s97_2 8
theorem i97_41 : q_ins 97 41 = some (.putfield 30, 3, (72, 5, 8, 0, 0)) := s97_2 9
theorem i97_44 : q_ins 97 44 = some (.iinc 1 1, 3, (0, 0, 0, 0, 0)) := s97_2 12
theorem i97_47 : q_ins 97 47 = some (.goto (-40), 3, (0, 0, 0, 0, 0)) := s97_2 15
theorem i97_50 : q_ins 97 50 = some (.iconst 0, 1, (0, 0, 0, 0, 0)) := s97_3 2
theorem i97_51 : q_ins 97 51 = some (.istore_n 1, 1, (0, 0, 0, 0, 0)) := s97_3 3
theorem i97_52 : q_ins 97 52 = some (.iconst 0, 1, (0, 0, 0, 0, 0)) := s97_3 4
theorem i97_53 : q_ins 97 53 = some (.istore_n 2, 1, (0, 0, 0, 0, 0)) := s97_3 5
theorem i97_54 : q_ins 97 54 = some (.iload_n 2, 1, (0, 0, 0, 0, 0)) := s97_3 6
theorem i97_55 : q_ins 97 55 = some (.bipush 16, 2, (0, 0, 0, 0, 0)) := s97_3 7
theorem i97_57 : q_ins 97 57 = some (.if_icmp .ge 37, 3, (0, 0, 0, 0, 0)) := s97_3 9
theorem i97_60 : q_ins 97 60 = some (.iload_n 1, 1, (0, 0, 0, 0, 0)) := s97_3 12
theorem i97_61 : q_ins 97 61 = some (.bipush 6, 2, (0, 0, 0, 0, 0)) := s97_3 13
theorem i97_63 : q_ins 97 63 = some (.if_icmp .ge 31, 3, (0, 0, 0, 0, 0)) := s97_3 15
theorem i97_66 : q_ins 97 66 = some (.aload_n 0, 1, (0, 0, 0, 0, 0)) := s97_4 2
theorem i97_67 : q_ins 97 67 = some (.getfield 47, 3, (77, 5, 0, 2, 0)) := s97_4 3
theorem i97_70 : q_ins 97 70 = some (.iload_n 2, 1, (0, 0, 0, 0, 0)) := s97_4 6
theorem i97_71 : q_ins 97 71 = some (.invokevirtual 122, 3, (154, 63, 2, 0, 2)) := s97_4 7
theorem i97_74 : q_ins 97 74 = some (.iconst (-1), 1, (0, 0, 0, 0, 0)) := s97_4 10
theorem i97_75 : q_ins 97 75 = some (.if_icmp .eq 13, 3, (0, 0, 0, 0, 0)) := s97_4 11
theorem i97_78 : q_ins 97 78 = some (.aload_n 0, 1, (0, 0, 0, 0, 0)) := s97_4 14
theorem i97_79 : q_ins 97 79 = some (.getfield 18, 3, (68, 5, 4, 2, 0)) := s97_4 15
theorem i97_82 : q_ins 97 82 = some (.iload_n 1, 1, (0, 0, 0, 0, 0)) := s97_5 2
theorem i97_83 : q_ins 97 83 = some (.iload_n 2, 1, (0, 0, 0, 0, 0)) := s97_5 3
theorem i97_84 : q_ins 97 84 = some (.iastore, 1, (0, 0, 0, 0, 0)) := s97_5 4
theorem i97_85 : q_ins 97 85 = some (.iinc 1 1, 3, (0, 0, 0, 0, 0)) := s97_5 5
theorem i97_88 : q_ins 97 88 = some (.iinc 2 1, 3, (0, 0, 0, 0, 0)) := s97_5 8
theorem i97_91 : q_ins 97 91 = some (.goto (-37), 3, (0, 0, 0, 0, 0)) := s97_5 11
theorem i97_94 : q_ins 97 94 = some (.return_, 1, (0, 0, 0, 0, 0)) := s97_5 14
theorem s98_0 (j : Nat) : q_ins 98 j = q_at q_c98 j := rfl
theorem s98_1 (j : Nat) : q_ins 98 (j + 16) = q_at q_c98_1 j := s98_0 (j + 16)
theorem s98_2 (j : Nat) : q_ins 98 (j + 32) = q_at q_c98_2 j := s98_1 (j + 16)
theorem i98_0 : q_ins 98 0 = some (.aload_n 0, 1, (0, 0, 0, 0, 0)) := s98_0 0
theorem i98_1 : q_ins 98 1 = some (.getfield 27, 3, (71, 5, 7, 2, 0)) := s98_0 1
theorem i98_4 : q_ins 98 4 = some (.iconst (-1), 1, (0, 0, 0, 0, 0)) := s98_0 4
theorem i98_5 : q_ins 98 5 = some (.invokestatic 55, 3, (63, 8, 2, 2, 0)) := s98_0 5
theorem i98_8 : q_ins 98 8 = some (.iconst 0, 1, (0, 0, 0, 0, 0)) := s98_0 8
theorem i98_9 : q_ins 98 9 = some (.istore_n 1, 1, (0, 0, 0, 0, 0)) := s98_0 9
theorem i98_10 : q_ins 98 10 = some (.iload_n 1, 1, (0, 0, 0, 0, 0)) := s98_0 10
theorem i98_11 : q_ins 98 11 = some (.aload_n 0, 1, (0, 0, 0, 0, 0)) := s98_0 11
theorem i98_12 : q_ins 98 12 = some (.getfield 30, 3, (72, 5, 8, 0, 0)) := s98_0 12
theorem i98_15 : q_ins 98 15 = some (.if_icmp .ge 26, 3, (0, 0, 0, 0, 0)) := s98_0 15
theorem i98_18 : q_ins 98 18 = some (.aload_n 0, 1, (0, 0, 0, 0, 0)) := s98_1 2
theorem i98_19 : q_ins 98 19 = some (.getfield 27, 3, (71, 5, 7, 2, 0)) := s98_1 3
theorem i98_22 : q_ins 98 22 = some (.aload_n 0, 1, (0, 0, 0, 0, 0)) := s98_1 6
theorem i98_23 : q_ins 98 23 = some (.getfield 18, 3, (68, 5, 4, 2, 0)) := s98_1 7
theorem i98_26 : q_ins 98 26 = some (.iload_n 1, 1, (0, 0, 0, 0, 0)) := s98_1 10
theorem i98_27 : q_ins 98 27 = some (.iaload, 1, (0, 0, 0, 0, 0)) := s98_1 11
theorem i98_28 : q_ins 98 28 = some (.aload_n 0, 1, (0, 0, 0, 0, 0)) := s98_1 12
theorem i98_29 : q_ins 98 29 = some (.getfield 21, 3, (69, 5, 5, 2, 0)) := s98_1 13
theorem i98_32 : q_ins 98 32 = some (.iload_n 1, 1, (0, 0, 0, 0, 0)) := s98_2 0
theorem i98_33 : q_ins 98 33 = some (.iaload, 1, (0, 0, 0, 0, 0)) := s98_2 1
theorem i98_34 : q_ins 98 34 = some (.iastore, 1, (0, 0, 0, 0, 0)) := s98_2 2
theorem i98_35 : q_ins 98 35 = some (.iinc 1 1, 3, (0, 0, 0, 0, 0)) := s98_2 3
theorem i98_38 : q_ins 98 38 = some (.goto (-28), 3, (0, 0, 0, 0, 0)) := s98_2 6
theorem i98_41 : q_ins 98 41 = some (.return_, 1, (0, 0, 0, 0, 0)) := s98_2 9
theorem s99_0 (j : Nat) : q_ins 99 j = q_at q_c99 j := rfl
theorem s99_1 (j : Nat) : q_ins 99 (j + 16) = q_at q_c99_1 j := s99_0 (j + 16)
theorem s99_2 (j : Nat) : q_ins 99 (j + 32) = q_at q_c99_2 j := s99_1 (j + 16)
theorem s99_3 (j : Nat) : q_ins 99 (j + 48) = q_at q_c99_3 j := s99_2 (j + 16)
theorem s99_4 (j : Nat) : q_ins 99 (j + 64) = q_at q_c99_4 j := s99_3 (j + 16)
theorem s99_5 (j : Nat) : q_ins 99 (j + 80) = q_at q_c99_5 j := s99_4 (j + 16)
theorem s99_6 (j : Nat) : q_ins 99 (j + 96) = q_at q_c99_6 j := s99_5 (j + 16)
theorem s99_7 (j : Nat) : q_ins 99 (j + 112) = q_at q_c99_7 j := s99_6 (j + 16)
theorem i99_0 : q_ins 99 0 = some (.aload_n 0, 1, (0, 0, 0, 0, 0)) := s99_0 0
theorem i99_1 : q_ins 99 1 = some (.getfield 30, 3, (72, 5, 8, 0, 0)) := s99_0 1
theorem i99_4 : q_ins 99 4 = some (.iconst 2, 1, (0, 0, 0, 0, 0)) := s99_0 4
theorem i99_5 : q_ins 99 5 = some (.isub, 1, (0, 0, 0, 0, 0)) := s99_0 5
theorem i99_6 : q_ins 99 6 = some (.istore_n 1, 1, (0, 0, 0, 0, 0)) := s99_0 6
theorem i99_7 : q_ins 99 7 = some (.iload_n 1, 1, (0, 0, 0, 0, 0)) := s99_0 7
theorem i99_8 : q_ins 99 8 = some (.ifCond .lt 26, 3, (0, 0, 0, 0, 0)) := s99_0 8
theorem i99_11 : q_ins 99 11 = some (.aload_n 0, 1, (0, 0, 0, 0, 0)) := s99_0 11
theorem i99_12 : q_ins 99 12 = some (.getfield 21, 3, (69, 5, 5, 2, 0)) := s99_0 12
theorem i99_15 : q_ins 99 15 = some (.iload_n 1, 1, (0, 0, 0, 0, 0)) := s99_0 15
theorem i99_16 : q_ins 99 16 = some (.iaload, 1, (0, 0, 0, 0, 0)) := s99_1 0
theorem i99_17 : q_ins 99 17 = some (.aload_n 0, 1, (0, 0, 0, 0, 0)) := s99_1 1
theorem i99_18 : q_ins 99 18 = some (.getfield 21, 3, (69, 5, 5, 2, 0)) := s99_1 2
theorem i99_21 : q_ins 99 21 = some (.iload_n 1, 1, (0, 0, 0, 0, 0)) := s99_1 5
theorem i99_22 : q_ins 99 22 = some (.iconst 1, 1, (0, 0, 0, 0, 0)) := s99_1 6
theorem i99_23 : q_ins 99 23 = some (.iadd, 1, (0, 0, 0, 0, 0)) := s99_1 7
theorem i99_24 : q_ins 99 24 = some (.iaload, 1, (0, 0, 0, 0, 0)) := s99_1 8
theorem i99_25 : q_ins 99 25 = some (.if_icmp .le 9, 3, (0, 0, 0, 0, 0)) := s99_1 9
theorem i99_28 : q_ins 99 28 = some (.iinc 1 (-1), 3, (0, 0, 0, 0, 0)) := s99_1 12
theorem i99_31 : q_ins 99 31 = some (.goto (-24), 3, (0, 0, 0, 0, 0)) := s99_1 15
theorem i99_34 : q_ins 99 34 = some (.iload_n 1, 1, (0, 0, 0, 0, 0)) := s99_2 2
theorem i99_35 : q_ins 99 35 = some (.ifCond .ge 4, 3, (0, 0, 0, 0, 0)) := s99_2 3
theorem i99_38 : q_ins 99 38 = some (.return_, 1, (0, 0, 0, 0, 0)) := s99_2 6
theorem i99_39 : q_ins 99 39 = some (.aload_n 0, 1, (0, 0, 0, 0, 0)) := s99_2 7
theorem i99_40 : q_ins 99 40 = some (.getfield 30, 3, (72, 5, 8, 0, 0)) := s99_2 8
theorem i99_43 : q_ins 99 43 = some (.iconst 1, 1, (0, 0, 0, 0, 0)) := s99_2 11
theorem i99_44 : q_ins 99 44 = some (.isub, 1, (0, 0, 0, 0, 0)) := s99_2 12
theorem i99_45 : q_ins 99 45 = some (.istore_n 2, 1, (0, 0, 0, 0, 0)) := s99_2 13
theorem i99_46 : q_ins 99 46 = some (.iload_n 2, 1, (0, 0, 0, 0, 0)) := s99_2 14
theorem i99_47 : q_ins 99 47 = some (.iload_n 1, 1, (0, 0, 0, 0, 0)) := s99_2 15
theorem i99_48 : q_ins 99 48 = some (.if_icmp .le 24, 3, (0, 0, 0, 0, 0)) := s99_3 0
theorem i99_51 : q_ins 99 51 = some (.aload_n 0, 1, (0, 0, 0, 0, 0)) := s99_3 3
theorem i99_52 : q_ins 99 52 = some (.getfield 21, 3, (69, 5, 5, 2, 0)) := s99_3 4
theorem i99_55 : q_ins 99 55 = some (.iload_n 2, 1, (0, 0, 0, 0, 0)) := s99_3 7
theorem i99_56 : q_ins 99 56 = some (.iaload, 1, (0, 0, 0, 0, 0)) := s99_3 8
theorem i99_57 : q_ins 99 57 = some (.aload_n 0, 1, (0, 0, 0, 0, 0)) := s99_3 9
theorem i99_58 : q_ins 99 58 = some (.getfield 21, 3, (69, 5, 5, 2, 0)) := s99_3 10
theorem i99_61 : q_ins 99 61 = some (.iload_n 1, 1, (0, 0, 0, 0, 0)) := s99_3 13
theorem i99_62 : q_ins 99 62 = some (.iaload, 1, (0, 0, 0, 0, 0)) := s99_3 14
theorem i99_63 : q_ins 99 63 = some (.if_icmp .ge 9, 3, (0, 0, 0, 0, 0)) := s99_3 15
theorem i99_66 : q_ins 99 66 = some (.iinc 2 (-1), 3, (0, 0, 0, 0, 0)) := s99_4 2
theorem i99_69 : q_ins 99 69 = some (.goto (-23), 3, (0, 0, 0, 0, 0)) := s99_4 5
theorem i99_72 : q_ins 99 72 = some (.aload_n 0, 1, (0, 0, 0, 0, 0)) := s99_4 8
theorem i99_73 : q_ins 99 73 = some (.iload_n 1, 1, (0, 0, 0, 0, 0)) := s99_4 9
theorem i99_74 : q_ins 99 74 = some (.iload_n 2, 1, (0, 0, 0, 0, 0)) := s99_4 10
theorem i99_75 : q_ins 99 75 = some (.invokevirtual 125, 3, (155, 100, 3, 0, 5)) := s99_4 11
theorem i99_78 : q_ins 99 78 = some (.aload_n 0, 1, (0, 0, 0, 0, 0)) := s99_4 14
theorem i99_79 : q_ins 99 79 = some (.getfield 30, 3, (72, 5, 8, 0, 0)) := s99_4 15
theorem i99_82 : q_ins 99 82 = some (.iconst 1, 1, (0, 0, 0, 0, 0)) := s99_5 2
theorem i99_83 : q_ins 99 83 = some (.isub, 1, (0, 0, 0, 0, 0)) := s99_5 3
theorem i99_84 : q_ins 99 84 = some (.istore_n 3, 1, (0, 0, 0, 0, 0)) := s99_5 4
theorem i99_85 : q_ins 99 85 = some (.iload_n 1, 1, (0, 0, 0, 0, 0)) := s99_5 5
theorem i99_86 : q_ins 99 86 = some (.iconst 1, 1, (0, 0, 0, 0, 0)) := s99_5 6
theorem i99_87 : q_ins 99 87 = some (.iadd, 1, (0, 0, 0, 0, 0)) := s99_5 7
theorem i99_88 : q_ins 99 88 = some (.istore 4, 2, (0, 0, 0, 0, 0)) := s99_5 8
theorem i99_90 : q_ins 99 90 = some (.iload 4, 2, (0, 0, 0, 0, 0)) := s99_5 10
theorem i99_92 : q_ins 99 92 = some (.iload_n 3, 1, (0, 0, 0, 0, 0)) := s99_5 12
theorem i99_93 : q_ins 99 93 = some (.if_icmp .ge 19, 3, (0, 0, 0, 0, 0)) := s99_5 13
theorem i99_96 : q_ins 99 96 = some (.aload_n 0, 1, (0, 0, 0, 0, 0)) := s99_6 0
theorem i99_97 : q_ins 99 97 = some (.iload 4, 2, (0, 0, 0, 0, 0)) := s99_6 1
theorem i99_99 : q_ins 99 99 = some (.iload_n 3, 1, (0, 0, 0, 0, 0)) := s99_6 3
theorem i99_100 : q_ins 99 100 = some (.invokevirtual 125, 3, (155, 100, 3, 0, 5)) := s99_6 4
theorem i99_103 : q_ins 99 103 = some (.iinc 3 (-1), 3, (0, 0, 0, 0, 0)) := s99_6 7
theorem i99_106 : q_ins 99 106 = some (.iinc 4 1, 3, (0, 0, 0, 0, 0)) := s99_6 10
theorem i99_109 : q_ins 99 109 = some (.goto (-19), 3, (0, 0, 0, 0, 0)) := s99_6 13
theorem i99_112 : q_ins 99 112 = some (.return_, 1, (0, 0, 0, 0, 0)) := s99_7 0
theorem s100_0 (j : Nat) : q_ins 100 j = q_at q_c100 j := rfl
theorem s100_1 (j : Nat) : q_ins 100 (j + 16) = q_at q_c100_1 j := s100_0 (j + 16)
theorem i100_0 : q_ins 100 0 = some (.aload_n 0, 1, (0, 0, 0, 0, 0)) := s100_0 0
theorem i100_1 : q_ins 100 1 = some (.getfield 21, 3, (69, 5, 5, 2, 0)) := s100_0 1
theorem i100_4 : q_ins 100 4 = some (.iload_n 1, 1, (0, 0, 0, 0, 0)) := s100_0 4
theorem i100_5 : q_ins 100 5 = some (.iaload, 1, (0, 0, 0, 0, 0)) := s100_0 5
theorem i100_6 : q_ins 100 6 = some (.istore_n 3, 1, (0, 0, 0, 0, 0)) := s100_0 6
theorem i100_7 : q_ins 100 7 = some (.aload_n 0, 1, (0, 0, 0, 0, 0)) := s100_0 7
theorem i100_8 : q_ins 100 8 = some (.getfield 21, 3, (69, 5, 5, 2, 0)) := s100_0 8
theorem i100_11 : q_ins 100 11 = some (.iload_n 1, 1, (0, 0, 0, 0, 0)) := s100_0 11
theorem i100_12 : q_ins 100 12 = some (.aload_n 0, 1, (0, 0, 0, 0, 0)) := s100_0 12
theorem i100_13 : q_ins 100 13 = some (.getfield 21, 3, (69, 5, 5, 2, 0)) := s100_0 13
theorem i100_16 : q_ins 100 16 = some (.iload_n 2, 1, (0, 0, 0, 0, 0)) := s100_1 0
theorem i100_17 : q_ins 100 17 = some (.iaload, 1, (0, 0, 0, 0, 0)) := s100_1 1
theorem i100_18 : q_ins 100 18 = some (.iastore, 1, (0, 0, 0, 0, 0)) := s100_1 2
theorem i100_19 : q_ins 100 19 = some (.aload_n 0, 1, (0, 0, 0, 0, 0)) := s100_1 3
theorem i100_20 : q_ins 100 20 = some (.getfield 21, 3, (69, 5, 5, 2, 0)) := s100_1 4
theorem i100_23 : q_ins 100 23 = some (.iload_n 2, 1, (0, 0, 0, 0, 0)) := s100_1 7
theorem i100_24 : q_ins 100 24 = some (.iload_n 3, 1, (0, 0, 0, 0, 0)) := s100_1 8
theorem i100_25 : q_ins 100 25 = some (.iastore, 1, (0, 0, 0, 0, 0)) := s100_1 9
theorem i100_26 : q_ins 100 26 = some (.return_, 1, (0, 0, 0, 0, 0)) := s100_1 10
theorem s101_0 (j : Nat) : q_ins 101 j = q_at q_c101 j := rfl
theorem s101_1 (j : Nat) : q_ins 101 (j + 16) = q_at q_c101_1 j := s101_0 (j + 16)
theorem i101_0 : q_ins 101 0 = some (.iload_n 1, 1, (0, 0, 0, 0, 0)) := s101_0 0
theorem i101_1 : q_ins 101 1 = some (.sipush 990, 3, (0, 0, 0, 0, 0)) := s101_0 1
theorem i101_4 : q_ins 101 4 = some (.invokestatic 60, 3, (64, 12, 2, 2, 0)) := s101_0 4
theorem i101_7 : q_ins 101 7 = some (.ifCond .eq 14, 3, (0, 0, 0, 0, 0)) := s101_0 7
theorem i101_10 : q_ins 101 10 = some (.aload_n 0, 1, (0, 0, 0, 0, 0)) := s101_0 10
theorem i101_11 : q_ins 101 11 = some (.getfield 56, 3, (6, 9, 6, 2, 0)) := s101_0 11
theorem i101_14 : q_ins 101 14 = some (.iload_n 1, 1, (0, 0, 0, 0, 0)) := s101_0 14
theorem i101_15 : q_ins 101 15 = some (.invokevirtual 227, 3, (156, 102, 2, 0, 5)) := s101_0 15
theorem i101_18 : q_ins 101 18 = some (.goto 4, 3, (0, 0, 0, 0, 0)) := s101_1 2
theorem i101_21 : q_ins 101 21 = some (.iconst (-1), 1, (0, 0, 0, 0, 0)) := s101_1 5
theorem i101_22 : q_ins 101 22 = some (.ireturn, 1, (0, 0, 0, 0, 0)) := s101_1 6
theorem s102_0 (j : Nat) : q_ins 102 j = q_at q_c102 j := rfl
theorem s102_1 (j : Nat) : q_ins 102 (j + 16) = q_at q_c102_1 j := s102_0 (j + 16)
theorem s102_2 (j : Nat) : q_ins 102 (j + 32) = q_at q_c102_2 j := s102_1 (j + 16)
theorem s102_3 (j : Nat) : q_ins 102 (j + 48) = q_at q_c102_3 j := s102_2 (j + 16)
theorem s102_4 (j : Nat) : q_ins 102 (j + 64) = q_at q_c102_4 j := s102_3 (j + 16)
theorem s102_5 (j : Nat) : q_ins 102 (j + 80) = q_at q_c102_5 j := s102_4 (j + 16)
theorem s102_6 (j : Nat) : q_ins 102 (j + 96) = q_at q_c102_6 j := s102_5 (j + 16)
theorem s102_7 (j : Nat) : q_ins 102 (j + 112) = q_at q_c102_7 j := s102_6 (j + 16)
theorem s102_8 (j : Nat) : q_ins 102 (j + 128) = q_at q_c102_8 j := s102_7 (j + 16)
theorem s102_9 (j : Nat) : q_ins 102 (j + 144) = q_at q_c102_9 j := s102_8 (j + 16)
theorem i102_0 : q_ins 102 0 = some (.aload_n 0, 1, (0, 0, 0, 0, 0)) := s102_0 0
theorem i102_1 : q_ins 102 1 = some (.getfield 47, 3, (77, 5, 0, 2, 0)) := s102_0 1
theorem i102_4 : q_ins 102 4 = some (.invokevirtual 61, 3, (139, 69, 1, 0, 2)) := s102_0 4
theorem i102_7 : q_ins 102 7 = some (.istore_n 2, 1, (0, 0, 0, 0, 0)) := s102_0 7
theorem i102_8 : q_ins 102 8 = some (.iconst 0, 1, (0, 0, 0, 0, 0)) := s102_0 8
theorem i102_9 : q_ins 102 9 = some (.istore_n 3, 1, (0, 0, 0, 0, 0)) := s102_0 9
theorem i102_10 : q_ins 102 10 = some (.iconst 0, 1, (0, 0, 0, 0, 0)) := s102_0 10
theorem i102_11 : q_ins 102 11 = some (.istore 4, 2, (0, 0, 0, 0, 0)) := s102_0 11
theorem i102_13 : q_ins 102 13 = some (.iload 4, 2, (0, 0, 0, 0, 0)) := s102_0 13
theorem i102_15 : q_ins 102 15 = some (.aload_n 0, 1, (0, 0, 0, 0, 0)) := s102_0 15
theorem i102_16 : q_ins 102 16 = some (.getfield 47, 3, (77, 5, 0, 2, 0)) := s102_1 0
theorem i102_19 : q_ins 102 19 = some (.getfield 129, 3, (155, 2, 12, 0, 0)) := s102_1 3
theorem i102_22 : q_ins 102 22 = some (.if_icmp .ge 60, 3, (0, 0, 0, 0, 0)) := s102_1 6
theorem i102_25 : q_ins 102 25 = some (.aload_n 0, 1, (0, 0, 0, 0, 0)) := s102_1 9
theorem i102_26 : q_ins 102 26 = some (.getfield 51, 3, (78, 5, 1, 2, 0)) := s102_1 10
theorem i102_29 : q_ins 102 29 = some (.iload 4, 2, (0, 0, 0, 0, 0)) := s102_1 13
theorem i102_31 : q_ins 102 31 = some (.iload_n 2, 1, (0, 0, 0, 0, 0)) := s102_1 15
theorem i102_32 : q_ins 102 32 = some (.aload_n 0, 1, (0, 0, 0, 0, 0)) := s102_2 0
theorem i102_33 : q_ins 102 33 = some (.getfield 47, 3, (77, 5, 0, 2, 0)) := s102_2 1
theorem i102_36 : q_ins 102 36 = some (.getfield 67, 3, (147, 2, 11, 0, 0)) := s102_2 4
theorem i102_39 : q_ins 102 39 = some (.aload_n 0, 1, (0, 0, 0, 0, 0)) := s102_2 7
theorem i102_40 : q_ins 102 40 = some (.getfield 47, 3, (77, 5, 0, 2, 0)) := s102_2 8
theorem i102_43 : q_ins 102 43 = some (.getfield 70, 3, (148, 2, 3, 2, 0)) := s102_2 11
theorem i102_46 : q_ins 102 46 = some (.invokevirtual 132, 3, (157, 70, 5, 0, 0)) := s102_2 14
theorem i102_49 : q_ins 102 49 = some (.aload_n 0, 1, (0, 0, 0, 0, 0)) := s102_3 1
theorem i102_50 : q_ins 102 50 = some (.getfield 15, 3, (67, 5, 3, 2, 0)) := s102_3 2
theorem i102_53 : q_ins 102 53 = some (.iload 4, 2, (0, 0, 0, 0, 0)) := s102_3 5
theorem i102_55 : q_ins 102 55 = some (.aload_n 0, 1, (0, 0, 0, 0, 0)) := s102_3 7
theorem i102_56 : q_ins 102 56 = some (.getfield 51, 3, (78, 5, 1, 2, 0)) := s102_3 8
theorem i102_59 : q_ins 102 59 = some (.iload 4, 2, (0, 0, 0, 0, 0)) := s102_3 11
theorem i102_61 : q_ins 102 61 = some (.iconst 0, 1, (0, 0, 0, 0, 0)) := s102_3 13
theorem i102_62 : q_ins 102 62 = some (.invokevirtual 136, 3, (158, 79, 3, 0, 0)) := s102_3 14
theorem i102_65 : q_ins 102 65 = some (.iastore, 1, (0, 0, 0, 0, 0)) := s102_4 1
theorem i102_66 : q_ins 102 66 = some (.iload_n 3, 1, (0, 0, 0, 0, 0)) := s102_4 2
theorem i102_67 : q_ins 102 67 = some (.aload_n 0, 1, (0, 0, 0, 0, 0)) := s102_4 3
theorem i102_68 : q_ins 102 68 = some (.getfield 15, 3, (67, 5, 3, 2, 0)) := s102_4 4
theorem i102_71 : q_ins 102 71 = some (.iload 4, 2, (0, 0, 0, 0, 0)) := s102_4 7
theorem i102_73 : q_ins 102 73 = some (.iaload, 1, (0, 0, 0, 0, 0)) := s102_4 9
theorem i102_74 : q_ins 102 74 = some (.iadd, 1, (0, 0, 0, 0, 0)) := s102_4 10
theorem i102_75 : q_ins 102 75 = some (.istore_n 3, 1, (0, 0, 0, 0, 0)) := s102_4 11
theorem i102_76 : q_ins 102 76 = some (.iinc 4 1, 3, (0, 0, 0, 0, 0)) := s102_4 12
theorem i102_79 : q_ins 102 79 = some (.goto (-66), 3, (0, 0, 0, 0, 0)) := s102_4 15
theorem i102_82 : q_ins 102 82 = some (.iconst 1, 1, (0, 0, 0, 0, 0)) := s102_5 2
theorem i102_83 : q_ins 102 83 = some (.aload_n 0, 1, (0, 0, 0, 0, 0)) := s102_5 3
theorem i102_84 : q_ins 102 84 = some (.getfield 47, 3, (77, 5, 0, 2, 0)) := s102_5 4
theorem i102_87 : q_ins 102 87 = some (.getfield 129, 3, (155, 2, 12, 0, 0)) := s102_5 7
theorem i102_90 : q_ins 102 90 = some (.ishl, 1, (0, 0, 0, 0, 0)) := s102_5 10
theorem i102_91 : q_ins 102 91 = some (.iconst 1, 1, (0, 0, 0, 0, 0)) := s102_5 11
theorem i102_92 : q_ins 102 92 = some (.isub, 1, (0, 0, 0, 0, 0)) := s102_5 12
theorem i102_93 : q_ins 102 93 = some (.istore 4, 2, (0, 0, 0, 0, 0)) := s102_5 13
theorem i102_95 : q_ins 102 95 = some (.iconst 0, 1, (0, 0, 0, 0, 0)) := s102_5 15
theorem i102_96 : q_ins 102 96 = some (.istore 5, 2, (0, 0, 0, 0, 0)) := s102_6 0
theorem i102_98 : q_ins 102 98 = some (.iload 5, 2, (0, 0, 0, 0, 0)) := s102_6 2
theorem i102_100 : q_ins 102 100 = some (.iconst 1, 1, (0, 0, 0, 0, 0)) := s102_6 4
theorem i102_101 : q_ins 102 101 = some (.aload_n 0, 1, (0, 0, 0, 0, 0)) := s102_6 5
theorem i102_102 : q_ins 102 102 = some (.getfield 47, 3, (77, 5, 0, 2, 0)) := s102_6 6
theorem i102_105 : q_ins 102 105 = some (.getfield 129, 3, (155, 2, 12, 0, 0)) := s102_6 9
theorem i102_108 : q_ins 102 108 = some (.ishl, 1, (0, 0, 0, 0, 0)) := s102_6 12
theorem i102_109 : q_ins 102 109 = some (.if_icmp .ge 38, 3, (0, 0, 0, 0, 0)) := s102_6 13
theorem i102_112 : q_ins 102 112 = some (.iload 5, 2, (0, 0, 0, 0, 0)) := s102_7 0
theorem i102_114 : q_ins 102 114 = some (.invokestatic 79, 3, (145, 71, 1, 2, 0)) := s102_7 2
theorem i102_117 : q_ins 102 117 = some (.iload 4, 2, (0, 0, 0, 0, 0)) := s102_7 5
theorem i102_119 : q_ins 102 119 = some (.invokestatic 79, 3, (145, 71, 1, 2, 0)) := s102_7 7
theorem i102_122 : q_ins 102 122 = some (.if_icmp .ge 19, 3, (0, 0, 0, 0, 0)) := s102_7 10
theorem i102_125 : q_ins 102 125 = some (.iload_n 3, 1, (0, 0, 0, 0, 0)) := s102_7 13
theorem i102_126 : q_ins 102 126 = some (.aload_n 0, 1, (0, 0, 0, 0, 0)) := s102_7 14
theorem i102_127 : q_ins 102 127 = some (.iload 5, 2, (0, 0, 0, 0, 0)) := s102_7 15
theorem i102_129 : q_ins 102 129 = some (.invokevirtual 139, 3, (159, 103, 2, 0, 5)) := s102_8 1
theorem i102_132 : q_ins 102 132 = some (.isub, 1, (0, 0, 0, 0, 0)) := s102_8 4
theorem i102_133 : q_ins 102 133 = some (.iload_n 1, 1, (0, 0, 0, 0, 0)) := s102_8 5
theorem i102_134 : q_ins 102 134 = some (.if_icmp .gt 7, 3, (0, 0, 0, 0, 0)) := s102_8 6
theorem i102_137 : q_ins 102 137 = some (.iload 5, 2, (0, 0, 0, 0, 0)) := s102_8 9
theorem i102_139 : q_ins 102 139 = some (.istore 4, 2, (0, 0, 0, 0, 0)) := s102_8 11
theorem i102_141 : q_ins 102 141 = some (.iinc 5 1, 3, (0, 0, 0, 0, 0)) := s102_8 13
theorem i102_144 : q_ins 102 144 = some (.goto (-46), 3, (0, 0, 0, 0, 0)) := s102_9 0
theorem i102_147 : q_ins 102 147 = some (.iload 4, 2, (0, 0, 0, 0, 0)) := s102_9 3
theorem i102_149 : q_ins 102 149 = some (.ireturn, 1, (0, 0, 0, 0, 0)) := s102_9 5
theorem s103_0 (j : Nat) : q_ins 103 j = q_at q_c103 j := rfl
theorem s103_1 (j : Nat) : q_ins 103 (j + 16) = q_at q_c103_1 j := s103_0 (j + 16)
theorem s103_2 (j : Nat) : q_ins 103 (j + 32) = q_at q_c103_2 j := s103_1 (j + 16)
theorem i103_0 : q_ins 103 0 = some (.iconst 0, 1, (0, 0, 0, 0, 0)) := s103_0 0
theorem i103_1 : q_ins 103 1 = some (.istore_n 2, 1, (0, 0, 0, 0, 0)) := s103_0 1
theorem i103_2 : q_ins 103 2 = some (.iconst 0, 1, (0, 0, 0, 0, 0)) := s103_0 2
theorem i103_3 : q_ins 103 3 = some (.istore_n 3, 1, (0, 0, 0, 0, 0)) := s103_0 3
theorem i103_4 : q_ins 103 4 = some (.iload_n 3, 1, (0, 0, 0, 0, 0)) := s103_0 4
theorem i103_5 : q_ins 103 5 = some (.bipush 10, 2, (0, 0, 0, 0, 0)) := s103_0 5
theorem i103_7 : q_ins 103 7 = some (.if_icmp .ge 26, 3, (0, 0, 0, 0, 0)) := s103_0 7
theorem i103_10 : q_ins 103 10 = some (.iload_n 1, 1, (0, 0, 0, 0, 0)) := s103_0 10
theorem i103_11 : q_ins 103 11 = some (.iload_n 3, 1, (0, 0, 0, 0, 0)) := s103_0 11
theorem i103_12 : q_ins 103 12 = some (.ishr, 1, (0, 0, 0, 0, 0)) := s103_0 12
theorem i103_13 : q_ins 103 13 = some (.iconst 1, 1, (0, 0, 0, 0, 0)) := s103_0 13
theorem i103_14 : q_ins 103 14 = some (.iand, 1, (0, 0, 0, 0, 0)) := s103_0 14
theorem i103_15 : q_ins 103 15 = some (.ifCond .eq 12, 3, (0, 0, 0, 0, 0)) := s103_0 15
theorem i103_18 : q_ins 103 18 = some (.iload_n 2, 1, (0, 0, 0, 0, 0)) := s103_1 2
theorem i103_19 : q_ins 103 19 = some (.aload_n 0, 1, (0, 0, 0, 0, 0)) := s103_1 3
theorem i103_20 : q_ins 103 20 = some (.getfield 15, 3, (67, 5, 3, 2, 0)) := s103_1 4
theorem i103_23 : q_ins 103 23 = some (.iload_n 3, 1, (0, 0, 0, 0, 0)) := s103_1 7
theorem i103_24 : q_ins 103 24 = some (.iaload, 1, (0, 0, 0, 0, 0)) := s103_1 8
theorem i103_25 : q_ins 103 25 = some (.iadd, 1, (0, 0, 0, 0, 0)) := s103_1 9
theorem i103_26 : q_ins 103 26 = some (.istore_n 2, 1, (0, 0, 0, 0, 0)) := s103_1 10
theorem i103_27 : q_ins 103 27 = some (.iinc 3 1, 3, (0, 0, 0, 0, 0)) := s103_1 11
theorem i103_30 : q_ins 103 30 = some (.goto (-26), 3, (0, 0, 0, 0, 0)) := s103_1 14
theorem i103_33 : q_ins 103 33 = some (.iload_n 2, 1, (0, 0, 0, 0, 0)) := s103_2 1
theorem i103_34 : q_ins 103 34 = some (.ireturn, 1, (0, 0, 0, 0, 0)) := s103_2 2
theorem s104_0 (j : Nat) : q_ins 104 j = q_at q_c104 j := rfl
theorem s104_1 (j : Nat) : q_ins 104 (j + 16) = q_at q_c104_1 j := s104_0 (j + 16)
theorem i104_0 : q_ins 104 0 = some (.iload_n 1, 1, (0, 0, 0, 0, 0)) := s104_0 0
theorem i104_1 : q_ins 104 1 = some (.sipush 990, 3, (0, 0, 0, 0, 0)) := s104_0 1
theorem i104_4 : q_ins 104 4 = some (.invokestatic 60, 3, (64, 12, 2, 2, 0)) := s104_0 4
theorem i104_7 : q_ins 104 7 = some (.ifCond .eq 14, 3, (0, 0, 0, 0, 0)) := s104_0 7
theorem i104_10 : q_ins 104 10 = some (.aload_n 0, 1, (0, 0, 0, 0, 0)) := s104_0 10
theorem i104_11 : q_ins 104 11 = some (.getfield 56, 3, (6, 9, 6, 2, 0)) := s104_0 11
theorem i104_14 : q_ins 104 14 = some (.iload_n 1, 1, (0, 0, 0, 0, 0)) := s104_0 14
theorem i104_15 : q_ins 104 15 = some (.invokevirtual 230, 3, (160, 105, 2, 0, 5)) := s104_0 15
theorem i104_18 : q_ins 104 18 = some (.goto 4, 3, (0, 0, 0, 0, 0)) := s104_1 2
theorem i104_21 : q_ins 104 21 = some (.iconst (-1), 1, (0, 0, 0, 0, 0)) := s104_1 5
theorem i104_22 : q_ins 104 22 = some (.ireturn, 1, (0, 0, 0, 0, 0)) := s104_1 6
theorem s105_0 (j : Nat) : q_ins 105 j = q_at q_c105 j := rfl
theorem s105_1 (j : Nat) : q_ins 105 (j + 16) = q_at q_c105_1 j := s105_0 (j + 16)
theorem s105_2 (j : Nat) : q_ins 105 (j + 32) = q_at q_c105_2 j := s105_1 (j + 16)
theorem s105_3 (j : Nat) : q_ins 105 (j + 48) = q_at q_c105_3 j := s105_2 (j + 16)
theorem s105_4 (j : Nat) : q_ins 105 (j + 64) = q_at q_c105_4 j := s105_3 (j + 16)
theorem s105_5 (j : Nat) : q_ins 105 (j + 80) = q_at q_c105_5 j := s105_4 (j + 16)
theorem s105_6 (j : Nat) : q_ins 105 (j + 96) = q_at q_c105_6 j := s105_5 (j + 16)
theorem s105_7 (j : Nat) : q_ins 105 (j + 112) = q_at q_c105_7 j := s105_6 (j + 16)
theorem i105_0 : q_ins 105 0 = some (.aload_n 0, 1, (0, 0, 0, 0, 0)) := s105_0 0
theorem i105_1 : q_ins 105 1 = some (.getfield 47, 3, (77, 5, 0, 2, 0)) := s105_0 1
theorem i105_4 : q_ins 105 4 = some (.invokevirtual 61, 3, (139, 69, 1, 0, 2)) := s105_0 4
theorem i105_7 : q_ins 105 7 = some (.istore_n 2, 1, (0, 0, 0, 0, 0)) := s105_0 7
theorem i105_8 : q_ins 105 8 = some (.iload_n 2, 1, (0, 0, 0, 0, 0)) := s105_0 8
theorem i105_9 : q_ins 105 9 = some (.aload_n 0, 1, (0, 0, 0, 0, 0)) := s105_0 9
theorem i105_10 : q_ins 105 10 = some (.getfield 47, 3, (77, 5, 0, 2, 0)) := s105_0 10
theorem i105_13 : q_ins 105 13 = some (.getfield 67, 3, (147, 2, 11, 0, 0)) := s105_0 13
theorem i105_16 : q_ins 105 16 = some (.iconst (-1), 1, (0, 0, 0, 0, 0)) := s105_1 0
theorem i105_17 : q_ins 105 17 = some (.ixor, 1, (0, 0, 0, 0, 0)) := s105_1 1
theorem i105_18 : q_ins 105 18 = some (.iand, 1, (0, 0, 0, 0, 0)) := s105_1 2
theorem i105_19 : q_ins 105 19 = some (.istore_n 3, 1, (0, 0, 0, 0, 0)) := s105_1 3
theorem i105_20 : q_ins 105 20 = some (.iconst (-1), 1, (0, 0, 0, 0, 0)) := s105_1 4
theorem i105_21 : q_ins 105 21 = some (.istore 4, 2, (0, 0, 0, 0, 0)) := s105_1 5
theorem i105_23 : q_ins 105 23 = some (.iconst 0, 1, (0, 0, 0, 0, 0)) := s105_1 7
theorem i105_24 : q_ins 105 24 = some (.istore 5, 2, (0, 0, 0, 0, 0)) := s105_1 8
theorem i105_26 : q_ins 105 26 = some (.iload 5, 2, (0, 0, 0, 0, 0)) := s105_1 10
theorem i105_28 : q_ins 105 28 = some (.bipush 63, 2, (0, 0, 0, 0, 0)) := s105_1 12
theorem i105_30 : q_ins 105 30 = some (.if_icmp .gt 85, 3, (0, 0, 0, 0, 0)) := s105_1 14
theorem i105_33 : q_ins 105 33 = some (.iload 4, 2, (0, 0, 0, 0, 0)) := s105_2 1
theorem i105_35 : q_ins 105 35 = some (.iconst (-1), 1, (0, 0, 0, 0, 0)) := s105_2 3
theorem i105_36 : q_ins 105 36 = some (.if_icmp .eq 16, 3, (0, 0, 0, 0, 0)) := s105_2 4
theorem i105_39 : q_ins 105 39 = some (.iload 5, 2, (0, 0, 0, 0, 0)) := s105_2 7
theorem i105_41 : q_ins 105 41 = some (.invokestatic 79, 3, (145, 71, 1, 2, 0)) := s105_2 9
theorem i105_44 : q_ins 105 44 = some (.iload 4, 2, (0, 0, 0, 0, 0)) := s105_2 12
theorem i105_46 : q_ins 105 46 = some (.invokestatic 79, 3, (145, 71, 1, 2, 0)) := s105_2 14
theorem i105_49 : q_ins 105 49 = some (.if_icmp .ge 7, 3, (0, 0, 0, 0, 0)) := s105_3 1
theorem i105_52 : q_ins 105 52 = some (.iconst 1, 1, (0, 0, 0, 0, 0)) := s105_3 4
theorem i105_53 : q_ins 105 53 = some (.goto 4, 3, (0, 0, 0, 0, 0)) := s105_3 5
theorem i105_56 : q_ins 105 56 = some (.iconst 0, 1, (0, 0, 0, 0, 0)) := s105_3 8
theorem i105_57 : q_ins 105 57 = some (.istore 6, 2, (0, 0, 0, 0, 0)) := s105_3 9
theorem i105_59 : q_ins 105 59 = some (.iload 6, 2, (0, 0, 0, 0, 0)) := s105_3 11
theorem i105_61 : q_ins 105 61 = some (.ifCond .eq 48, 3, (0, 0, 0, 0, 0)) := s105_3 13
theorem i105_64 : q_ins 105 64 = some (.iload 5, 2, (0, 0, 0, 0, 0)) := s105_4 0
theorem i105_66 : q_ins 105 66 = some (.iload_n 3, 1, (0, 0, 0, 0, 0)) := s105_4 2
theorem i105_67 : q_ins 105 67 = some (.iconst (-1), 1, (0, 0, 0, 0, 0)) := s105_4 3
theorem i105_68 : q_ins 105 68 = some (.ixor, 1, (0, 0, 0, 0, 0)) := s105_4 4
theorem i105_69 : q_ins 105 69 = some (.iand, 1, (0, 0, 0, 0, 0)) := s105_4 5
theorem i105_70 : q_ins 105 70 = some (.ifCond .ne 39, 3, (0, 0, 0, 0, 0)) := s105_4 6
theorem i105_73 : q_ins 105 73 = some (.aload_n 0, 1, (0, 0, 0, 0, 0)) := s105_4 9
theorem i105_74 : q_ins 105 74 = some (.getfield 51, 3, (78, 5, 1, 2, 0)) := s105_4 10
theorem i105_77 : q_ins 105 77 = some (.iload_n 2, 1, (0, 0, 0, 0, 0)) := s105_4 13
theorem i105_78 : q_ins 105 78 = some (.aload_n 0, 1, (0, 0, 0, 0, 0)) := s105_4 14
theorem i105_79 : q_ins 105 79 = some (.getfield 47, 3, (77, 5, 0, 2, 0)) := s105_4 15
theorem i105_82 : q_ins 105 82 = some (.getfield 67, 3, (147, 2, 11, 0, 0)) := s105_5 2
theorem i105_85 : q_ins 105 85 = some (.iload 5, 2, (0, 0, 0, 0, 0)) := s105_5 5
theorem i105_87 : q_ins 105 87 = some (.ior, 1, (0, 0, 0, 0, 0)) := s105_5 7
theorem i105_88 : q_ins 105 88 = some (.aload_n 0, 1, (0, 0, 0, 0, 0)) := s105_5 8
theorem i105_89 : q_ins 105 89 = some (.getfield 47, 3, (77, 5, 0, 2, 0)) := s105_5 9
theorem i105_92 : q_ins 105 92 = some (.getfield 70, 3, (148, 2, 3, 2, 0)) := s105_5 12
theorem i105_95 : q_ins 105 95 = some (.iload_n 1, 1, (0, 0, 0, 0, 0)) := s105_5 15
theorem i105_96 : q_ins 105 96 = some (.iconst 1, 1, (0, 0, 0, 0, 0)) := s105_6 0
theorem i105_97 : q_ins 105 97 = some (.iadd, 1, (0, 0, 0, 0, 0)) := s105_6 1
theorem i105_98 : q_ins 105 98 = some (.invokevirtual 73, 3, (140, 90, 5, 0, 0)) := s105_6 2
theorem i105_101 : q_ins 105 101 = some (.iload_n 1, 1, (0, 0, 0, 0, 0)) := s105_6 5
theorem i105_102 : q_ins 105 102 = some (.if_icmp .gt 7, 3, (0, 0, 0, 0, 0)) := s105_6 6
theorem i105_105 : q_ins 105 105 = some (.iload 5, 2, (0, 0, 0, 0, 0)) := s105_6 9
theorem i105_107 : q_ins 105 107 = some (.istore 4, 2, (0, 0, 0, 0, 0)) := s105_6 11
theorem i105_109 : q_ins 105 109 = some (.iinc 5 1, 3, (0, 0, 0, 0, 0)) := s105_6 13
theorem i105_112 : q_ins 105 112 = some (.goto (-86), 3, (0, 0, 0, 0, 0)) := s105_7 0
theorem i105_115 : q_ins 105 115 = some (.iload 4, 2, (0, 0, 0, 0, 0)) := s105_7 3
theorem i105_117 : q_ins 105 117 = some (.ireturn, 1, (0, 0, 0, 0, 0)) := s105_7 5
theorem s106_0 (j : Nat) : q_ins 106 j = q_at q_c106 j := rfl
theorem s106_1 (j : Nat) : q_ins 106 (j + 16) = q_at q_c106_1 j := s106_0 (j + 16)
theorem s106_2 (j : Nat) : q_ins 106 (j + 32) = q_at q_c106_2 j := s106_1 (j + 16)
theorem s106_3 (j : Nat) : q_ins 106 (j + 48) = q_at q_c106_3 j := s106_2 (j + 16)
theorem s106_4 (j : Nat) : q_ins 106 (j + 64) = q_at q_c106_4 j := s106_3 (j + 16)
theorem s106_5 (j : Nat) : q_ins 106 (j + 80) = q_at q_c106_5 j := s106_4 (j + 16)
theorem i106_0 : q_ins 106 0 = some (.iload_n 1, 1, (0, 0, 0, 0, 0)) := s106_0 0
theorem i106_1 : q_ins 106 1 = some (.iconst (-1), 1, (0, 0, 0, 0, 0)) := s106_0 1
theorem i106_2 : q_ins 106 2 = some (.if_icmp .ne 13, 3, (0, 0, 0, 0, 0)) := s106_0 2
theorem i106_5 : q_ins 106 5 = some (.aload_n 0, 1, (0, 0, 0, 0, 0)) := s106_0 5
theorem i106_6 : q_ins 106 6 = some (.getfield 10, 3, (0, 9, 0, 2, 0)) := s106_0 6
theorem i106_9 : q_ins 106 9 = some (.iconst 0, 1, (0, 0, 0, 0, 0)) := s106_0 9
theorem i106_10 : q_ins 106 10 = some (.putfield 233, 3, (156, 2, 13, 0, 0)) := s106_0 10
theorem i106_13 : q_ins 106 13 = some (.iconst 0, 1, (0, 0, 0, 0, 0)) := s106_0 13
theorem i106_14 : q_ins 106 14 = some (.ireturn, 1, (0, 0, 0, 0, 0)) := s106_0 14
theorem i106_15 : q_ins 106 15 = some (.iload_n 1, 1, (0, 0, 0, 0, 0)) := s106_0 15
theorem i106_16 : q_ins 106 16 = some (.bipush 99, 2, (0, 0, 0, 0, 0)) := s106_1 0
theorem i106_18 : q_ins 106 18 = some (.invokestatic 60, 3, (64, 12, 2, 2, 0)) := s106_1 2
theorem i106_21 : q_ins 106 21 = some (.ifCond .eq 20, 3, (0, 0, 0, 0, 0)) := s106_1 5
theorem i106_24 : q_ins 106 24 = some (.aload_n 0, 1, (0, 0, 0, 0, 0)) := s106_1 8
theorem i106_25 : q_ins 106 25 = some (.getfield 10, 3, (0, 9, 0, 2, 0)) := s106_1 9
theorem i106_28 : q_ins 106 28 = some (.getfield 233, 3, (156, 2, 13, 0, 0)) := s106_1 12
theorem i106_31 : q_ins 106 31 = some (.aload_n 0, 1, (0, 0, 0, 0, 0)) := s106_1 15
theorem i106_32 : q_ins 106 32 = some (.getfield 10, 3, (0, 9, 0, 2, 0)) := s106_2 0
theorem i106_35 : q_ins 106 35 = some (.getfield 176, 3, (142, 2, 12, 0, 0)) := s106_2 3
theorem i106_38 : q_ins 106 38 = some (.if_icmp .lt 6, 3, (0, 0, 0, 0, 0)) := s106_2 6
theorem i106_41 : q_ins 106 41 = some (.bipush (-2), 2, (0, 0, 0, 0, 0)) := s106_2 9
theorem i106_43 : q_ins 106 43 = some (.ireturn, 1, (0, 0, 0, 0, 0)) := s106_2 11
theorem i106_44 : q_ins 106 44 = some (.aload_n 0, 1, (0, 0, 0, 0, 0)) := s106_2 12
theorem i106_45 : q_ins 106 45 = some (.getfield 10, 3, (0, 9, 0, 2, 0)) := s106_2 13
theorem i106_48 : q_ins 106 48 = some (.getfield 236, 3, (157, 2, 7, 2, 0)) := s106_3 0
theorem i106_51 : q_ins 106 51 = some (.aload_n 0, 1, (0, 0, 0, 0, 0)) := s106_3 3
theorem i106_52 : q_ins 106 52 = some (.getfield 10, 3, (0, 9, 0, 2, 0)) := s106_3 4
theorem i106_55 : q_ins 106 55 = some (.getfield 233, 3, (156, 2, 13, 0, 0)) := s106_3 7
theorem i106_58 : q_ins 106 58 = some (.iload_n 1, 1, (0, 0, 0, 0, 0)) := s106_3 10
theorem i106_59 : q_ins 106 59 = some (.iastore, 1, (0, 0, 0, 0, 0)) := s106_3 11
theorem i106_60 : q_ins 106 60 = some (.aload_n 0, 1, (0, 0, 0, 0, 0)) := s106_3 12
theorem i106_61 : q_ins 106 61 = some (.getfield 10, 3, (0, 9, 0, 2, 0)) := s106_3 13
theorem i106_64 : q_ins 106 64 = some (.dup, 1, (0, 0, 0, 0, 0)) := s106_4 0
theorem i106_65 : q_ins 106 65 = some (.getfield 233, 3, (156, 2, 13, 0, 0)) := s106_4 1
theorem i106_68 : q_ins 106 68 = some (.iconst 1, 1, (0, 0, 0, 0, 0)) := s106_4 4
theorem i106_69 : q_ins 106 69 = some (.iadd, 1, (0, 0, 0, 0, 0)) := s106_4 5
theorem i106_70 : q_ins 106 70 = some (.putfield 233, 3, (156, 2, 13, 0, 0)) := s106_4 6
theorem i106_73 : q_ins 106 73 = some (.aload_n 0, 1, (0, 0, 0, 0, 0)) := s106_4 9
theorem i106_74 : q_ins 106 74 = some (.getfield 10, 3, (0, 9, 0, 2, 0)) := s106_4 10
theorem i106_77 : q_ins 106 77 = some (.getfield 233, 3, (156, 2, 13, 0, 0)) := s106_4 13
theorem i106_80 : q_ins 106 80 = some (.ireturn, 1, (0, 0, 0, 0, 0)) := s106_5 0
theorem s107_0 (j : Nat) : q_ins 107 j = q_at q_c107 j := rfl
theorem s107_1 (j : Nat) : q_ins 107 (j + 16) = q_at q_c107_1 j := s107_0 (j + 16)
theorem i107_0 : q_ins 107 0 = some (.iload_n 1, 1, (0, 0, 0, 0, 0)) := s107_0 0
theorem i107_1 : q_ins 107 1 = some (.iconst (-1), 1, (0, 0, 0, 0, 0)) := s107_0 1
theorem i107_2 : q_ins 107 2 = some (.if_icmp .ge 7, 3, (0, 0, 0, 0, 0)) := s107_0 2
theorem i107_5 : q_ins 107 5 = some (.iconst (-1), 1, (0, 0, 0, 0, 0)) := s107_0 5
theorem i107_6 : q_ins 107 6 = some (.goto 11, 3, (0, 0, 0, 0, 0)) := s107_0 6
theorem i107_9 : q_ins 107 9 = some (.aload_n 0, 1, (0, 0, 0, 0, 0)) := s107_0 9
theorem i107_10 : q_ins 107 10 = some (.getfield 56, 3, (6, 9, 6, 2, 0)) := s107_0 10
theorem i107_13 : q_ins 107 13 = some (.iload_n 1, 1, (0, 0, 0, 0, 0)) := s107_0 13
theorem i107_14 : q_ins 107 14 = some (.invokevirtual 239, 3, (161, 108, 2, 0, 5)) := s107_0 14
theorem i107_17 : q_ins 107 17 = some (.ireturn, 1, (0, 0, 0, 0, 0)) := s107_1 1
theorem s108_0 (j : Nat) : q_ins 108 j = q_at q_c108 j := rfl
theorem s108_1 (j : Nat) : q_ins 108 (j + 16) = q_at q_c108_1 j := s108_0 (j + 16)
theorem s108_2 (j : Nat) : q_ins 108 (j + 32) = q_at q_c108_2 j := s108_1 (j + 16)
theorem s108_3 (j : Nat) : q_ins 108 (j + 48) = q_at q_c108_3 j := s108_2 (j + 16)
theorem s108_4 (j : Nat) : q_ins 108 (j + 64) = q_at q_c108_4 j := s108_3 (j + 16)
theorem i108_0 : q_ins 108 0 = some (.aload_n 0, 1, (0, 0, 0, 0, 0)) := s108_0 0
theorem i108_1 : q_ins 108 1 = some (.getfield 47, 3, (77, 5, 0, 2, 0)) := s108_0 1
theorem i108_4 : q_ins 108 4 = some (.invokevirtual 61, 3, (139, 69, 1, 0, 2)) := s108_0 4
theorem i108_7 : q_ins 108 7 = some (.istore_n 2, 1, (0, 0, 0, 0, 0)) := s108_0 7
theorem i108_8 : q_ins 108 8 = some (.iconst 0, 1, (0, 0, 0, 0, 0)) := s108_0 8
theorem i108_9 : q_ins 108 9 = some (.istore_n 3, 1, (0, 0, 0, 0, 0)) := s108_0 9
theorem i108_10 : q_ins 108 10 = some (.iconst 0, 1, (0, 0, 0, 0, 0)) := s108_0 10
theorem i108_11 : q_ins 108 11 = some (.istore 4, 2, (0, 0, 0, 0, 0)) := s108_0 11
theorem i108_13 : q_ins 108 13 = some (.iload 4, 2, (0, 0, 0, 0, 0)) := s108_0 13
theorem i108_15 : q_ins 108 15 = some (.bipush 63, 2, (0, 0, 0, 0, 0)) := s108_0 15
theorem i108_17 : q_ins 108 17 = some (.if_icmp .gt 38, 3, (0, 0, 0, 0, 0)) := s108_1 1
theorem i108_20 : q_ins 108 20 = some (.iload 4, 2, (0, 0, 0, 0, 0)) := s108_1 4
theorem i108_22 : q_ins 108 22 = some (.iload_n 2, 1, (0, 0, 0, 0, 0)) := s108_1 6
theorem i108_23 : q_ins 108 23 = some (.iconst (-1), 1, (0, 0, 0, 0, 0)) := s108_1 7
theorem i108_24 : q_ins 108 24 = some (.ixor, 1, (0, 0, 0, 0, 0)) := s108_1 8
theorem i108_25 : q_ins 108 25 = some (.iand, 1, (0, 0, 0, 0, 0)) := s108_1 9
theorem i108_26 : q_ins 108 26 = some (.ifCond .ne 23, 3, (0, 0, 0, 0, 0)) := s108_1 10
theorem i108_29 : q_ins 108 29 = some (.aload_n 0, 1, (0, 0, 0, 0, 0)) := s108_1 13
theorem i108_30 : q_ins 108 30 = some (.iload 4, 2, (0, 0, 0, 0, 0)) := s108_1 14
theorem i108_32 : q_ins 108 32 = some (.invokevirtual 142, 3, (162, 109, 2, 0, 5)) := s108_2 0
theorem i108_35 : q_ins 108 35 = some (.ifCond .eq 14, 3, (0, 0, 0, 0, 0)) := s108_2 3
theorem i108_38 : q_ins 108 38 = some (.iload_n 3, 1, (0, 0, 0, 0, 0)) := s108_2 6
theorem i108_39 : q_ins 108 39 = some (.iload_n 1, 1, (0, 0, 0, 0, 0)) := s108_2 7
theorem i108_40 : q_ins 108 40 = some (.if_icmp .ne 6, 3, (0, 0, 0, 0, 0)) := s108_2 8
theorem i108_43 : q_ins 108 43 = some (.iload 4, 2, (0, 0, 0, 0, 0)) := s108_2 11
theorem i108_45 : q_ins 108 45 = some (.ireturn, 1, (0, 0, 0, 0, 0)) := s108_2 13
theorem i108_46 : q_ins 108 46 = some (.iinc 3 1, 3, (0, 0, 0, 0, 0)) := s108_2 14
theorem i108_49 : q_ins 108 49 = some (.iinc 4 1, 3, (0, 0, 0, 0, 0)) := s108_3 1
theorem i108_52 : q_ins 108 52 = some (.goto (-39), 3, (0, 0, 0, 0, 0)) := s108_3 4
theorem i108_55 : q_ins 108 55 = some (.iload_n 1, 1, (0, 0, 0, 0, 0)) := s108_3 7
theorem i108_56 : q_ins 108 56 = some (.iconst (-1), 1, (0, 0, 0, 0, 0)) := s108_3 8
theorem i108_57 : q_ins 108 57 = some (.if_icmp .ne 7, 3, (0, 0, 0, 0, 0)) := s108_3 9
theorem i108_60 : q_ins 108 60 = some (.iload_n 3, 1, (0, 0, 0, 0, 0)) := s108_3 12
theorem i108_61 : q_ins 108 61 = some (.goto 4, 3, (0, 0, 0, 0, 0)) := s108_3 13
theorem i108_64 : q_ins 108 64 = some (.iconst (-1), 1, (0, 0, 0, 0, 0)) := s108_4 0
theorem i108_65 : q_ins 108 65 = some (.ireturn, 1, (0, 0, 0, 0, 0)) := s108_4 1
theorem s109_0 (j : Nat) : q_ins 109 j = q_at q_c109 j := rfl
theorem s109_1 (j : Nat) : q_ins 109 (j + 16) = q_at q_c109_1 j := s109_0 (j + 16)
theorem s109_2 (j : Nat) : q_ins 109 (j + 32) = q_at q_c109_2 j := s109_1 (j + 16)
theorem s109_3 (j : Nat) : q_ins 109 (j + 48) = q_at q_c109_3 j := s109_2 (j + 16)
theorem s109_4 (j : Nat) : q_ins 109 (j + 64) = q_at q_c109_4 j := s109_3 (j + 16)
theorem i109_0 : q_ins 109 0 = some (.iconst 0, 1, (0, 0, 0, 0, 0)) := s109_0 0
theorem i109_1 : q_ins 109 1 = some (.istore_n 2, 1, (0, 0, 0, 0, 0)) := s109_0 1
theorem i109_2 : q_ins 109 2 = some (.iload_n 2, 1, (0, 0, 0, 0, 0)) := s109_0 2
theorem i109_3 : q_ins 109 3 = some (.aload_n 0, 1, (0, 0, 0, 0, 0)) := s109_0 3
theorem i109_4 : q_ins 109 4 = some (.getfield 47, 3, (77, 5, 0, 2, 0)) := s109_0 4
theorem i109_7 : q_ins 109 7 = some (.getfield 145, 3, (158, 2, 13, 0, 0)) := s109_0 7
theorem i109_10 : q_ins 109 10 = some (.if_icmp .ge 55, 3, (0, 0, 0, 0, 0)) := s109_0 10
theorem i109_13 : q_ins 109 13 = some (.aload_n 0, 1, (0, 0, 0, 0, 0)) := s109_0 13
theorem i109_14 : q_ins 109 14 = some (.getfield 51, 3, (78, 5, 1, 2, 0)) := s109_0 14
theorem i109_17 : q_ins 109 17 = some (.iload_n 2, 1, (0, 0, 0, 0, 0)) := s109_1 1
theorem i109_18 : q_ins 109 18 = some (.iload_n 1, 1, (0, 0, 0, 0, 0)) := s109_1 2
theorem i109_19 : q_ins 109 19 = some (.aload_n 0, 1, (0, 0, 0, 0, 0)) := s109_1 3
theorem i109_20 : q_ins 109 20 = some (.getfield 47, 3, (77, 5, 0, 2, 0)) := s109_1 4
theorem i109_23 : q_ins 109 23 = some (.getfield 67, 3, (147, 2, 11, 0, 0)) := s109_1 7
theorem i109_26 : q_ins 109 26 = some (.aload_n 0, 1, (0, 0, 0, 0, 0)) := s109_1 10
theorem i109_27 : q_ins 109 27 = some (.getfield 47, 3, (77, 5, 0, 2, 0)) := s109_1 11
theorem i109_30 : q_ins 109 30 = some (.getfield 70, 3, (148, 2, 3, 2, 0)) := s109_1 14
theorem i109_33 : q_ins 109 33 = some (.invokevirtual 132, 3, (157, 70, 5, 0, 0)) := s109_2 1
theorem i109_36 : q_ins 109 36 = some (.aload_n 0, 1, (0, 0, 0, 0, 0)) := s109_2 4
theorem i109_37 : q_ins 109 37 = some (.getfield 51, 3, (78, 5, 1, 2, 0)) := s109_2 5
theorem i109_40 : q_ins 109 40 = some (.iload_n 2, 1, (0, 0, 0, 0, 0)) := s109_2 8
theorem i109_41 : q_ins 109 41 = some (.iconst 0, 1, (0, 0, 0, 0, 0)) := s109_2 9
theorem i109_42 : q_ins 109 42 = some (.invokevirtual 136, 3, (158, 79, 3, 0, 0)) := s109_2 10
theorem i109_45 : q_ins 109 45 = some (.aload_n 0, 1, (0, 0, 0, 0, 0)) := s109_2 13
theorem i109_46 : q_ins 109 46 = some (.getfield 47, 3, (77, 5, 0, 2, 0)) := s109_2 14
theorem i109_49 : q_ins 109 49 = some (.getfield 148, 3, (159, 2, 7, 2, 0)) := s109_3 1
theorem i109_52 : q_ins 109 52 = some (.iload_n 2, 1, (0, 0, 0, 0, 0)) := s109_3 4
theorem i109_53 : q_ins 109 53 = some (.iaload, 1, (0, 0, 0, 0, 0)) := s109_3 5
theorem i109_54 : q_ins 109 54 = some (.if_icmp .eq 5, 3, (0, 0, 0, 0, 0)) := s109_3 6
theorem i109_57 : q_ins 109 57 = some (.iconst 0, 1, (0, 0, 0, 0, 0)) := s109_3 9
theorem i109_58 : q_ins 109 58 = some (.ireturn, 1, (0, 0, 0, 0, 0)) := s109_3 10
theorem i109_59 : q_ins 109 59 = some (.iinc 2 1, 3, (0, 0, 0, 0, 0)) := s109_3 11
theorem i109_62 : q_ins 109 62 = some (.goto (-60), 3, (0, 0, 0, 0, 0)) := s109_3 14
theorem i109_65 : q_ins 109 65 = some (.iconst 1, 1, (0, 0, 0, 0, 0)) := s109_4 1
theorem i109_66 : q_ins 109 66 = some (.ireturn, 1, (0, 0, 0, 0, 0)) := s109_4 2
theorem s110_0 (j : Nat) : q_ins 110 j = q_at q_c110 j := rfl
theorem s110_1 (j : Nat) : q_ins 110 (j + 16) = q_at q_c110_1 j := s110_0 (j + 16)
theorem i110_0 : q_ins 110 0 = some (.aload_n 0, 1, (0, 0, 0, 0, 0)) := s110_0 0
theorem i110_1 : q_ins 110 1 = some (.getfield 16, 3, (1, 9, 1, 2, 0)) := s110_0 1
theorem i110_4 : q_ins 110 4 = some (.aload_n 0, 1, (0, 0, 0, 0, 0)) := s110_0 4
theorem i110_5 : q_ins 110 5 = some (.getfield 10, 3, (0, 9, 0, 2, 0)) := s110_0 5
theorem i110_8 : q_ins 110 8 = some (.invokevirtual 242, 3, (163, 111, 2, 0, 2)) := s110_0 8
theorem i110_11 : q_ins 110 11 = some (.aload_n 0, 1, (0, 0, 0, 0, 0)) := s110_0 11
theorem i110_12 : q_ins 110 12 = some (.getfield 10, 3, (0, 9, 0, 2, 0)) := s110_0 12
theorem i110_15 : q_ins 110 15 = some (.getfield 246, 3, (160, 2, 17, 0, 0)) := s110_0 15
theorem i110_18 : q_ins 110 18 = some (.ireturn, 1, (0, 0, 0, 0, 0)) := s110_1 2
theorem s111_0 (j : Nat) : q_ins 111 j = q_at q_c111 j := rfl
theorem s111_1 (j : Nat) : q_ins 111 (j + 16) = q_at q_c111_1 j := s111_0 (j + 16)
theorem s111_2 (j : Nat) : q_ins 111 (j + 32) = q_at q_c111_2 j := s111_1 (j + 16)
theorem s111_3 (j : Nat) : q_ins 111 (j + 48) = q_at q_c111_3 j := s111_2 (j + 16)
theorem s111_4 (j : Nat) : q_ins 111 (j + 64) = q_at q_c111_4 j := s111_3 (j + 16)
theorem s111_5 (j : Nat) : q_ins 111 (j + 80) = q_at q_c111_5 j := s111_4 (j + 16)
theorem s111_6 (j : Nat) : q_ins 111 (j + 96) = q_at q_c111_6 j := s111_5 (j + 16)
theorem s111_7 (j : Nat) : q_ins 111 (j + 112) = q_at q_c111_7 j := s111_6 (j + 16)
theorem s111_8 (j : Nat) : q_ins 111 (j + 128) = q_at q_c111_8 j := s111_7 (j + 16)
theorem s111_9 (j : Nat) : q_ins 111 (j + 144) = q_at q_c111_9 j := s111_8 (j + 16)
theorem s111_10 (j : Nat) : q_ins 111 (j + 160) = q_at q_c111_10 j := s111_9 (j + 16)
theorem s111_11 (j : Nat) : q_ins 111 (j + 176) = q_at q_c111_11 j := s111_10 (j + 16)
theorem s111_12 (j : Nat) : q_ins 111 (j + 192) = q_at q_c111_12 j := s111_11 (j + 16)
theorem s111_13 (j : Nat) : q_ins 111 (j + 208) = q_at q_c111_13 j := s111_12 (j + 16)
theorem i111_0 : q_ins 111 0 = some (.aload_n 1, 1, (0, 0, 0, 0, 0)) := s111_0 0
theorem i111_1 : q_ins 111 1 = some (.getfield 9, 3, (7, 2, 0, 2, 0)) := s111_0 1
theorem i111_4 : q_ins 111 4 = some (.iconst 0, 1, (0, 0, 0, 0, 0)) := s111_0 4
theorem i111_5 : q_ins 111 5 = some (.aload_n 0, 1, (0, 0, 0, 0, 0)) := s111_0 5
theorem i111_6 : q_ins 111 6 = some (.getfield 9, 3, (7, 2, 0, 2, 0)) := s111_0 6
theorem i111_9 : q_ins 111 9 = some (.iconst 0, 1, (0, 0, 0, 0, 0)) := s111_0 9
theorem i111_10 : q_ins 111 10 = some (.bipush 6, 2, (0, 0, 0, 0, 0)) := s111_0 10
theorem i111_12 : q_ins 111 12 = some (.invokestatic 89, 3, (981, 0, 0, 8, 0)) := s111_0 12
theorem i111_15 : q_ins 111 15 = some (.aload_n 1, 1, (0, 0, 0, 0, 0)) := s111_0 15
theorem i111_16 : q_ins 111 16 = some (.getfield 15, 3, (8, 2, 1, 2, 0)) := s111_1 0
theorem i111_19 : q_ins 111 19 = some (.iconst 0, 1, (0, 0, 0, 0, 0)) := s111_1 3
theorem i111_20 : q_ins 111 20 = some (.aload_n 0, 1, (0, 0, 0, 0, 0)) := s111_1 4
theorem i111_21 : q_ins 111 21 = some (.getfield 15, 3, (8, 2, 1, 2, 0)) := s111_1 5
theorem i111_24 : q_ins 111 24 = some (.iconst 0, 1, (0, 0, 0, 0, 0)) := s111_1 8
theorem i111_25 : q_ins 111 25 = some (.bipush 6, 2, (0, 0, 0, 0, 0)) := s111_1 9
theorem i111_27 : q_ins 111 27 = some (.invokestatic 89, 3, (981, 0, 0, 8, 0)) := s111_1 11
theorem i111_30 : q_ins 111 30 = some (.aload_n 1, 1, (0, 0, 0, 0, 0)) := s111_1 14
theorem i111_31 : q_ins 111 31 = some (.getfield 18, 3, (9, 2, 2, 2, 0)) := s111_1 15
theorem i111_34 : q_ins 111 34 = some (.iconst 0, 1, (0, 0, 0, 0, 0)) := s111_2 2
theorem i111_35 : q_ins 111 35 = some (.aload_n 0, 1, (0, 0, 0, 0, 0)) := s111_2 3
theorem i111_36 : q_ins 111 36 = some (.getfield 18, 3, (9, 2, 2, 2, 0)) := s111_2 4
theorem i111_39 : q_ins 111 39 = some (.iconst 0, 1, (0, 0, 0, 0, 0)) := s111_2 7
theorem i111_40 : q_ins 111 40 = some (.bipush 6, 2, (0, 0, 0, 0, 0)) := s111_2 8
theorem i111_42 : q_ins 111 42 = some (.invokestatic 89, 3, (981, 0, 0, 8, 0)) := s111_2 10
theorem i111_45 : q_ins 111 45 = some (.aload_n 1, 1, (0, 0, 0, 0, 0)) := s111_2 13
theorem i111_46 : q_ins 111 46 = some (.getfield 21, 3, (10, 2, 3, 2, 0)) := s111_2 14
theorem i111_49 : q_ins 111 49 = some (.iconst 0, 1, (0, 0, 0, 0, 0)) := s111_3 1
theorem i111_50 : q_ins 111 50 = some (.aload_n 0, 1, (0, 0, 0, 0, 0)) := s111_3 2
theorem i111_51 : q_ins 111 51 = some (.getfield 21, 3, (10, 2, 3, 2, 0)) := s111_3 3
theorem i111_54 : q_ins 111 54 = some (.iconst 0, 1, (0, 0, 0, 0, 0)) := s111_3 6
theorem i111_55 : q_ins 111 55 = some (.bipush 6, 2, (0, 0, 0, 0, 0)) := s111_3 7
theorem i111_57 : q_ins 111 57 = some (.invokestatic 89, 3, (981, 0, 0, 8, 0)) := s111_3 9
theorem i111_60 : q_ins 111 60 = some (.aload_n 1, 1, (0, 0, 0, 0, 0)) := s111_3 12
theorem i111_61 : q_ins 111 61 = some (.getfield 24, 3, (11, 2, 4, 2, 0)) := s111_3 13
theorem i111_64 : q_ins 111 64 = some (.iconst 0, 1, (0, 0, 0, 0, 0)) := s111_4 0
theorem i111_65 : q_ins 111 65 = some (.aload_n 0, 1, (0, 0, 0, 0, 0)) := s111_4 1
theorem i111_66 : q_ins 111 66 = some (.getfield 24, 3, (11, 2, 4, 2, 0)) := s111_4 2
theorem i111_69 : q_ins 111 69 = some (.iconst 0, 1, (0, 0, 0, 0, 0)) := s111_4 5
theorem i111_70 : q_ins 111 70 = some (.bipush 6, 2, (0, 0, 0, 0, 0)) := s111_4 6
theorem i111_72 : q_ins 111 72 = some (.invokestatic 89, 3, (981, 0, 0, 8, 0)) := s111_4 8
theorem i111_75 : q_ins 111 75 = some (.aload_n 1, 1, (0, 0, 0, 0, 0)) := s111_4 11
theorem i111_76 : q_ins 111 76 = some (.getfield 27, 3, (12, 2, 5, 2, 0)) := s111_4 12
theorem i111_79 : q_ins 111 79 = some (.iconst 0, 1, (0, 0, 0, 0, 0)) := s111_4 15
theorem i111_80 : q_ins 111 80 = some (.aload_n 0, 1, (0, 0, 0, 0, 0)) := s111_5 0
theorem i111_81 : q_ins 111 81 = some (.getfield 27, 3, (12, 2, 5, 2, 0)) := s111_5 1
theorem i111_84 : q_ins 111 84 = some (.iconst 0, 1, (0, 0, 0, 0, 0)) := s111_5 4
theorem i111_85 : q_ins 111 85 = some (.bipush 10, 2, (0, 0, 0, 0, 0)) := s111_5 5
theorem i111_87 : q_ins 111 87 = some (.invokestatic 89, 3, (981, 0, 0, 8, 0)) := s111_5 7
theorem i111_90 : q_ins 111 90 = some (.aload_n 1, 1, (0, 0, 0, 0, 0)) := s111_5 10
theorem i111_91 : q_ins 111 91 = some (.getfield 30, 3, (13, 2, 6, 2, 0)) := s111_5 11
theorem i111_94 : q_ins 111 94 = some (.iconst 0, 1, (0, 0, 0, 0, 0)) := s111_5 14
theorem i111_95 : q_ins 111 95 = some (.aload_n 0, 1, (0, 0, 0, 0, 0)) := s111_5 15
theorem i111_96 : q_ins 111 96 = some (.getfield 30, 3, (13, 2, 6, 2, 0)) := s111_6 0
theorem i111_99 : q_ins 111 99 = some (.iconst 0, 1, (0, 0, 0, 0, 0)) := s111_6 3
theorem i111_100 : q_ins 111 100 = some (.bipush 10, 2, (0, 0, 0, 0, 0)) := s111_6 4
theorem i111_102 : q_ins 111 102 = some (.invokestatic 89, 3, (981, 0, 0, 8, 0)) := s111_6 6
theorem i111_105 : q_ins 111 105 = some (.aload_n 1, 1, (0, 0, 0, 0, 0)) := s111_6 9
theorem i111_106 : q_ins 111 106 = some (.getfield 33, 3, (14, 2, 7, 2, 0)) := s111_6 10
theorem i111_109 : q_ins 111 109 = some (.iconst 0, 1, (0, 0, 0, 0, 0)) := s111_6 13
theorem i111_110 : q_ins 111 110 = some (.aload_n 0, 1, (0, 0, 0, 0, 0)) := s111_6 14
theorem i111_111 : q_ins 111 111 = some (.getfield 33, 3, (14, 2, 7, 2, 0)) := s111_6 15
theorem i111_114 : q_ins 111 114 = some (.iconst 0, 1, (0, 0, 0, 0, 0)) := s111_7 2
theorem i111_115 : q_ins 111 115 = some (.bipush 10, 2, (0, 0, 0, 0, 0)) := s111_7 3
theorem i111_117 : q_ins 111 117 = some (.invokestatic 89, 3, (981, 0, 0, 8, 0)) := s111_7 5
theorem i111_120 : q_ins 111 120 = some (.iconst 0, 1, (0, 0, 0, 0, 0)) := s111_7 8
theorem i111_121 : q_ins 111 121 = some (.istore_n 2, 1, (0, 0, 0, 0, 0)) := s111_7 9
theorem i111_122 : q_ins 111 122 = some (.iload_n 2, 1, (0, 0, 0, 0, 0)) := s111_7 10
theorem i111_123 : q_ins 111 123 = some (.iconst 4, 1, (0, 0, 0, 0, 0)) := s111_7 11
theorem i111_124 : q_ins 111 124 = some (.if_icmp .ge 21, 3, (0, 0, 0, 0, 0)) := s111_7 12
theorem i111_127 : q_ins 111 127 = some (.aload_n 0, 1, (0, 0, 0, 0, 0)) := s111_7 15
theorem i111_128 : q_ins 111 128 = some (.getfield 38, 3, (15, 2, 8, 2, 0)) := s111_8 0
theorem i111_131 : q_ins 111 131 = some (.iload_n 2, 1, (0, 0, 0, 0, 0)) := s111_8 3
theorem i111_132 : q_ins 111 132 = some (.aload_n 1, 1, (0, 0, 0, 0, 0)) := s111_8 4
theorem i111_133 : q_ins 111 133 = some (.getfield 38, 3, (15, 2, 8, 2, 0)) := s111_8 5
theorem i111_136 : q_ins 111 136 = some (.iload_n 2, 1, (0, 0, 0, 0, 0)) := s111_8 8
theorem i111_137 : q_ins 111 137 = some (.aaload, 1, (0, 0, 0, 0, 0)) := s111_8 9
theorem i111_138 : q_ins 111 138 = some (.aastore, 1, (0, 0, 0, 0, 0)) := s111_8 10
theorem i111_139 : q_ins 111 139 = some (.iinc 2 1, 3, (0, 0, 0, 0, 0)) := s111_8 11
theorem i111_142 : q_ins 111 142 = some (.goto (-20), 3, (0, 0, 0, 0, 0)) := s111_8 14
theorem i111_145 : q_ins 111 145 = some (.aload_n 0, 1, (0, 0, 0, 0, 0)) := s111_9 1
theorem i111_146 : q_ins 111 146 = some (.getfield 45, 3, (16, 2, 9, 2, 0)) := s111_9 2
theorem i111_149 : q_ins 111 149 = some (.aload_n 1, 1, (0, 0, 0, 0, 0)) := s111_9 5
theorem i111_150 : q_ins 111 150 = some (.getfield 45, 3, (16, 2, 9, 2, 0)) := s111_9 6
theorem i111_153 : q_ins 111 153 = some (.invokevirtual 95, 3, (164, 112, 2, 0, 7)) := s111_9 9
theorem i111_156 : q_ins 111 156 = some (.aload_n 0, 1, (0, 0, 0, 0, 0)) := s111_9 12
theorem i111_157 : q_ins 111 157 = some (.aload_n 1, 1, (0, 0, 0, 0, 0)) := s111_9 13
theorem i111_158 : q_ins 111 158 = some (.getfield 49, 3, (17, 2, 10, 0, 0)) := s111_9 14
theorem i111_161 : q_ins 111 161 = some (.putfield 49, 3, (17, 2, 10, 0, 0)) := s111_10 1
theorem i111_164 : q_ins 111 164 = some (.aload_n 0, 1, (0, 0, 0, 0, 0)) := s111_10 4
theorem i111_165 : q_ins 111 165 = some (.aload_n 1, 1, (0, 0, 0, 0, 0)) := s111_10 5
theorem i111_166 : q_ins 111 166 = some (.getfield 53, 3, (18, 2, 11, 0, 0)) := s111_10 6
theorem i111_169 : q_ins 111 169 = some (.putfield 53, 3, (18, 2, 11, 0, 0)) := s111_10 9
theorem i111_172 : q_ins 111 172 = some (.aload_n 0, 1, (0, 0, 0, 0, 0)) := s111_10 12
theorem i111_173 : q_ins 111 173 = some (.aload_n 1, 1, (0, 0, 0, 0, 0)) := s111_10 13
theorem i111_174 : q_ins 111 174 = some (.getfield 56, 3, (19, 2, 12, 0, 0)) := s111_10 14
theorem i111_177 : q_ins 111 177 = some (.putfield 56, 3, (19, 2, 12, 0, 0)) := s111_11 1
theorem i111_180 : q_ins 111 180 = some (.aload_n 0, 1, (0, 0, 0, 0, 0)) := s111_11 4
theorem i111_181 : q_ins 111 181 = some (.aload_n 1, 1, (0, 0, 0, 0, 0)) := s111_11 5
theorem i111_182 : q_ins 111 182 = some (.getfield 59, 3, (20, 2, 13, 0, 0)) := s111_11 6
theorem i111_185 : q_ins 111 185 = some (.putfield 59, 3, (20, 2, 13, 0, 0)) := s111_11 9
theorem i111_188 : q_ins 111 188 = some (.aload_n 0, 1, (0, 0, 0, 0, 0)) := s111_11 12
theorem i111_189 : q_ins 111 189 = some (.aload_n 1, 1, (0, 0, 0, 0, 0)) := s111_11 13
theorem i111_190 : q_ins 111 190 = some (.getfield 62, 3, (21, 2, 14, 0, 0)) := s111_11 14
theorem i111_193 : q_ins 111 193 = some (.putfield 62, 3, (21, 2, 14, 0, 0)) := s111_12 1
theorem i111_196 : q_ins 111 196 = some (.aload_n 0, 1, (0, 0, 0, 0, 0)) := s111_12 4
theorem i111_197 : q_ins 111 197 = some (.aload_n 1, 1, (0, 0, 0, 0, 0)) := s111_12 5
theorem i111_198 : q_ins 111 198 = some (.getfield 65, 3, (22, 2, 15, 0, 0)) := s111_12 6
theorem i111_201 : q_ins 111 201 = some (.putfield 65, 3, (22, 2, 15, 0, 0)) := s111_12 9
theorem i111_204 : q_ins 111 204 = some (.aload_n 0, 1, (0, 0, 0, 0, 0)) := s111_12 12
theorem i111_205 : q_ins 111 205 = some (.aload_n 1, 1, (0, 0, 0, 0, 0)) := s111_12 13
theorem i111_206 : q_ins 111 206 = some (.getfield 68, 3, (23, 2, 16, 0, 0)) := s111_12 14
theorem i111_209 : q_ins 111 209 = some (.putfield 68, 3, (23, 2, 16, 0, 0)) := s111_13 1
theorem i111_212 : q_ins 111 212 = some (.aload_n 0, 1, (0, 0, 0, 0, 0)) := s111_13 4
theorem i111_213 : q_ins 111 213 = some (.aload_n 1, 1, (0, 0, 0, 0, 0)) := s111_13 5
theorem i111_214 : q_ins 111 214 = some (.getfield 71, 3, (24, 2, 17, 0, 0)) := s111_13 6
theorem i111_217 : q_ins 111 217 = some (.putfield 71, 3, (24, 2, 17, 0, 0)) := s111_13 9
theorem i111_220 : q_ins 111 220 = some (.return_, 1, (0, 0, 0, 0, 0)) := s111_13 12
theorem s112_0 (j : Nat) : q_ins 112 j = q_at q_c112 j := rfl
theorem s112_1 (j : Nat) : q_ins 112 (j + 16) = q_at q_c112_1 j := s112_0 (j + 16)
theorem s112_2 (j : Nat) : q_ins 112 (j + 32) = q_at q_c112_2 j := s112_1 (j + 16)
theorem s112_3 (j : Nat) : q_ins 112 (j + 48) = q_at q_c112_3 j := s112_2 (j + 16)
theorem s112_4 (j : Nat) : q_ins 112 (j + 64) = q_at q_c112_4 j := s112_3 (j + 16)
theorem s112_5 (j : Nat) : q_ins 112 (j + 80) = q_at q_c112_5 j := s112_4 (j + 16)
theorem i112_0 : q_ins 112 0 = some (.aload_n 1, 1, (0, 0, 0, 0, 0)) := s112_0 0
theorem i112_1 : q_ins 112 1 = some (.getfield 9, 3, (25, 7, 0, 2, 0)) := s112_0 1
theorem i112_4 : q_ins 112 4 = some (.iconst 0, 1, (0, 0, 0, 0, 0)) := s112_0 4
theorem i112_5 : q_ins 112 5 = some (.aload_n 0, 1, (0, 0, 0, 0, 0)) := s112_0 5
theorem i112_6 : q_ins 112 6 = some (.getfield 9, 3, (25, 7, 0, 2, 0)) := s112_0 6
theorem i112_9 : q_ins 112 9 = some (.iconst 0, 1, (0, 0, 0, 0, 0)) := s112_0 9
theorem i112_10 : q_ins 112 10 = some (.sipush 180, 3, (0, 0, 0, 0, 0)) := s112_0 10
theorem i112_13 : q_ins 112 13 = some (.invokestatic 37, 3, (751, 0, 0, 8, 0)) := s112_0 13
theorem i112_16 : q_ins 112 16 = some (.aload_n 1, 1, (0, 0, 0, 0, 0)) := s112_1 0
theorem i112_17 : q_ins 112 17 = some (.getfield 15, 3, (26, 7, 1, 2, 0)) := s112_1 1
theorem i112_20 : q_ins 112 20 = some (.iconst 0, 1, (0, 0, 0, 0, 0)) := s112_1 4
theorem i112_21 : q_ins 112 21 = some (.aload_n 0, 1, (0, 0, 0, 0, 0)) := s112_1 5
theorem i112_22 : q_ins 112 22 = some (.getfield 15, 3, (26, 7, 1, 2, 0)) := s112_1 6
theorem i112_25 : q_ins 112 25 = some (.iconst 0, 1, (0, 0, 0, 0, 0)) := s112_1 9
theorem i112_26 : q_ins 112 26 = some (.sipush 180, 3, (0, 0, 0, 0, 0)) := s112_1 10
theorem i112_29 : q_ins 112 29 = some (.invokestatic 37, 3, (751, 0, 0, 8, 0)) := s112_1 13
theorem i112_32 : q_ins 112 32 = some (.aload_n 1, 1, (0, 0, 0, 0, 0)) := s112_2 0
theorem i112_33 : q_ins 112 33 = some (.getfield 18, 3, (27, 7, 2, 2, 0)) := s112_2 1
theorem i112_36 : q_ins 112 36 = some (.iconst 0, 1, (0, 0, 0, 0, 0)) := s112_2 4
theorem i112_37 : q_ins 112 37 = some (.aload_n 0, 1, (0, 0, 0, 0, 0)) := s112_2 5
theorem i112_38 : q_ins 112 38 = some (.getfield 18, 3, (27, 7, 2, 2, 0)) := s112_2 6
theorem i112_41 : q_ins 112 41 = some (.iconst 0, 1, (0, 0, 0, 0, 0)) := s112_2 9
theorem i112_42 : q_ins 112 42 = some (.bipush 30, 2, (0, 0, 0, 0, 0)) := s112_2 10
theorem i112_44 : q_ins 112 44 = some (.invokestatic 37, 3, (751, 0, 0, 8, 0)) := s112_2 12
theorem i112_47 : q_ins 112 47 = some (.aload_n 1, 1, (0, 0, 0, 0, 0)) := s112_2 15
theorem i112_48 : q_ins 112 48 = some (.getfield 21, 3, (28, 7, 3, 2, 0)) := s112_3 0
theorem i112_51 : q_ins 112 51 = some (.iconst 0, 1, (0, 0, 0, 0, 0)) := s112_3 3
theorem i112_52 : q_ins 112 52 = some (.aload_n 0, 1, (0, 0, 0, 0, 0)) := s112_3 4
theorem i112_53 : q_ins 112 53 = some (.getfield 21, 3, (28, 7, 3, 2, 0)) := s112_3 5
theorem i112_56 : q_ins 112 56 = some (.iconst 0, 1, (0, 0, 0, 0, 0)) := s112_3 8
theorem i112_57 : q_ins 112 57 = some (.bipush 30, 2, (0, 0, 0, 0, 0)) := s112_3 9
theorem i112_59 : q_ins 112 59 = some (.invokestatic 37, 3, (751, 0, 0, 8, 0)) := s112_3 11
theorem i112_62 : q_ins 112 62 = some (.aload_n 1, 1, (0, 0, 0, 0, 0)) := s112_3 14
theorem i112_63 : q_ins 112 63 = some (.getfield 24, 3, (29, 7, 4, 2, 0)) := s112_3 15
theorem i112_66 : q_ins 112 66 = some (.iconst 0, 1, (0, 0, 0, 0, 0)) := s112_4 2
theorem i112_67 : q_ins 112 67 = some (.aload_n 0, 1, (0, 0, 0, 0, 0)) := s112_4 3
theorem i112_68 : q_ins 112 68 = some (.getfield 24, 3, (29, 7, 4, 2, 0)) := s112_4 4
theorem i112_71 : q_ins 112 71 = some (.iconst 0, 1, (0, 0, 0, 0, 0)) := s112_4 7
theorem i112_72 : q_ins 112 72 = some (.bipush 30, 2, (0, 0, 0, 0, 0)) := s112_4 8
theorem i112_74 : q_ins 112 74 = some (.invokestatic 37, 3, (751, 0, 0, 8, 0)) := s112_4 10
theorem i112_77 : q_ins 112 77 = some (.aload_n 0, 1, (0, 0, 0, 0, 0)) := s112_4 13
theorem i112_78 : q_ins 112 78 = some (.aload_n 1, 1, (0, 0, 0, 0, 0)) := s112_4 14
theorem i112_79 : q_ins 112 79 = some (.getfield 27, 3, (30, 7, 5, 0, 0)) := s112_4 15
theorem i112_82 : q_ins 112 82 = some (.putfield 27, 3, (30, 7, 5, 0, 0)) := s112_5 2
theorem i112_85 : q_ins 112 85 = some (.aload_n 0, 1, (0, 0, 0, 0, 0)) := s112_5 5
theorem i112_86 : q_ins 112 86 = some (.aload_n 1, 1, (0, 0, 0, 0, 0)) := s112_5 6
theorem i112_87 : q_ins 112 87 = some (.getfield 31, 3, (31, 7, 6, 0, 0)) := s112_5 7
theorem i112_90 : q_ins 112 90 = some (.putfield 31, 3, (31, 7, 6, 0, 0)) := s112_5 10
theorem i112_93 : q_ins 112 93 = some (.return_, 1, (0, 0, 0, 0, 0)) := s112_5 13
theorem s113_0 (j : Nat) : q_ins 113 j = q_at q_c113 j := rfl
theorem s113_1 (j : Nat) : q_ins 113 (j + 16) = q_at q_c113_1 j := s113_0 (j + 16)
theorem s113_2 (j : Nat) : q_ins 113 (j + 32) = q_at q_c113_2 j := s113_1 (j + 16)
theorem i113_0 : q_ins 113 0 = some (.aload_n 0, 1, (0, 0, 0, 0, 0)) := s113_0 0
theorem i113_1 : q_ins 113 1 = some (.getfield 10, 3, (0, 9, 0, 2, 0)) := s113_0 1
theorem i113_4 : q_ins 113 4 = some (.aload_n 0, 1, (0, 0, 0, 0, 0)) := s113_0 4
theorem i113_5 : q_ins 113 5 = some (.getfield 16, 3, (1, 9, 1, 2, 0)) := s113_0 5
theorem i113_8 : q_ins 113 8 = some (.invokevirtual 242, 3, (163, 111, 2, 0, 2)) := s113_0 8
theorem i113_11 : q_ins 113 11 = some (.aload_n 0, 1, (0, 0, 0, 0, 0)) := s113_0 11
theorem i113_12 : q_ins 113 12 = some (.getfield 38, 3, (4, 9, 4, 2, 0)) := s113_0 12
theorem i113_15 : q_ins 113 15 = some (.invokevirtual 117, 3, (105, 59, 1, 0, 0)) := s113_0 15
theorem i113_18 : q_ins 113 18 = some (.aload_n 0, 1, (0, 0, 0, 0, 0)) := s113_1 2
theorem i113_19 : q_ins 113 19 = some (.getfield 56, 3, (6, 9, 6, 2, 0)) := s113_1 3
theorem i113_22 : q_ins 113 22 = some (.invokevirtual 68, 3, (66, 15, 1, 0, 5)) := s113_1 6
theorem i113_25 : q_ins 113 25 = some (.aload_n 0, 1, (0, 0, 0, 0, 0)) := s113_1 9
theorem i113_26 : q_ins 113 26 = some (.getfield 10, 3, (0, 9, 0, 2, 0)) := s113_1 10
theorem i113_29 : q_ins 113 29 = some (.getfield 246, 3, (160, 2, 17, 0, 0)) := s113_1 13
theorem i113_32 : q_ins 113 32 = some (.ireturn, 1, (0, 0, 0, 0, 0)) := s113_2 0
theorem s114_0 (j : Nat) : q_ins 114 j = q_at q_c114 j := rfl
theorem s114_1 (j : Nat) : q_ins 114 (j + 16) = q_at q_c114_1 j := s114_0 (j + 16)
theorem s114_2 (j : Nat) : q_ins 114 (j + 32) = q_at q_c114_2 j := s114_1 (j + 16)
theorem s114_3 (j : Nat) : q_ins 114 (j + 48) = q_at q_c114_3 j := s114_2 (j + 16)
theorem s114_4 (j : Nat) : q_ins 114 (j + 64) = q_at q_c114_4 j := s114_3 (j + 16)
theorem s114_5 (j : Nat) : q_ins 114 (j + 80) = q_at q_c114_5 j := s114_4 (j + 16)
theorem s114_6 (j : Nat) : q_ins 114 (j + 96) = q_at q_c114_6 j := s114_5 (j + 16)
theorem s114_7 (j : Nat) : q_ins 114 (j + 112) = q_at q_c114_7 j := s114_6 (j + 16)
theorem s114_8 (j : Nat) : q_ins 114 (j + 128) = q_at q_c114_8 j := s114_7 (j + 16)
theorem s114_9 (j : Nat) : q_ins 114 (j + 144) = q_at q_c114_9 j := s114_8 (j + 16)
theorem i114_0 : q_ins 114 0 = some (.iload_n 1, 1, (0, 0, 0, 0, 0)) := s114_0 0
theorem i114_1 : q_ins 114 1 = some (.tableswitch 129 0 8 #[51, 59, 67, 75, 83, 91, 99, 110, 118], 51, (0, 0, 0, 0, 0)) := s114_0 1
theorem i114_52 : q_ins 114 52 = some (.aload_n 0, 1, (0, 0, 0, 0, 0)) := s114_3 4
theorem i114_53 : q_ins 114 53 = some (.getfield 10, 3, (0, 9, 0, 2, 0)) := s114_3 5
theorem i114_56 : q_ins 114 56 = some (.getfield 249, 3, (161, 2, 10, 0, 0)) := s114_3 8
theorem i114_59 : q_ins 114 59 = some (.ireturn, 1, (0, 0, 0, 0, 0)) := s114_3 11
theorem i114_60 : q_ins 114 60 = some (.aload_n 0, 1, (0, 0, 0, 0, 0)) := s114_3 12
theorem i114_61 : q_ins 114 61 = some (.getfield 10, 3, (0, 9, 0, 2, 0)) := s114_3 13
theorem i114_64 : q_ins 114 64 = some (.getfield 176, 3, (142, 2, 12, 0, 0)) := s114_4 0
theorem i114_67 : q_ins 114 67 = some (.ireturn, 1, (0, 0, 0, 0, 0)) := s114_4 3
theorem i114_68 : q_ins 114 68 = some (.aload_n 0, 1, (0, 0, 0, 0, 0)) := s114_4 4
theorem i114_69 : q_ins 114 69 = some (.getfield 10, 3, (0, 9, 0, 2, 0)) := s114_4 5
theorem i114_72 : q_ins 114 72 = some (.getfield 246, 3, (160, 2, 17, 0, 0)) := s114_4 8
theorem i114_75 : q_ins 114 75 = some (.ireturn, 1, (0, 0, 0, 0, 0)) := s114_4 11
theorem i114_76 : q_ins 114 76 = some (.aload_n 0, 1, (0, 0, 0, 0, 0)) := s114_4 12
theorem i114_77 : q_ins 114 77 = some (.getfield 10, 3, (0, 9, 0, 2, 0)) := s114_4 13
theorem i114_80 : q_ins 114 80 = some (.getfield 75, 3, (79, 2, 16, 0, 0)) := s114_5 0
theorem i114_83 : q_ins 114 83 = some (.ireturn, 1, (0, 0, 0, 0, 0)) := s114_5 3
theorem i114_84 : q_ins 114 84 = some (.aload_n 0, 1, (0, 0, 0, 0, 0)) := s114_5 4
theorem i114_85 : q_ins 114 85 = some (.getfield 10, 3, (0, 9, 0, 2, 0)) := s114_5 5
theorem i114_88 : q_ins 114 88 = some (.getfield 92, 3, (82, 2, 14, 0, 0)) := s114_5 8
theorem i114_91 : q_ins 114 91 = some (.ireturn, 1, (0, 0, 0, 0, 0)) := s114_5 11
theorem i114_92 : q_ins 114 92 = some (.aload_n 0, 1, (0, 0, 0, 0, 0)) := s114_5 12
theorem i114_93 : q_ins 114 93 = some (.getfield 10, 3, (0, 9, 0, 2, 0)) := s114_5 13
theorem i114_96 : q_ins 114 96 = some (.getfield 114, 3, (104, 2, 15, 0, 0)) := s114_6 0
theorem i114_99 : q_ins 114 99 = some (.ireturn, 1, (0, 0, 0, 0, 0)) := s114_6 3
theorem i114_100 : q_ins 114 100 = some (.aload_n 0, 1, (0, 0, 0, 0, 0)) := s114_6 4
theorem i114_101 : q_ins 114 101 = some (.getfield 10, 3, (0, 9, 0, 2, 0)) := s114_6 5
theorem i114_104 : q_ins 114 104 = some (.getfield 141, 3, (134, 2, 9, 2, 0)) := s114_6 8
theorem i114_107 : q_ins 114 107 = some (.getfield 151, 3, (135, 7, 6, 0, 0)) := s114_6 11
theorem i114_110 : q_ins 114 110 = some (.ireturn, 1, (0, 0, 0, 0, 0)) := s114_6 14
theorem i114_111 : q_ins 114 111 = some (.aload_n 0, 1, (0, 0, 0, 0, 0)) := s114_6 15
theorem i114_112 : q_ins 114 112 = some (.getfield 10, 3, (0, 9, 0, 2, 0)) := s114_7 0
theorem i114_115 : q_ins 114 115 = some (.getfield 233, 3, (156, 2, 13, 0, 0)) := s114_7 3
theorem i114_118 : q_ins 114 118 = some (.ireturn, 1, (0, 0, 0, 0, 0)) := s114_7 6
theorem i114_119 : q_ins 114 119 = some (.aload_n 0, 1, (0, 0, 0, 0, 0)) := s114_7 7
theorem i114_120 : q_ins 114 120 = some (.getfield 22, 3, (2, 9, 2, 2, 0)) := s114_7 8
theorem i114_123 : q_ins 114 123 = some (.getfield 79, 3, (80, 4, 0, 2, 0)) := s114_7 11
theorem i114_126 : q_ins 114 126 = some (.getfield 83, 3, (81, 8, 3, 0, 0)) := s114_7 14
theorem i114_129 : q_ins 114 129 = some (.ireturn, 1, (0, 0, 0, 0, 0)) := s114_8 1
theorem i114_130 : q_ins 114 130 = some (.iload_n 1, 1, (0, 0, 0, 0, 0)) := s114_8 2
theorem i114_131 : q_ins 114 131 = some (.bipush 10, 2, (0, 0, 0, 0, 0)) := s114_8 3
theorem i114_133 : q_ins 114 133 = some (.if_icmp .lt 23, 3, (0, 0, 0, 0, 0)) := s114_8 5
theorem i114_136 : q_ins 114 136 = some (.iload_n 1, 1, (0, 0, 0, 0, 0)) := s114_8 8
theorem i114_137 : q_ins 114 137 = some (.bipush 26, 2, (0, 0, 0, 0, 0)) := s114_8 9
theorem i114_139 : q_ins 114 139 = some (.if_icmp .ge 17, 3, (0, 0, 0, 0, 0)) := s114_8 11
theorem i114_142 : q_ins 114 142 = some (.aload_n 0, 1, (0, 0, 0, 0, 0)) := s114_8 14
theorem i114_143 : q_ins 114 143 = some (.getfield 10, 3, (0, 9, 0, 2, 0)) := s114_8 15
theorem i114_146 : q_ins 114 146 = some (.iload_n 1, 1, (0, 0, 0, 0, 0)) := s114_9 2
theorem i114_147 : q_ins 114 147 = some (.bipush 10, 2, (0, 0, 0, 0, 0)) := s114_9 3
theorem i114_149 : q_ins 114 149 = some (.isub, 1, (0, 0, 0, 0, 0)) := s114_9 5
theorem i114_150 : q_ins 114 150 = some (.invokevirtual 252, 3, (165, 63, 2, 0, 2)) := s114_9 6
theorem i114_153 : q_ins 114 153 = some (.goto 5, 3, (0, 0, 0, 0, 0)) := s114_9 9
theorem i114_156 : q_ins 114 156 = some (.bipush (-2), 2, (0, 0, 0, 0, 0)) := s114_9 12
theorem i114_158 : q_ins 114 158 = some (.ireturn, 1, (0, 0, 0, 0, 0)) := s114_9 14
theorem s115_0 (j : Nat) : q_ins 115 j = q_at q_c115 j := rfl
theorem s115_1 (j : Nat) : q_ins 115 (j + 16) = q_at q_c115_1 j := s115_0 (j + 16)
theorem s115_2 (j : Nat) : q_ins 115 (j + 32) = q_at q_c115_2 j := s115_1 (j + 16)
theorem s115_3 (j : Nat) : q_ins 115 (j + 48) = q_at q_c115_3 j := s115_2 (j + 16)
theorem s115_4 (j : Nat) : q_ins 115 (j + 64) = q_at q_c115_4 j := s115_3 (j + 16)
theorem s115_5 (j : Nat) : q_ins 115 (j + 80) = q_at q_c115_5 j := s115_4 (j + 16)
theorem s115_6 (j : Nat) : q_ins 115 (j + 96) = q_at q_c115_6 j := s115_5 (j + 16)
theorem s115_7 (j : Nat) : q_ins 115 (j + 112) = q_at q_c115_7 j := s115_6 (j + 16)
theorem s115_8 (j : Nat) : q_ins 115 (j + 128) = q_at q_c115_8 j := s115_7 (j + 16)
theorem s115_9 (j : Nat) : q_ins 115 (j + 144) = q_at q_c115_9 j := s115_8 (j + 16)
theorem s115_10 (j : Nat) : q_ins 115 (j + 160) = q_at q_c115_10 j := s115_9 (j + 16)
theorem s115_11 (j : Nat) : q_ins 115 (j + 176) = q_at q_c115_11 j := s115_10 (j + 16)
theorem s115_12 (j : Nat) : q_ins 115 (j + 192) = q_at q_c115_12 j := s115_11 (j + 16)
theorem i115_0 : q_ins 115 0 = some (.aload_n 0, 1, (0, 0, 0, 0, 0)) := s115_0 0
theorem i115_1 : q_ins 115 1 = some (.invokespecial 1, 3, (1000, 0, 0, 9, 0)) := s115_0 1
theorem i115_4 : q_ins 115 4 = some (.aload_n 0, 1, (0, 0, 0, 0, 0)) := s115_0 4
theorem i115_5 : q_ins 115 5 = some (.sipush 706, 3, (0, 0, 0, 0, 0)) := s115_0 5
theorem i115_8 : q_ins 115 8 = some (.newarray .int, 2, (0, 0, 0, 0, 0)) := s115_0 8
theorem i115_10 : q_ins 115 10 = some (.putfield 7, 3, (162, 10, 0, 2, 0)) := s115_0 10
theorem i115_13 : q_ins 115 13 = some (.aload_n 0, 1, (0, 0, 0, 0, 0)) := s115_0 13
theorem i115_14 : q_ins 115 14 = some (.sipush 706, 3, (0, 0, 0, 0, 0)) := s115_0 14
theorem i115_17 : q_ins 115 17 = some (.newarray .int, 2, (0, 0, 0, 0, 0)) := s115_1 1
theorem i115_19 : q_ins 115 19 = some (.putfield 13, 3, (163, 10, 1, 2, 0)) := s115_1 3
theorem i115_22 : q_ins 115 22 = some (.aload_n 0, 1, (0, 0, 0, 0, 0)) := s115_1 6
theorem i115_23 : q_ins 115 23 = some (.sipush 2720, 3, (0, 0, 0, 0, 0)) := s115_1 7
theorem i115_26 : q_ins 115 26 = some (.newarray .int, 2, (0, 0, 0, 0, 0)) := s115_1 10
theorem i115_28 : q_ins 115 28 = some (.putfield 16, 3, (164, 10, 2, 2, 0)) := s115_1 12
theorem i115_31 : q_ins 115 31 = some (.aload_n 0, 1, (0, 0, 0, 0, 0)) := s115_1 15
theorem i115_32 : q_ins 115 32 = some (.sipush 300, 3, (0, 0, 0, 0, 0)) := s115_2 0
theorem i115_35 : q_ins 115 35 = some (.newarray .int, 2, (0, 0, 0, 0, 0)) := s115_2 3
theorem i115_37 : q_ins 115 37 = some (.putfield 19, 3, (165, 10, 3, 2, 0)) := s115_2 5
theorem i115_40 : q_ins 115 40 = some (.aload_n 0, 1, (0, 0, 0, 0, 0)) := s115_2 8
theorem i115_41 : q_ins 115 41 = some (.iconst (-1), 1, (0, 0, 0, 0, 0)) := s115_2 9
theorem i115_42 : q_ins 115 42 = some (.putfield 22, 3, (166, 10, 5, 0, 0)) := s115_2 10
theorem i115_45 : q_ins 115 45 = some (.aload_n 0, 1, (0, 0, 0, 0, 0)) := s115_2 13
theorem i115_46 : q_ins 115 46 = some (.iconst (-1), 1, (0, 0, 0, 0, 0)) := s115_2 14
theorem i115_47 : q_ins 115 47 = some (.putfield 26, 3, (167, 10, 6, 0, 0)) := s115_2 15
theorem i115_50 : q_ins 115 50 = some (.aload_n 0, 1, (0, 0, 0, 0, 0)) := s115_3 2
theorem i115_51 : q_ins 115 51 = some (.sipush 160, 3, (0, 0, 0, 0, 0)) := s115_3 3
theorem i115_54 : q_ins 115 54 = some (.newarray .int, 2, (0, 0, 0, 0, 0)) := s115_3 6
theorem i115_56 : q_ins 115 56 = some (.putfield 29, 3, (168, 10, 16, 2, 0)) := s115_3 8
theorem i115_59 : q_ins 115 59 = some (.aload_n 0, 1, (0, 0, 0, 0, 0)) := s115_3 11
theorem i115_60 : q_ins 115 60 = some (.bipush 14, 2, (0, 0, 0, 0, 0)) := s115_3 12
theorem i115_62 : q_ins 115 62 = some (.newarray .int, 2, (0, 0, 0, 0, 0)) := s115_3 14
theorem i115_64 : q_ins 115 64 = some (.putfield 32, 3, (169, 10, 22, 2, 0)) := s115_4 0
theorem i115_67 : q_ins 115 67 = some (.aload_n 0, 1, (0, 0, 0, 0, 0)) := s115_4 3
theorem i115_68 : q_ins 115 68 = some (.sipush 330, 3, (0, 0, 0, 0, 0)) := s115_4 4
theorem i115_71 : q_ins 115 71 = some (.newarray .long, 2, (0, 0, 0, 0, 0)) := s115_4 7
theorem i115_73 : q_ins 115 73 = some (.putfield 35, 3, (170, 10, 23, 2, 0)) := s115_4 9
theorem i115_76 : q_ins 115 76 = some (.aload_n 0, 1, (0, 0, 0, 0, 0)) := s115_4 12
theorem i115_77 : q_ins 115 77 = some (.sipush 330, 3, (0, 0, 0, 0, 0)) := s115_4 13
theorem i115_80 : q_ins 115 80 = some (.newarray .boolean, 2, (0, 0, 0, 0, 0)) := s115_5 0
theorem i115_82 : q_ins 115 82 = some (.putfield 39, 3, (171, 10, 24, 2, 0)) := s115_5 2
theorem i115_85 : q_ins 115 85 = some (.aload_n 0, 1, (0, 0, 0, 0, 0)) := s115_5 5
theorem i115_86 : q_ins 115 86 = some (.bipush 6, 2, (0, 0, 0, 0, 0)) := s115_5 6
theorem i115_88 : q_ins 115 88 = some (.newarray .int, 2, (0, 0, 0, 0, 0)) := s115_5 8
theorem i115_90 : q_ins 115 90 = some (.putfield 43, 3, (172, 10, 25, 2, 0)) := s115_5 10
theorem i115_93 : q_ins 115 93 = some (.aload_n 0, 1, (0, 0, 0, 0, 0)) := s115_5 13
theorem i115_94 : q_ins 115 94 = some (.bipush 6, 2, (0, 0, 0, 0, 0)) := s115_5 14
theorem i115_96 : q_ins 115 96 = some (.newarray .int, 2, (0, 0, 0, 0, 0)) := s115_6 0
theorem i115_98 : q_ins 115 98 = some (.putfield 46, 3, (173, 10, 29, 2, 0)) := s115_6 2
theorem i115_101 : q_ins 115 101 = some (.aload_n 0, 1, (0, 0, 0, 0, 0)) := s115_6 5
theorem i115_102 : q_ins 115 102 = some (.bipush 6, 2, (0, 0, 0, 0, 0)) := s115_6 6
theorem i115_104 : q_ins 115 104 = some (.newarray .int, 2, (0, 0, 0, 0, 0)) := s115_6 8
theorem i115_106 : q_ins 115 106 = some (.putfield 49, 3, (174, 10, 30, 2, 0)) := s115_6 10
theorem i115_109 : q_ins 115 109 = some (.aload_n 0, 1, (0, 0, 0, 0, 0)) := s115_6 13
theorem i115_110 : q_ins 115 110 = some (.bipush 64, 2, (0, 0, 0, 0, 0)) := s115_6 14
theorem i115_112 : q_ins 115 112 = some (.newarray .int, 2, (0, 0, 0, 0, 0)) := s115_7 0
theorem i115_114 : q_ins 115 114 = some (.putfield 52, 3, (175, 10, 31, 2, 0)) := s115_7 2
theorem i115_117 : q_ins 115 117 = some (.aload_n 0, 1, (0, 0, 0, 0, 0)) := s115_7 5
theorem i115_118 : q_ins 115 118 = some (.bipush 6, 2, (0, 0, 0, 0, 0)) := s115_7 6
theorem i115_120 : q_ins 115 120 = some (.newarray .int, 2, (0, 0, 0, 0, 0)) := s115_7 8
theorem i115_122 : q_ins 115 122 = some (.putfield 55, 3, (176, 10, 32, 2, 0)) := s115_7 10
theorem i115_125 : q_ins 115 125 = some (.aload_n 0, 1, (0, 0, 0, 0, 0)) := s115_7 13
theorem i115_126 : q_ins 115 126 = some (.bipush 6, 2, (0, 0, 0, 0, 0)) := s115_7 14
theorem i115_128 : q_ins 115 128 = some (.newarray .int, 2, (0, 0, 0, 0, 0)) := s115_8 0
theorem i115_130 : q_ins 115 130 = some (.putfield 58, 3, (177, 10, 33, 2, 0)) := s115_8 2
theorem i115_133 : q_ins 115 133 = some (.aload_n 0, 1, (0, 0, 0, 0, 0)) := s115_8 5
theorem i115_134 : q_ins 115 134 = some (.bipush 6, 2, (0, 0, 0, 0, 0)) := s115_8 6
theorem i115_136 : q_ins 115 136 = some (.newarray .int, 2, (0, 0, 0, 0, 0)) := s115_8 8
theorem i115_138 : q_ins 115 138 = some (.putfield 61, 3, (178, 10, 34, 2, 0)) := s115_8 10
theorem i115_141 : q_ins 115 141 = some (.aload_n 0, 1, (0, 0, 0, 0, 0)) := s115_8 13
theorem i115_142 : q_ins 115 142 = some (.bipush 10, 2, (0, 0, 0, 0, 0)) := s115_8 14
theorem i115_144 : q_ins 115 144 = some (.newarray .int, 2, (0, 0, 0, 0, 0)) := s115_9 0
theorem i115_146 : q_ins 115 146 = some (.putfield 64, 3, (179, 10, 36, 2, 0)) := s115_9 2
theorem i115_149 : q_ins 115 149 = some (.aload_n 0, 1, (0, 0, 0, 0, 0)) := s115_9 5
theorem i115_150 : q_ins 115 150 = some (.getfield 7, 3, (162, 10, 0, 2, 0)) := s115_9 6
theorem i115_153 : q_ins 115 153 = some (.iconst 5, 1, (0, 0, 0, 0, 0)) := s115_9 9
theorem i115_154 : q_ins 115 154 = some (.iconst (-1), 1, (0, 0, 0, 0, 0)) := s115_9 10
theorem i115_155 : q_ins 115 155 = some (.iastore, 1, (0, 0, 0, 0, 0)) := s115_9 11
theorem i115_156 : q_ins 115 156 = some (.aload_n 0, 1, (0, 0, 0, 0, 0)) := s115_9 12
theorem i115_157 : q_ins 115 157 = some (.getfield 7, 3, (162, 10, 0, 2, 0)) := s115_9 13
theorem i115_160 : q_ins 115 160 = some (.iconst 3, 1, (0, 0, 0, 0, 0)) := s115_10 0
theorem i115_161 : q_ins 115 161 = some (.bipush 17, 2, (0, 0, 0, 0, 0)) := s115_10 1
theorem i115_163 : q_ins 115 163 = some (.iastore, 1, (0, 0, 0, 0, 0)) := s115_10 3
theorem i115_164 : q_ins 115 164 = some (.iconst 0, 1, (0, 0, 0, 0, 0)) := s115_10 4
theorem i115_165 : q_ins 115 165 = some (.istore_n 1, 1, (0, 0, 0, 0, 0)) := s115_10 5
theorem i115_166 : q_ins 115 166 = some (.iload_n 1, 1, (0, 0, 0, 0, 0)) := s115_10 6
theorem i115_167 : q_ins 115 167 = some (.bipush 6, 2, (0, 0, 0, 0, 0)) := s115_10 7
theorem i115_169 : q_ins 115 169 = some (.if_icmp .ge 24, 3, (0, 0, 0, 0, 0)) := s115_10 9
theorem i115_172 : q_ins 115 172 = some (.aload_n 0, 1, (0, 0, 0, 0, 0)) := s115_10 12
theorem i115_173 : q_ins 115 173 = some (.getfield 7, 3, (162, 10, 0, 2, 0)) := s115_10 13
theorem i115_176 : q_ins 115 176 = some (.bipush 10, 2, (0, 0, 0, 0, 0)) := s115_11 0
theorem i115_178 : q_ins 115 178 = some (.bipush 6, 2, (0, 0, 0, 0, 0)) := s115_11 2
theorem i115_180 : q_ins 115 180 = some (.iload_n 1, 1, (0, 0, 0, 0, 0)) := s115_11 4
theorem i115_181 : q_ins 115 181 = some (.imul, 1, (0, 0, 0, 0, 0)) := s115_11 5
theorem i115_182 : q_ins 115 182 = some (.iadd, 1, (0, 0, 0, 0, 0)) := s115_11 6
theorem i115_183 : q_ins 115 183 = some (.iconst 3, 1, (0, 0, 0, 0, 0)) := s115_11 7
theorem i115_184 : q_ins 115 184 = some (.iadd, 1, (0, 0, 0, 0, 0)) := s115_11 8
theorem i115_185 : q_ins 115 185 = some (.iconst (-1), 1, (0, 0, 0, 0, 0)) := s115_11 9
theorem i115_186 : q_ins 115 186 = some (.iastore, 1, (0, 0, 0, 0, 0)) := s115_11 10
theorem i115_187 : q_ins 115 187 = some (.iinc 1 1, 3, (0, 0, 0, 0, 0)) := s115_11 11
theorem i115_190 : q_ins 115 190 = some (.goto (-24), 3, (0, 0, 0, 0, 0)) := s115_11 14
theorem i115_193 : q_ins 115 193 = some (.aload_n 0, 1, (0, 0, 0, 0, 0)) := s115_12 1
theorem i115_194 : q_ins 115 194 = some (.getfield 7, 3, (162, 10, 0, 2, 0)) := s115_12 2
theorem i115_197 : q_ins 115 197 = some (.aload_n 0, 1, (0, 0, 0, 0, 0)) := s115_12 5
theorem i115_198 : q_ins 115 198 = some (.getfield 13, 3, (163, 10, 1, 2, 0)) := s115_12 6
theorem i115_201 : q_ins 115 201 = some (.invokestatic 67, 3, (166, 116, 2, 2, 0)) := s115_12 9
theorem i115_204 : q_ins 115 204 = some (.return_, 1, (0, 0, 0, 0, 0)) := s115_12 12
theorem s116_0 (j : Nat) : q_ins 116 j = q_at q_c116 j := rfl
theorem s116_1 (j : Nat) : q_ins 116 (j + 16) = q_at q_c116_1 j := s116_0 (j + 16)
theorem i116_0 : q_ins 116 0 = some (.iconst 0, 1, (0, 0, 0, 0, 0)) := s116_0 0
theorem i116_1 : q_ins 116 1 = some (.istore_n 2, 1, (0, 0, 0, 0, 0)) := s116_0 1
theorem i116_2 : q_ins 116 2 = some (.iload_n 2, 1, (0, 0, 0, 0, 0)) := s116_0 2
theorem i116_3 : q_ins 116 3 = some (.sipush 706, 3, (0, 0, 0, 0, 0)) := s116_0 3
theorem i116_6 : q_ins 116 6 = some (.if_icmp .ge 15, 3, (0, 0, 0, 0, 0)) := s116_0 6
theorem i116_9 : q_ins 116 9 = some (.aload_n 1, 1, (0, 0, 0, 0, 0)) := s116_0 9
theorem i116_10 : q_ins 116 10 = some (.iload_n 2, 1, (0, 0, 0, 0, 0)) := s116_0 10
theorem i116_11 : q_ins 116 11 = some (.aload_n 0, 1, (0, 0, 0, 0, 0)) := s116_0 11
theorem i116_12 : q_ins 116 12 = some (.iload_n 2, 1, (0, 0, 0, 0, 0)) := s116_0 12
theorem i116_13 : q_ins 116 13 = some (.iaload, 1, (0, 0, 0, 0, 0)) := s116_0 13
theorem i116_14 : q_ins 116 14 = some (.iastore, 1, (0, 0, 0, 0, 0)) := s116_0 14
theorem i116_15 : q_ins 116 15 = some (.iinc 2 1, 3, (0, 0, 0, 0, 0)) := s116_0 15
theorem i116_18 : q_ins 116 18 = some (.goto (-16), 3, (0, 0, 0, 0, 0)) := s116_1 2
theorem i116_21 : q_ins 116 21 = some (.return_, 1, (0, 0, 0, 0, 0)) := s116_1 5
theorem s117_0 (j : Nat) : q_ins 117 j = q_at q_c117 j := rfl
theorem s117_1 (j : Nat) : q_ins 117 (j + 16) = q_at q_c117_1 j := s117_0 (j + 16)
theorem s117_2 (j : Nat) : q_ins 117 (j + 32) = q_at q_c117_2 j := s117_1 (j + 16)
theorem s117_3 (j : Nat) : q_ins 117 (j + 48) = q_at q_c117_3 j := s117_2 (j + 16)
theorem s117_4 (j : Nat) : q_ins 117 (j + 64) = q_at q_c117_4 j := s117_3 (j + 16)
theorem s117_5 (j : Nat) : q_ins 117 (j + 80) = q_at q_c117_5 j := s117_4 (j + 16)
theorem s117_6 (j : Nat) : q_ins 117 (j + 96) = q_at q_c117_6 j := s117_5 (j + 16)
theorem i117_0 : q_ins 117 0 = some (.iload_n 1, 1, (0, 0, 0, 0, 0)) := s117_0 0
theorem i117_1 : q_ins 117 1 = some (.iconst 0, 1, (0, 0, 0, 0, 0)) := s117_0 1
theorem i117_2 : q_ins 117 2 = some (.bipush 9, 2, (0, 0, 0, 0, 0)) := s117_0 2
theorem i117_4 : q_ins 117 4 = some (.invokestatic 71, 3, (167, 118, 3, 2, 0)) := s117_0 4
theorem i117_7 : q_ins 117 7 = some (.ifCond .eq 34, 3, (0, 0, 0, 0, 0)) := s117_0 7
theorem i117_10 : q_ins 117 10 = some (.iload_n 2, 1, (0, 0, 0, 0, 0)) := s117_0 10
theorem i117_11 : q_ins 117 11 = some (.iconst 0, 1, (0, 0, 0, 0, 0)) := s117_0 11
theorem i117_12 : q_ins 117 12 = some (.bipush 9, 2, (0, 0, 0, 0, 0)) := s117_0 12
theorem i117_14 : q_ins 117 14 = some (.invokestatic 71, 3, (167, 118, 3, 2, 0)) := s117_0 14
theorem i117_17 : q_ins 117 17 = some (.ifCond .eq 24, 3, (0, 0, 0, 0, 0)) := s117_1 1
theorem i117_20 : q_ins 117 20 = some (.iload_n 3, 1, (0, 0, 0, 0, 0)) := s117_1 4
theorem i117_21 : q_ins 117 21 = some (.iconst 0, 1, (0, 0, 0, 0, 0)) := s117_1 5
theorem i117_22 : q_ins 117 22 = some (.bipush 10, 2, (0, 0, 0, 0, 0)) := s117_1 6
theorem i117_24 : q_ins 117 24 = some (.invokestatic 71, 3, (167, 118, 3, 2, 0)) := s117_1 8
theorem i117_27 : q_ins 117 27 = some (.ifCond .eq 14, 3, (0, 0, 0, 0, 0)) := s117_1 11
theorem i117_30 : q_ins 117 30 = some (.aload_n 0, 1, (0, 0, 0, 0, 0)) := s117_1 14
theorem i117_31 : q_ins 117 31 = some (.getfield 7, 3, (162, 10, 0, 2, 0)) := s117_1 15
theorem i117_34 : q_ins 117 34 = some (.iconst 0, 1, (0, 0, 0, 0, 0)) := s117_2 2
theorem i117_35 : q_ins 117 35 = some (.iaload, 1, (0, 0, 0, 0, 0)) := s117_2 3
theorem i117_36 : q_ins 117 36 = some (.bipush 6, 2, (0, 0, 0, 0, 0)) := s117_2 4
theorem i117_38 : q_ins 117 38 = some (.if_icmp .ne 5, 3, (0, 0, 0, 0, 0)) := s117_2 6
theorem i117_41 : q_ins 117 41 = some (.iconst (-1), 1, (0, 0, 0, 0, 0)) := s117_2 9
theorem i117_42 : q_ins 117 42 = some (.ireturn, 1, (0, 0, 0, 0, 0)) := s117_2 10
theorem i117_43 : q_ins 117 43 = some (.aload_n 0, 1, (0, 0, 0, 0, 0)) := s117_2 11
theorem i117_44 : q_ins 117 44 = some (.getfield 7, 3, (162, 10, 0, 2, 0)) := s117_2 12
theorem i117_47 : q_ins 117 47 = some (.iconst 0, 1, (0, 0, 0, 0, 0)) := s117_2 15
theorem i117_48 : q_ins 117 48 = some (.iaload, 1, (0, 0, 0, 0, 0)) := s117_3 0
theorem i117_49 : q_ins 117 49 = some (.istore 4, 2, (0, 0, 0, 0, 0)) := s117_3 1
theorem i117_51 : q_ins 117 51 = some (.aload_n 0, 1, (0, 0, 0, 0, 0)) := s117_3 3
theorem i117_52 : q_ins 117 52 = some (.iload 4, 2, (0, 0, 0, 0, 0)) := s117_3 4
theorem i117_54 : q_ins 117 54 = some (.iconst 0, 1, (0, 0, 0, 0, 0)) := s117_3 6
theorem i117_55 : q_ins 117 55 = some (.iload_n 1, 1, (0, 0, 0, 0, 0)) := s117_3 7
theorem i117_56 : q_ins 117 56 = some (.invokevirtual 79, 3, (168, 119, 4, 0, 10)) := s117_3 8
theorem i117_59 : q_ins 117 59 = some (.aload_n 0, 1, (0, 0, 0, 0, 0)) := s117_3 11
theorem i117_60 : q_ins 117 60 = some (.iload 4, 2, (0, 0, 0, 0, 0)) := s117_3 12
theorem i117_62 : q_ins 117 62 = some (.iconst 1, 1, (0, 0, 0, 0, 0)) := s117_3 14
theorem i117_63 : q_ins 117 63 = some (.iload_n 2, 1, (0, 0, 0, 0, 0)) := s117_3 15
theorem i117_64 : q_ins 117 64 = some (.invokevirtual 79, 3, (168, 119, 4, 0, 10)) := s117_4 0
theorem i117_67 : q_ins 117 67 = some (.aload_n 0, 1, (0, 0, 0, 0, 0)) := s117_4 3
theorem i117_68 : q_ins 117 68 = some (.iload 4, 2, (0, 0, 0, 0, 0)) := s117_4 4
theorem i117_70 : q_ins 117 70 = some (.iconst 2, 1, (0, 0, 0, 0, 0)) := s117_4 6
theorem i117_71 : q_ins 117 71 = some (.iload_n 3, 1, (0, 0, 0, 0, 0)) := s117_4 7
theorem i117_72 : q_ins 117 72 = some (.invokevirtual 79, 3, (168, 119, 4, 0, 10)) := s117_4 8
theorem i117_75 : q_ins 117 75 = some (.aload_n 0, 1, (0, 0, 0, 0, 0)) := s117_4 11
theorem i117_76 : q_ins 117 76 = some (.iload 4, 2, (0, 0, 0, 0, 0)) := s117_4 12
theorem i117_78 : q_ins 117 78 = some (.iconst 3, 1, (0, 0, 0, 0, 0)) := s117_4 14
theorem i117_79 : q_ins 117 79 = some (.iconst (-1), 1, (0, 0, 0, 0, 0)) := s117_4 15
theorem i117_80 : q_ins 117 80 = some (.invokevirtual 79, 3, (168, 119, 4, 0, 10)) := s117_5 0
theorem i117_83 : q_ins 117 83 = some (.aload_n 0, 1, (0, 0, 0, 0, 0)) := s117_5 3
theorem i117_84 : q_ins 117 84 = some (.iload 4, 2, (0, 0, 0, 0, 0)) := s117_5 4
theorem i117_86 : q_ins 117 86 = some (.iconst 4, 1, (0, 0, 0, 0, 0)) := s117_5 6
theorem i117_87 : q_ins 117 87 = some (.iconst 0, 1, (0, 0, 0, 0, 0)) := s117_5 7
theorem i117_88 : q_ins 117 88 = some (.invokevirtual 79, 3, (168, 119, 4, 0, 10)) := s117_5 8
theorem i117_91 : q_ins 117 91 = some (.aload_n 0, 1, (0, 0, 0, 0, 0)) := s117_5 11
theorem i117_92 : q_ins 117 92 = some (.iload 4, 2, (0, 0, 0, 0, 0)) := s117_5 12
theorem i117_94 : q_ins 117 94 = some (.iconst 5, 1, (0, 0, 0, 0, 0)) := s117_5 14
theorem i117_95 : q_ins 117 95 = some (.iconst 0, 1, (0, 0, 0, 0, 0)) := s117_5 15
theorem i117_96 : q_ins 117 96 = some (.invokevirtual 79, 3, (168, 119, 4, 0, 10)) := s117_6 0
theorem i117_99 : q_ins 117 99 = some (.aload_n 0, 1, (0, 0, 0, 0, 0)) := s117_6 3
theorem i117_100 : q_ins 117 100 = some (.getfield 7, 3, (162, 10, 0, 2, 0)) := s117_6 4
theorem i117_103 : q_ins 117 103 = some (.iconst 0, 1, (0, 0, 0, 0, 0)) := s117_6 7
theorem i117_104 : q_ins 117 104 = some (.dup2, 1, (0, 0, 0, 0, 0)) := s117_6 8
theorem i117_105 : q_ins 117 105 = some (.iaload, 1, (0, 0, 0, 0, 0)) := s117_6 9
theorem i117_106 : q_ins 117 106 = some (.iconst 1, 1, (0, 0, 0, 0, 0)) := s117_6 10
theorem i117_107 : q_ins 117 107 = some (.iadd, 1, (0, 0, 0, 0, 0)) := s117_6 11
theorem i117_108 : q_ins 117 108 = some (.iastore, 1, (0, 0, 0, 0, 0)) := s117_6 12
theorem i117_109 : q_ins 117 109 = some (.iload 4, 2, (0, 0, 0, 0, 0)) := s117_6 13
theorem i117_111 : q_ins 117 111 = some (.ireturn, 1, (0, 0, 0, 0, 0)) := s117_6 15
theorem s118_0 (j : Nat) : q_ins 118 j = q_at q_c118 j := rfl
theorem i118_0 : q_ins 118 0 = some (.iload_n 0, 1, (0, 0, 0, 0, 0)) := s118_0 0
theorem i118_1 : q_ins 118 1 = some (.iload_n 1, 1, (0, 0, 0, 0, 0)) := s118_0 1
theorem i118_2 : q_ins 118 2 = some (.if_icmp .lt 12, 3, (0, 0, 0, 0, 0)) := s118_0 2
theorem i118_5 : q_ins 118 5 = some (.iload_n 0, 1, (0, 0, 0, 0, 0)) := s118_0 5
theorem i118_6 : q_ins 118 6 = some (.iload_n 2, 1, (0, 0, 0, 0, 0)) := s118_0 6
theorem i118_7 : q_ins 118 7 = some (.if_icmp .gt 7, 3, (0, 0, 0, 0, 0)) := s118_0 7
theorem i118_10 : q_ins 118 10 = some (.iconst 1, 1, (0, 0, 0, 0, 0)) := s118_0 10
theorem i118_11 : q_ins 118 11 = some (.goto 4, 3, (0, 0, 0, 0, 0)) := s118_0 11
theorem i118_14 : q_ins 118 14 = some (.iconst 0, 1, (0, 0, 0, 0, 0)) := s118_0 14
theorem i118_15 : q_ins 118 15 = some (.ireturn, 1, (0, 0, 0, 0, 0)) := s118_0 15
theorem s119_0 (j : Nat) : q_ins 119 j = q_at q_c119 j := rfl
theorem i119_0 : q_ins 119 0 = some (.aload_n 0, 1, (0, 0, 0, 0, 0)) := s119_0 0
theorem i119_1 : q_ins 119 1 = some (.getfield 7, 3, (162, 10, 0, 2, 0)) := s119_0 1
theorem i119_4 : q_ins 119 4 = some (.bipush 10, 2, (0, 0, 0, 0, 0)) := s119_0 4
theorem i119_6 : q_ins 119 6 = some (.bipush 6, 2, (0, 0, 0, 0, 0)) := s119_0 6
theorem i119_8 : q_ins 119 8 = some (.iload_n 1, 1, (0, 0, 0, 0, 0)) := s119_0 8
theorem i119_9 : q_ins 119 9 = some (.imul, 1, (0, 0, 0, 0, 0)) := s119_0 9
theorem i119_10 : q_ins 119 10 = some (.iadd, 1, (0, 0, 0, 0, 0)) := s119_0 10
theorem i119_11 : q_ins 119 11 = some (.iload_n 2, 1, (0, 0, 0, 0, 0)) := s119_0 11
theorem i119_12 : q_ins 119 12 = some (.iadd, 1, (0, 0, 0, 0, 0)) := s119_0 12
theorem i119_13 : q_ins 119 13 = some (.iload_n 3, 1, (0, 0, 0, 0, 0)) := s119_0 13
theorem i119_14 : q_ins 119 14 = some (.iastore, 1, (0, 0, 0, 0, 0)) := s119_0 14
theorem i119_15 : q_ins 119 15 = some (.return_, 1, (0, 0, 0, 0, 0)) := s119_0 15
theorem s120_0 (j : Nat) : q_ins 120 j = q_at q_c120 j := rfl
theorem s120_1 (j : Nat) : q_ins 120 (j + 16) = q_at q_c120_1 j := s120_0 (j + 16)
theorem s120_2 (j : Nat) : q_ins 120 (j + 32) = q_at q_c120_2 j := s120_1 (j + 16)
theorem s120_3 (j : Nat) : q_ins 120 (j + 48) = q_at q_c120_3 j := s120_2 (j + 16)
theorem s120_4 (j : Nat) : q_ins 120 (j + 64) = q_at q_c120_4 j := s120_3 (j + 16)
theorem s120_5 (j : Nat) : q_ins 120 (j + 80) = q_at q_c120_5 j := s120_4 (j + 16)
theorem i120_0 : q_ins 120 0 = some (.iload_n 1, 1, (0, 0, 0, 0, 0)) := s120_0 0
theorem i120_1 : q_ins 120 1 = some (.iconst 0, 1, (0, 0, 0, 0, 0)) := s120_0 1
theorem i120_2 : q_ins 120 2 = some (.iconst 2, 1, (0, 0, 0, 0, 0)) := s120_0 2
theorem i120_3 : q_ins 120 3 = some (.invokestatic 71, 3, (167, 118, 3, 2, 0)) := s120_0 3
theorem i120_6 : q_ins 120 6 = some (.ifCond .eq 24, 3, (0, 0, 0, 0, 0)) := s120_0 6
theorem i120_9 : q_ins 120 9 = some (.iload_n 2, 1, (0, 0, 0, 0, 0)) := s120_0 9
theorem i120_10 : q_ins 120 10 = some (.iconst 0, 1, (0, 0, 0, 0, 0)) := s120_0 10
theorem i120_11 : q_ins 120 11 = some (.bipush 9, 2, (0, 0, 0, 0, 0)) := s120_0 11
theorem i120_13 : q_ins 120 13 = some (.invokestatic 71, 3, (167, 118, 3, 2, 0)) := s120_0 13
theorem i120_16 : q_ins 120 16 = some (.ifCond .eq 14, 3, (0, 0, 0, 0, 0)) := s120_1 0
theorem i120_19 : q_ins 120 19 = some (.aload_n 0, 1, (0, 0, 0, 0, 0)) := s120_1 3
theorem i120_20 : q_ins 120 20 = some (.getfield 7, 3, (162, 10, 0, 2, 0)) := s120_1 4
theorem i120_23 : q_ins 120 23 = some (.iconst 1, 1, (0, 0, 0, 0, 0)) := s120_1 7
theorem i120_24 : q_ins 120 24 = some (.iaload, 1, (0, 0, 0, 0, 0)) := s120_1 8
theorem i120_25 : q_ins 120 25 = some (.bipush 10, 2, (0, 0, 0, 0, 0)) := s120_1 9
theorem i120_27 : q_ins 120 27 = some (.if_icmp .ne 5, 3, (0, 0, 0, 0, 0)) := s120_1 11
theorem i120_30 : q_ins 120 30 = some (.iconst (-1), 1, (0, 0, 0, 0, 0)) := s120_1 14
theorem i120_31 : q_ins 120 31 = some (.ireturn, 1, (0, 0, 0, 0, 0)) := s120_1 15
theorem i120_32 : q_ins 120 32 = some (.aload_n 0, 1, (0, 0, 0, 0, 0)) := s120_2 0
theorem i120_33 : q_ins 120 33 = some (.getfield 7, 3, (162, 10, 0, 2, 0)) := s120_2 1
theorem i120_36 : q_ins 120 36 = some (.bipush 46, 2, (0, 0, 0, 0, 0)) := s120_2 4
theorem i120_38 : q_ins 120 38 = some (.iconst 2, 1, (0, 0, 0, 0, 0)) := s120_2 6
theorem i120_39 : q_ins 120 39 = some (.aload_n 0, 1, (0, 0, 0, 0, 0)) := s120_2 7
theorem i120_40 : q_ins 120 40 = some (.getfield 7, 3, (162, 10, 0, 2, 0)) := s120_2 8
theorem i120_43 : q_ins 120 43 = some (.iconst 1, 1, (0, 0, 0, 0, 0)) := s120_2 11
theorem i120_44 : q_ins 120 44 = some (.iaload, 1, (0, 0, 0, 0, 0)) := s120_2 12
theorem i120_45 : q_ins 120 45 = some (.imul, 1, (0, 0, 0, 0, 0)) := s120_2 13
theorem i120_46 : q_ins 120 46 = some (.iadd, 1, (0, 0, 0, 0, 0)) := s120_2 14
theorem i120_47 : q_ins 120 47 = some (.iload_n 1, 1, (0, 0, 0, 0, 0)) := s120_2 15
theorem i120_48 : q_ins 120 48 = some (.iastore, 1, (0, 0, 0, 0, 0)) := s120_3 0
theorem i120_49 : q_ins 120 49 = some (.aload_n 0, 1, (0, 0, 0, 0, 0)) := s120_3 1
theorem i120_50 : q_ins 120 50 = some (.getfield 7, 3, (162, 10, 0, 2, 0)) := s120_3 2
theorem i120_53 : q_ins 120 53 = some (.bipush 46, 2, (0, 0, 0, 0, 0)) := s120_3 5
theorem i120_55 : q_ins 120 55 = some (.iconst 2, 1, (0, 0, 0, 0, 0)) := s120_3 7
theorem i120_56 : q_ins 120 56 = some (.aload_n 0, 1, (0, 0, 0, 0, 0)) := s120_3 8
theorem i120_57 : q_ins 120 57 = some (.getfield 7, 3, (162, 10, 0, 2, 0)) := s120_3 9
theorem i120_60 : q_ins 120 60 = some (.iconst 1, 1, (0, 0, 0, 0, 0)) := s120_3 12
theorem i120_61 : q_ins 120 61 = some (.iaload, 1, (0, 0, 0, 0, 0)) := s120_3 13
theorem i120_62 : q_ins 120 62 = some (.imul, 1, (0, 0, 0, 0, 0)) := s120_3 14
theorem i120_63 : q_ins 120 63 = some (.iadd, 1, (0, 0, 0, 0, 0)) := s120_3 15
theorem i120_64 : q_ins 120 64 = some (.iconst 1, 1, (0, 0, 0, 0, 0)) := s120_4 0
theorem i120_65 : q_ins 120 65 = some (.iadd, 1, (0, 0, 0, 0, 0)) := s120_4 1
theorem i120_66 : q_ins 120 66 = some (.iload_n 2, 1, (0, 0, 0, 0, 0)) := s120_4 2
theorem i120_67 : q_ins 120 67 = some (.iastore, 1, (0, 0, 0, 0, 0)) := s120_4 3
theorem i120_68 : q_ins 120 68 = some (.aload_n 0, 1, (0, 0, 0, 0, 0)) := s120_4 4
theorem i120_69 : q_ins 120 69 = some (.getfield 7, 3, (162, 10, 0, 2, 0)) := s120_4 5
theorem i120_72 : q_ins 120 72 = some (.iconst 1, 1, (0, 0, 0, 0, 0)) := s120_4 8
theorem i120_73 : q_ins 120 73 = some (.dup2, 1, (0, 0, 0, 0, 0)) := s120_4 9
theorem i120_74 : q_ins 120 74 = some (.iaload, 1, (0, 0, 0, 0, 0)) := s120_4 10
theorem i120_75 : q_ins 120 75 = some (.iconst 1, 1, (0, 0, 0, 0, 0)) := s120_4 11
theorem i120_76 : q_ins 120 76 = some (.iadd, 1, (0, 0, 0, 0, 0)) := s120_4 12
theorem i120_77 : q_ins 120 77 = some (.iastore, 1, (0, 0, 0, 0, 0)) := s120_4 13
theorem i120_78 : q_ins 120 78 = some (.aload_n 0, 1, (0, 0, 0, 0, 0)) := s120_4 14
theorem i120_79 : q_ins 120 79 = some (.getfield 7, 3, (162, 10, 0, 2, 0)) := s120_4 15
theorem i120_82 : q_ins 120 82 = some (.iconst 1, 1, (0, 0, 0, 0, 0)) := s120_5 2
theorem i120_83 : q_ins 120 83 = some (.iaload, 1, (0, 0, 0, 0, 0)) := s120_5 3
theorem i120_84 : q_ins 120 84 = some (.iconst 1, 1, (0, 0, 0, 0, 0)) := s120_5 4
theorem i120_85 : q_ins 120 85 = some (.isub, 1, (0, 0, 0, 0, 0)) := s120_5 5
theorem i120_86 : q_ins 120 86 = some (.ireturn, 1, (0, 0, 0, 0, 0)) := s120_5 6
theorem s121_0 (j : Nat) : q_ins 121 j = q_at q_c121 j := rfl
theorem s121_1 (j : Nat) : q_ins 121 (j + 16) = q_at q_c121_1 j := s121_0 (j + 16)
theorem i121_0 : q_ins 121 0 = some (.iload_n 1, 1, (0, 0, 0, 0, 0)) := s121_0 0
theorem i121_1 : q_ins 121 1 = some (.iconst 0, 1, (0, 0, 0, 0, 0)) := s121_0 1
theorem i121_2 : q_ins 121 2 = some (.sipush 9999, 3, (0, 0, 0, 0, 0)) := s121_0 2
theorem i121_5 : q_ins 121 5 = some (.invokestatic 71, 3, (167, 118, 3, 2, 0)) := s121_0 5
theorem i121_8 : q_ins 121 8 = some (.ifCond .ne 5, 3, (0, 0, 0, 0, 0)) := s121_0 8
theorem i121_11 : q_ins 121 11 = some (.iconst 0, 1, (0, 0, 0, 0, 0)) := s121_0 11
theorem i121_12 : q_ins 121 12 = some (.ireturn, 1, (0, 0, 0, 0, 0)) := s121_0 12
theorem i121_13 : q_ins 121 13 = some (.aload_n 0, 1, (0, 0, 0, 0, 0)) := s121_0 13
theorem i121_14 : q_ins 121 14 = some (.getfield 7, 3, (162, 10, 0, 2, 0)) := s121_0 14
theorem i121_17 : q_ins 121 17 = some (.iconst 3, 1, (0, 0, 0, 0, 0)) := s121_1 1
theorem i121_18 : q_ins 121 18 = some (.iload_n 1, 1, (0, 0, 0, 0, 0)) := s121_1 2
theorem i121_19 : q_ins 121 19 = some (.iconst 3, 1, (0, 0, 0, 0, 0)) := s121_1 3
theorem i121_20 : q_ins 121 20 = some (.imul, 1, (0, 0, 0, 0, 0)) := s121_1 4
theorem i121_21 : q_ins 121 21 = some (.bipush 17, 2, (0, 0, 0, 0, 0)) := s121_1 5
theorem i121_23 : q_ins 121 23 = some (.iadd, 1, (0, 0, 0, 0, 0)) := s121_1 7
theorem i121_24 : q_ins 121 24 = some (.iastore, 1, (0, 0, 0, 0, 0)) := s121_1 8
theorem i121_25 : q_ins 121 25 = some (.iconst 1, 1, (0, 0, 0, 0, 0)) := s121_1 9
theorem i121_26 : q_ins 121 26 = some (.ireturn, 1, (0, 0, 0, 0, 0)) := s121_1 10
theorem s122_0 (j : Nat) : q_ins 122 j = q_at q_c122 j := rfl
theorem s122_1 (j : Nat) : q_ins 122 (j + 16) = q_at q_c122_1 j := s122_0 (j + 16)
theorem s122_2 (j : Nat) : q_ins 122 (j + 32) = q_at q_c122_2 j := s122_1 (j + 16)
theorem i122_0 : q_ins 122 0 = some (.aload_n 0, 1, (0, 0, 0, 0, 0)) := s122_0 0
theorem i122_1 : q_ins 122 1 = some (.getfield 83, 3, (180, 10, 4, 0, 0)) := s122_0 1
theorem i122_4 : q_ins 122 4 = some (.bipush 20, 2, (0, 0, 0, 0, 0)) := s122_0 4
theorem i122_6 : q_ins 122 6 = some (.iadd, 1, (0, 0, 0, 0, 0)) := s122_0 6
theorem i122_7 : q_ins 122 7 = some (.sipush 300, 3, (0, 0, 0, 0, 0)) := s122_0 7
theorem i122_10 : q_ins 122 10 = some (.if_icmp .le 5, 3, (0, 0, 0, 0, 0)) := s122_0 10
theorem i122_13 : q_ins 122 13 = some (.iconst (-1), 1, (0, 0, 0, 0, 0)) := s122_0 13
theorem i122_14 : q_ins 122 14 = some (.ireturn, 1, (0, 0, 0, 0, 0)) := s122_0 14
theorem i122_15 : q_ins 122 15 = some (.aload_n 0, 1, (0, 0, 0, 0, 0)) := s122_0 15
theorem i122_16 : q_ins 122 16 = some (.iload_n 1, 1, (0, 0, 0, 0, 0)) := s122_1 0
theorem i122_17 : q_ins 122 17 = some (.invokevirtual 86, 3, (169, 123, 2, 0, 10)) := s122_1 1
theorem i122_20 : q_ins 122 20 = some (.aload_n 0, 1, (0, 0, 0, 0, 0)) := s122_1 4
theorem i122_21 : q_ins 122 21 = some (.iload_n 2, 1, (0, 0, 0, 0, 0)) := s122_1 5
theorem i122_22 : q_ins 122 22 = some (.invokevirtual 86, 3, (169, 123, 2, 0, 10)) := s122_1 6
theorem i122_25 : q_ins 122 25 = some (.aload_n 0, 1, (0, 0, 0, 0, 0)) := s122_1 9
theorem i122_26 : q_ins 122 26 = some (.iload_n 3, 1, (0, 0, 0, 0, 0)) := s122_1 10
theorem i122_27 : q_ins 122 27 = some (.invokevirtual 86, 3, (169, 123, 2, 0, 10)) := s122_1 11
theorem i122_30 : q_ins 122 30 = some (.aload_n 0, 1, (0, 0, 0, 0, 0)) := s122_1 14
theorem i122_31 : q_ins 122 31 = some (.iload 4, 2, (0, 0, 0, 0, 0)) := s122_1 15
theorem i122_33 : q_ins 122 33 = some (.invokevirtual 86, 3, (169, 123, 2, 0, 10)) := s122_2 1
theorem i122_36 : q_ins 122 36 = some (.aload_n 0, 1, (0, 0, 0, 0, 0)) := s122_2 4
theorem i122_37 : q_ins 122 37 = some (.iload 5, 2, (0, 0, 0, 0, 0)) := s122_2 5
theorem i122_39 : q_ins 122 39 = some (.invokevirtual 86, 3, (169, 123, 2, 0, 10)) := s122_2 7
theorem i122_42 : q_ins 122 42 = some (.aload_n 0, 1, (0, 0, 0, 0, 0)) := s122_2 10
theorem i122_43 : q_ins 122 43 = some (.getfield 83, 3, (180, 10, 4, 0, 0)) := s122_2 11
theorem i122_46 : q_ins 122 46 = some (.ireturn, 1, (0, 0, 0, 0, 0)) := s122_2 14
theorem s123_0 (j : Nat) : q_ins 123 j = q_at q_c123 j := rfl
theorem s123_1 (j : Nat) : q_ins 123 (j + 16) = q_at q_c123_1 j := s123_0 (j + 16)
theorem s123_2 (j : Nat) : q_ins 123 (j + 32) = q_at q_c123_2 j := s123_1 (j + 16)
theorem i123_0 : q_ins 123 0 = some (.bipush 24, 2, (0, 0, 0, 0, 0)) := s123_0 0
theorem i123_2 : q_ins 123 2 = some (.istore_n 2, 1, (0, 0, 0, 0, 0)) := s123_0 2
theorem i123_3 : q_ins 123 3 = some (.iload_n 2, 1, (0, 0, 0, 0, 0)) := s123_0 3
theorem i123_4 : q_ins 123 4 = some (.ifCond .lt 35, 3, (0, 0, 0, 0, 0)) := s123_0 4
theorem i123_7 : q_ins 123 7 = some (.aload_n 0, 1, (0, 0, 0, 0, 0)) := s123_0 7
theorem i123_8 : q_ins 123 8 = some (.getfield 19, 3, (165, 10, 3, 2, 0)) := s123_0 8
theorem i123_11 : q_ins 123 11 = some (.aload_n 0, 1, (0, 0, 0, 0, 0)) := s123_0 11
theorem i123_12 : q_ins 123 12 = some (.getfield 83, 3, (180, 10, 4, 0, 0)) := s123_0 12
theorem i123_15 : q_ins 123 15 = some (.iload_n 1, 1, (0, 0, 0, 0, 0)) := s123_0 15
theorem i123_16 : q_ins 123 16 = some (.iload_n 2, 1, (0, 0, 0, 0, 0)) := s123_1 0
theorem i123_17 : q_ins 123 17 = some (.ishr, 1, (0, 0, 0, 0, 0)) := s123_1 1
theorem i123_18 : q_ins 123 18 = some (.sipush 255, 3, (0, 0, 0, 0, 0)) := s123_1 2
theorem i123_21 : q_ins 123 21 = some (.iand, 1, (0, 0, 0, 0, 0)) := s123_1 5
theorem i123_22 : q_ins 123 22 = some (.iastore, 1, (0, 0, 0, 0, 0)) := s123_1 6
theorem i123_23 : q_ins 123 23 = some (.aload_n 0, 1, (0, 0, 0, 0, 0)) := s123_1 7
theorem i123_24 : q_ins 123 24 = some (.dup, 1, (0, 0, 0, 0, 0)) := s123_1 8
theorem i123_25 : q_ins 123 25 = some (.getfield 83, 3, (180, 10, 4, 0, 0)) := s123_1 9
theorem i123_28 : q_ins 123 28 = some (.iconst 1, 1, (0, 0, 0, 0, 0)) := s123_1 12
theorem i123_29 : q_ins 123 29 = some (.iadd, 1, (0, 0, 0, 0, 0)) := s123_1 13
theorem i123_30 : q_ins 123 30 = some (.putfield 83, 3, (180, 10, 4, 0, 0)) := s123_1 14
theorem i123_33 : q_ins 123 33 = some (.iinc 2 (-8), 3, (0, 0, 0, 0, 0)) := s123_2 1
theorem i123_36 : q_ins 123 36 = some (.goto (-33), 3, (0, 0, 0, 0, 0)) := s123_2 4
theorem i123_39 : q_ins 123 39 = some (.return_, 1, (0, 0, 0, 0, 0)) := s123_2 7
theorem s124_0 (j : Nat) : q_ins 124 j = q_at q_c124 j := rfl
theorem s124_1 (j : Nat) : q_ins 124 (j + 16) = q_at q_c124_1 j := s124_0 (j + 16)
theorem i124_0 : q_ins 124 0 = some (.iload_n 1, 1, (0, 0, 0, 0, 0)) := s124_0 0
theorem i124_1 : q_ins 124 1 = some (.iconst 0, 1, (0, 0, 0, 0, 0)) := s124_0 1
theorem i124_2 : q_ins 124 2 = some (.aload_n 0, 1, (0, 0, 0, 0, 0)) := s124_0 2
theorem i124_3 : q_ins 124 3 = some (.getfield 83, 3, (180, 10, 4, 0, 0)) := s124_0 3
theorem i124_6 : q_ins 124 6 = some (.invokestatic 71, 3, (167, 118, 3, 2, 0)) := s124_0 6
theorem i124_9 : q_ins 124 9 = some (.ifCond .ne 5, 3, (0, 0, 0, 0, 0)) := s124_0 9
theorem i124_12 : q_ins 124 12 = some (.iconst (-1), 1, (0, 0, 0, 0, 0)) := s124_0 12
theorem i124_13 : q_ins 124 13 = some (.ireturn, 1, (0, 0, 0, 0, 0)) := s124_0 13
theorem i124_14 : q_ins 124 14 = some (.aload_n 0, 1, (0, 0, 0, 0, 0)) := s124_0 14
theorem i124_15 : q_ins 124 15 = some (.iload_n 1, 1, (0, 0, 0, 0, 0)) := s124_0 15
theorem i124_16 : q_ins 124 16 = some (.putfield 83, 3, (180, 10, 4, 0, 0)) := s124_1 0
theorem i124_19 : q_ins 124 19 = some (.iload_n 1, 1, (0, 0, 0, 0, 0)) := s124_1 3
theorem i124_20 : q_ins 124 20 = some (.ireturn, 1, (0, 0, 0, 0, 0)) := s124_1 4
theorem s125_0 (j : Nat) : q_ins 125 j = q_at q_c125 j := rfl
theorem s125_1 (j : Nat) : q_ins 125 (j + 16) = q_at q_c125_1 j := s125_0 (j + 16)
theorem s125_2 (j : Nat) : q_ins 125 (j + 32) = q_at q_c125_2 j := s125_1 (j + 16)
theorem s125_3 (j : Nat) : q_ins 125 (j + 48) = q_at q_c125_3 j := s125_2 (j + 16)
theorem s125_4 (j : Nat) : q_ins 125 (j + 64) = q_at q_c125_4 j := s125_3 (j + 16)
theorem i125_0 : q_ins 125 0 = some (.aload_n 0, 1, (0, 0, 0, 0, 0)) := s125_0 0
theorem i125_1 : q_ins 125 1 = some (.getfield 7, 3, (162, 10, 0, 2, 0)) := s125_0 1
theorem i125_4 : q_ins 125 4 = some (.iconst 4, 1, (0, 0, 0, 0, 0)) := s125_0 4
theorem i125_5 : q_ins 125 5 = some (.iaload, 1, (0, 0, 0, 0, 0)) := s125_0 5
theorem i125_6 : q_ins 125 6 = some (.iconst 4, 1, (0, 0, 0, 0, 0)) := s125_0 6
theorem i125_7 : q_ins 125 7 = some (.if_icmp .ne 5, 3, (0, 0, 0, 0, 0)) := s125_0 7
theorem i125_10 : q_ins 125 10 = some (.iconst (-1), 1, (0, 0, 0, 0, 0)) := s125_0 10
theorem i125_11 : q_ins 125 11 = some (.ireturn, 1, (0, 0, 0, 0, 0)) := s125_0 11
theorem i125_12 : q_ins 125 12 = some (.aload_n 0, 1, (0, 0, 0, 0, 0)) := s125_0 12
theorem i125_13 : q_ins 125 13 = some (.aload_n 0, 1, (0, 0, 0, 0, 0)) := s125_0 13
theorem i125_14 : q_ins 125 14 = some (.invokevirtual 227, 3, (170, 126, 1, 0, 10)) := s125_0 14
theorem i125_17 : q_ins 125 17 = some (.putfield 22, 3, (166, 10, 5, 0, 0)) := s125_1 1
theorem i125_20 : q_ins 125 20 = some (.aload_n 0, 1, (0, 0, 0, 0, 0)) := s125_1 4
theorem i125_21 : q_ins 125 21 = some (.aload_n 0, 1, (0, 0, 0, 0, 0)) := s125_1 5
theorem i125_22 : q_ins 125 22 = some (.getfield 22, 3, (166, 10, 5, 0, 0)) := s125_1 6
theorem i125_25 : q_ins 125 25 = some (.ifCond .ne 7, 3, (0, 0, 0, 0, 0)) := s125_1 9
theorem i125_28 : q_ins 125 28 = some (.iconst (-1), 1, (0, 0, 0, 0, 0)) := s125_1 12
theorem i125_29 : q_ins 125 29 = some (.goto 7, 3, (0, 0, 0, 0, 0)) := s125_1 13
theorem i125_32 : q_ins 125 32 = some (.aload_n 0, 1, (0, 0, 0, 0, 0)) := s125_2 0
theorem i125_33 : q_ins 125 33 = some (.getfield 97, 3, (181, 10, 8, 0, 0)) := s125_2 1
theorem i125_36 : q_ins 125 36 = some (.putfield 26, 3, (167, 10, 6, 0, 0)) := s125_2 4
theorem i125_39 : q_ins 125 39 = some (.aload_n 0, 1, (0, 0, 0, 0, 0)) := s125_2 7
theorem i125_40 : q_ins 125 40 = some (.iconst 0, 1, (0, 0, 0, 0, 0)) := s125_2 8
theorem i125_41 : q_ins 125 41 = some (.putfield 83, 3, (180, 10, 4, 0, 0)) := s125_2 9
theorem i125_44 : q_ins 125 44 = some (.aload_n 0, 1, (0, 0, 0, 0, 0)) := s125_2 12
theorem i125_45 : q_ins 125 45 = some (.getfield 22, 3, (166, 10, 5, 0, 0)) := s125_2 13
theorem i125_48 : q_ins 125 48 = some (.ifCond .eq 5, 3, (0, 0, 0, 0, 0)) := s125_3 0
theorem i125_51 : q_ins 125 51 = some (.iconst (-1), 1, (0, 0, 0, 0, 0)) := s125_3 3
theorem i125_52 : q_ins 125 52 = some (.ireturn, 1, (0, 0, 0, 0, 0)) := s125_3 4
theorem i125_53 : q_ins 125 53 = some (.aload_n 0, 1, (0, 0, 0, 0, 0)) := s125_3 5
theorem i125_54 : q_ins 125 54 = some (.getfield 7, 3, (162, 10, 0, 2, 0)) := s125_3 6
theorem i125_57 : q_ins 125 57 = some (.iconst 4, 1, (0, 0, 0, 0, 0)) := s125_3 9
theorem i125_58 : q_ins 125 58 = some (.dup2, 1, (0, 0, 0, 0, 0)) := s125_3 10
theorem i125_59 : q_ins 125 59 = some (.iaload, 1, (0, 0, 0, 0, 0)) := s125_3 11
theorem i125_60 : q_ins 125 60 = some (.iconst 1, 1, (0, 0, 0, 0, 0)) := s125_3 12
theorem i125_61 : q_ins 125 61 = some (.iadd, 1, (0, 0, 0, 0, 0)) := s125_3 13
theorem i125_62 : q_ins 125 62 = some (.iastore, 1, (0, 0, 0, 0, 0)) := s125_3 14
theorem i125_63 : q_ins 125 63 = some (.aload_n 0, 1, (0, 0, 0, 0, 0)) := s125_3 15
theorem i125_64 : q_ins 125 64 = some (.getfield 7, 3, (162, 10, 0, 2, 0)) := s125_4 0
theorem i125_67 : q_ins 125 67 = some (.iconst 4, 1, (0, 0, 0, 0, 0)) := s125_4 3
theorem i125_68 : q_ins 125 68 = some (.iaload, 1, (0, 0, 0, 0, 0)) := s125_4 4
theorem i125_69 : q_ins 125 69 = some (.iconst 1, 1, (0, 0, 0, 0, 0)) := s125_4 5
theorem i125_70 : q_ins 125 70 = some (.isub, 1, (0, 0, 0, 0, 0)) := s125_4 6
theorem i125_71 : q_ins 125 71 = some (.ireturn, 1, (0, 0, 0, 0, 0)) := s125_4 7
theorem s126_0 (j : Nat) : q_ins 126 j = q_at q_c126 j := rfl
theorem s126_1 (j : Nat) : q_ins 126 (j + 16) = q_at q_c126_1 j := s126_0 (j + 16)
theorem s126_2 (j : Nat) : q_ins 126 (j + 32) = q_at q_c126_2 j := s126_1 (j + 16)
theorem s126_3 (j : Nat) : q_ins 126 (j + 48) = q_at q_c126_3 j := s126_2 (j + 16)
theorem s126_4 (j : Nat) : q_ins 126 (j + 64) = q_at q_c126_4 j := s126_3 (j + 16)
theorem i126_0 : q_ins 126 0 = some (.aload_n 0, 1, (0, 0, 0, 0, 0)) := s126_0 0
theorem i126_1 : q_ins 126 1 = some (.sipush 680, 3, (0, 0, 0, 0, 0)) := s126_0 1
theorem i126_4 : q_ins 126 4 = some (.aload_n 0, 1, (0, 0, 0, 0, 0)) := s126_0 4
theorem i126_5 : q_ins 126 5 = some (.getfield 7, 3, (162, 10, 0, 2, 0)) := s126_0 5
theorem i126_8 : q_ins 126 8 = some (.iconst 4, 1, (0, 0, 0, 0, 0)) := s126_0 8
theorem i126_9 : q_ins 126 9 = some (.iaload, 1, (0, 0, 0, 0, 0)) := s126_0 9
theorem i126_10 : q_ins 126 10 = some (.imul, 1, (0, 0, 0, 0, 0)) := s126_0 10
theorem i126_11 : q_ins 126 11 = some (.putfield 126, 3, (182, 10, 12, 0, 0)) := s126_0 11
theorem i126_14 : q_ins 126 14 = some (.aload_n 0, 1, (0, 0, 0, 0, 0)) := s126_0 14
theorem i126_15 : q_ins 126 15 = some (.getfield 16, 3, (164, 10, 2, 2, 0)) := s126_0 15
theorem i126_18 : q_ins 126 18 = some (.aload_n 0, 1, (0, 0, 0, 0, 0)) := s126_1 2
theorem i126_19 : q_ins 126 19 = some (.getfield 126, 3, (182, 10, 12, 0, 0)) := s126_1 3
theorem i126_22 : q_ins 126 22 = some (.iconst 0, 1, (0, 0, 0, 0, 0)) := s126_1 6
theorem i126_23 : q_ins 126 23 = some (.iastore, 1, (0, 0, 0, 0, 0)) := s126_1 7
theorem i126_24 : q_ins 126 24 = some (.aload_n 0, 1, (0, 0, 0, 0, 0)) := s126_1 8
theorem i126_25 : q_ins 126 25 = some (.iconst 0, 1, (0, 0, 0, 0, 0)) := s126_1 9
theorem i126_26 : q_ins 126 26 = some (.putfield 129, 3, (183, 10, 14, 0, 0)) := s126_1 10
theorem i126_29 : q_ins 126 29 = some (.aload_n 0, 1, (0, 0, 0, 0, 0)) := s126_1 13
theorem i126_30 : q_ins 126 30 = some (.iconst 0, 1, (0, 0, 0, 0, 0)) := s126_1 14
theorem i126_31 : q_ins 126 31 = some (.putfield 139, 3, (184, 10, 18, 0, 0)) := s126_1 15
theorem i126_34 : q_ins 126 34 = some (.aload_n 0, 1, (0, 0, 0, 0, 0)) := s126_2 2
theorem i126_35 : q_ins 126 35 = some (.iconst 0, 1, (0, 0, 0, 0, 0)) := s126_2 3
theorem i126_36 : q_ins 126 36 = some (.putfield 215, 3, (185, 10, 21, 0, 0)) := s126_2 4
theorem i126_39 : q_ins 126 39 = some (.aload_n 0, 1, (0, 0, 0, 0, 0)) := s126_2 7
theorem i126_40 : q_ins 126 40 = some (.iconst 0, 1, (0, 0, 0, 0, 0)) := s126_2 8
theorem i126_41 : q_ins 126 41 = some (.putfield 90, 3, (186, 10, 7, 0, 0)) := s126_2 9
theorem i126_44 : q_ins 126 44 = some (.aload_n 0, 1, (0, 0, 0, 0, 0)) := s126_2 12
theorem i126_45 : q_ins 126 45 = some (.invokevirtual 161, 3, (171, 127, 1, 0, 10)) := s126_2 13
theorem i126_48 : q_ins 126 48 = some (.aload_n 0, 1, (0, 0, 0, 0, 0)) := s126_3 0
theorem i126_49 : q_ins 126 49 = some (.getfield 100, 3, (187, 10, 9, 0, 0)) := s126_3 1
theorem i126_52 : q_ins 126 52 = some (.ifCond .eq 17, 3, (0, 0, 0, 0, 0)) := s126_3 4
theorem i126_55 : q_ins 126 55 = some (.aload_n 0, 1, (0, 0, 0, 0, 0)) := s126_3 7
theorem i126_56 : q_ins 126 56 = some (.invokevirtual 224, 3, (172, 131, 1, 0, 10)) := s126_3 8
theorem i126_59 : q_ins 126 59 = some (.istore_n 1, 1, (0, 0, 0, 0, 0)) := s126_3 11
theorem i126_60 : q_ins 126 60 = some (.iload_n 1, 1, (0, 0, 0, 0, 0)) := s126_3 12
theorem i126_61 : q_ins 126 61 = some (.ifCond .eq 5, 3, (0, 0, 0, 0, 0)) := s126_3 13
theorem i126_64 : q_ins 126 64 = some (.iload_n 1, 1, (0, 0, 0, 0, 0)) := s126_4 0
theorem i126_65 : q_ins 126 65 = some (.ireturn, 1, (0, 0, 0, 0, 0)) := s126_4 1
theorem i126_66 : q_ins 126 66 = some (.goto (-18), 3, (0, 0, 0, 0, 0)) := s126_4 2
theorem i126_69 : q_ins 126 69 = some (.iconst 0, 1, (0, 0, 0, 0, 0)) := s126_4 5
theorem i126_70 : q_ins 126 70 = some (.ireturn, 1, (0, 0, 0, 0, 0)) := s126_4 6
theorem s127_0 (j : Nat) : q_ins 127 j = q_at q_c127 j := rfl
theorem s127_1 (j : Nat) : q_ins 127 (j + 16) = q_at q_c127_1 j := s127_0 (j + 16)
theorem s127_2 (j : Nat) : q_ins 127 (j + 32) = q_at q_c127_2 j := s127_1 (j + 16)
theorem s127_3 (j : Nat) : q_ins 127 (j + 48) = q_at q_c127_3 j := s127_2 (j + 16)
theorem s127_4 (j : Nat) : q_ins 127 (j + 64) = q_at q_c127_4 j := s127_3 (j + 16)
theorem s127_5 (j : Nat) : q_ins 127 (j + 80) = q_at q_c127_5 j := s127_4 (j + 16)
theorem s127_6 (j : Nat) : q_ins 127 (j + 96) = q_at q_c127_6 j := s127_5 (j + 16)
theorem s127_7 (j : Nat) : q_ins 127 (j + 112) = q_at q_c127_7 j := s127_6 (j + 16)
theorem s127_8 (j : Nat) : q_ins 127 (j + 128) = q_at q_c127_8 j := s127_7 (j + 16)
theorem s127_9 (j : Nat) : q_ins 127 (j + 144) = q_at q_c127_9 j := s127_8 (j + 16)
theorem s127_10 (j : Nat) : q_ins 127 (j + 160) = q_at q_c127_10 j := s127_9 (j + 16)
theorem s127_11 (j : Nat) : q_ins 127 (j + 176) = q_at q_c127_11 j := s127_10 (j + 16)
theorem s127_12 (j : Nat) : q_ins 127 (j + 192) = q_at q_c127_12 j := s127_11 (j + 16)
theorem s127_13 (j : Nat) : q_ins 127 (j + 208) = q_at q_c127_13 j := s127_12 (j + 16)
theorem s127_14 (j : Nat) : q_ins 127 (j + 224) = q_at q_c127_14 j := s127_13 (j + 16)
theorem s127_15 (j : Nat) : q_ins 127 (j + 240) = q_at q_c127_15 j := s127_14 (j + 16)
theorem s127_16 (j : Nat) : q_ins 127 (j + 256) = q_at q_c127_16 j := s127_15 (j + 16)
theorem s127_17 (j : Nat) : q_ins 127 (j + 272) = q_at q_c127_17 j := s127_16 (j + 16)
theorem s127_18 (j : Nat) : q_ins 127 (j + 288) = q_at q_c127_18 j := s127_17 (j + 16)
theorem s127_19 (j : Nat) : q_ins 127 (j + 304) = q_at q_c127_19 j := s127_18 (j + 16)
theorem s127_20 (j : Nat) : q_ins 127 (j + 320) = q_at q_c127_20 j := s127_19 (j + 16)
theorem s127_21 (j : Nat) : q_ins 127 (j + 336) = q_at q_c127_21 j := s127_20 (j + 16)
theorem s127_22 (j : Nat) : q_ins 127 (j + 352) = q_at q_c127_22 j := s127_21 (j + 16)
theorem s127_23 (j : Nat) : q_ins 127 (j + 368) = q_at q_c127_23 j := s127_22 (j + 16)
theorem s127_24 (j : Nat) : q_ins 127 (j + 384) = q_at q_c127_24 j := s127_23 (j + 16)
theorem i127_0 : q_ins 127 0 = some (.aload_n 0, 1, (0, 0, 0, 0, 0)) := s127_0 0
theorem i127_1 : q_ins 127 1 = some (.aload_n 0, 1, (0, 0, 0, 0, 0)) := s127_0 1
theorem i127_2 : q_ins 127 2 = some (.getfield 90, 3, (186, 10, 7, 0, 0)) := s127_0 2
theorem i127_5 : q_ins 127 5 = some (.invokevirtual 93, 3, (173, 128, 2, 0, 10)) := s127_0 5
theorem i127_8 : q_ins 127 8 = some (.bipush 32, 2, (0, 0, 0, 0, 0)) := s127_0 8
theorem i127_10 : q_ins 127 10 = some (.if_icmp .eq 16, 3, (0, 0, 0, 0, 0)) := s127_0 10
theorem i127_13 : q_ins 127 13 = some (.aload_n 0, 1, (0, 0, 0, 0, 0)) := s127_0 13
theorem i127_14 : q_ins 127 14 = some (.aload_n 0, 1, (0, 0, 0, 0, 0)) := s127_0 14
theorem i127_15 : q_ins 127 15 = some (.getfield 90, 3, (186, 10, 7, 0, 0)) := s127_0 15
theorem i127_18 : q_ins 127 18 = some (.invokevirtual 93, 3, (173, 128, 2, 0, 10)) := s127_1 2
theorem i127_21 : q_ins 127 21 = some (.bipush 10, 2, (0, 0, 0, 0, 0)) := s127_1 5
theorem i127_23 : q_ins 127 23 = some (.if_icmp .ne 16, 3, (0, 0, 0, 0, 0)) := s127_1 7
theorem i127_26 : q_ins 127 26 = some (.aload_n 0, 1, (0, 0, 0, 0, 0)) := s127_1 10
theorem i127_27 : q_ins 127 27 = some (.dup, 1, (0, 0, 0, 0, 0)) := s127_1 11
theorem i127_28 : q_ins 127 28 = some (.getfield 90, 3, (186, 10, 7, 0, 0)) := s127_1 12
theorem i127_31 : q_ins 127 31 = some (.iconst 1, 1, (0, 0, 0, 0, 0)) := s127_1 15
theorem i127_32 : q_ins 127 32 = some (.iadd, 1, (0, 0, 0, 0, 0)) := s127_2 0
theorem i127_33 : q_ins 127 33 = some (.putfield 90, 3, (186, 10, 7, 0, 0)) := s127_2 1
theorem i127_36 : q_ins 127 36 = some (.goto (-36), 3, (0, 0, 0, 0, 0)) := s127_2 4
theorem i127_39 : q_ins 127 39 = some (.aload_n 0, 1, (0, 0, 0, 0, 0)) := s127_2 7
theorem i127_40 : q_ins 127 40 = some (.aload_n 0, 1, (0, 0, 0, 0, 0)) := s127_2 8
theorem i127_41 : q_ins 127 41 = some (.getfield 90, 3, (186, 10, 7, 0, 0)) := s127_2 9
theorem i127_44 : q_ins 127 44 = some (.putfield 97, 3, (181, 10, 8, 0, 0)) := s127_2 12
theorem i127_47 : q_ins 127 47 = some (.aload_n 0, 1, (0, 0, 0, 0, 0)) := s127_2 15
theorem i127_48 : q_ins 127 48 = some (.aload_n 0, 1, (0, 0, 0, 0, 0)) := s127_3 0
theorem i127_49 : q_ins 127 49 = some (.getfield 90, 3, (186, 10, 7, 0, 0)) := s127_3 1
theorem i127_52 : q_ins 127 52 = some (.invokevirtual 93, 3, (173, 128, 2, 0, 10)) := s127_3 4
theorem i127_55 : q_ins 127 55 = some (.istore_n 1, 1, (0, 0, 0, 0, 0)) := s127_3 7
theorem i127_56 : q_ins 127 56 = some (.iload_n 1, 1, (0, 0, 0, 0, 0)) := s127_3 8
theorem i127_57 : q_ins 127 57 = some (.ifCond .ge 11, 3, (0, 0, 0, 0, 0)) := s127_3 9
theorem i127_60 : q_ins 127 60 = some (.aload_n 0, 1, (0, 0, 0, 0, 0)) := s127_3 12
theorem i127_61 : q_ins 127 61 = some (.iconst 0, 1, (0, 0, 0, 0, 0)) := s127_3 13
theorem i127_62 : q_ins 127 62 = some (.putfield 100, 3, (187, 10, 9, 0, 0)) := s127_3 14
theorem i127_65 : q_ins 127 65 = some (.goto 325, 3, (0, 0, 0, 0, 0)) := s127_4 1
theorem i127_68 : q_ins 127 68 = some (.iload_n 1, 1, (0, 0, 0, 0, 0)) := s127_4 4
theorem i127_69 : q_ins 127 69 = some (.invokestatic 103, 3, (174, 129, 1, 2, 0)) := s127_4 5
theorem i127_72 : q_ins 127 72 = some (.ifCond .eq 72, 3, (0, 0, 0, 0, 0)) := s127_4 8
theorem i127_75 : q_ins 127 75 = some (.aload_n 0, 1, (0, 0, 0, 0, 0)) := s127_4 11
theorem i127_76 : q_ins 127 76 = some (.iconst 1, 1, (0, 0, 0, 0, 0)) := s127_4 12
theorem i127_77 : q_ins 127 77 = some (.putfield 100, 3, (187, 10, 9, 0, 0)) := s127_4 13
theorem i127_80 : q_ins 127 80 = some (.aload_n 0, 1, (0, 0, 0, 0, 0)) := s127_5 0
theorem i127_81 : q_ins 127 81 = some (.iconst 0, 1, (0, 0, 0, 0, 0)) := s127_5 1
theorem i127_82 : q_ins 127 82 = some (.putfield 107, 3, (188, 10, 10, 0, 0)) := s127_5 2
theorem i127_85 : q_ins 127 85 = some (.aload_n 0, 1, (0, 0, 0, 0, 0)) := s127_5 5
theorem i127_86 : q_ins 127 86 = some (.aload_n 0, 1, (0, 0, 0, 0, 0)) := s127_5 6
theorem i127_87 : q_ins 127 87 = some (.getfield 90, 3, (186, 10, 7, 0, 0)) := s127_5 7
theorem i127_90 : q_ins 127 90 = some (.invokevirtual 93, 3, (173, 128, 2, 0, 10)) := s127_5 10
theorem i127_93 : q_ins 127 93 = some (.invokestatic 103, 3, (174, 129, 1, 2, 0)) := s127_5 13
theorem i127_96 : q_ins 127 96 = some (.ifCond .eq 294, 3, (0, 0, 0, 0, 0)) := s127_6 0
theorem i127_99 : q_ins 127 99 = some (.aload_n 0, 1, (0, 0, 0, 0, 0)) := s127_6 3
theorem i127_100 : q_ins 127 100 = some (.getfield 107, 3, (188, 10, 10, 0, 0)) := s127_6 4
theorem i127_103 : q_ins 127 103 = some (.ldc 110, 2, (1166, 0, 0, 0, 100000)) := s127_6 7
theorem i127_105 : q_ins 127 105 = some (.if_icmp .ge 26, 3, (0, 0, 0, 0, 0)) := s127_6 9
theorem i127_108 : q_ins 127 108 = some (.aload_n 0, 1, (0, 0, 0, 0, 0)) := s127_6 12
theorem i127_109 : q_ins 127 109 = some (.bipush 10, 2, (0, 0, 0, 0, 0)) := s127_6 13
theorem i127_111 : q_ins 127 111 = some (.aload_n 0, 1, (0, 0, 0, 0, 0)) := s127_6 15
theorem i127_112 : q_ins 127 112 = some (.getfield 107, 3, (188, 10, 10, 0, 0)) := s127_7 0
theorem i127_115 : q_ins 127 115 = some (.imul, 1, (0, 0, 0, 0, 0)) := s127_7 3
theorem i127_116 : q_ins 127 116 = some (.aload_n 0, 1, (0, 0, 0, 0, 0)) := s127_7 4
theorem i127_117 : q_ins 127 117 = some (.aload_n 0, 1, (0, 0, 0, 0, 0)) := s127_7 5
theorem i127_118 : q_ins 127 118 = some (.getfield 90, 3, (186, 10, 7, 0, 0)) := s127_7 6
theorem i127_121 : q_ins 127 121 = some (.invokevirtual 93, 3, (173, 128, 2, 0, 10)) := s127_7 9
theorem i127_124 : q_ins 127 124 = some (.iadd, 1, (0, 0, 0, 0, 0)) := s127_7 12
theorem i127_125 : q_ins 127 125 = some (.bipush 48, 2, (0, 0, 0, 0, 0)) := s127_7 13
theorem i127_127 : q_ins 127 127 = some (.isub, 1, (0, 0, 0, 0, 0)) := s127_7 15
theorem i127_128 : q_ins 127 128 = some (.putfield 107, 3, (188, 10, 10, 0, 0)) := s127_8 0
theorem i127_131 : q_ins 127 131 = some (.aload_n 0, 1, (0, 0, 0, 0, 0)) := s127_8 3
theorem i127_132 : q_ins 127 132 = some (.dup, 1, (0, 0, 0, 0, 0)) := s127_8 4
theorem i127_133 : q_ins 127 133 = some (.getfield 90, 3, (186, 10, 7, 0, 0)) := s127_8 5
theorem i127_136 : q_ins 127 136 = some (.iconst 1, 1, (0, 0, 0, 0, 0)) := s127_8 8
theorem i127_137 : q_ins 127 137 = some (.iadd, 1, (0, 0, 0, 0, 0)) := s127_8 9
theorem i127_138 : q_ins 127 138 = some (.putfield 90, 3, (186, 10, 7, 0, 0)) := s127_8 10
theorem i127_141 : q_ins 127 141 = some (.goto (-56), 3, (0, 0, 0, 0, 0)) := s127_8 13
theorem i127_144 : q_ins 127 144 = some (.iload_n 1, 1, (0, 0, 0, 0, 0)) := s127_9 0
theorem i127_145 : q_ins 127 145 = some (.invokestatic 111, 3, (175, 130, 1, 2, 0)) := s127_9 1
theorem i127_148 : q_ins 127 148 = some (.ifCond .eq 97, 3, (0, 0, 0, 0, 0)) := s127_9 4
theorem i127_151 : q_ins 127 151 = some (.aload_n 0, 1, (0, 0, 0, 0, 0)) := s127_9 7
theorem i127_152 : q_ins 127 152 = some (.iconst 2, 1, (0, 0, 0, 0, 0)) := s127_9 8
theorem i127_153 : q_ins 127 153 = some (.putfield 100, 3, (187, 10, 9, 0, 0)) := s127_9 9
theorem i127_156 : q_ins 127 156 = some (.aload_n 0, 1, (0, 0, 0, 0, 0)) := s127_9 12
theorem i127_157 : q_ins 127 157 = some (.lconst 0, 1, (0, 0, 0, 0, 0)) := s127_9 13
theorem i127_158 : q_ins 127 158 = some (.putfield 114, 3, (189, 10, 11, 1, 0)) := s127_9 14
theorem i127_161 : q_ins 127 161 = some (.aload_n 0, 1, (0, 0, 0, 0, 0)) := s127_10 1
theorem i127_162 : q_ins 127 162 = some (.aload_n 0, 1, (0, 0, 0, 0, 0)) := s127_10 2
theorem i127_163 : q_ins 127 163 = some (.getfield 90, 3, (186, 10, 7, 0, 0)) := s127_10 3
theorem i127_166 : q_ins 127 166 = some (.invokevirtual 93, 3, (173, 128, 2, 0, 10)) := s127_10 6
theorem i127_169 : q_ins 127 169 = some (.invokestatic 111, 3, (175, 130, 1, 2, 0)) := s127_10 9
theorem i127_172 : q_ins 127 172 = some (.ifCond .eq 51, 3, (0, 0, 0, 0, 0)) := s127_10 12
theorem i127_175 : q_ins 127 175 = some (.aload_n 0, 1, (0, 0, 0, 0, 0)) := s127_10 15
theorem i127_176 : q_ins 127 176 = some (.getfield 90, 3, (186, 10, 7, 0, 0)) := s127_11 0
theorem i127_179 : q_ins 127 179 = some (.aload_n 0, 1, (0, 0, 0, 0, 0)) := s127_11 3
theorem i127_180 : q_ins 127 180 = some (.getfield 97, 3, (181, 10, 8, 0, 0)) := s127_11 4
theorem i127_183 : q_ins 127 183 = some (.isub, 1, (0, 0, 0, 0, 0)) := s127_11 7
theorem i127_184 : q_ins 127 184 = some (.bipush 7, 2, (0, 0, 0, 0, 0)) := s127_11 8
theorem i127_186 : q_ins 127 186 = some (.if_icmp .ge 24, 3, (0, 0, 0, 0, 0)) := s127_11 10
theorem i127_189 : q_ins 127 189 = some (.aload_n 0, 1, (0, 0, 0, 0, 0)) := s127_11 13
theorem i127_190 : q_ins 127 190 = some (.aload_n 0, 1, (0, 0, 0, 0, 0)) := s127_11 14
theorem i127_191 : q_ins 127 191 = some (.getfield 114, 3, (189, 10, 11, 1, 0)) := s127_11 15
theorem i127_194 : q_ins 127 194 = some (.bipush 8, 2, (0, 0, 0, 0, 0)) := s127_12 2
theorem i127_196 : q_ins 127 196 = some (.lshl, 1, (0, 0, 0, 0, 0)) := s127_12 4
theorem i127_197 : q_ins 127 197 = some (.aload_n 0, 1, (0, 0, 0, 0, 0)) := s127_12 5
theorem i127_198 : q_ins 127 198 = some (.aload_n 0, 1, (0, 0, 0, 0, 0)) := s127_12 6
theorem i127_199 : q_ins 127 199 = some (.getfield 90, 3, (186, 10, 7, 0, 0)) := s127_12 7
theorem i127_202 : q_ins 127 202 = some (.invokevirtual 93, 3, (173, 128, 2, 0, 10)) := s127_12 10
theorem i127_205 : q_ins 127 205 = some (.i2l, 1, (0, 0, 0, 0, 0)) := s127_12 13
theorem i127_206 : q_ins 127 206 = some (.lor, 1, (0, 0, 0, 0, 0)) := s127_12 14
theorem i127_207 : q_ins 127 207 = some (.putfield 114, 3, (189, 10, 11, 1, 0)) := s127_12 15
theorem i127_210 : q_ins 127 210 = some (.aload_n 0, 1, (0, 0, 0, 0, 0)) := s127_13 2
theorem i127_211 : q_ins 127 211 = some (.dup, 1, (0, 0, 0, 0, 0)) := s127_13 3
theorem i127_212 : q_ins 127 212 = some (.getfield 90, 3, (186, 10, 7, 0, 0)) := s127_13 4
theorem i127_215 : q_ins 127 215 = some (.iconst 1, 1, (0, 0, 0, 0, 0)) := s127_13 7
theorem i127_216 : q_ins 127 216 = some (.iadd, 1, (0, 0, 0, 0, 0)) := s127_13 8
theorem i127_217 : q_ins 127 217 = some (.putfield 90, 3, (186, 10, 7, 0, 0)) := s127_13 9
theorem i127_220 : q_ins 127 220 = some (.goto (-59), 3, (0, 0, 0, 0, 0)) := s127_13 12
theorem i127_223 : q_ins 127 223 = some (.aload_n 0, 1, (0, 0, 0, 0, 0)) := s127_13 15
theorem i127_224 : q_ins 127 224 = some (.getfield 90, 3, (186, 10, 7, 0, 0)) := s127_14 0
theorem i127_227 : q_ins 127 227 = some (.aload_n 0, 1, (0, 0, 0, 0, 0)) := s127_14 3
theorem i127_228 : q_ins 127 228 = some (.getfield 97, 3, (181, 10, 8, 0, 0)) := s127_14 4
theorem i127_231 : q_ins 127 231 = some (.isub, 1, (0, 0, 0, 0, 0)) := s127_14 7
theorem i127_232 : q_ins 127 232 = some (.bipush 7, 2, (0, 0, 0, 0, 0)) := s127_14 8
theorem i127_234 : q_ins 127 234 = some (.if_icmp .le 156, 3, (0, 0, 0, 0, 0)) := s127_14 10
theorem i127_237 : q_ins 127 237 = some (.aload_n 0, 1, (0, 0, 0, 0, 0)) := s127_14 13
theorem i127_238 : q_ins 127 238 = some (.lconst 0, 1, (0, 0, 0, 0, 0)) := s127_14 14
theorem i127_239 : q_ins 127 239 = some (.putfield 114, 3, (189, 10, 11, 1, 0)) := s127_14 15
theorem i127_242 : q_ins 127 242 = some (.goto 148, 3, (0, 0, 0, 0, 0)) := s127_15 2
theorem i127_245 : q_ins 127 245 = some (.aload_n 0, 1, (0, 0, 0, 0, 0)) := s127_15 5
theorem i127_246 : q_ins 127 246 = some (.dup, 1, (0, 0, 0, 0, 0)) := s127_15 6
theorem i127_247 : q_ins 127 247 = some (.getfield 90, 3, (186, 10, 7, 0, 0)) := s127_15 7
theorem i127_250 : q_ins 127 250 = some (.iconst 1, 1, (0, 0, 0, 0, 0)) := s127_15 10
theorem i127_251 : q_ins 127 251 = some (.iadd, 1, (0, 0, 0, 0, 0)) := s127_15 11
theorem i127_252 : q_ins 127 252 = some (.putfield 90, 3, (186, 10, 7, 0, 0)) := s127_15 12
theorem i127_255 : q_ins 127 255 = some (.iload_n 1, 1, (0, 0, 0, 0, 0)) := s127_15 15
theorem i127_256 : q_ins 127 256 = some (.bipush 60, 2, (0, 0, 0, 0, 0)) := s127_16 0
theorem i127_258 : q_ins 127 258 = some (.if_icmp .eq 63, 3, (0, 0, 0, 0, 0)) := s127_16 2
theorem i127_261 : q_ins 127 261 = some (.iload_n 1, 1, (0, 0, 0, 0, 0)) := s127_16 5
theorem i127_262 : q_ins 127 262 = some (.bipush 62, 2, (0, 0, 0, 0, 0)) := s127_16 6
theorem i127_264 : q_ins 127 264 = some (.if_icmp .eq 57, 3, (0, 0, 0, 0, 0)) := s127_16 8
theorem i127_267 : q_ins 127 267 = some (.iload_n 1, 1, (0, 0, 0, 0, 0)) := s127_16 11
theorem i127_268 : q_ins 127 268 = some (.bipush 61, 2, (0, 0, 0, 0, 0)) := s127_16 12
theorem i127_270 : q_ins 127 270 = some (.if_icmp .eq 51, 3, (0, 0, 0, 0, 0)) := s127_16 14
theorem i127_273 : q_ins 127 273 = some (.iload_n 1, 1, (0, 0, 0, 0, 0)) := s127_17 1
theorem i127_274 : q_ins 127 274 = some (.bipush 35, 2, (0, 0, 0, 0, 0)) := s127_17 2
theorem i127_276 : q_ins 127 276 = some (.if_icmp .eq 45, 3, (0, 0, 0, 0, 0)) := s127_17 4
theorem i127_279 : q_ins 127 279 = some (.iload_n 1, 1, (0, 0, 0, 0, 0)) := s127_17 7
theorem i127_280 : q_ins 127 280 = some (.bipush 43, 2, (0, 0, 0, 0, 0)) := s127_17 8
theorem i127_282 : q_ins 127 282 = some (.if_icmp .eq 39, 3, (0, 0, 0, 0, 0)) := s127_17 10
theorem i127_285 : q_ins 127 285 = some (.iload_n 1, 1, (0, 0, 0, 0, 0)) := s127_17 13
theorem i127_286 : q_ins 127 286 = some (.bipush 45, 2, (0, 0, 0, 0, 0)) := s127_17 14
theorem i127_288 : q_ins 127 288 = some (.if_icmp .eq 33, 3, (0, 0, 0, 0, 0)) := s127_18 0
theorem i127_291 : q_ins 127 291 = some (.iload_n 1, 1, (0, 0, 0, 0, 0)) := s127_18 3
theorem i127_292 : q_ins 127 292 = some (.bipush 42, 2, (0, 0, 0, 0, 0)) := s127_18 4
theorem i127_294 : q_ins 127 294 = some (.if_icmp .eq 27, 3, (0, 0, 0, 0, 0)) := s127_18 6
theorem i127_297 : q_ins 127 297 = some (.iload_n 1, 1, (0, 0, 0, 0, 0)) := s127_18 9
theorem i127_298 : q_ins 127 298 = some (.bipush 47, 2, (0, 0, 0, 0, 0)) := s127_18 10
theorem i127_300 : q_ins 127 300 = some (.if_icmp .eq 21, 3, (0, 0, 0, 0, 0)) := s127_18 12
theorem i127_303 : q_ins 127 303 = some (.iload_n 1, 1, (0, 0, 0, 0, 0)) := s127_18 15
theorem i127_304 : q_ins 127 304 = some (.bipush 40, 2, (0, 0, 0, 0, 0)) := s127_19 0
theorem i127_306 : q_ins 127 306 = some (.if_icmp .eq 15, 3, (0, 0, 0, 0, 0)) := s127_19 2
theorem i127_309 : q_ins 127 309 = some (.iload_n 1, 1, (0, 0, 0, 0, 0)) := s127_19 5
theorem i127_310 : q_ins 127 310 = some (.bipush 41, 2, (0, 0, 0, 0, 0)) := s127_19 6
theorem i127_312 : q_ins 127 312 = some (.if_icmp .eq 9, 3, (0, 0, 0, 0, 0)) := s127_19 8
theorem i127_315 : q_ins 127 315 = some (.iload_n 1, 1, (0, 0, 0, 0, 0)) := s127_19 11
theorem i127_316 : q_ins 127 316 = some (.bipush 59, 2, (0, 0, 0, 0, 0)) := s127_19 12
theorem i127_318 : q_ins 127 318 = some (.if_icmp .ne 7, 3, (0, 0, 0, 0, 0)) := s127_19 14
theorem i127_321 : q_ins 127 321 = some (.iconst 1, 1, (0, 0, 0, 0, 0)) := s127_20 1
theorem i127_322 : q_ins 127 322 = some (.goto 4, 3, (0, 0, 0, 0, 0)) := s127_20 2
theorem i127_325 : q_ins 127 325 = some (.iconst 0, 1, (0, 0, 0, 0, 0)) := s127_20 5
theorem i127_326 : q_ins 127 326 = some (.istore_n 2, 1, (0, 0, 0, 0, 0)) := s127_20 6
theorem i127_327 : q_ins 127 327 = some (.aload_n 0, 1, (0, 0, 0, 0, 0)) := s127_20 7
theorem i127_328 : q_ins 127 328 = some (.iload_n 2, 1, (0, 0, 0, 0, 0)) := s127_20 8
theorem i127_329 : q_ins 127 329 = some (.ifCond .eq 7, 3, (0, 0, 0, 0, 0)) := s127_20 9
theorem i127_332 : q_ins 127 332 = some (.iload_n 1, 1, (0, 0, 0, 0, 0)) := s127_20 12
theorem i127_333 : q_ins 127 333 = some (.goto 4, 3, (0, 0, 0, 0, 0)) := s127_20 13
theorem i127_336 : q_ins 127 336 = some (.iconst 3, 1, (0, 0, 0, 0, 0)) := s127_21 0
theorem i127_337 : q_ins 127 337 = some (.putfield 100, 3, (187, 10, 9, 0, 0)) := s127_21 1
theorem i127_340 : q_ins 127 340 = some (.iload_n 1, 1, (0, 0, 0, 0, 0)) := s127_21 4
theorem i127_341 : q_ins 127 341 = some (.bipush 60, 2, (0, 0, 0, 0, 0)) := s127_21 5
theorem i127_343 : q_ins 127 343 = some (.if_icmp .eq 9, 3, (0, 0, 0, 0, 0)) := s127_21 7
theorem i127_346 : q_ins 127 346 = some (.iload_n 1, 1, (0, 0, 0, 0, 0)) := s127_21 10
theorem i127_347 : q_ins 127 347 = some (.bipush 62, 2, (0, 0, 0, 0, 0)) := s127_21 11
theorem i127_349 : q_ins 127 349 = some (.if_icmp .ne 41, 3, (0, 0, 0, 0, 0)) := s127_21 13
theorem i127_352 : q_ins 127 352 = some (.aload_n 0, 1, (0, 0, 0, 0, 0)) := s127_22 0
theorem i127_353 : q_ins 127 353 = some (.aload_n 0, 1, (0, 0, 0, 0, 0)) := s127_22 1
theorem i127_354 : q_ins 127 354 = some (.getfield 90, 3, (186, 10, 7, 0, 0)) := s127_22 2
theorem i127_357 : q_ins 127 357 = some (.invokevirtual 93, 3, (173, 128, 2, 0, 10)) := s127_22 5
theorem i127_360 : q_ins 127 360 = some (.bipush 61, 2, (0, 0, 0, 0, 0)) := s127_22 8
theorem i127_362 : q_ins 127 362 = some (.if_icmp .ne 28, 3, (0, 0, 0, 0, 0)) := s127_22 10
theorem i127_365 : q_ins 127 365 = some (.aload_n 0, 1, (0, 0, 0, 0, 0)) := s127_22 13
theorem i127_366 : q_ins 127 366 = some (.dup, 1, (0, 0, 0, 0, 0)) := s127_22 14
theorem i127_367 : q_ins 127 367 = some (.getfield 90, 3, (186, 10, 7, 0, 0)) := s127_22 15
theorem i127_370 : q_ins 127 370 = some (.iconst 1, 1, (0, 0, 0, 0, 0)) := s127_23 2
theorem i127_371 : q_ins 127 371 = some (.iadd, 1, (0, 0, 0, 0, 0)) := s127_23 3
theorem i127_372 : q_ins 127 372 = some (.putfield 90, 3, (186, 10, 7, 0, 0)) := s127_23 4
theorem i127_375 : q_ins 127 375 = some (.aload_n 0, 1, (0, 0, 0, 0, 0)) := s127_23 7
theorem i127_376 : q_ins 127 376 = some (.iload_n 1, 1, (0, 0, 0, 0, 0)) := s127_23 8
theorem i127_377 : q_ins 127 377 = some (.bipush 60, 2, (0, 0, 0, 0, 0)) := s127_23 9
theorem i127_379 : q_ins 127 379 = some (.if_icmp .ne 7, 3, (0, 0, 0, 0, 0)) := s127_23 11
theorem i127_382 : q_ins 127 382 = some (.iconst 4, 1, (0, 0, 0, 0, 0)) := s127_23 14
theorem i127_383 : q_ins 127 383 = some (.goto 4, 3, (0, 0, 0, 0, 0)) := s127_23 15
theorem i127_386 : q_ins 127 386 = some (.iconst 5, 1, (0, 0, 0, 0, 0)) := s127_24 2
theorem i127_387 : q_ins 127 387 = some (.putfield 100, 3, (187, 10, 9, 0, 0)) := s127_24 3
theorem i127_390 : q_ins 127 390 = some (.return_, 1, (0, 0, 0, 0, 0)) := s127_24 6
theorem s128_0 (j : Nat) : q_ins 128 j = q_at q_c128 j := rfl
theorem s128_1 (j : Nat) : q_ins 128 (j + 16) = q_at q_c128_1 j := s128_0 (j + 16)
theorem i128_0 : q_ins 128 0 = some (.iload_n 1, 1, (0, 0, 0, 0, 0)) := s128_0 0
theorem i128_1 : q_ins 128 1 = some (.aload_n 0, 1, (0, 0, 0, 0, 0)) := s128_0 1
theorem i128_2 : q_ins 128 2 = some (.getfield 83, 3, (180, 10, 4, 0, 0)) := s128_0 2
theorem i128_5 : q_ins 128 5 = some (.if_icmp .ge 12, 3, (0, 0, 0, 0, 0)) := s128_0 5
theorem i128_8 : q_ins 128 8 = some (.aload_n 0, 1, (0, 0, 0, 0, 0)) := s128_0 8
theorem i128_9 : q_ins 128 9 = some (.getfield 19, 3, (165, 10, 3, 2, 0)) := s128_0 9
theorem i128_12 : q_ins 128 12 = some (.iload_n 1, 1, (0, 0, 0, 0, 0)) := s128_0 12
theorem i128_13 : q_ins 128 13 = some (.iaload, 1, (0, 0, 0, 0, 0)) := s128_0 13
theorem i128_14 : q_ins 128 14 = some (.goto 4, 3, (0, 0, 0, 0, 0)) := s128_0 14
theorem i128_17 : q_ins 128 17 = some (.iconst (-1), 1, (0, 0, 0, 0, 0)) := s128_1 1
theorem i128_18 : q_ins 128 18 = some (.ireturn, 1, (0, 0, 0, 0, 0)) := s128_1 2
theorem s129_0 (j : Nat) : q_ins 129 j = q_at q_c129 j := rfl
theorem i129_0 : q_ins 129 0 = some (.iload_n 0, 1, (0, 0, 0, 0, 0)) := s129_0 0
theorem i129_1 : q_ins 129 1 = some (.bipush 48, 2, (0, 0, 0, 0, 0)) := s129_0 1
theorem i129_3 : q_ins 129 3 = some (.bipush 57, 2, (0, 0, 0, 0, 0)) := s129_0 3
theorem i129_5 : q_ins 129 5 = some (.invokestatic 71, 3, (167, 118, 3, 2, 0)) := s129_0 5
theorem i129_8 : q_ins 129 8 = some (.ireturn, 1, (0, 0, 0, 0, 0)) := s129_0 8
theorem s130_0 (j : Nat) : q_ins 130 j = q_at q_c130 j := rfl
theorem s130_1 (j : Nat) : q_ins 130 (j + 16) = q_at q_c130_1 j := s130_0 (j + 16)
theorem i130_0 : q_ins 130 0 = some (.iload_n 0, 1, (0, 0, 0, 0, 0)) := s130_0 0
theorem i130_1 : q_ins 130 1 = some (.bipush 97, 2, (0, 0, 0, 0, 0)) := s130_0 1
theorem i130_3 : q_ins 130 3 = some (.bipush 122, 2, (0, 0, 0, 0, 0)) := s130_0 3
theorem i130_5 : q_ins 130 5 = some (.invokestatic 71, 3, (167, 118, 3, 2, 0)) := s130_0 5
theorem i130_8 : q_ins 130 8 = some (.ifCond .ne 14, 3, (0, 0, 0, 0, 0)) := s130_0 8
theorem i130_11 : q_ins 130 11 = some (.iload_n 0, 1, (0, 0, 0, 0, 0)) := s130_0 11
theorem i130_12 : q_ins 130 12 = some (.bipush 65, 2, (0, 0, 0, 0, 0)) := s130_0 12
theorem i130_14 : q_ins 130 14 = some (.bipush 90, 2, (0, 0, 0, 0, 0)) := s130_0 14
theorem i130_16 : q_ins 130 16 = some (.invokestatic 71, 3, (167, 118, 3, 2, 0)) := s130_1 0
theorem i130_19 : q_ins 130 19 = some (.ifCond .eq 7, 3, (0, 0, 0, 0, 0)) := s130_1 3
theorem i130_22 : q_ins 130 22 = some (.iconst 1, 1, (0, 0, 0, 0, 0)) := s130_1 6
theorem i130_23 : q_ins 130 23 = some (.goto 4, 3, (0, 0, 0, 0, 0)) := s130_1 7
theorem i130_26 : q_ins 130 26 = some (.iconst 0, 1, (0, 0, 0, 0, 0)) := s130_1 10
theorem i130_27 : q_ins 130 27 = some (.ireturn, 1, (0, 0, 0, 0, 0)) := s130_1 11
theorem s131_0 (j : Nat) : q_ins 131 j = q_at q_c131 j := rfl
theorem s131_1 (j : Nat) : q_ins 131 (j + 16) = q_at q_c131_1 j := s131_0 (j + 16)
theorem s131_2 (j : Nat) : q_ins 131 (j + 32) = q_at q_c131_2 j := s131_1 (j + 16)
theorem s131_3 (j : Nat) : q_ins 131 (j + 48) = q_at q_c131_3 j := s131_2 (j + 16)
theorem s131_4 (j : Nat) : q_ins 131 (j + 64) = q_at q_c131_4 j := s131_3 (j + 16)
theorem s131_5 (j : Nat) : q_ins 131 (j + 80) = q_at q_c131_5 j := s131_4 (j + 16)
theorem s131_6 (j : Nat) : q_ins 131 (j + 96) = q_at q_c131_6 j := s131_5 (j + 16)
theorem s131_7 (j : Nat) : q_ins 131 (j + 112) = q_at q_c131_7 j := s131_6 (j + 16)
theorem s131_8 (j : Nat) : q_ins 131 (j + 128) = q_at q_c131_8 j := s131_7 (j + 16)
theorem s131_9 (j : Nat) : q_ins 131 (j + 144) = q_at q_c131_9 j := s131_8 (j + 16)
theorem s131_10 (j : Nat) : q_ins 131 (j + 160) = q_at q_c131_10 j := s131_9 (j + 16)
theorem s131_11 (j : Nat) : q_ins 131 (j + 176) = q_at q_c131_11 j := s131_10 (j + 16)
theorem s131_12 (j : Nat) : q_ins 131 (j + 192) = q_at q_c131_12 j := s131_11 (j + 16)
theorem i131_0 : q_ins 131 0 = some (.aload_n 0, 1, (0, 0, 0, 0, 0)) := s131_0 0
theorem i131_1 : q_ins 131 1 = some (.invokevirtual 212, 3, (176, 132, 1, 0, 10)) := s131_0 1
theorem i131_4 : q_ins 131 4 = some (.istore_n 1, 1, (0, 0, 0, 0, 0)) := s131_0 4
theorem i131_5 : q_ins 131 5 = some (.iload_n 1, 1, (0, 0, 0, 0, 0)) := s131_0 5
theorem i131_6 : q_ins 131 6 = some (.ifCond .ge 5, 3, (0, 0, 0, 0, 0)) := s131_0 6
theorem i131_9 : q_ins 131 9 = some (.iconst 1, 1, (0, 0, 0, 0, 0)) := s131_0 9
theorem i131_10 : q_ins 131 10 = some (.ireturn, 1, (0, 0, 0, 0, 0)) := s131_0 10
theorem i131_11 : q_ins 131 11 = some (.iload_n 1, 1, (0, 0, 0, 0, 0)) := s131_0 11
theorem i131_12 : q_ins 131 12 = some (.iconst 3, 1, (0, 0, 0, 0, 0)) := s131_0 12
theorem i131_13 : q_ins 131 13 = some (.if_icmp .ge 17, 3, (0, 0, 0, 0, 0)) := s131_0 13
theorem i131_16 : q_ins 131 16 = some (.aload_n 0, 1, (0, 0, 0, 0, 0)) := s131_1 0
theorem i131_17 : q_ins 131 17 = some (.getfield 215, 3, (185, 10, 21, 0, 0)) := s131_1 1
theorem i131_20 : q_ins 131 20 = some (.iload_n 1, 1, (0, 0, 0, 0, 0)) := s131_1 4
theorem i131_21 : q_ins 131 21 = some (.ishr, 1, (0, 0, 0, 0, 0)) := s131_1 5
theorem i131_22 : q_ins 131 22 = some (.iconst 1, 1, (0, 0, 0, 0, 0)) := s131_1 6
theorem i131_23 : q_ins 131 23 = some (.iand, 1, (0, 0, 0, 0, 0)) := s131_1 7
theorem i131_24 : q_ins 131 24 = some (.iconst 1, 1, (0, 0, 0, 0, 0)) := s131_1 8
theorem i131_25 : q_ins 131 25 = some (.if_icmp .ne 5, 3, (0, 0, 0, 0, 0)) := s131_1 9
theorem i131_28 : q_ins 131 28 = some (.iconst 4, 1, (0, 0, 0, 0, 0)) := s131_1 12
theorem i131_29 : q_ins 131 29 = some (.ireturn, 1, (0, 0, 0, 0, 0)) := s131_1 13
theorem i131_30 : q_ins 131 30 = some (.aload_n 0, 1, (0, 0, 0, 0, 0)) := s131_1 14
theorem i131_31 : q_ins 131 31 = some (.getfield 16, 3, (164, 10, 2, 2, 0)) := s131_1 15
theorem i131_34 : q_ins 131 34 = some (.aload_n 0, 1, (0, 0, 0, 0, 0)) := s131_2 2
theorem i131_35 : q_ins 131 35 = some (.getfield 126, 3, (182, 10, 12, 0, 0)) := s131_2 3
theorem i131_38 : q_ins 131 38 = some (.iaload, 1, (0, 0, 0, 0, 0)) := s131_2 6
theorem i131_39 : q_ins 131 39 = some (.istore_n 2, 1, (0, 0, 0, 0, 0)) := s131_2 7
theorem i131_40 : q_ins 131 40 = some (.iload_n 2, 1, (0, 0, 0, 0, 0)) := s131_2 8
theorem i131_41 : q_ins 131 41 = some (.bipush 24, 2, (0, 0, 0, 0, 0)) := s131_2 9
theorem i131_43 : q_ins 131 43 = some (.if_icmp .ne 6, 3, (0, 0, 0, 0, 0)) := s131_2 11
theorem i131_46 : q_ins 131 46 = some (.bipush 6, 2, (0, 0, 0, 0, 0)) := s131_2 14
theorem i131_48 : q_ins 131 48 = some (.ireturn, 1, (0, 0, 0, 0, 0)) := s131_3 0
theorem i131_49 : q_ins 131 49 = some (.iload_n 1, 1, (0, 0, 0, 0, 0)) := s131_3 1
theorem i131_50 : q_ins 131 50 = some (.iconst 3, 1, (0, 0, 0, 0, 0)) := s131_3 2
theorem i131_51 : q_ins 131 51 = some (.if_icmp .ge 15, 3, (0, 0, 0, 0, 0)) := s131_3 3
theorem i131_54 : q_ins 131 54 = some (.aload_n 0, 1, (0, 0, 0, 0, 0)) := s131_3 6
theorem i131_55 : q_ins 131 55 = some (.dup, 1, (0, 0, 0, 0, 0)) := s131_3 7
theorem i131_56 : q_ins 131 56 = some (.getfield 215, 3, (185, 10, 21, 0, 0)) := s131_3 8
theorem i131_59 : q_ins 131 59 = some (.iconst 1, 1, (0, 0, 0, 0, 0)) := s131_3 11
theorem i131_60 : q_ins 131 60 = some (.iload_n 1, 1, (0, 0, 0, 0, 0)) := s131_3 12
theorem i131_61 : q_ins 131 61 = some (.ishl, 1, (0, 0, 0, 0, 0)) := s131_3 13
theorem i131_62 : q_ins 131 62 = some (.ior, 1, (0, 0, 0, 0, 0)) := s131_3 14
theorem i131_63 : q_ins 131 63 = some (.putfield 215, 3, (185, 10, 21, 0, 0)) := s131_3 15
theorem i131_66 : q_ins 131 66 = some (.aload_n 0, 1, (0, 0, 0, 0, 0)) := s131_4 2
theorem i131_67 : q_ins 131 67 = some (.iload_n 1, 1, (0, 0, 0, 0, 0)) := s131_4 3
theorem i131_68 : q_ins 131 68 = some (.putfield 158, 3, (190, 10, 20, 0, 0)) := s131_4 4
theorem i131_71 : q_ins 131 71 = some (.aload_n 0, 1, (0, 0, 0, 0, 0)) := s131_4 7
theorem i131_72 : q_ins 131 72 = some (.invokevirtual 161, 3, (171, 127, 1, 0, 10)) := s131_4 8
theorem i131_75 : q_ins 131 75 = some (.aload_n 0, 1, (0, 0, 0, 0, 0)) := s131_4 11
theorem i131_76 : q_ins 131 76 = some (.getfield 126, 3, (182, 10, 12, 0, 0)) := s131_4 12
theorem i131_79 : q_ins 131 79 = some (.iconst 1, 1, (0, 0, 0, 0, 0)) := s131_4 15
theorem i131_80 : q_ins 131 80 = some (.iadd, 1, (0, 0, 0, 0, 0)) := s131_5 0
theorem i131_81 : q_ins 131 81 = some (.iconst 3, 1, (0, 0, 0, 0, 0)) := s131_5 1
theorem i131_82 : q_ins 131 82 = some (.iload_n 2, 1, (0, 0, 0, 0, 0)) := s131_5 2
theorem i131_83 : q_ins 131 83 = some (.imul, 1, (0, 0, 0, 0, 0)) := s131_5 3
theorem i131_84 : q_ins 131 84 = some (.iadd, 1, (0, 0, 0, 0, 0)) := s131_5 4
theorem i131_85 : q_ins 131 85 = some (.istore_n 3, 1, (0, 0, 0, 0, 0)) := s131_5 5
theorem i131_86 : q_ins 131 86 = some (.aload_n 0, 1, (0, 0, 0, 0, 0)) := s131_5 6
theorem i131_87 : q_ins 131 87 = some (.getfield 16, 3, (164, 10, 2, 2, 0)) := s131_5 7
theorem i131_90 : q_ins 131 90 = some (.iload_n 3, 1, (0, 0, 0, 0, 0)) := s131_5 10
theorem i131_91 : q_ins 131 91 = some (.iload_n 1, 1, (0, 0, 0, 0, 0)) := s131_5 11
theorem i131_92 : q_ins 131 92 = some (.iastore, 1, (0, 0, 0, 0, 0)) := s131_5 12
theorem i131_93 : q_ins 131 93 = some (.aload_n 0, 1, (0, 0, 0, 0, 0)) := s131_5 13
theorem i131_94 : q_ins 131 94 = some (.getfield 129, 3, (183, 10, 14, 0, 0)) := s131_5 14
theorem i131_97 : q_ins 131 97 = some (.istore 4, 2, (0, 0, 0, 0, 0)) := s131_6 1
theorem i131_99 : q_ins 131 99 = some (.iload_n 1, 1, (0, 0, 0, 0, 0)) := s131_6 3
theorem i131_100 : q_ins 131 100 = some (.ifCond .ne 10, 3, (0, 0, 0, 0, 0)) := s131_6 4
theorem i131_103 : q_ins 131 103 = some (.aload_n 0, 1, (0, 0, 0, 0, 0)) := s131_6 7
theorem i131_104 : q_ins 131 104 = some (.invokevirtual 218, 3, (177, 138, 1, 0, 10)) := s131_6 8
theorem i131_107 : q_ins 131 107 = some (.goto 21, 3, (0, 0, 0, 0, 0)) := s131_6 11
theorem i131_110 : q_ins 131 110 = some (.iload_n 1, 1, (0, 0, 0, 0, 0)) := s131_6 14
theorem i131_111 : q_ins 131 111 = some (.iconst 3, 1, (0, 0, 0, 0, 0)) := s131_6 15
theorem i131_112 : q_ins 131 112 = some (.if_icmp .ge 10, 3, (0, 0, 0, 0, 0)) := s131_7 0
theorem i131_115 : q_ins 131 115 = some (.aload_n 0, 1, (0, 0, 0, 0, 0)) := s131_7 3
theorem i131_116 : q_ins 131 116 = some (.invokevirtual 196, 3, (178, 140, 1, 0, 10)) := s131_7 4
theorem i131_119 : q_ins 131 119 = some (.goto 9, 3, (0, 0, 0, 0, 0)) := s131_7 7
theorem i131_122 : q_ins 131 122 = some (.aload_n 0, 1, (0, 0, 0, 0, 0)) := s131_7 10
theorem i131_123 : q_ins 131 123 = some (.iload_n 1, 1, (0, 0, 0, 0, 0)) := s131_7 11
theorem i131_124 : q_ins 131 124 = some (.iload_n 3, 1, (0, 0, 0, 0, 0)) := s131_7 12
theorem i131_125 : q_ins 131 125 = some (.invokevirtual 221, 3, (179, 153, 3, 0, 10)) := s131_7 13
theorem i131_128 : q_ins 131 128 = some (.istore 5, 2, (0, 0, 0, 0, 0)) := s131_8 0
theorem i131_130 : q_ins 131 130 = some (.iload 5, 2, (0, 0, 0, 0, 0)) := s131_8 2
theorem i131_132 : q_ins 131 132 = some (.ifCond .eq 6, 3, (0, 0, 0, 0, 0)) := s131_8 4
theorem i131_135 : q_ins 131 135 = some (.iload 5, 2, (0, 0, 0, 0, 0)) := s131_8 7
theorem i131_137 : q_ins 131 137 = some (.ireturn, 1, (0, 0, 0, 0, 0)) := s131_8 9
theorem i131_138 : q_ins 131 138 = some (.iload_n 1, 1, (0, 0, 0, 0, 0)) := s131_8 10
theorem i131_139 : q_ins 131 139 = some (.iconst 3, 1, (0, 0, 0, 0, 0)) := s131_8 11
theorem i131_140 : q_ins 131 140 = some (.if_icmp .ge 25, 3, (0, 0, 0, 0, 0)) := s131_8 12
theorem i131_143 : q_ins 131 143 = some (.aload_n 0, 1, (0, 0, 0, 0, 0)) := s131_8 15
theorem i131_144 : q_ins 131 144 = some (.getfield 16, 3, (164, 10, 2, 2, 0)) := s131_9 0
theorem i131_147 : q_ins 131 147 = some (.iload_n 3, 1, (0, 0, 0, 0, 0)) := s131_9 3
theorem i131_148 : q_ins 131 148 = some (.iconst 1, 1, (0, 0, 0, 0, 0)) := s131_9 4
theorem i131_149 : q_ins 131 149 = some (.iadd, 1, (0, 0, 0, 0, 0)) := s131_9 5
theorem i131_150 : q_ins 131 150 = some (.iload 4, 2, (0, 0, 0, 0, 0)) := s131_9 6
theorem i131_152 : q_ins 131 152 = some (.iastore, 1, (0, 0, 0, 0, 0)) := s131_9 8
theorem i131_153 : q_ins 131 153 = some (.aload_n 0, 1, (0, 0, 0, 0, 0)) := s131_9 9
theorem i131_154 : q_ins 131 154 = some (.getfield 16, 3, (164, 10, 2, 2, 0)) := s131_9 10
theorem i131_157 : q_ins 131 157 = some (.iload_n 3, 1, (0, 0, 0, 0, 0)) := s131_9 13
theorem i131_158 : q_ins 131 158 = some (.iconst 2, 1, (0, 0, 0, 0, 0)) := s131_9 14
theorem i131_159 : q_ins 131 159 = some (.iadd, 1, (0, 0, 0, 0, 0)) := s131_9 15
theorem i131_160 : q_ins 131 160 = some (.aload_n 0, 1, (0, 0, 0, 0, 0)) := s131_10 0
theorem i131_161 : q_ins 131 161 = some (.getfield 129, 3, (183, 10, 14, 0, 0)) := s131_10 1
theorem i131_164 : q_ins 131 164 = some (.iastore, 1, (0, 0, 0, 0, 0)) := s131_10 4
theorem i131_165 : q_ins 131 165 = some (.aload_n 0, 1, (0, 0, 0, 0, 0)) := s131_10 5
theorem i131_166 : q_ins 131 166 = some (.getfield 16, 3, (164, 10, 2, 2, 0)) := s131_10 6
theorem i131_169 : q_ins 131 169 = some (.aload_n 0, 1, (0, 0, 0, 0, 0)) := s131_10 9
theorem i131_170 : q_ins 131 170 = some (.getfield 126, 3, (182, 10, 12, 0, 0)) := s131_10 10
theorem i131_173 : q_ins 131 173 = some (.dup2, 1, (0, 0, 0, 0, 0)) := s131_10 13
theorem i131_174 : q_ins 131 174 = some (.iaload, 1, (0, 0, 0, 0, 0)) := s131_10 14
theorem i131_175 : q_ins 131 175 = some (.iconst 1, 1, (0, 0, 0, 0, 0)) := s131_10 15
theorem i131_176 : q_ins 131 176 = some (.iadd, 1, (0, 0, 0, 0, 0)) := s131_11 0
theorem i131_177 : q_ins 131 177 = some (.iastore, 1, (0, 0, 0, 0, 0)) := s131_11 1
theorem i131_178 : q_ins 131 178 = some (.aload_n 0, 1, (0, 0, 0, 0, 0)) := s131_11 2
theorem i131_179 : q_ins 131 179 = some (.getfield 100, 3, (187, 10, 9, 0, 0)) := s131_11 3
theorem i131_182 : q_ins 131 182 = some (.bipush 59, 2, (0, 0, 0, 0, 0)) := s131_11 6
theorem i131_184 : q_ins 131 184 = some (.if_icmp .eq 5, 3, (0, 0, 0, 0, 0)) := s131_11 8
theorem i131_187 : q_ins 131 187 = some (.iconst 1, 1, (0, 0, 0, 0, 0)) := s131_11 11
theorem i131_188 : q_ins 131 188 = some (.ireturn, 1, (0, 0, 0, 0, 0)) := s131_11 12
theorem i131_189 : q_ins 131 189 = some (.aload_n 0, 1, (0, 0, 0, 0, 0)) := s131_11 13
theorem i131_190 : q_ins 131 190 = some (.invokevirtual 161, 3, (171, 127, 1, 0, 10)) := s131_11 14
theorem i131_193 : q_ins 131 193 = some (.iconst 0, 1, (0, 0, 0, 0, 0)) := s131_12 1
theorem i131_194 : q_ins 131 194 = some (.ireturn, 1, (0, 0, 0, 0, 0)) := s131_12 2
theorem s132_0 (j : Nat) : q_ins 132 j = q_at q_c132 j := rfl
theorem s132_1 (j : Nat) : q_ins 132 (j + 16) = q_at q_c132_1 j := s132_0 (j + 16)
theorem s132_2 (j : Nat) : q_ins 132 (j + 32) = q_at q_c132_2 j := s132_1 (j + 16)
theorem s132_3 (j : Nat) : q_ins 132 (j + 48) = q_at q_c132_3 j := s132_2 (j + 16)
theorem s132_4 (j : Nat) : q_ins 132 (j + 64) = q_at q_c132_4 j := s132_3 (j + 16)
theorem s132_5 (j : Nat) : q_ins 132 (j + 80) = q_at q_c132_5 j := s132_4 (j + 16)
theorem s132_6 (j : Nat) : q_ins 132 (j + 96) = q_at q_c132_6 j := s132_5 (j + 16)
theorem s132_7 (j : Nat) : q_ins 132 (j + 112) = q_at q_c132_7 j := s132_6 (j + 16)
theorem s132_8 (j : Nat) : q_ins 132 (j + 128) = q_at q_c132_8 j := s132_7 (j + 16)
theorem s132_9 (j : Nat) : q_ins 132 (j + 144) = q_at q_c132_9 j := s132_8 (j + 16)
theorem i132_0 : q_ins 132 0 = some (.aload_n 0, 1, (0, 0, 0, 0, 0)) := s132_0 0
theorem i132_1 : q_ins 132 1 = some (.bipush 108, 2, (0, 0, 0, 0, 0)) := s132_0 1
theorem i132_3 : q_ins 132 3 = some (.bipush 97, 2, (0, 0, 0, 0, 0)) := s132_0 3
theorem i132_5 : q_ins 132 5 = some (.bipush 117, 2, (0, 0, 0, 0, 0)) := s132_0 5
theorem i132_7 : q_ins 132 7 = some (.bipush 103, 2, (0, 0, 0, 0, 0)) := s132_0 7
theorem i132_9 : q_ins 132 9 = some (.bipush 104, 2, (0, 0, 0, 0, 0)) := s132_0 9
theorem i132_11 : q_ins 132 11 = some (.bipush 115, 2, (0, 0, 0, 0, 0)) := s132_0 11
theorem i132_13 : q_ins 132 13 = some (.invokestatic 154, 3, (180, 133, 6, 2, 0)) := s132_0 13
theorem i132_16 : q_ins 132 16 = some (.invokevirtual 192, 3, (181, 136, 2, 0, 10)) := s132_1 0
theorem i132_19 : q_ins 132 19 = some (.ifCond .eq 5, 3, (0, 0, 0, 0, 0)) := s132_1 3
theorem i132_22 : q_ins 132 22 = some (.iconst 0, 1, (0, 0, 0, 0, 0)) := s132_1 6
theorem i132_23 : q_ins 132 23 = some (.ireturn, 1, (0, 0, 0, 0, 0)) := s132_1 7
theorem i132_24 : q_ins 132 24 = some (.aload_n 0, 1, (0, 0, 0, 0, 0)) := s132_1 8
theorem i132_25 : q_ins 132 25 = some (.bipush 108, 2, (0, 0, 0, 0, 0)) := s132_1 9
theorem i132_27 : q_ins 132 27 = some (.bipush 111, 2, (0, 0, 0, 0, 0)) := s132_1 11
theorem i132_29 : q_ins 132 29 = some (.bipush 117, 2, (0, 0, 0, 0, 0)) := s132_1 13
theorem i132_31 : q_ins 132 31 = some (.bipush 100, 2, (0, 0, 0, 0, 0)) := s132_1 15
theorem i132_33 : q_ins 132 33 = some (.invokestatic 146, 3, (182, 137, 4, 2, 0)) := s132_2 1
theorem i132_36 : q_ins 132 36 = some (.invokevirtual 192, 3, (181, 136, 2, 0, 10)) := s132_2 4
theorem i132_39 : q_ins 132 39 = some (.ifCond .eq 5, 3, (0, 0, 0, 0, 0)) := s132_2 7
theorem i132_42 : q_ins 132 42 = some (.iconst 1, 1, (0, 0, 0, 0, 0)) := s132_2 10
theorem i132_43 : q_ins 132 43 = some (.ireturn, 1, (0, 0, 0, 0, 0)) := s132_2 11
theorem i132_44 : q_ins 132 44 = some (.aload_n 0, 1, (0, 0, 0, 0, 0)) := s132_2 12
theorem i132_45 : q_ins 132 45 = some (.bipush 100, 2, (0, 0, 0, 0, 0)) := s132_2 13
theorem i132_47 : q_ins 132 47 = some (.bipush 117, 2, (0, 0, 0, 0, 0)) := s132_2 15
theorem i132_49 : q_ins 132 49 = some (.bipush 101, 2, (0, 0, 0, 0, 0)) := s132_3 1
theorem i132_51 : q_ins 132 51 = some (.bipush 115, 2, (0, 0, 0, 0, 0)) := s132_3 3
theorem i132_53 : q_ins 132 53 = some (.invokestatic 146, 3, (182, 137, 4, 2, 0)) := s132_3 5
theorem i132_56 : q_ins 132 56 = some (.invokevirtual 192, 3, (181, 136, 2, 0, 10)) := s132_3 8
theorem i132_59 : q_ins 132 59 = some (.ifCond .eq 5, 3, (0, 0, 0, 0, 0)) := s132_3 11
theorem i132_62 : q_ins 132 62 = some (.iconst 2, 1, (0, 0, 0, 0, 0)) := s132_3 14
theorem i132_63 : q_ins 132 63 = some (.ireturn, 1, (0, 0, 0, 0, 0)) := s132_3 15
theorem i132_64 : q_ins 132 64 = some (.aload_n 0, 1, (0, 0, 0, 0, 0)) := s132_4 0
theorem i132_65 : q_ins 132 65 = some (.bipush 115, 2, (0, 0, 0, 0, 0)) := s132_4 1
theorem i132_67 : q_ins 132 67 = some (.bipush 101, 2, (0, 0, 0, 0, 0)) := s132_4 3
theorem i132_69 : q_ins 132 69 = some (.bipush 97, 2, (0, 0, 0, 0, 0)) := s132_4 5
theorem i132_71 : q_ins 132 71 = some (.bipush 116, 2, (0, 0, 0, 0, 0)) := s132_4 7
theorem i132_73 : q_ins 132 73 = some (.invokestatic 146, 3, (182, 137, 4, 2, 0)) := s132_4 9
theorem i132_76 : q_ins 132 76 = some (.invokevirtual 192, 3, (181, 136, 2, 0, 10)) := s132_4 12
theorem i132_79 : q_ins 132 79 = some (.ifCond .eq 5, 3, (0, 0, 0, 0, 0)) := s132_4 15
theorem i132_82 : q_ins 132 82 = some (.iconst 3, 1, (0, 0, 0, 0, 0)) := s132_5 2
theorem i132_83 : q_ins 132 83 = some (.ireturn, 1, (0, 0, 0, 0, 0)) := s132_5 3
theorem i132_84 : q_ins 132 84 = some (.aload_n 0, 1, (0, 0, 0, 0, 0)) := s132_5 4
theorem i132_85 : q_ins 132 85 = some (.bipush 111, 2, (0, 0, 0, 0, 0)) := s132_5 5
theorem i132_87 : q_ins 132 87 = some (.bipush 117, 2, (0, 0, 0, 0, 0)) := s132_5 7
theorem i132_89 : q_ins 132 89 = some (.bipush 116, 2, (0, 0, 0, 0, 0)) := s132_5 9
theorem i132_91 : q_ins 132 91 = some (.invokestatic 118, 3, (183, 135, 3, 2, 0)) := s132_5 11
theorem i132_94 : q_ins 132 94 = some (.invokevirtual 192, 3, (181, 136, 2, 0, 10)) := s132_5 14
theorem i132_97 : q_ins 132 97 = some (.ifCond .eq 5, 3, (0, 0, 0, 0, 0)) := s132_6 1
theorem i132_100 : q_ins 132 100 = some (.iconst 4, 1, (0, 0, 0, 0, 0)) := s132_6 4
theorem i132_101 : q_ins 132 101 = some (.ireturn, 1, (0, 0, 0, 0, 0)) := s132_6 5
theorem i132_102 : q_ins 132 102 = some (.aload_n 0, 1, (0, 0, 0, 0, 0)) := s132_6 6
theorem i132_103 : q_ins 132 103 = some (.bipush 104, 2, (0, 0, 0, 0, 0)) := s132_6 7
theorem i132_105 : q_ins 132 105 = some (.bipush 105, 2, (0, 0, 0, 0, 0)) := s132_6 9
theorem i132_107 : q_ins 132 107 = some (.bipush 114, 2, (0, 0, 0, 0, 0)) := s132_6 11
theorem i132_109 : q_ins 132 109 = some (.bipush 101, 2, (0, 0, 0, 0, 0)) := s132_6 13
theorem i132_111 : q_ins 132 111 = some (.invokestatic 146, 3, (182, 137, 4, 2, 0)) := s132_6 15
theorem i132_114 : q_ins 132 114 = some (.invokevirtual 192, 3, (181, 136, 2, 0, 10)) := s132_7 2
theorem i132_117 : q_ins 132 117 = some (.ifCond .eq 7, 3, (0, 0, 0, 0, 0)) := s132_7 5
theorem i132_120 : q_ins 132 120 = some (.iconst 5, 1, (0, 0, 0, 0, 0)) := s132_7 8
theorem i132_121 : q_ins 132 121 = some (.goto 29, 3, (0, 0, 0, 0, 0)) := s132_7 9
theorem i132_124 : q_ins 132 124 = some (.aload_n 0, 1, (0, 0, 0, 0, 0)) := s132_7 12
theorem i132_125 : q_ins 132 125 = some (.bipush 110, 2, (0, 0, 0, 0, 0)) := s132_7 13
theorem i132_127 : q_ins 132 127 = some (.bipush 105, 2, (0, 0, 0, 0, 0)) := s132_7 15
theorem i132_129 : q_ins 132 129 = some (.bipush 103, 2, (0, 0, 0, 0, 0)) := s132_8 1
theorem i132_131 : q_ins 132 131 = some (.bipush 104, 2, (0, 0, 0, 0, 0)) := s132_8 3
theorem i132_133 : q_ins 132 133 = some (.bipush 116, 2, (0, 0, 0, 0, 0)) := s132_8 5
theorem i132_135 : q_ins 132 135 = some (.invokestatic 122, 3, (184, 134, 5, 2, 0)) := s132_8 7
theorem i132_138 : q_ins 132 138 = some (.invokevirtual 192, 3, (181, 136, 2, 0, 10)) := s132_8 10
theorem i132_141 : q_ins 132 141 = some (.ifCond .eq 8, 3, (0, 0, 0, 0, 0)) := s132_8 13
theorem i132_144 : q_ins 132 144 = some (.bipush 6, 2, (0, 0, 0, 0, 0)) := s132_9 0
theorem i132_146 : q_ins 132 146 = some (.goto 4, 3, (0, 0, 0, 0, 0)) := s132_9 2
theorem i132_149 : q_ins 132 149 = some (.iconst (-1), 1, (0, 0, 0, 0, 0)) := s132_9 5
theorem i132_150 : q_ins 132 150 = some (.ireturn, 1, (0, 0, 0, 0, 0)) := s132_9 6
theorem s133_0 (j : Nat) : q_ins 133 j = q_at q_c133 j := rfl
theorem s133_1 (j : Nat) : q_ins 133 (j + 16) = q_at q_c133_1 j := s133_0 (j + 16)
theorem i133_0 : q_ins 133 0 = some (.iload_n 0, 1, (0, 0, 0, 0, 0)) := s133_0 0
theorem i133_1 : q_ins 133 1 = some (.iload_n 1, 1, (0, 0, 0, 0, 0)) := s133_0 1
theorem i133_2 : q_ins 133 2 = some (.iload_n 2, 1, (0, 0, 0, 0, 0)) := s133_0 2
theorem i133_3 : q_ins 133 3 = some (.iload_n 3, 1, (0, 0, 0, 0, 0)) := s133_0 3
theorem i133_4 : q_ins 133 4 = some (.iload 4, 2, (0, 0, 0, 0, 0)) := s133_0 4
theorem i133_6 : q_ins 133 6 = some (.invokestatic 122, 3, (184, 134, 5, 2, 0)) := s133_0 6
theorem i133_9 : q_ins 133 9 = some (.bipush 8, 2, (0, 0, 0, 0, 0)) := s133_0 9
theorem i133_11 : q_ins 133 11 = some (.lshl, 1, (0, 0, 0, 0, 0)) := s133_0 11
theorem i133_12 : q_ins 133 12 = some (.iload 5, 2, (0, 0, 0, 0, 0)) := s133_0 12
theorem i133_14 : q_ins 133 14 = some (.i2l, 1, (0, 0, 0, 0, 0)) := s133_0 14
theorem i133_15 : q_ins 133 15 = some (.lor, 1, (0, 0, 0, 0, 0)) := s133_0 15
theorem i133_16 : q_ins 133 16 = some (.lreturn, 1, (0, 0, 0, 0, 0)) := s133_1 0
theorem s134_0 (j : Nat) : q_ins 134 j = q_at q_c134 j := rfl
theorem s134_1 (j : Nat) : q_ins 134 (j + 16) = q_at q_c134_1 j := s134_0 (j + 16)
theorem i134_0 : q_ins 134 0 = some (.iload_n 0, 1, (0, 0, 0, 0, 0)) := s134_0 0
theorem i134_1 : q_ins 134 1 = some (.iload_n 1, 1, (0, 0, 0, 0, 0)) := s134_0 1
theorem i134_2 : q_ins 134 2 = some (.iload_n 2, 1, (0, 0, 0, 0, 0)) := s134_0 2
theorem i134_3 : q_ins 134 3 = some (.invokestatic 118, 3, (183, 135, 3, 2, 0)) := s134_0 3
theorem i134_6 : q_ins 134 6 = some (.bipush 8, 2, (0, 0, 0, 0, 0)) := s134_0 6
theorem i134_8 : q_ins 134 8 = some (.lshl, 1, (0, 0, 0, 0, 0)) := s134_0 8
theorem i134_9 : q_ins 134 9 = some (.iload_n 3, 1, (0, 0, 0, 0, 0)) := s134_0 9
theorem i134_10 : q_ins 134 10 = some (.i2l, 1, (0, 0, 0, 0, 0)) := s134_0 10
theorem i134_11 : q_ins 134 11 = some (.lor, 1, (0, 0, 0, 0, 0)) := s134_0 11
theorem i134_12 : q_ins 134 12 = some (.bipush 8, 2, (0, 0, 0, 0, 0)) := s134_0 12
theorem i134_14 : q_ins 134 14 = some (.lshl, 1, (0, 0, 0, 0, 0)) := s134_0 14
theorem i134_15 : q_ins 134 15 = some (.iload 4, 2, (0, 0, 0, 0, 0)) := s134_0 15
theorem i134_17 : q_ins 134 17 = some (.i2l, 1, (0, 0, 0, 0, 0)) := s134_1 1
theorem i134_18 : q_ins 134 18 = some (.lor, 1, (0, 0, 0, 0, 0)) := s134_1 2
theorem i134_19 : q_ins 134 19 = some (.lreturn, 1, (0, 0, 0, 0, 0)) := s134_1 3
theorem s135_0 (j : Nat) : q_ins 135 j = q_at q_c135 j := rfl
theorem i135_0 : q_ins 135 0 = some (.iload_n 0, 1, (0, 0, 0, 0, 0)) := s135_0 0
theorem i135_1 : q_ins 135 1 = some (.i2l, 1, (0, 0, 0, 0, 0)) := s135_0 1
theorem i135_2 : q_ins 135 2 = some (.bipush 8, 2, (0, 0, 0, 0, 0)) := s135_0 2
theorem i135_4 : q_ins 135 4 = some (.lshl, 1, (0, 0, 0, 0, 0)) := s135_0 4
theorem i135_5 : q_ins 135 5 = some (.iload_n 1, 1, (0, 0, 0, 0, 0)) := s135_0 5
theorem i135_6 : q_ins 135 6 = some (.i2l, 1, (0, 0, 0, 0, 0)) := s135_0 6
theorem i135_7 : q_ins 135 7 = some (.lor, 1, (0, 0, 0, 0, 0)) := s135_0 7
theorem i135_8 : q_ins 135 8 = some (.bipush 8, 2, (0, 0, 0, 0, 0)) := s135_0 8
theorem i135_10 : q_ins 135 10 = some (.lshl, 1, (0, 0, 0, 0, 0)) := s135_0 10
theorem i135_11 : q_ins 135 11 = some (.iload_n 2, 1, (0, 0, 0, 0, 0)) := s135_0 11
theorem i135_12 : q_ins 135 12 = some (.i2l, 1, (0, 0, 0, 0, 0)) := s135_0 12
theorem i135_13 : q_ins 135 13 = some (.lor, 1, (0, 0, 0, 0, 0)) := s135_0 13
theorem i135_14 : q_ins 135 14 = some (.lreturn, 1, (0, 0, 0, 0, 0)) := s135_0 14
theorem s136_0 (j : Nat) : q_ins 136 j = q_at q_c136 j := rfl
theorem s136_1 (j : Nat) : q_ins 136 (j + 16) = q_at q_c136_1 j := s136_0 (j + 16)
theorem i136_0 : q_ins 136 0 = some (.aload_n 0, 1, (0, 0, 0, 0, 0)) := s136_0 0
theorem i136_1 : q_ins 136 1 = some (.getfield 100, 3, (187, 10, 9, 0, 0)) := s136_0 1
theorem i136_4 : q_ins 136 4 = some (.iconst 2, 1, (0, 0, 0, 0, 0)) := s136_0 4
theorem i136_5 : q_ins 136 5 = some (.if_icmp .ne 16, 3, (0, 0, 0, 0, 0)) := s136_0 5
theorem i136_8 : q_ins 136 8 = some (.aload_n 0, 1, (0, 0, 0, 0, 0)) := s136_0 8
theorem i136_9 : q_ins 136 9 = some (.getfield 114, 3, (189, 10, 11, 1, 0)) := s136_0 9
theorem i136_12 : q_ins 136 12 = some (.lload_n 1, 1, (0, 0, 0, 0, 0)) := s136_0 12
theorem i136_13 : q_ins 136 13 = some (.lcmp, 1, (0, 0, 0, 0, 0)) := s136_0 13
theorem i136_14 : q_ins 136 14 = some (.ifCond .ne 7, 3, (0, 0, 0, 0, 0)) := s136_0 14
theorem i136_17 : q_ins 136 17 = some (.iconst 1, 1, (0, 0, 0, 0, 0)) := s136_1 1
theorem i136_18 : q_ins 136 18 = some (.goto 4, 3, (0, 0, 0, 0, 0)) := s136_1 2
theorem i136_21 : q_ins 136 21 = some (.iconst 0, 1, (0, 0, 0, 0, 0)) := s136_1 5
theorem i136_22 : q_ins 136 22 = some (.ireturn, 1, (0, 0, 0, 0, 0)) := s136_1 6
theorem s137_0 (j : Nat) : q_ins 137 j = q_at q_c137 j := rfl
theorem i137_0 : q_ins 137 0 = some (.iload_n 0, 1, (0, 0, 0, 0, 0)) := s137_0 0
theorem i137_1 : q_ins 137 1 = some (.iload_n 1, 1, (0, 0, 0, 0, 0)) := s137_0 1
theorem i137_2 : q_ins 137 2 = some (.iload_n 2, 1, (0, 0, 0, 0, 0)) := s137_0 2
theorem i137_3 : q_ins 137 3 = some (.invokestatic 118, 3, (183, 135, 3, 2, 0)) := s137_0 3
theorem i137_6 : q_ins 137 6 = some (.bipush 8, 2, (0, 0, 0, 0, 0)) := s137_0 6
theorem i137_8 : q_ins 137 8 = some (.lshl, 1, (0, 0, 0, 0, 0)) := s137_0 8
theorem i137_9 : q_ins 137 9 = some (.iload_n 3, 1, (0, 0, 0, 0, 0)) := s137_0 9
theorem i137_10 : q_ins 137 10 = some (.i2l, 1, (0, 0, 0, 0, 0)) := s137_0 10
theorem i137_11 : q_ins 137 11 = some (.lor, 1, (0, 0, 0, 0, 0)) := s137_0 11
theorem i137_12 : q_ins 137 12 = some (.lreturn, 1, (0, 0, 0, 0, 0)) := s137_0 12
theorem s138_0 (j : Nat) : q_ins 138 j = q_at q_c138 j := rfl
theorem s138_1 (j : Nat) : q_ins 138 (j + 16) = q_at q_c138_1 j := s138_0 (j + 16)
theorem s138_2 (j : Nat) : q_ins 138 (j + 32) = q_at q_c138_2 j := s138_1 (j + 16)
theorem s138_3 (j : Nat) : q_ins 138 (j + 48) = q_at q_c138_3 j := s138_2 (j + 16)
theorem s138_4 (j : Nat) : q_ins 138 (j + 64) = q_at q_c138_4 j := s138_3 (j + 16)
theorem s138_5 (j : Nat) : q_ins 138 (j + 80) = q_at q_c138_5 j := s138_4 (j + 16)
theorem s138_6 (j : Nat) : q_ins 138 (j + 96) = q_at q_c138_6 j := s138_5 (j + 16)
theorem s138_7 (j : Nat) : q_ins 138 (j + 112) = q_at q_c138_7 j := s138_6 (j + 16)
theorem i138_0 : q_ins 138 0 = some (.iconst 0, 1, (0, 0, 0, 0, 0)) := s138_0 0
theorem i138_1 : q_ins 138 1 = some (.istore_n 1, 1, (0, 0, 0, 0, 0)) := s138_0 1
theorem i138_2 : q_ins 138 2 = some (.iconst 0, 1, (0, 0, 0, 0, 0)) := s138_0 2
theorem i138_3 : q_ins 138 3 = some (.istore_n 2, 1, (0, 0, 0, 0, 0)) := s138_0 3
theorem i138_4 : q_ins 138 4 = some (.iconst 1, 1, (0, 0, 0, 0, 0)) := s138_0 4
theorem i138_5 : q_ins 138 5 = some (.istore_n 3, 1, (0, 0, 0, 0, 0)) := s138_0 5
theorem i138_6 : q_ins 138 6 = some (.iload_n 3, 1, (0, 0, 0, 0, 0)) := s138_0 6
theorem i138_7 : q_ins 138 7 = some (.ifCond .eq 112, 3, (0, 0, 0, 0, 0)) := s138_0 7
theorem i138_10 : q_ins 138 10 = some (.aload_n 0, 1, (0, 0, 0, 0, 0)) := s138_0 10
theorem i138_11 : q_ins 138 11 = some (.invokevirtual 202, 3, (185, 139, 1, 0, 10)) := s138_0 11
theorem i138_14 : q_ins 138 14 = some (.istore 4, 2, (0, 0, 0, 0, 0)) := s138_0 14
theorem i138_16 : q_ins 138 16 = some (.iload 4, 2, (0, 0, 0, 0, 0)) := s138_1 0
theorem i138_18 : q_ins 138 18 = some (.ifCond .eq 6, 3, (0, 0, 0, 0, 0)) := s138_1 2
theorem i138_21 : q_ins 138 21 = some (.iload 4, 2, (0, 0, 0, 0, 0)) := s138_1 5
theorem i138_23 : q_ins 138 23 = some (.ireturn, 1, (0, 0, 0, 0, 0)) := s138_1 7
theorem i138_24 : q_ins 138 24 = some (.iload_n 1, 1, (0, 0, 0, 0, 0)) := s138_1 8
theorem i138_25 : q_ins 138 25 = some (.ifCond .eq 10, 3, (0, 0, 0, 0, 0)) := s138_1 9
theorem i138_28 : q_ins 138 28 = some (.aload_n 0, 1, (0, 0, 0, 0, 0)) := s138_1 12
theorem i138_29 : q_ins 138 29 = some (.bipush 21, 2, (0, 0, 0, 0, 0)) := s138_1 13
theorem i138_31 : q_ins 138 31 = some (.iconst 0, 1, (0, 0, 0, 0, 0)) := s138_1 15
theorem i138_32 : q_ins 138 32 = some (.invokevirtual 142, 3, (186, 145, 3, 0, 10)) := s138_2 0
theorem i138_35 : q_ins 138 35 = some (.aload_n 0, 1, (0, 0, 0, 0, 0)) := s138_2 3
theorem i138_36 : q_ins 138 36 = some (.bipush 97, 2, (0, 0, 0, 0, 0)) := s138_2 4
theorem i138_38 : q_ins 138 38 = some (.bipush 110, 2, (0, 0, 0, 0, 0)) := s138_2 6
theorem i138_40 : q_ins 138 40 = some (.bipush 100, 2, (0, 0, 0, 0, 0)) := s138_2 8
theorem i138_42 : q_ins 138 42 = some (.invokestatic 118, 3, (183, 135, 3, 2, 0)) := s138_2 10
theorem i138_45 : q_ins 138 45 = some (.invokevirtual 192, 3, (181, 136, 2, 0, 10)) := s138_2 13
theorem i138_48 : q_ins 138 48 = some (.istore_n 1, 1, (0, 0, 0, 0, 0)) := s138_3 0
theorem i138_49 : q_ins 138 49 = some (.aload_n 0, 1, (0, 0, 0, 0, 0)) := s138_3 1
theorem i138_50 : q_ins 138 50 = some (.getfield 100, 3, (187, 10, 9, 0, 0)) := s138_3 2
theorem i138_53 : q_ins 138 53 = some (.iconst 2, 1, (0, 0, 0, 0, 0)) := s138_3 5
theorem i138_54 : q_ins 138 54 = some (.if_icmp .ne 18, 3, (0, 0, 0, 0, 0)) := s138_3 6
theorem i138_57 : q_ins 138 57 = some (.aload_n 0, 1, (0, 0, 0, 0, 0)) := s138_3 9
theorem i138_58 : q_ins 138 58 = some (.getfield 114, 3, (189, 10, 11, 1, 0)) := s138_3 10
theorem i138_61 : q_ins 138 61 = some (.ldc2_w 205, 3, (1254, 0, 0, 0, 28530)) := s138_3 13
theorem i138_64 : q_ins 138 64 = some (.lcmp, 1, (0, 0, 0, 0, 0)) := s138_4 0
theorem i138_65 : q_ins 138 65 = some (.ifCond .ne 7, 3, (0, 0, 0, 0, 0)) := s138_4 1
theorem i138_68 : q_ins 138 68 = some (.iconst 1, 1, (0, 0, 0, 0, 0)) := s138_4 4
theorem i138_69 : q_ins 138 69 = some (.goto 4, 3, (0, 0, 0, 0, 0)) := s138_4 5
theorem i138_72 : q_ins 138 72 = some (.iconst 0, 1, (0, 0, 0, 0, 0)) := s138_4 8
theorem i138_73 : q_ins 138 73 = some (.istore 5, 2, (0, 0, 0, 0, 0)) := s138_4 9
theorem i138_75 : q_ins 138 75 = some (.iload_n 1, 1, (0, 0, 0, 0, 0)) := s138_4 11
theorem i138_76 : q_ins 138 76 = some (.ifCond .ne 17, 3, (0, 0, 0, 0, 0)) := s138_4 12
theorem i138_79 : q_ins 138 79 = some (.iload_n 2, 1, (0, 0, 0, 0, 0)) := s138_4 15
theorem i138_80 : q_ins 138 80 = some (.ifCond .eq 10, 3, (0, 0, 0, 0, 0)) := s138_5 0
theorem i138_83 : q_ins 138 83 = some (.aload_n 0, 1, (0, 0, 0, 0, 0)) := s138_5 3
theorem i138_84 : q_ins 138 84 = some (.bipush 22, 2, (0, 0, 0, 0, 0)) := s138_5 4
theorem i138_86 : q_ins 138 86 = some (.iconst 0, 1, (0, 0, 0, 0, 0)) := s138_5 6
theorem i138_87 : q_ins 138 87 = some (.invokevirtual 142, 3, (186, 145, 3, 0, 10)) := s138_5 7
theorem i138_90 : q_ins 138 90 = some (.iload 5, 2, (0, 0, 0, 0, 0)) := s138_5 10
theorem i138_92 : q_ins 138 92 = some (.istore_n 2, 1, (0, 0, 0, 0, 0)) := s138_5 12
theorem i138_93 : q_ins 138 93 = some (.iload_n 1, 1, (0, 0, 0, 0, 0)) := s138_5 13
theorem i138_94 : q_ins 138 94 = some (.ifCond .ne 8, 3, (0, 0, 0, 0, 0)) := s138_5 14
theorem i138_97 : q_ins 138 97 = some (.iload 5, 2, (0, 0, 0, 0, 0)) := s138_6 1
theorem i138_99 : q_ins 138 99 = some (.ifCond .eq 7, 3, (0, 0, 0, 0, 0)) := s138_6 3
theorem i138_102 : q_ins 138 102 = some (.iconst 1, 1, (0, 0, 0, 0, 0)) := s138_6 6
theorem i138_103 : q_ins 138 103 = some (.goto 4, 3, (0, 0, 0, 0, 0)) := s138_6 7
theorem i138_106 : q_ins 138 106 = some (.iconst 0, 1, (0, 0, 0, 0, 0)) := s138_6 10
theorem i138_107 : q_ins 138 107 = some (.istore_n 3, 1, (0, 0, 0, 0, 0)) := s138_6 11
theorem i138_108 : q_ins 138 108 = some (.iload_n 3, 1, (0, 0, 0, 0, 0)) := s138_6 12
theorem i138_109 : q_ins 138 109 = some (.ifCond .eq 7, 3, (0, 0, 0, 0, 0)) := s138_6 13
theorem i138_112 : q_ins 138 112 = some (.aload_n 0, 1, (0, 0, 0, 0, 0)) := s138_7 0
theorem i138_113 : q_ins 138 113 = some (.invokevirtual 161, 3, (171, 127, 1, 0, 10)) := s138_7 1
theorem i138_116 : q_ins 138 116 = some (.goto (-110), 3, (0, 0, 0, 0, 0)) := s138_7 4
theorem i138_119 : q_ins 138 119 = some (.iconst 0, 1, (0, 0, 0, 0, 0)) := s138_7 7
theorem i138_120 : q_ins 138 120 = some (.ireturn, 1, (0, 0, 0, 0, 0)) := s138_7 8
theorem s139_0 (j : Nat) : q_ins 139 j = q_at q_c139 j := rfl
theorem s139_1 (j : Nat) : q_ins 139 (j + 16) = q_at q_c139_1 j := s139_0 (j + 16)
theorem s139_2 (j : Nat) : q_ins 139 (j + 32) = q_at q_c139_2 j := s139_1 (j + 16)
theorem s139_3 (j : Nat) : q_ins 139 (j + 48) = q_at q_c139_3 j := s139_2 (j + 16)
theorem s139_4 (j : Nat) : q_ins 139 (j + 64) = q_at q_c139_4 j := s139_3 (j + 16)
theorem s139_5 (j : Nat) : q_ins 139 (j + 80) = q_at q_c139_5 j := s139_4 (j + 16)
theorem s139_6 (j : Nat) : q_ins 139 (j + 96) = q_at q_c139_6 j := s139_5 (j + 16)
theorem s139_7 (j : Nat) : q_ins 139 (j + 112) = q_at q_c139_7 j := s139_6 (j + 16)
theorem i139_0 : q_ins 139 0 = some (.iconst 0, 1, (0, 0, 0, 0, 0)) := s139_0 0
theorem i139_1 : q_ins 139 1 = some (.istore_n 1, 1, (0, 0, 0, 0, 0)) := s139_0 1
theorem i139_2 : q_ins 139 2 = some (.aload_n 0, 1, (0, 0, 0, 0, 0)) := s139_0 2
theorem i139_3 : q_ins 139 3 = some (.bipush 110, 2, (0, 0, 0, 0, 0)) := s139_0 3
theorem i139_5 : q_ins 139 5 = some (.bipush 111, 2, (0, 0, 0, 0, 0)) := s139_0 5
theorem i139_7 : q_ins 139 7 = some (.bipush 116, 2, (0, 0, 0, 0, 0)) := s139_0 7
theorem i139_9 : q_ins 139 9 = some (.invokestatic 118, 3, (183, 135, 3, 2, 0)) := s139_0 9
theorem i139_12 : q_ins 139 12 = some (.invokevirtual 192, 3, (181, 136, 2, 0, 10)) := s139_0 12
theorem i139_15 : q_ins 139 15 = some (.ifCond .eq 34, 3, (0, 0, 0, 0, 0)) := s139_0 15
theorem i139_18 : q_ins 139 18 = some (.aload_n 0, 1, (0, 0, 0, 0, 0)) := s139_1 2
theorem i139_19 : q_ins 139 19 = some (.getfield 139, 3, (184, 10, 18, 0, 0)) := s139_1 3
theorem i139_22 : q_ins 139 22 = some (.bipush 8, 2, (0, 0, 0, 0, 0)) := s139_1 6
theorem i139_24 : q_ins 139 24 = some (.if_icmp .ne 5, 3, (0, 0, 0, 0, 0)) := s139_1 8
theorem i139_27 : q_ins 139 27 = some (.iconst 3, 1, (0, 0, 0, 0, 0)) := s139_1 11
theorem i139_28 : q_ins 139 28 = some (.ireturn, 1, (0, 0, 0, 0, 0)) := s139_1 12
theorem i139_29 : q_ins 139 29 = some (.aload_n 0, 1, (0, 0, 0, 0, 0)) := s139_1 13
theorem i139_30 : q_ins 139 30 = some (.dup, 1, (0, 0, 0, 0, 0)) := s139_1 14
theorem i139_31 : q_ins 139 31 = some (.getfield 139, 3, (184, 10, 18, 0, 0)) := s139_1 15
theorem i139_34 : q_ins 139 34 = some (.iconst 1, 1, (0, 0, 0, 0, 0)) := s139_2 2
theorem i139_35 : q_ins 139 35 = some (.iadd, 1, (0, 0, 0, 0, 0)) := s139_2 3
theorem i139_36 : q_ins 139 36 = some (.putfield 139, 3, (184, 10, 18, 0, 0)) := s139_2 4
theorem i139_39 : q_ins 139 39 = some (.iinc 1 1, 3, (0, 0, 0, 0, 0)) := s139_2 7
theorem i139_42 : q_ins 139 42 = some (.aload_n 0, 1, (0, 0, 0, 0, 0)) := s139_2 10
theorem i139_43 : q_ins 139 43 = some (.invokevirtual 161, 3, (171, 127, 1, 0, 10)) := s139_2 11
theorem i139_46 : q_ins 139 46 = some (.goto (-44), 3, (0, 0, 0, 0, 0)) := s139_2 14
theorem i139_49 : q_ins 139 49 = some (.aload_n 0, 1, (0, 0, 0, 0, 0)) := s139_3 1
theorem i139_50 : q_ins 139 50 = some (.invokevirtual 196, 3, (178, 140, 1, 0, 10)) := s139_3 2
theorem i139_53 : q_ins 139 53 = some (.istore_n 2, 1, (0, 0, 0, 0, 0)) := s139_3 5
theorem i139_54 : q_ins 139 54 = some (.iload_n 2, 1, (0, 0, 0, 0, 0)) := s139_3 6
theorem i139_55 : q_ins 139 55 = some (.ifCond .eq 5, 3, (0, 0, 0, 0, 0)) := s139_3 7
theorem i139_58 : q_ins 139 58 = some (.iload_n 2, 1, (0, 0, 0, 0, 0)) := s139_3 10
theorem i139_59 : q_ins 139 59 = some (.ireturn, 1, (0, 0, 0, 0, 0)) := s139_3 11
theorem i139_60 : q_ins 139 60 = some (.aload_n 0, 1, (0, 0, 0, 0, 0)) := s139_3 12
theorem i139_61 : q_ins 139 61 = some (.invokevirtual 199, 3, (187, 152, 1, 0, 10)) := s139_3 13
theorem i139_64 : q_ins 139 64 = some (.istore_n 3, 1, (0, 0, 0, 0, 0)) := s139_4 0
theorem i139_65 : q_ins 139 65 = some (.iload_n 3, 1, (0, 0, 0, 0, 0)) := s139_4 1
theorem i139_66 : q_ins 139 66 = some (.ifCond .ge 5, 3, (0, 0, 0, 0, 0)) := s139_4 2
theorem i139_69 : q_ins 139 69 = some (.iconst 1, 1, (0, 0, 0, 0, 0)) := s139_4 5
theorem i139_70 : q_ins 139 70 = some (.ireturn, 1, (0, 0, 0, 0, 0)) := s139_4 6
theorem i139_71 : q_ins 139 71 = some (.aload_n 0, 1, (0, 0, 0, 0, 0)) := s139_4 7
theorem i139_72 : q_ins 139 72 = some (.invokevirtual 161, 3, (171, 127, 1, 0, 10)) := s139_4 8
theorem i139_75 : q_ins 139 75 = some (.aload_n 0, 1, (0, 0, 0, 0, 0)) := s139_4 11
theorem i139_76 : q_ins 139 76 = some (.invokevirtual 196, 3, (178, 140, 1, 0, 10)) := s139_4 12
theorem i139_79 : q_ins 139 79 = some (.istore_n 2, 1, (0, 0, 0, 0, 0)) := s139_4 15
theorem i139_80 : q_ins 139 80 = some (.iload_n 2, 1, (0, 0, 0, 0, 0)) := s139_5 0
theorem i139_81 : q_ins 139 81 = some (.ifCond .eq 5, 3, (0, 0, 0, 0, 0)) := s139_5 1
theorem i139_84 : q_ins 139 84 = some (.iload_n 2, 1, (0, 0, 0, 0, 0)) := s139_5 4
theorem i139_85 : q_ins 139 85 = some (.ireturn, 1, (0, 0, 0, 0, 0)) := s139_5 5
theorem i139_86 : q_ins 139 86 = some (.aload_n 0, 1, (0, 0, 0, 0, 0)) := s139_5 6
theorem i139_87 : q_ins 139 87 = some (.iload_n 3, 1, (0, 0, 0, 0, 0)) := s139_5 7
theorem i139_88 : q_ins 139 88 = some (.iconst 0, 1, (0, 0, 0, 0, 0)) := s139_5 8
theorem i139_89 : q_ins 139 89 = some (.invokevirtual 142, 3, (186, 145, 3, 0, 10)) := s139_5 9
theorem i139_92 : q_ins 139 92 = some (.aload_n 0, 1, (0, 0, 0, 0, 0)) := s139_5 12
theorem i139_93 : q_ins 139 93 = some (.dup, 1, (0, 0, 0, 0, 0)) := s139_5 13
theorem i139_94 : q_ins 139 94 = some (.getfield 139, 3, (184, 10, 18, 0, 0)) := s139_5 14
theorem i139_97 : q_ins 139 97 = some (.iload_n 1, 1, (0, 0, 0, 0, 0)) := s139_6 1
theorem i139_98 : q_ins 139 98 = some (.isub, 1, (0, 0, 0, 0, 0)) := s139_6 2
theorem i139_99 : q_ins 139 99 = some (.putfield 139, 3, (184, 10, 18, 0, 0)) := s139_6 3
theorem i139_102 : q_ins 139 102 = some (.iconst 0, 1, (0, 0, 0, 0, 0)) := s139_6 6
theorem i139_103 : q_ins 139 103 = some (.istore 4, 2, (0, 0, 0, 0, 0)) := s139_6 7
theorem i139_105 : q_ins 139 105 = some (.iload 4, 2, (0, 0, 0, 0, 0)) := s139_6 9
theorem i139_107 : q_ins 139 107 = some (.iload_n 1, 1, (0, 0, 0, 0, 0)) := s139_6 11
theorem i139_108 : q_ins 139 108 = some (.if_icmp .ge 16, 3, (0, 0, 0, 0, 0)) := s139_6 12
theorem i139_111 : q_ins 139 111 = some (.aload_n 0, 1, (0, 0, 0, 0, 0)) := s139_6 15
theorem i139_112 : q_ins 139 112 = some (.bipush 20, 2, (0, 0, 0, 0, 0)) := s139_7 0
theorem i139_114 : q_ins 139 114 = some (.iconst 0, 1, (0, 0, 0, 0, 0)) := s139_7 2
theorem i139_115 : q_ins 139 115 = some (.invokevirtual 142, 3, (186, 145, 3, 0, 10)) := s139_7 3
theorem i139_118 : q_ins 139 118 = some (.iinc 4 1, 3, (0, 0, 0, 0, 0)) := s139_7 6
theorem i139_121 : q_ins 139 121 = some (.goto (-16), 3, (0, 0, 0, 0, 0)) := s139_7 9
theorem i139_124 : q_ins 139 124 = some (.iconst 0, 1, (0, 0, 0, 0, 0)) := s139_7 12
theorem i139_125 : q_ins 139 125 = some (.ireturn, 1, (0, 0, 0, 0, 0)) := s139_7 13
theorem s140_0 (j : Nat) : q_ins 140 j = q_at q_c140 j := rfl
theorem s140_1 (j : Nat) : q_ins 140 (j + 16) = q_at q_c140_1 j := s140_0 (j + 16)
theorem s140_2 (j : Nat) : q_ins 140 (j + 32) = q_at q_c140_2 j := s140_1 (j + 16)
theorem s140_3 (j : Nat) : q_ins 140 (j + 48) = q_at q_c140_3 j := s140_2 (j + 16)
theorem s140_4 (j : Nat) : q_ins 140 (j + 64) = q_at q_c140_4 j := s140_3 (j + 16)
theorem i140_0 : q_ins 140 0 = some (.aload_n 0, 1, (0, 0, 0, 0, 0)) := s140_0 0
theorem i140_1 : q_ins 140 1 = some (.iconst 0, 1, (0, 0, 0, 0, 0)) := s140_0 1
theorem i140_2 : q_ins 140 2 = some (.putfield 132, 3, (191, 10, 17, 0, 0)) := s140_0 2
theorem i140_5 : q_ins 140 5 = some (.aload_n 0, 1, (0, 0, 0, 0, 0)) := s140_0 5
theorem i140_6 : q_ins 140 6 = some (.iconst 0, 1, (0, 0, 0, 0, 0)) := s140_0 6
theorem i140_7 : q_ins 140 7 = some (.putfield 135, 3, (192, 10, 19, 3, 0)) := s140_0 7
theorem i140_10 : q_ins 140 10 = some (.aload_n 0, 1, (0, 0, 0, 0, 0)) := s140_0 10
theorem i140_11 : q_ins 140 11 = some (.getfield 135, 3, (192, 10, 19, 3, 0)) := s140_0 11
theorem i140_14 : q_ins 140 14 = some (.ifCond .eq 10, 3, (0, 0, 0, 0, 0)) := s140_0 14
theorem i140_17 : q_ins 140 17 = some (.aload_n 0, 1, (0, 0, 0, 0, 0)) := s140_1 1
theorem i140_18 : q_ins 140 18 = some (.invokevirtual 183, 3, (188, 141, 1, 0, 10)) := s140_1 2
theorem i140_21 : q_ins 140 21 = some (.ifCond .eq 31, 3, (0, 0, 0, 0, 0)) := s140_1 5
theorem i140_24 : q_ins 140 24 = some (.aload_n 0, 1, (0, 0, 0, 0, 0)) := s140_1 8
theorem i140_25 : q_ins 140 25 = some (.getfield 135, 3, (192, 10, 19, 3, 0)) := s140_1 9
theorem i140_28 : q_ins 140 28 = some (.ifCond .eq 10, 3, (0, 0, 0, 0, 0)) := s140_1 12
theorem i140_31 : q_ins 140 31 = some (.aload_n 0, 1, (0, 0, 0, 0, 0)) := s140_1 15
theorem i140_32 : q_ins 140 32 = some (.invokevirtual 186, 3, (189, 143, 1, 0, 10)) := s140_2 0
theorem i140_35 : q_ins 140 35 = some (.goto 7, 3, (0, 0, 0, 0, 0)) := s140_2 3
theorem i140_38 : q_ins 140 38 = some (.aload_n 0, 1, (0, 0, 0, 0, 0)) := s140_2 6
theorem i140_39 : q_ins 140 39 = some (.invokevirtual 189, 3, (190, 148, 1, 0, 10)) := s140_2 7
theorem i140_42 : q_ins 140 42 = some (.istore_n 1, 1, (0, 0, 0, 0, 0)) := s140_2 10
theorem i140_43 : q_ins 140 43 = some (.iload_n 1, 1, (0, 0, 0, 0, 0)) := s140_2 11
theorem i140_44 : q_ins 140 44 = some (.ifCond .eq 5, 3, (0, 0, 0, 0, 0)) := s140_2 12
theorem i140_47 : q_ins 140 47 = some (.iload_n 1, 1, (0, 0, 0, 0, 0)) := s140_2 15
theorem i140_48 : q_ins 140 48 = some (.ireturn, 1, (0, 0, 0, 0, 0)) := s140_3 0
theorem i140_49 : q_ins 140 49 = some (.goto (-39), 3, (0, 0, 0, 0, 0)) := s140_3 1
theorem i140_52 : q_ins 140 52 = some (.aload_n 0, 1, (0, 0, 0, 0, 0)) := s140_3 4
theorem i140_53 : q_ins 140 53 = some (.iconst 3, 1, (0, 0, 0, 0, 0)) := s140_3 5
theorem i140_54 : q_ins 140 54 = some (.invokevirtual 180, 3, (191, 144, 2, 0, 10)) := s140_3 6
theorem i140_57 : q_ins 140 57 = some (.aload_n 0, 1, (0, 0, 0, 0, 0)) := s140_3 9
theorem i140_58 : q_ins 140 58 = some (.getfield 132, 3, (191, 10, 17, 0, 0)) := s140_3 10
theorem i140_61 : q_ins 140 61 = some (.ifCond .le 7, 3, (0, 0, 0, 0, 0)) := s140_3 13
theorem i140_64 : q_ins 140 64 = some (.iconst 1, 1, (0, 0, 0, 0, 0)) := s140_4 0
theorem i140_65 : q_ins 140 65 = some (.goto 4, 3, (0, 0, 0, 0, 0)) := s140_4 1
theorem i140_68 : q_ins 140 68 = some (.iconst 0, 1, (0, 0, 0, 0, 0)) := s140_4 4
theorem i140_69 : q_ins 140 69 = some (.ireturn, 1, (0, 0, 0, 0, 0)) := s140_4 5
theorem s141_0 (j : Nat) : q_ins 141 j = q_at q_c141 j := rfl
theorem s141_1 (j : Nat) : q_ins 141 (j + 16) = q_at q_c141_1 j := s141_0 (j + 16)
theorem s141_2 (j : Nat) : q_ins 141 (j + 32) = q_at q_c141_2 j := s141_1 (j + 16)
theorem s141_3 (j : Nat) : q_ins 141 (j + 48) = q_at q_c141_3 j := s141_2 (j + 16)
theorem i141_0 : q_ins 141 0 = some (.aload_n 0, 1, (0, 0, 0, 0, 0)) := s141_0 0
theorem i141_1 : q_ins 141 1 = some (.getfield 100, 3, (187, 10, 9, 0, 0)) := s141_0 1
theorem i141_4 : q_ins 141 4 = some (.bipush 43, 2, (0, 0, 0, 0, 0)) := s141_0 4
theorem i141_6 : q_ins 141 6 = some (.if_icmp .eq 46, 3, (0, 0, 0, 0, 0)) := s141_0 6
theorem i141_9 : q_ins 141 9 = some (.aload_n 0, 1, (0, 0, 0, 0, 0)) := s141_0 9
theorem i141_10 : q_ins 141 10 = some (.getfield 100, 3, (187, 10, 9, 0, 0)) := s141_0 10
theorem i141_13 : q_ins 141 13 = some (.bipush 45, 2, (0, 0, 0, 0, 0)) := s141_0 13
theorem i141_15 : q_ins 141 15 = some (.if_icmp .eq 37, 3, (0, 0, 0, 0, 0)) := s141_0 15
theorem i141_18 : q_ins 141 18 = some (.aload_n 0, 1, (0, 0, 0, 0, 0)) := s141_1 2
theorem i141_19 : q_ins 141 19 = some (.getfield 100, 3, (187, 10, 9, 0, 0)) := s141_1 3
theorem i141_22 : q_ins 141 22 = some (.bipush 42, 2, (0, 0, 0, 0, 0)) := s141_1 6
theorem i141_24 : q_ins 141 24 = some (.if_icmp .eq 28, 3, (0, 0, 0, 0, 0)) := s141_1 8
theorem i141_27 : q_ins 141 27 = some (.aload_n 0, 1, (0, 0, 0, 0, 0)) := s141_1 11
theorem i141_28 : q_ins 141 28 = some (.getfield 100, 3, (187, 10, 9, 0, 0)) := s141_1 12
theorem i141_31 : q_ins 141 31 = some (.bipush 47, 2, (0, 0, 0, 0, 0)) := s141_1 15
theorem i141_33 : q_ins 141 33 = some (.if_icmp .eq 19, 3, (0, 0, 0, 0, 0)) := s141_2 1
theorem i141_36 : q_ins 141 36 = some (.aload_n 0, 1, (0, 0, 0, 0, 0)) := s141_2 4
theorem i141_37 : q_ins 141 37 = some (.getfield 100, 3, (187, 10, 9, 0, 0)) := s141_2 5
theorem i141_40 : q_ins 141 40 = some (.bipush 41, 2, (0, 0, 0, 0, 0)) := s141_2 8
theorem i141_42 : q_ins 141 42 = some (.if_icmp .ne 14, 3, (0, 0, 0, 0, 0)) := s141_2 10
theorem i141_45 : q_ins 141 45 = some (.aload_n 0, 1, (0, 0, 0, 0, 0)) := s141_2 13
theorem i141_46 : q_ins 141 46 = some (.invokevirtual 177, 3, (192, 142, 1, 0, 10)) := s141_2 14
theorem i141_49 : q_ins 141 49 = some (.ifCond .eq 7, 3, (0, 0, 0, 0, 0)) := s141_3 1
theorem i141_52 : q_ins 141 52 = some (.iconst 1, 1, (0, 0, 0, 0, 0)) := s141_3 4
theorem i141_53 : q_ins 141 53 = some (.goto 4, 3, (0, 0, 0, 0, 0)) := s141_3 5
theorem i141_56 : q_ins 141 56 = some (.iconst 0, 1, (0, 0, 0, 0, 0)) := s141_3 8
theorem i141_57 : q_ins 141 57 = some (.ireturn, 1, (0, 0, 0, 0, 0)) := s141_3 9
theorem s142_0 (j : Nat) : q_ins 142 j = q_at q_c142 j := rfl
theorem s142_1 (j : Nat) : q_ins 142 (j + 16) = q_at q_c142_1 j := s142_0 (j + 16)
theorem i142_0 : q_ins 142 0 = some (.iconst 0, 1, (0, 0, 0, 0, 0)) := s142_0 0
theorem i142_1 : q_ins 142 1 = some (.istore_n 1, 1, (0, 0, 0, 0, 0)) := s142_0 1
theorem i142_2 : q_ins 142 2 = some (.iload_n 1, 1, (0, 0, 0, 0, 0)) := s142_0 2
theorem i142_3 : q_ins 142 3 = some (.aload_n 0, 1, (0, 0, 0, 0, 0)) := s142_0 3
theorem i142_4 : q_ins 142 4 = some (.getfield 132, 3, (191, 10, 17, 0, 0)) := s142_0 4
theorem i142_7 : q_ins 142 7 = some (.if_icmp .ge 22, 3, (0, 0, 0, 0, 0)) := s142_0 7
theorem i142_10 : q_ins 142 10 = some (.aload_n 0, 1, (0, 0, 0, 0, 0)) := s142_0 10
theorem i142_11 : q_ins 142 11 = some (.getfield 29, 3, (168, 10, 16, 2, 0)) := s142_0 11
theorem i142_14 : q_ins 142 14 = some (.iload_n 1, 1, (0, 0, 0, 0, 0)) := s142_0 14
theorem i142_15 : q_ins 142 15 = some (.iaload, 1, (0, 0, 0, 0, 0)) := s142_0 15
theorem i142_16 : q_ins 142 16 = some (.bipush 40, 2, (0, 0, 0, 0, 0)) := s142_1 0
theorem i142_18 : q_ins 142 18 = some (.if_icmp .ne 5, 3, (0, 0, 0, 0, 0)) := s142_1 2
theorem i142_21 : q_ins 142 21 = some (.iconst 1, 1, (0, 0, 0, 0, 0)) := s142_1 5
theorem i142_22 : q_ins 142 22 = some (.ireturn, 1, (0, 0, 0, 0, 0)) := s142_1 6
theorem i142_23 : q_ins 142 23 = some (.iinc 1 1, 3, (0, 0, 0, 0, 0)) := s142_1 7
theorem i142_26 : q_ins 142 26 = some (.goto (-24), 3, (0, 0, 0, 0, 0)) := s142_1 10
theorem i142_29 : q_ins 142 29 = some (.iconst 0, 1, (0, 0, 0, 0, 0)) := s142_1 13
theorem i142_30 : q_ins 142 30 = some (.ireturn, 1, (0, 0, 0, 0, 0)) := s142_1 14
theorem s143_0 (j : Nat) : q_ins 143 j = q_at q_c143 j := rfl
theorem s143_1 (j : Nat) : q_ins 143 (j + 16) = q_at q_c143_1 j := s143_0 (j + 16)
theorem s143_2 (j : Nat) : q_ins 143 (j + 32) = q_at q_c143_2 j := s143_1 (j + 16)
theorem s143_3 (j : Nat) : q_ins 143 (j + 48) = q_at q_c143_3 j := s143_2 (j + 16)
theorem s143_4 (j : Nat) : q_ins 143 (j + 64) = q_at q_c143_4 j := s143_3 (j + 16)
theorem s143_5 (j : Nat) : q_ins 143 (j + 80) = q_at q_c143_5 j := s143_4 (j + 16)
theorem s143_6 (j : Nat) : q_ins 143 (j + 96) = q_at q_c143_6 j := s143_5 (j + 16)
theorem s143_7 (j : Nat) : q_ins 143 (j + 112) = q_at q_c143_7 j := s143_6 (j + 16)
theorem i143_0 : q_ins 143 0 = some (.aload_n 0, 1, (0, 0, 0, 0, 0)) := s143_0 0
theorem i143_1 : q_ins 143 1 = some (.getfield 100, 3, (187, 10, 9, 0, 0)) := s143_0 1
theorem i143_4 : q_ins 143 4 = some (.istore_n 1, 1, (0, 0, 0, 0, 0)) := s143_0 4
theorem i143_5 : q_ins 143 5 = some (.iload_n 1, 1, (0, 0, 0, 0, 0)) := s143_0 5
theorem i143_6 : q_ins 143 6 = some (.bipush 43, 2, (0, 0, 0, 0, 0)) := s143_0 6
theorem i143_8 : q_ins 143 8 = some (.if_icmp .eq 9, 3, (0, 0, 0, 0, 0)) := s143_0 8
theorem i143_11 : q_ins 143 11 = some (.iload_n 1, 1, (0, 0, 0, 0, 0)) := s143_0 11
theorem i143_12 : q_ins 143 12 = some (.bipush 45, 2, (0, 0, 0, 0, 0)) := s143_0 12
theorem i143_14 : q_ins 143 14 = some (.if_icmp .ne 31, 3, (0, 0, 0, 0, 0)) := s143_0 14
theorem i143_17 : q_ins 143 17 = some (.aload_n 0, 1, (0, 0, 0, 0, 0)) := s143_1 1
theorem i143_18 : q_ins 143 18 = some (.iconst 3, 1, (0, 0, 0, 0, 0)) := s143_1 2
theorem i143_19 : q_ins 143 19 = some (.invokevirtual 180, 3, (191, 144, 2, 0, 10)) := s143_1 3
theorem i143_22 : q_ins 143 22 = some (.aload_n 0, 1, (0, 0, 0, 0, 0)) := s143_1 6
theorem i143_23 : q_ins 143 23 = some (.iload_n 1, 1, (0, 0, 0, 0, 0)) := s143_1 7
theorem i143_24 : q_ins 143 24 = some (.bipush 43, 2, (0, 0, 0, 0, 0)) := s143_1 8
theorem i143_26 : q_ins 143 26 = some (.if_icmp .ne 7, 3, (0, 0, 0, 0, 0)) := s143_1 10
theorem i143_29 : q_ins 143 29 = some (.iconst 3, 1, (0, 0, 0, 0, 0)) := s143_1 13
theorem i143_30 : q_ins 143 30 = some (.goto 4, 3, (0, 0, 0, 0, 0)) := s143_1 14
theorem i143_33 : q_ins 143 33 = some (.iconst 4, 1, (0, 0, 0, 0, 0)) := s143_2 1
theorem i143_34 : q_ins 143 34 = some (.invokevirtual 174, 3, (193, 146, 2, 0, 10)) := s143_2 2
theorem i143_37 : q_ins 143 37 = some (.aload_n 0, 1, (0, 0, 0, 0, 0)) := s143_2 5
theorem i143_38 : q_ins 143 38 = some (.iconst 0, 1, (0, 0, 0, 0, 0)) := s143_2 6
theorem i143_39 : q_ins 143 39 = some (.putfield 135, 3, (192, 10, 19, 3, 0)) := s143_2 7
theorem i143_42 : q_ins 143 42 = some (.goto 73, 3, (0, 0, 0, 0, 0)) := s143_2 10
theorem i143_45 : q_ins 143 45 = some (.iload_n 1, 1, (0, 0, 0, 0, 0)) := s143_2 13
theorem i143_46 : q_ins 143 46 = some (.bipush 42, 2, (0, 0, 0, 0, 0)) := s143_2 14
theorem i143_48 : q_ins 143 48 = some (.if_icmp .eq 9, 3, (0, 0, 0, 0, 0)) := s143_3 0
theorem i143_51 : q_ins 143 51 = some (.iload_n 1, 1, (0, 0, 0, 0, 0)) := s143_3 3
theorem i143_52 : q_ins 143 52 = some (.bipush 47, 2, (0, 0, 0, 0, 0)) := s143_3 4
theorem i143_54 : q_ins 143 54 = some (.if_icmp .ne 32, 3, (0, 0, 0, 0, 0)) := s143_3 6
theorem i143_57 : q_ins 143 57 = some (.aload_n 0, 1, (0, 0, 0, 0, 0)) := s143_3 9
theorem i143_58 : q_ins 143 58 = some (.iconst 5, 1, (0, 0, 0, 0, 0)) := s143_3 10
theorem i143_59 : q_ins 143 59 = some (.invokevirtual 180, 3, (191, 144, 2, 0, 10)) := s143_3 11
theorem i143_62 : q_ins 143 62 = some (.aload_n 0, 1, (0, 0, 0, 0, 0)) := s143_3 14
theorem i143_63 : q_ins 143 63 = some (.iload_n 1, 1, (0, 0, 0, 0, 0)) := s143_3 15
theorem i143_64 : q_ins 143 64 = some (.bipush 42, 2, (0, 0, 0, 0, 0)) := s143_4 0
theorem i143_66 : q_ins 143 66 = some (.if_icmp .ne 7, 3, (0, 0, 0, 0, 0)) := s143_4 2
theorem i143_69 : q_ins 143 69 = some (.iconst 5, 1, (0, 0, 0, 0, 0)) := s143_4 5
theorem i143_70 : q_ins 143 70 = some (.goto 5, 3, (0, 0, 0, 0, 0)) := s143_4 6
theorem i143_73 : q_ins 143 73 = some (.bipush 6, 2, (0, 0, 0, 0, 0)) := s143_4 9
theorem i143_75 : q_ins 143 75 = some (.invokevirtual 174, 3, (193, 146, 2, 0, 10)) := s143_4 11
theorem i143_78 : q_ins 143 78 = some (.aload_n 0, 1, (0, 0, 0, 0, 0)) := s143_4 14
theorem i143_79 : q_ins 143 79 = some (.iconst 0, 1, (0, 0, 0, 0, 0)) := s143_4 15
theorem i143_80 : q_ins 143 80 = some (.putfield 135, 3, (192, 10, 19, 3, 0)) := s143_5 0
theorem i143_83 : q_ins 143 83 = some (.goto 32, 3, (0, 0, 0, 0, 0)) := s143_5 3
theorem i143_86 : q_ins 143 86 = some (.aload_n 0, 1, (0, 0, 0, 0, 0)) := s143_5 6
theorem i143_87 : q_ins 143 87 = some (.iconst 3, 1, (0, 0, 0, 0, 0)) := s143_5 7
theorem i143_88 : q_ins 143 88 = some (.invokevirtual 180, 3, (191, 144, 2, 0, 10)) := s143_5 8
theorem i143_91 : q_ins 143 91 = some (.aload_n 0, 1, (0, 0, 0, 0, 0)) := s143_5 11
theorem i143_92 : q_ins 143 92 = some (.dup, 1, (0, 0, 0, 0, 0)) := s143_5 12
theorem i143_93 : q_ins 143 93 = some (.getfield 132, 3, (191, 10, 17, 0, 0)) := s143_5 13
theorem i143_96 : q_ins 143 96 = some (.iconst 1, 1, (0, 0, 0, 0, 0)) := s143_6 0
theorem i143_97 : q_ins 143 97 = some (.isub, 1, (0, 0, 0, 0, 0)) := s143_6 1
theorem i143_98 : q_ins 143 98 = some (.putfield 132, 3, (191, 10, 17, 0, 0)) := s143_6 2
theorem i143_101 : q_ins 143 101 = some (.aload_n 0, 1, (0, 0, 0, 0, 0)) := s143_6 5
theorem i143_102 : q_ins 143 102 = some (.dup, 1, (0, 0, 0, 0, 0)) := s143_6 6
theorem i143_103 : q_ins 143 103 = some (.getfield 139, 3, (184, 10, 18, 0, 0)) := s143_6 7
theorem i143_106 : q_ins 143 106 = some (.iconst 1, 1, (0, 0, 0, 0, 0)) := s143_6 10
theorem i143_107 : q_ins 143 107 = some (.isub, 1, (0, 0, 0, 0, 0)) := s143_6 11
theorem i143_108 : q_ins 143 108 = some (.putfield 139, 3, (184, 10, 18, 0, 0)) := s143_6 12
theorem i143_111 : q_ins 143 111 = some (.aload_n 0, 1, (0, 0, 0, 0, 0)) := s143_6 15
theorem i143_112 : q_ins 143 112 = some (.invokevirtual 164, 3, (194, 147, 1, 0, 10)) := s143_7 0
theorem i143_115 : q_ins 143 115 = some (.aload_n 0, 1, (0, 0, 0, 0, 0)) := s143_7 3
theorem i143_116 : q_ins 143 116 = some (.invokevirtual 161, 3, (171, 127, 1, 0, 10)) := s143_7 4
theorem i143_119 : q_ins 143 119 = some (.iconst 0, 1, (0, 0, 0, 0, 0)) := s143_7 7
theorem i143_120 : q_ins 143 120 = some (.ireturn, 1, (0, 0, 0, 0, 0)) := s143_7 8
theorem s144_0 (j : Nat) : q_ins 144 j = q_at q_c144 j := rfl
theorem s144_1 (j : Nat) : q_ins 144 (j + 16) = q_at q_c144_1 j := s144_0 (j + 16)
theorem s144_2 (j : Nat) : q_ins 144 (j + 32) = q_at q_c144_2 j := s144_1 (j + 16)
theorem s144_3 (j : Nat) : q_ins 144 (j + 48) = q_at q_c144_3 j := s144_2 (j + 16)
theorem s144_4 (j : Nat) : q_ins 144 (j + 64) = q_at q_c144_4 j := s144_3 (j + 16)
theorem i144_0 : q_ins 144 0 = some (.aload_n 0, 1, (0, 0, 0, 0, 0)) := s144_0 0
theorem i144_1 : q_ins 144 1 = some (.getfield 132, 3, (191, 10, 17, 0, 0)) := s144_0 1
theorem i144_4 : q_ins 144 4 = some (.ifCond .le 61, 3, (0, 0, 0, 0, 0)) := s144_0 4
theorem i144_7 : q_ins 144 7 = some (.aload_n 0, 1, (0, 0, 0, 0, 0)) := s144_0 7
theorem i144_8 : q_ins 144 8 = some (.getfield 29, 3, (168, 10, 16, 2, 0)) := s144_0 8
theorem i144_11 : q_ins 144 11 = some (.aload_n 0, 1, (0, 0, 0, 0, 0)) := s144_0 11
theorem i144_12 : q_ins 144 12 = some (.getfield 132, 3, (191, 10, 17, 0, 0)) := s144_0 12
theorem i144_15 : q_ins 144 15 = some (.iconst 1, 1, (0, 0, 0, 0, 0)) := s144_0 15
theorem i144_16 : q_ins 144 16 = some (.isub, 1, (0, 0, 0, 0, 0)) := s144_1 0
theorem i144_17 : q_ins 144 17 = some (.iaload, 1, (0, 0, 0, 0, 0)) := s144_1 1
theorem i144_18 : q_ins 144 18 = some (.bipush 40, 2, (0, 0, 0, 0, 0)) := s144_1 2
theorem i144_20 : q_ins 144 20 = some (.if_icmp .ge 45, 3, (0, 0, 0, 0, 0)) := s144_1 4
theorem i144_23 : q_ins 144 23 = some (.aload_n 0, 1, (0, 0, 0, 0, 0)) := s144_1 7
theorem i144_24 : q_ins 144 24 = some (.getfield 29, 3, (168, 10, 16, 2, 0)) := s144_1 8
theorem i144_27 : q_ins 144 27 = some (.aload_n 0, 1, (0, 0, 0, 0, 0)) := s144_1 11
theorem i144_28 : q_ins 144 28 = some (.getfield 132, 3, (191, 10, 17, 0, 0)) := s144_1 12
theorem i144_31 : q_ins 144 31 = some (.iconst 1, 1, (0, 0, 0, 0, 0)) := s144_1 15
theorem i144_32 : q_ins 144 32 = some (.isub, 1, (0, 0, 0, 0, 0)) := s144_2 0
theorem i144_33 : q_ins 144 33 = some (.iaload, 1, (0, 0, 0, 0, 0)) := s144_2 1
theorem i144_34 : q_ins 144 34 = some (.iload_n 1, 1, (0, 0, 0, 0, 0)) := s144_2 2
theorem i144_35 : q_ins 144 35 = some (.if_icmp .lt 30, 3, (0, 0, 0, 0, 0)) := s144_2 3
theorem i144_38 : q_ins 144 38 = some (.aload_n 0, 1, (0, 0, 0, 0, 0)) := s144_2 6
theorem i144_39 : q_ins 144 39 = some (.dup, 1, (0, 0, 0, 0, 0)) := s144_2 7
theorem i144_40 : q_ins 144 40 = some (.getfield 132, 3, (191, 10, 17, 0, 0)) := s144_2 8
theorem i144_43 : q_ins 144 43 = some (.iconst 1, 1, (0, 0, 0, 0, 0)) := s144_2 11
theorem i144_44 : q_ins 144 44 = some (.isub, 1, (0, 0, 0, 0, 0)) := s144_2 12
theorem i144_45 : q_ins 144 45 = some (.putfield 132, 3, (191, 10, 17, 0, 0)) := s144_2 13
theorem i144_48 : q_ins 144 48 = some (.aload_n 0, 1, (0, 0, 0, 0, 0)) := s144_3 0
theorem i144_49 : q_ins 144 49 = some (.aload_n 0, 1, (0, 0, 0, 0, 0)) := s144_3 1
theorem i144_50 : q_ins 144 50 = some (.getfield 29, 3, (168, 10, 16, 2, 0)) := s144_3 2
theorem i144_53 : q_ins 144 53 = some (.aload_n 0, 1, (0, 0, 0, 0, 0)) := s144_3 5
theorem i144_54 : q_ins 144 54 = some (.getfield 132, 3, (191, 10, 17, 0, 0)) := s144_3 6
theorem i144_57 : q_ins 144 57 = some (.iaload, 1, (0, 0, 0, 0, 0)) := s144_3 9
theorem i144_58 : q_ins 144 58 = some (.iconst 0, 1, (0, 0, 0, 0, 0)) := s144_3 10
theorem i144_59 : q_ins 144 59 = some (.invokevirtual 142, 3, (186, 145, 3, 0, 10)) := s144_3 11
theorem i144_62 : q_ins 144 62 = some (.goto (-62), 3, (0, 0, 0, 0, 0)) := s144_3 14
theorem i144_65 : q_ins 144 65 = some (.return_, 1, (0, 0, 0, 0, 0)) := s144_4 1
theorem s145_0 (j : Nat) : q_ins 145 j = q_at q_c145 j := rfl
theorem s145_1 (j : Nat) : q_ins 145 (j + 16) = q_at q_c145_1 j := s145_0 (j + 16)
theorem s145_2 (j : Nat) : q_ins 145 (j + 32) = q_at q_c145_2 j := s145_1 (j + 16)
theorem s145_3 (j : Nat) : q_ins 145 (j + 48) = q_at q_c145_3 j := s145_2 (j + 16)
theorem i145_0 : q_ins 145 0 = some (.aload_n 0, 1, (0, 0, 0, 0, 0)) := s145_0 0
theorem i145_1 : q_ins 145 1 = some (.getfield 16, 3, (164, 10, 2, 2, 0)) := s145_0 1
theorem i145_4 : q_ins 145 4 = some (.aload_n 0, 1, (0, 0, 0, 0, 0)) := s145_0 4
theorem i145_5 : q_ins 145 5 = some (.getfield 126, 3, (182, 10, 12, 0, 0)) := s145_0 5
theorem i145_8 : q_ins 145 8 = some (.bipush 75, 2, (0, 0, 0, 0, 0)) := s145_0 8
theorem i145_10 : q_ins 145 10 = some (.iadd, 1, (0, 0, 0, 0, 0)) := s145_0 10
theorem i145_11 : q_ins 145 11 = some (.iconst 2, 1, (0, 0, 0, 0, 0)) := s145_0 11
theorem i145_12 : q_ins 145 12 = some (.aload_n 0, 1, (0, 0, 0, 0, 0)) := s145_0 12
theorem i145_13 : q_ins 145 13 = some (.getfield 129, 3, (183, 10, 14, 0, 0)) := s145_0 13
theorem i145_16 : q_ins 145 16 = some (.imul, 1, (0, 0, 0, 0, 0)) := s145_1 0
theorem i145_17 : q_ins 145 17 = some (.iadd, 1, (0, 0, 0, 0, 0)) := s145_1 1
theorem i145_18 : q_ins 145 18 = some (.iload_n 1, 1, (0, 0, 0, 0, 0)) := s145_1 2
theorem i145_19 : q_ins 145 19 = some (.iastore, 1, (0, 0, 0, 0, 0)) := s145_1 3
theorem i145_20 : q_ins 145 20 = some (.aload_n 0, 1, (0, 0, 0, 0, 0)) := s145_1 4
theorem i145_21 : q_ins 145 21 = some (.getfield 16, 3, (164, 10, 2, 2, 0)) := s145_1 5
theorem i145_24 : q_ins 145 24 = some (.aload_n 0, 1, (0, 0, 0, 0, 0)) := s145_1 8
theorem i145_25 : q_ins 145 25 = some (.getfield 126, 3, (182, 10, 12, 0, 0)) := s145_1 9
theorem i145_28 : q_ins 145 28 = some (.bipush 75, 2, (0, 0, 0, 0, 0)) := s145_1 12
theorem i145_30 : q_ins 145 30 = some (.iadd, 1, (0, 0, 0, 0, 0)) := s145_1 14
theorem i145_31 : q_ins 145 31 = some (.iconst 2, 1, (0, 0, 0, 0, 0)) := s145_1 15
theorem i145_32 : q_ins 145 32 = some (.aload_n 0, 1, (0, 0, 0, 0, 0)) := s145_2 0
theorem i145_33 : q_ins 145 33 = some (.getfield 129, 3, (183, 10, 14, 0, 0)) := s145_2 1
theorem i145_36 : q_ins 145 36 = some (.imul, 1, (0, 0, 0, 0, 0)) := s145_2 4
theorem i145_37 : q_ins 145 37 = some (.iadd, 1, (0, 0, 0, 0, 0)) := s145_2 5
theorem i145_38 : q_ins 145 38 = some (.iconst 1, 1, (0, 0, 0, 0, 0)) := s145_2 6
theorem i145_39 : q_ins 145 39 = some (.iadd, 1, (0, 0, 0, 0, 0)) := s145_2 7
theorem i145_40 : q_ins 145 40 = some (.iload_n 2, 1, (0, 0, 0, 0, 0)) := s145_2 8
theorem i145_41 : q_ins 145 41 = some (.iastore, 1, (0, 0, 0, 0, 0)) := s145_2 9
theorem i145_42 : q_ins 145 42 = some (.aload_n 0, 1, (0, 0, 0, 0, 0)) := s145_2 10
theorem i145_43 : q_ins 145 43 = some (.dup, 1, (0, 0, 0, 0, 0)) := s145_2 11
theorem i145_44 : q_ins 145 44 = some (.getfield 129, 3, (183, 10, 14, 0, 0)) := s145_2 12
theorem i145_47 : q_ins 145 47 = some (.iconst 1, 1, (0, 0, 0, 0, 0)) := s145_2 15
theorem i145_48 : q_ins 145 48 = some (.iadd, 1, (0, 0, 0, 0, 0)) := s145_3 0
theorem i145_49 : q_ins 145 49 = some (.putfield 129, 3, (183, 10, 14, 0, 0)) := s145_3 1
theorem i145_52 : q_ins 145 52 = some (.return_, 1, (0, 0, 0, 0, 0)) := s145_3 4
theorem s146_0 (j : Nat) : q_ins 146 j = q_at q_c146 j := rfl
theorem s146_1 (j : Nat) : q_ins 146 (j + 16) = q_at q_c146_1 j := s146_0 (j + 16)
theorem i146_0 : q_ins 146 0 = some (.aload_n 0, 1, (0, 0, 0, 0, 0)) := s146_0 0
theorem i146_1 : q_ins 146 1 = some (.getfield 29, 3, (168, 10, 16, 2, 0)) := s146_0 1
theorem i146_4 : q_ins 146 4 = some (.aload_n 0, 1, (0, 0, 0, 0, 0)) := s146_0 4
theorem i146_5 : q_ins 146 5 = some (.getfield 132, 3, (191, 10, 17, 0, 0)) := s146_0 5
theorem i146_8 : q_ins 146 8 = some (.iload_n 1, 1, (0, 0, 0, 0, 0)) := s146_0 8
theorem i146_9 : q_ins 146 9 = some (.iastore, 1, (0, 0, 0, 0, 0)) := s146_0 9
theorem i146_10 : q_ins 146 10 = some (.aload_n 0, 1, (0, 0, 0, 0, 0)) := s146_0 10
theorem i146_11 : q_ins 146 11 = some (.dup, 1, (0, 0, 0, 0, 0)) := s146_0 11
theorem i146_12 : q_ins 146 12 = some (.getfield 132, 3, (191, 10, 17, 0, 0)) := s146_0 12
theorem i146_15 : q_ins 146 15 = some (.iconst 1, 1, (0, 0, 0, 0, 0)) := s146_0 15
theorem i146_16 : q_ins 146 16 = some (.iadd, 1, (0, 0, 0, 0, 0)) := s146_1 0
theorem i146_17 : q_ins 146 17 = some (.putfield 132, 3, (191, 10, 17, 0, 0)) := s146_1 1
theorem i146_20 : q_ins 146 20 = some (.return_, 1, (0, 0, 0, 0, 0)) := s146_1 4
theorem s147_0 (j : Nat) : q_ins 147 j = q_at q_c147 j := rfl
theorem s147_1 (j : Nat) : q_ins 147 (j + 16) = q_at q_c147_1 j := s147_0 (j + 16)
theorem s147_2 (j : Nat) : q_ins 147 (j + 32) = q_at q_c147_2 j := s147_1 (j + 16)
theorem s147_3 (j : Nat) : q_ins 147 (j + 48) = q_at q_c147_3 j := s147_2 (j + 16)
theorem i147_0 : q_ins 147 0 = some (.aload_n 0, 1, (0, 0, 0, 0, 0)) := s147_0 0
theorem i147_1 : q_ins 147 1 = some (.iconst 1, 1, (0, 0, 0, 0, 0)) := s147_0 1
theorem i147_2 : q_ins 147 2 = some (.putfield 135, 3, (192, 10, 19, 3, 0)) := s147_0 2
theorem i147_5 : q_ins 147 5 = some (.aload_n 0, 1, (0, 0, 0, 0, 0)) := s147_0 5
theorem i147_6 : q_ins 147 6 = some (.getfield 132, 3, (191, 10, 17, 0, 0)) := s147_0 6
theorem i147_9 : q_ins 147 9 = some (.ifCond .le 47, 3, (0, 0, 0, 0, 0)) := s147_0 9
theorem i147_12 : q_ins 147 12 = some (.aload_n 0, 1, (0, 0, 0, 0, 0)) := s147_0 12
theorem i147_13 : q_ins 147 13 = some (.getfield 29, 3, (168, 10, 16, 2, 0)) := s147_0 13
theorem i147_16 : q_ins 147 16 = some (.aload_n 0, 1, (0, 0, 0, 0, 0)) := s147_1 0
theorem i147_17 : q_ins 147 17 = some (.getfield 132, 3, (191, 10, 17, 0, 0)) := s147_1 1
theorem i147_20 : q_ins 147 20 = some (.iconst 1, 1, (0, 0, 0, 0, 0)) := s147_1 4
theorem i147_21 : q_ins 147 21 = some (.isub, 1, (0, 0, 0, 0, 0)) := s147_1 5
theorem i147_22 : q_ins 147 22 = some (.iaload, 1, (0, 0, 0, 0, 0)) := s147_1 6
theorem i147_23 : q_ins 147 23 = some (.iconst 2, 1, (0, 0, 0, 0, 0)) := s147_1 7
theorem i147_24 : q_ins 147 24 = some (.if_icmp .ne 32, 3, (0, 0, 0, 0, 0)) := s147_1 8
theorem i147_27 : q_ins 147 27 = some (.aload_n 0, 1, (0, 0, 0, 0, 0)) := s147_1 11
theorem i147_28 : q_ins 147 28 = some (.dup, 1, (0, 0, 0, 0, 0)) := s147_1 12
theorem i147_29 : q_ins 147 29 = some (.getfield 132, 3, (191, 10, 17, 0, 0)) := s147_1 13
theorem i147_32 : q_ins 147 32 = some (.iconst 1, 1, (0, 0, 0, 0, 0)) := s147_2 0
theorem i147_33 : q_ins 147 33 = some (.isub, 1, (0, 0, 0, 0, 0)) := s147_2 1
theorem i147_34 : q_ins 147 34 = some (.putfield 132, 3, (191, 10, 17, 0, 0)) := s147_2 2
theorem i147_37 : q_ins 147 37 = some (.aload_n 0, 1, (0, 0, 0, 0, 0)) := s147_2 5
theorem i147_38 : q_ins 147 38 = some (.dup, 1, (0, 0, 0, 0, 0)) := s147_2 6
theorem i147_39 : q_ins 147 39 = some (.getfield 139, 3, (184, 10, 18, 0, 0)) := s147_2 7
theorem i147_42 : q_ins 147 42 = some (.iconst 1, 1, (0, 0, 0, 0, 0)) := s147_2 10
theorem i147_43 : q_ins 147 43 = some (.isub, 1, (0, 0, 0, 0, 0)) := s147_2 11
theorem i147_44 : q_ins 147 44 = some (.putfield 139, 3, (184, 10, 18, 0, 0)) := s147_2 12
theorem i147_47 : q_ins 147 47 = some (.aload_n 0, 1, (0, 0, 0, 0, 0)) := s147_2 15
theorem i147_48 : q_ins 147 48 = some (.iconst 2, 1, (0, 0, 0, 0, 0)) := s147_3 0
theorem i147_49 : q_ins 147 49 = some (.iconst 0, 1, (0, 0, 0, 0, 0)) := s147_3 1
theorem i147_50 : q_ins 147 50 = some (.invokevirtual 142, 3, (186, 145, 3, 0, 10)) := s147_3 2
theorem i147_53 : q_ins 147 53 = some (.goto (-48), 3, (0, 0, 0, 0, 0)) := s147_3 5
theorem i147_56 : q_ins 147 56 = some (.return_, 1, (0, 0, 0, 0, 0)) := s147_3 8
theorem s148_0 (j : Nat) : q_ins 148 j = q_at q_c148 j := rfl
theorem s148_1 (j : Nat) : q_ins 148 (j + 16) = q_at q_c148_1 j := s148_0 (j + 16)
theorem s148_2 (j : Nat) : q_ins 148 (j + 32) = q_at q_c148_2 j := s148_1 (j + 16)
theorem s148_3 (j : Nat) : q_ins 148 (j + 48) = q_at q_c148_3 j := s148_2 (j + 16)
theorem s148_4 (j : Nat) : q_ins 148 (j + 64) = q_at q_c148_4 j := s148_3 (j + 16)
theorem s148_5 (j : Nat) : q_ins 148 (j + 80) = q_at q_c148_5 j := s148_4 (j + 16)
theorem s148_6 (j : Nat) : q_ins 148 (j + 96) = q_at q_c148_6 j := s148_5 (j + 16)
theorem s148_7 (j : Nat) : q_ins 148 (j + 112) = q_at q_c148_7 j := s148_6 (j + 16)
theorem s148_8 (j : Nat) : q_ins 148 (j + 128) = q_at q_c148_8 j := s148_7 (j + 16)
theorem s148_9 (j : Nat) : q_ins 148 (j + 144) = q_at q_c148_9 j := s148_8 (j + 16)
theorem i148_0 : q_ins 148 0 = some (.aload_n 0, 1, (0, 0, 0, 0, 0)) := s148_0 0
theorem i148_1 : q_ins 148 1 = some (.getfield 100, 3, (187, 10, 9, 0, 0)) := s148_0 1
theorem i148_4 : q_ins 148 4 = some (.iconst 1, 1, (0, 0, 0, 0, 0)) := s148_0 4
theorem i148_5 : q_ins 148 5 = some (.if_icmp .ne 34, 3, (0, 0, 0, 0, 0)) := s148_0 5
theorem i148_8 : q_ins 148 8 = some (.aload_n 0, 1, (0, 0, 0, 0, 0)) := s148_0 8
theorem i148_9 : q_ins 148 9 = some (.getfield 107, 3, (188, 10, 10, 0, 0)) := s148_0 9
theorem i148_12 : q_ins 148 12 = some (.sipush 9999, 3, (0, 0, 0, 0, 0)) := s148_0 12
theorem i148_15 : q_ins 148 15 = some (.if_icmp .le 5, 3, (0, 0, 0, 0, 0)) := s148_0 15
theorem i148_18 : q_ins 148 18 = some (.iconst 2, 1, (0, 0, 0, 0, 0)) := s148_1 2
theorem i148_19 : q_ins 148 19 = some (.ireturn, 1, (0, 0, 0, 0, 0)) := s148_1 3
theorem i148_20 : q_ins 148 20 = some (.aload_n 0, 1, (0, 0, 0, 0, 0)) := s148_1 4
theorem i148_21 : q_ins 148 21 = some (.iconst 0, 1, (0, 0, 0, 0, 0)) := s148_1 5
theorem i148_22 : q_ins 148 22 = some (.aload_n 0, 1, (0, 0, 0, 0, 0)) := s148_1 6
theorem i148_23 : q_ins 148 23 = some (.getfield 107, 3, (188, 10, 10, 0, 0)) := s148_1 7
theorem i148_26 : q_ins 148 26 = some (.invokevirtual 142, 3, (186, 145, 3, 0, 10)) := s148_1 10
theorem i148_29 : q_ins 148 29 = some (.aload_n 0, 1, (0, 0, 0, 0, 0)) := s148_1 13
theorem i148_30 : q_ins 148 30 = some (.invokevirtual 161, 3, (171, 127, 1, 0, 10)) := s148_1 14
theorem i148_33 : q_ins 148 33 = some (.aload_n 0, 1, (0, 0, 0, 0, 0)) := s148_2 1
theorem i148_34 : q_ins 148 34 = some (.invokevirtual 164, 3, (194, 147, 1, 0, 10)) := s148_2 2
theorem i148_37 : q_ins 148 37 = some (.iconst 0, 1, (0, 0, 0, 0, 0)) := s148_2 5
theorem i148_38 : q_ins 148 38 = some (.ireturn, 1, (0, 0, 0, 0, 0)) := s148_2 6
theorem i148_39 : q_ins 148 39 = some (.aload_n 0, 1, (0, 0, 0, 0, 0)) := s148_2 7
theorem i148_40 : q_ins 148 40 = some (.invokevirtual 167, 3, (195, 149, 1, 0, 10)) := s148_2 8
theorem i148_43 : q_ins 148 43 = some (.ifCond .lt 35, 3, (0, 0, 0, 0, 0)) := s148_2 11
theorem i148_46 : q_ins 148 46 = some (.aload_n 0, 1, (0, 0, 0, 0, 0)) := s148_2 14
theorem i148_47 : q_ins 148 47 = some (.aload_n 0, 1, (0, 0, 0, 0, 0)) := s148_2 15
theorem i148_48 : q_ins 148 48 = some (.invokevirtual 167, 3, (195, 149, 1, 0, 10)) := s148_3 0
theorem i148_51 : q_ins 148 51 = some (.invokevirtual 171, 3, (196, 151, 2, 0, 10)) := s148_3 3
theorem i148_54 : q_ins 148 54 = some (.ifCond .eq 5, 3, (0, 0, 0, 0, 0)) := s148_3 6
theorem i148_57 : q_ins 148 57 = some (.iconst 5, 1, (0, 0, 0, 0, 0)) := s148_3 9
theorem i148_58 : q_ins 148 58 = some (.ireturn, 1, (0, 0, 0, 0, 0)) := s148_3 10
theorem i148_59 : q_ins 148 59 = some (.aload_n 0, 1, (0, 0, 0, 0, 0)) := s148_3 11
theorem i148_60 : q_ins 148 60 = some (.iconst 1, 1, (0, 0, 0, 0, 0)) := s148_3 12
theorem i148_61 : q_ins 148 61 = some (.aload_n 0, 1, (0, 0, 0, 0, 0)) := s148_3 13
theorem i148_62 : q_ins 148 62 = some (.invokevirtual 167, 3, (195, 149, 1, 0, 10)) := s148_3 14
theorem i148_65 : q_ins 148 65 = some (.invokevirtual 142, 3, (186, 145, 3, 0, 10)) := s148_4 1
theorem i148_68 : q_ins 148 68 = some (.aload_n 0, 1, (0, 0, 0, 0, 0)) := s148_4 4
theorem i148_69 : q_ins 148 69 = some (.invokevirtual 161, 3, (171, 127, 1, 0, 10)) := s148_4 5
theorem i148_72 : q_ins 148 72 = some (.aload_n 0, 1, (0, 0, 0, 0, 0)) := s148_4 8
theorem i148_73 : q_ins 148 73 = some (.invokevirtual 164, 3, (194, 147, 1, 0, 10)) := s148_4 9
theorem i148_76 : q_ins 148 76 = some (.iconst 0, 1, (0, 0, 0, 0, 0)) := s148_4 12
theorem i148_77 : q_ins 148 77 = some (.ireturn, 1, (0, 0, 0, 0, 0)) := s148_4 13
theorem i148_78 : q_ins 148 78 = some (.aload_n 0, 1, (0, 0, 0, 0, 0)) := s148_4 14
theorem i148_79 : q_ins 148 79 = some (.getfield 100, 3, (187, 10, 9, 0, 0)) := s148_4 15
theorem i148_82 : q_ins 148 82 = some (.bipush 40, 2, (0, 0, 0, 0, 0)) := s148_5 2
theorem i148_84 : q_ins 148 84 = some (.if_icmp .ne 8, 3, (0, 0, 0, 0, 0)) := s148_5 4
theorem i148_87 : q_ins 148 87 = some (.bipush 40, 2, (0, 0, 0, 0, 0)) := s148_5 7
theorem i148_89 : q_ins 148 89 = some (.goto 17, 3, (0, 0, 0, 0, 0)) := s148_5 9
theorem i148_92 : q_ins 148 92 = some (.aload_n 0, 1, (0, 0, 0, 0, 0)) := s148_5 12
theorem i148_93 : q_ins 148 93 = some (.getfield 100, 3, (187, 10, 9, 0, 0)) := s148_5 13
theorem i148_96 : q_ins 148 96 = some (.bipush 45, 2, (0, 0, 0, 0, 0)) := s148_6 0
theorem i148_98 : q_ins 148 98 = some (.if_icmp .ne 7, 3, (0, 0, 0, 0, 0)) := s148_6 2
theorem i148_101 : q_ins 148 101 = some (.iconst 2, 1, (0, 0, 0, 0, 0)) := s148_6 5
theorem i148_102 : q_ins 148 102 = some (.goto 4, 3, (0, 0, 0, 0, 0)) := s148_6 6
theorem i148_105 : q_ins 148 105 = some (.iconst 0, 1, (0, 0, 0, 0, 0)) := s148_6 9
theorem i148_106 : q_ins 148 106 = some (.istore_n 1, 1, (0, 0, 0, 0, 0)) := s148_6 10
theorem i148_107 : q_ins 148 107 = some (.iload_n 1, 1, (0, 0, 0, 0, 0)) := s148_6 11
theorem i148_108 : q_ins 148 108 = some (.ifCond .ne 5, 3, (0, 0, 0, 0, 0)) := s148_6 12
theorem i148_111 : q_ins 148 111 = some (.iconst 1, 1, (0, 0, 0, 0, 0)) := s148_6 15
theorem i148_112 : q_ins 148 112 = some (.ireturn, 1, (0, 0, 0, 0, 0)) := s148_7 0
theorem i148_113 : q_ins 148 113 = some (.aload_n 0, 1, (0, 0, 0, 0, 0)) := s148_7 1
theorem i148_114 : q_ins 148 114 = some (.getfield 139, 3, (184, 10, 18, 0, 0)) := s148_7 2
theorem i148_117 : q_ins 148 117 = some (.bipush 8, 2, (0, 0, 0, 0, 0)) := s148_7 5
theorem i148_119 : q_ins 148 119 = some (.if_icmp .ne 5, 3, (0, 0, 0, 0, 0)) := s148_7 7
theorem i148_122 : q_ins 148 122 = some (.iconst 3, 1, (0, 0, 0, 0, 0)) := s148_7 10
theorem i148_123 : q_ins 148 123 = some (.ireturn, 1, (0, 0, 0, 0, 0)) := s148_7 11
theorem i148_124 : q_ins 148 124 = some (.aload_n 0, 1, (0, 0, 0, 0, 0)) := s148_7 12
theorem i148_125 : q_ins 148 125 = some (.dup, 1, (0, 0, 0, 0, 0)) := s148_7 13
theorem i148_126 : q_ins 148 126 = some (.getfield 139, 3, (184, 10, 18, 0, 0)) := s148_7 14
theorem i148_129 : q_ins 148 129 = some (.iconst 1, 1, (0, 0, 0, 0, 0)) := s148_8 1
theorem i148_130 : q_ins 148 130 = some (.iadd, 1, (0, 0, 0, 0, 0)) := s148_8 2
theorem i148_131 : q_ins 148 131 = some (.putfield 139, 3, (184, 10, 18, 0, 0)) := s148_8 3
theorem i148_134 : q_ins 148 134 = some (.aload_n 0, 1, (0, 0, 0, 0, 0)) := s148_8 6
theorem i148_135 : q_ins 148 135 = some (.iload_n 1, 1, (0, 0, 0, 0, 0)) := s148_8 7
theorem i148_136 : q_ins 148 136 = some (.invokevirtual 174, 3, (193, 146, 2, 0, 10)) := s148_8 8
theorem i148_139 : q_ins 148 139 = some (.aload_n 0, 1, (0, 0, 0, 0, 0)) := s148_8 11
theorem i148_140 : q_ins 148 140 = some (.invokevirtual 161, 3, (171, 127, 1, 0, 10)) := s148_8 12
theorem i148_143 : q_ins 148 143 = some (.iconst 0, 1, (0, 0, 0, 0, 0)) := s148_8 15
theorem i148_144 : q_ins 148 144 = some (.ireturn, 1, (0, 0, 0, 0, 0)) := s148_9 0
theorem s149_0 (j : Nat) : q_ins 149 j = q_at q_c149 j := rfl
theorem s149_1 (j : Nat) : q_ins 149 (j + 16) = q_at q_c149_1 j := s149_0 (j + 16)
theorem s149_2 (j : Nat) : q_ins 149 (j + 32) = q_at q_c149_2 j := s149_1 (j + 16)
theorem s149_3 (j : Nat) : q_ins 149 (j + 48) = q_at q_c149_3 j := s149_2 (j + 16)
theorem s149_4 (j : Nat) : q_ins 149 (j + 64) = q_at q_c149_4 j := s149_3 (j + 16)
theorem s149_5 (j : Nat) : q_ins 149 (j + 80) = q_at q_c149_5 j := s149_4 (j + 16)
theorem s149_6 (j : Nat) : q_ins 149 (j + 96) = q_at q_c149_6 j := s149_5 (j + 16)
theorem s149_7 (j : Nat) : q_ins 149 (j + 112) = q_at q_c149_7 j := s149_6 (j + 16)
theorem s149_8 (j : Nat) : q_ins 149 (j + 128) = q_at q_c149_8 j := s149_7 (j + 16)
theorem s149_9 (j : Nat) : q_ins 149 (j + 144) = q_at q_c149_9 j := s149_8 (j + 16)
theorem s149_10 (j : Nat) : q_ins 149 (j + 160) = q_at q_c149_10 j := s149_9 (j + 16)
theorem s149_11 (j : Nat) : q_ins 149 (j + 176) = q_at q_c149_11 j := s149_10 (j + 16)
theorem s149_12 (j : Nat) : q_ins 149 (j + 192) = q_at q_c149_12 j := s149_11 (j + 16)
theorem s149_13 (j : Nat) : q_ins 149 (j + 208) = q_at q_c149_13 j := s149_12 (j + 16)
theorem s149_14 (j : Nat) : q_ins 149 (j + 224) = q_at q_c149_14 j := s149_13 (j + 16)
theorem s149_15 (j : Nat) : q_ins 149 (j + 240) = q_at q_c149_15 j := s149_14 (j + 16)
theorem s149_16 (j : Nat) : q_ins 149 (j + 256) = q_at q_c149_16 j := s149_15 (j + 16)
theorem s149_17 (j : Nat) : q_ins 149 (j + 272) = q_at q_c149_17 j := s149_16 (j + 16)
theorem s149_18 (j : Nat) : q_ins 149 (j + 288) = q_at q_c149_18 j := s149_17 (j + 16)
theorem s149_19 (j : Nat) : q_ins 149 (j + 304) = q_at q_c149_19 j := s149_18 (j + 16)
theorem s149_20 (j : Nat) : q_ins 149 (j + 320) = q_at q_c149_20 j := s149_19 (j + 16)
theorem i149_0 : q_ins 149 0 = some (.aload_n 0, 1, (0, 0, 0, 0, 0)) := s149_0 0
theorem i149_1 : q_ins 149 1 = some (.getfield 100, 3, (187, 10, 9, 0, 0)) := s149_0 1
theorem i149_4 : q_ins 149 4 = some (.iconst 2, 1, (0, 0, 0, 0, 0)) := s149_0 4
theorem i149_5 : q_ins 149 5 = some (.if_icmp .eq 5, 3, (0, 0, 0, 0, 0)) := s149_0 5
theorem i149_8 : q_ins 149 8 = some (.iconst (-1), 1, (0, 0, 0, 0, 0)) := s149_0 8
theorem i149_9 : q_ins 149 9 = some (.ireturn, 1, (0, 0, 0, 0, 0)) := s149_0 9
theorem i149_10 : q_ins 149 10 = some (.aload_n 0, 1, (0, 0, 0, 0, 0)) := s149_0 10
theorem i149_11 : q_ins 149 11 = some (.getfield 114, 3, (189, 10, 11, 1, 0)) := s149_0 11
theorem i149_14 : q_ins 149 14 = some (.bipush 119, 2, (0, 0, 0, 0, 0)) := s149_0 14
theorem i149_16 : q_ins 149 16 = some (.bipush 105, 2, (0, 0, 0, 0, 0)) := s149_1 0
theorem i149_18 : q_ins 149 18 = some (.bipush 116, 2, (0, 0, 0, 0, 0)) := s149_1 2
theorem i149_20 : q_ins 149 20 = some (.invokestatic 118, 3, (183, 135, 3, 2, 0)) := s149_1 4
theorem i149_23 : q_ins 149 23 = some (.lcmp, 1, (0, 0, 0, 0, 0)) := s149_1 7
theorem i149_24 : q_ins 149 24 = some (.ifCond .ne 5, 3, (0, 0, 0, 0, 0)) := s149_1 8
theorem i149_27 : q_ins 149 27 = some (.iconst 0, 1, (0, 0, 0, 0, 0)) := s149_1 11
theorem i149_28 : q_ins 149 28 = some (.ireturn, 1, (0, 0, 0, 0, 0)) := s149_1 12
theorem i149_29 : q_ins 149 29 = some (.aload_n 0, 1, (0, 0, 0, 0, 0)) := s149_1 13
theorem i149_30 : q_ins 149 30 = some (.getfield 114, 3, (189, 10, 11, 1, 0)) := s149_1 14
theorem i149_33 : q_ins 149 33 = some (.bipush 115, 2, (0, 0, 0, 0, 0)) := s149_2 1
theorem i149_35 : q_ins 149 35 = some (.bipush 104, 2, (0, 0, 0, 0, 0)) := s149_2 3
theorem i149_37 : q_ins 149 37 = some (.bipush 97, 2, (0, 0, 0, 0, 0)) := s149_2 5
theorem i149_39 : q_ins 149 39 = some (.bipush 109, 2, (0, 0, 0, 0, 0)) := s149_2 7
theorem i149_41 : q_ins 149 41 = some (.bipush 101, 2, (0, 0, 0, 0, 0)) := s149_2 9
theorem i149_43 : q_ins 149 43 = some (.invokestatic 122, 3, (184, 134, 5, 2, 0)) := s149_2 11
theorem i149_46 : q_ins 149 46 = some (.lcmp, 1, (0, 0, 0, 0, 0)) := s149_2 14
theorem i149_47 : q_ins 149 47 = some (.ifCond .ne 5, 3, (0, 0, 0, 0, 0)) := s149_2 15
theorem i149_50 : q_ins 149 50 = some (.iconst 1, 1, (0, 0, 0, 0, 0)) := s149_3 2
theorem i149_51 : q_ins 149 51 = some (.ireturn, 1, (0, 0, 0, 0, 0)) := s149_3 3
theorem i149_52 : q_ins 149 52 = some (.aload_n 0, 1, (0, 0, 0, 0, 0)) := s149_3 4
theorem i149_53 : q_ins 149 53 = some (.getfield 114, 3, (189, 10, 11, 1, 0)) := s149_3 5
theorem i149_56 : q_ins 149 56 = some (.bipush 114, 2, (0, 0, 0, 0, 0)) := s149_3 8
theorem i149_58 : q_ins 149 58 = some (.bipush 111, 2, (0, 0, 0, 0, 0)) := s149_3 10
theorem i149_60 : q_ins 149 60 = some (.bipush 119, 2, (0, 0, 0, 0, 0)) := s149_3 12
theorem i149_62 : q_ins 149 62 = some (.invokestatic 118, 3, (183, 135, 3, 2, 0)) := s149_3 14
theorem i149_65 : q_ins 149 65 = some (.lcmp, 1, (0, 0, 0, 0, 0)) := s149_4 1
theorem i149_66 : q_ins 149 66 = some (.ifCond .ne 5, 3, (0, 0, 0, 0, 0)) := s149_4 2
theorem i149_69 : q_ins 149 69 = some (.iconst 2, 1, (0, 0, 0, 0, 0)) := s149_4 5
theorem i149_70 : q_ins 149 70 = some (.ireturn, 1, (0, 0, 0, 0, 0)) := s149_4 6
theorem i149_71 : q_ins 149 71 = some (.aload_n 0, 1, (0, 0, 0, 0, 0)) := s149_4 7
theorem i149_72 : q_ins 149 72 = some (.getfield 114, 3, (189, 10, 11, 1, 0)) := s149_4 8
theorem i149_75 : q_ins 149 75 = some (.bipush 115, 2, (0, 0, 0, 0, 0)) := s149_4 11
theorem i149_77 : q_ins 149 77 = some (.bipush 111, 2, (0, 0, 0, 0, 0)) := s149_4 13
theorem i149_79 : q_ins 149 79 = some (.bipush 114, 2, (0, 0, 0, 0, 0)) := s149_4 15
theorem i149_81 : q_ins 149 81 = some (.bipush 116, 2, (0, 0, 0, 0, 0)) := s149_5 1
theorem i149_83 : q_ins 149 83 = some (.invokestatic 146, 3, (182, 137, 4, 2, 0)) := s149_5 3
theorem i149_86 : q_ins 149 86 = some (.lcmp, 1, (0, 0, 0, 0, 0)) := s149_5 6
theorem i149_87 : q_ins 149 87 = some (.ifCond .ne 5, 3, (0, 0, 0, 0, 0)) := s149_5 7
theorem i149_90 : q_ins 149 90 = some (.iconst 3, 1, (0, 0, 0, 0, 0)) := s149_5 10
theorem i149_91 : q_ins 149 91 = some (.ireturn, 1, (0, 0, 0, 0, 0)) := s149_5 11
theorem i149_92 : q_ins 149 92 = some (.aload_n 0, 1, (0, 0, 0, 0, 0)) := s149_5 12
theorem i149_93 : q_ins 149 93 = some (.getfield 114, 3, (189, 10, 11, 1, 0)) := s149_5 13
theorem i149_96 : q_ins 149 96 = some (.bipush 112, 2, (0, 0, 0, 0, 0)) := s149_6 0
theorem i149_98 : q_ins 149 98 = some (.bipush 111, 2, (0, 0, 0, 0, 0)) := s149_6 2
theorem i149_100 : q_ins 149 100 = some (.bipush 119, 2, (0, 0, 0, 0, 0)) := s149_6 4
theorem i149_102 : q_ins 149 102 = some (.bipush 101, 2, (0, 0, 0, 0, 0)) := s149_6 6
theorem i149_104 : q_ins 149 104 = some (.bipush 114, 2, (0, 0, 0, 0, 0)) := s149_6 8
theorem i149_106 : q_ins 149 106 = some (.invokestatic 122, 3, (184, 134, 5, 2, 0)) := s149_6 10
theorem i149_109 : q_ins 149 109 = some (.lcmp, 1, (0, 0, 0, 0, 0)) := s149_6 13
theorem i149_110 : q_ins 149 110 = some (.ifCond .ne 5, 3, (0, 0, 0, 0, 0)) := s149_6 14
theorem i149_113 : q_ins 149 113 = some (.iconst 4, 1, (0, 0, 0, 0, 0)) := s149_7 1
theorem i149_114 : q_ins 149 114 = some (.ireturn, 1, (0, 0, 0, 0, 0)) := s149_7 2
theorem i149_115 : q_ins 149 115 = some (.aload_n 0, 1, (0, 0, 0, 0, 0)) := s149_7 3
theorem i149_116 : q_ins 149 116 = some (.getfield 114, 3, (189, 10, 11, 1, 0)) := s149_7 4
theorem i149_119 : q_ins 149 119 = some (.bipush 110, 2, (0, 0, 0, 0, 0)) := s149_7 7
theorem i149_121 : q_ins 149 121 = some (.bipush 101, 2, (0, 0, 0, 0, 0)) := s149_7 9
theorem i149_123 : q_ins 149 123 = some (.bipush 97, 2, (0, 0, 0, 0, 0)) := s149_7 11
theorem i149_125 : q_ins 149 125 = some (.bipush 114, 2, (0, 0, 0, 0, 0)) := s149_7 13
theorem i149_127 : q_ins 149 127 = some (.invokestatic 146, 3, (182, 137, 4, 2, 0)) := s149_7 15
theorem i149_130 : q_ins 149 130 = some (.lcmp, 1, (0, 0, 0, 0, 0)) := s149_8 2
theorem i149_131 : q_ins 149 131 = some (.ifCond .ne 5, 3, (0, 0, 0, 0, 0)) := s149_8 3
theorem i149_134 : q_ins 149 134 = some (.iconst 5, 1, (0, 0, 0, 0, 0)) := s149_8 6
theorem i149_135 : q_ins 149 135 = some (.ireturn, 1, (0, 0, 0, 0, 0)) := s149_8 7
theorem i149_136 : q_ins 149 136 = some (.aload_n 0, 1, (0, 0, 0, 0, 0)) := s149_8 8
theorem i149_137 : q_ins 149 137 = some (.getfield 114, 3, (189, 10, 11, 1, 0)) := s149_8 9
theorem i149_140 : q_ins 149 140 = some (.bipush 97, 2, (0, 0, 0, 0, 0)) := s149_8 12
theorem i149_142 : q_ins 149 142 = some (.bipush 108, 2, (0, 0, 0, 0, 0)) := s149_8 14
theorem i149_144 : q_ins 149 144 = some (.bipush 108, 2, (0, 0, 0, 0, 0)) := s149_9 0
theorem i149_146 : q_ins 149 146 = some (.invokestatic 118, 3, (183, 135, 3, 2, 0)) := s149_9 2
theorem i149_149 : q_ins 149 149 = some (.lcmp, 1, (0, 0, 0, 0, 0)) := s149_9 5
theorem i149_150 : q_ins 149 150 = some (.ifCond .ne 6, 3, (0, 0, 0, 0, 0)) := s149_9 6
theorem i149_153 : q_ins 149 153 = some (.bipush 6, 2, (0, 0, 0, 0, 0)) := s149_9 9
theorem i149_155 : q_ins 149 155 = some (.ireturn, 1, (0, 0, 0, 0, 0)) := s149_9 11
theorem i149_156 : q_ins 149 156 = some (.aload_n 0, 1, (0, 0, 0, 0, 0)) := s149_9 12
theorem i149_157 : q_ins 149 157 = some (.invokevirtual 150, 3, (197, 150, 1, 0, 10)) := s149_9 13
theorem i149_160 : q_ins 149 160 = some (.ifCond .eq 6, 3, (0, 0, 0, 0, 0)) := s149_10 0
theorem i149_163 : q_ins 149 163 = some (.bipush 7, 2, (0, 0, 0, 0, 0)) := s149_10 3
theorem i149_165 : q_ins 149 165 = some (.ireturn, 1, (0, 0, 0, 0, 0)) := s149_10 5
theorem i149_166 : q_ins 149 166 = some (.aload_n 0, 1, (0, 0, 0, 0, 0)) := s149_10 6
theorem i149_167 : q_ins 149 167 = some (.getfield 114, 3, (189, 10, 11, 1, 0)) := s149_10 7
theorem i149_170 : q_ins 149 170 = some (.bipush 114, 2, (0, 0, 0, 0, 0)) := s149_10 10
theorem i149_172 : q_ins 149 172 = some (.bipush 111, 2, (0, 0, 0, 0, 0)) := s149_10 12
theorem i149_174 : q_ins 149 174 = some (.bipush 117, 2, (0, 0, 0, 0, 0)) := s149_10 14
theorem i149_176 : q_ins 149 176 = some (.bipush 110, 2, (0, 0, 0, 0, 0)) := s149_11 0
theorem i149_178 : q_ins 149 178 = some (.bipush 100, 2, (0, 0, 0, 0, 0)) := s149_11 2
theorem i149_180 : q_ins 149 180 = some (.bipush 115, 2, (0, 0, 0, 0, 0)) := s149_11 4
theorem i149_182 : q_ins 149 182 = some (.invokestatic 154, 3, (180, 133, 6, 2, 0)) := s149_11 6
theorem i149_185 : q_ins 149 185 = some (.lcmp, 1, (0, 0, 0, 0, 0)) := s149_11 9
theorem i149_186 : q_ins 149 186 = some (.ifCond .ne 6, 3, (0, 0, 0, 0, 0)) := s149_11 10
theorem i149_189 : q_ins 149 189 = some (.bipush 8, 2, (0, 0, 0, 0, 0)) := s149_11 13
theorem i149_191 : q_ins 149 191 = some (.ireturn, 1, (0, 0, 0, 0, 0)) := s149_11 15
theorem i149_192 : q_ins 149 192 = some (.aload_n 0, 1, (0, 0, 0, 0, 0)) := s149_12 0
theorem i149_193 : q_ins 149 193 = some (.getfield 114, 3, (189, 10, 11, 1, 0)) := s149_12 1
theorem i149_196 : q_ins 149 196 = some (.bipush 99, 2, (0, 0, 0, 0, 0)) := s149_12 4
theorem i149_198 : q_ins 149 198 = some (.bipush 111, 2, (0, 0, 0, 0, 0)) := s149_12 6
theorem i149_200 : q_ins 149 200 = some (.bipush 117, 2, (0, 0, 0, 0, 0)) := s149_12 8
theorem i149_202 : q_ins 149 202 = some (.bipush 103, 2, (0, 0, 0, 0, 0)) := s149_12 10
theorem i149_204 : q_ins 149 204 = some (.bipush 104, 2, (0, 0, 0, 0, 0)) := s149_12 12
theorem i149_206 : q_ins 149 206 = some (.bipush 115, 2, (0, 0, 0, 0, 0)) := s149_12 14
theorem i149_208 : q_ins 149 208 = some (.invokestatic 154, 3, (180, 133, 6, 2, 0)) := s149_13 0
theorem i149_211 : q_ins 149 211 = some (.lcmp, 1, (0, 0, 0, 0, 0)) := s149_13 3
theorem i149_212 : q_ins 149 212 = some (.ifCond .ne 6, 3, (0, 0, 0, 0, 0)) := s149_13 4
theorem i149_215 : q_ins 149 215 = some (.bipush 9, 2, (0, 0, 0, 0, 0)) := s149_13 7
theorem i149_217 : q_ins 149 217 = some (.ireturn, 1, (0, 0, 0, 0, 0)) := s149_13 9
theorem i149_218 : q_ins 149 218 = some (.aload_n 0, 1, (0, 0, 0, 0, 0)) := s149_13 10
theorem i149_219 : q_ins 149 219 = some (.getfield 114, 3, (189, 10, 11, 1, 0)) := s149_13 11
theorem i149_222 : q_ins 149 222 = some (.bipush 98, 2, (0, 0, 0, 0, 0)) := s149_13 14
theorem i149_224 : q_ins 149 224 = some (.bipush 105, 2, (0, 0, 0, 0, 0)) := s149_14 0
theorem i149_226 : q_ins 149 226 = some (.bipush 108, 2, (0, 0, 0, 0, 0)) := s149_14 2
theorem i149_228 : q_ins 149 228 = some (.bipush 108, 2, (0, 0, 0, 0, 0)) := s149_14 4
theorem i149_230 : q_ins 149 230 = some (.invokestatic 146, 3, (182, 137, 4, 2, 0)) := s149_14 6
theorem i149_233 : q_ins 149 233 = some (.lcmp, 1, (0, 0, 0, 0, 0)) := s149_14 9
theorem i149_234 : q_ins 149 234 = some (.ifCond .ne 6, 3, (0, 0, 0, 0, 0)) := s149_14 10
theorem i149_237 : q_ins 149 237 = some (.bipush 10, 2, (0, 0, 0, 0, 0)) := s149_14 13
theorem i149_239 : q_ins 149 239 = some (.ireturn, 1, (0, 0, 0, 0, 0)) := s149_14 15
theorem i149_240 : q_ins 149 240 = some (.aload_n 0, 1, (0, 0, 0, 0, 0)) := s149_15 0
theorem i149_241 : q_ins 149 241 = some (.getfield 114, 3, (189, 10, 11, 1, 0)) := s149_15 1
theorem i149_244 : q_ins 149 244 = some (.bipush 112, 2, (0, 0, 0, 0, 0)) := s149_15 4
theorem i149_246 : q_ins 149 246 = some (.bipush 101, 2, (0, 0, 0, 0, 0)) := s149_15 6
theorem i149_248 : q_ins 149 248 = some (.bipush 111, 2, (0, 0, 0, 0, 0)) := s149_15 8
theorem i149_250 : q_ins 149 250 = some (.bipush 112, 2, (0, 0, 0, 0, 0)) := s149_15 10
theorem i149_252 : q_ins 149 252 = some (.bipush 108, 2, (0, 0, 0, 0, 0)) := s149_15 12
theorem i149_254 : q_ins 149 254 = some (.bipush 101, 2, (0, 0, 0, 0, 0)) := s149_15 14
theorem i149_256 : q_ins 149 256 = some (.invokestatic 154, 3, (180, 133, 6, 2, 0)) := s149_16 0
theorem i149_259 : q_ins 149 259 = some (.lcmp, 1, (0, 0, 0, 0, 0)) := s149_16 3
theorem i149_260 : q_ins 149 260 = some (.ifCond .ne 6, 3, (0, 0, 0, 0, 0)) := s149_16 4
theorem i149_263 : q_ins 149 263 = some (.bipush 11, 2, (0, 0, 0, 0, 0)) := s149_16 7
theorem i149_265 : q_ins 149 265 = some (.ireturn, 1, (0, 0, 0, 0, 0)) := s149_16 9
theorem i149_266 : q_ins 149 266 = some (.aload_n 0, 1, (0, 0, 0, 0, 0)) := s149_16 10
theorem i149_267 : q_ins 149 267 = some (.getfield 114, 3, (189, 10, 11, 1, 0)) := s149_16 11
theorem i149_270 : q_ins 149 270 = some (.bipush 111, 2, (0, 0, 0, 0, 0)) := s149_16 14
theorem i149_272 : q_ins 149 272 = some (.bipush 102, 2, (0, 0, 0, 0, 0)) := s149_17 0
theorem i149_274 : q_ins 149 274 = some (.bipush 116, 2, (0, 0, 0, 0, 0)) := s149_17 2
theorem i149_276 : q_ins 149 276 = some (.bipush 101, 2, (0, 0, 0, 0, 0)) := s149_17 4
theorem i149_278 : q_ins 149 278 = some (.bipush 110, 2, (0, 0, 0, 0, 0)) := s149_17 6
theorem i149_280 : q_ins 149 280 = some (.invokestatic 122, 3, (184, 134, 5, 2, 0)) := s149_17 8
theorem i149_283 : q_ins 149 283 = some (.lcmp, 1, (0, 0, 0, 0, 0)) := s149_17 11
theorem i149_284 : q_ins 149 284 = some (.ifCond .ne 8, 3, (0, 0, 0, 0, 0)) := s149_17 12
theorem i149_287 : q_ins 149 287 = some (.bipush 12, 2, (0, 0, 0, 0, 0)) := s149_17 15
theorem i149_289 : q_ins 149 289 = some (.goto 41, 3, (0, 0, 0, 0, 0)) := s149_18 1
theorem i149_292 : q_ins 149 292 = some (.aload_n 0, 1, (0, 0, 0, 0, 0)) := s149_18 4
theorem i149_293 : q_ins 149 293 = some (.getfield 114, 3, (189, 10, 11, 1, 0)) := s149_18 5
theorem i149_296 : q_ins 149 296 = some (.bipush 99, 2, (0, 0, 0, 0, 0)) := s149_18 8
theorem i149_298 : q_ins 149 298 = some (.bipush 111, 2, (0, 0, 0, 0, 0)) := s149_18 10
theorem i149_300 : q_ins 149 300 = some (.bipush 117, 2, (0, 0, 0, 0, 0)) := s149_18 12
theorem i149_302 : q_ins 149 302 = some (.invokestatic 118, 3, (183, 135, 3, 2, 0)) := s149_18 14
theorem i149_305 : q_ins 149 305 = some (.bipush 32, 2, (0, 0, 0, 0, 0)) := s149_19 1
theorem i149_307 : q_ins 149 307 = some (.lshl, 1, (0, 0, 0, 0, 0)) := s149_19 3
theorem i149_308 : q_ins 149 308 = some (.bipush 103, 2, (0, 0, 0, 0, 0)) := s149_19 4
theorem i149_310 : q_ins 149 310 = some (.bipush 104, 2, (0, 0, 0, 0, 0)) := s149_19 6
theorem i149_312 : q_ins 149 312 = some (.bipush 101, 2, (0, 0, 0, 0, 0)) := s149_19 8
theorem i149_314 : q_ins 149 314 = some (.bipush 100, 2, (0, 0, 0, 0, 0)) := s149_19 10
theorem i149_316 : q_ins 149 316 = some (.invokestatic 146, 3, (182, 137, 4, 2, 0)) := s149_19 12
theorem i149_319 : q_ins 149 319 = some (.lor, 1, (0, 0, 0, 0, 0)) := s149_19 15
theorem i149_320 : q_ins 149 320 = some (.lcmp, 1, (0, 0, 0, 0, 0)) := s149_20 0
theorem i149_321 : q_ins 149 321 = some (.ifCond .ne 8, 3, (0, 0, 0, 0, 0)) := s149_20 1
theorem i149_324 : q_ins 149 324 = some (.bipush 13, 2, (0, 0, 0, 0, 0)) := s149_20 4
theorem i149_326 : q_ins 149 326 = some (.goto 4, 3, (0, 0, 0, 0, 0)) := s149_20 6
theorem i149_329 : q_ins 149 329 = some (.iconst (-1), 1, (0, 0, 0, 0, 0)) := s149_20 9
theorem i149_330 : q_ins 149 330 = some (.ireturn, 1, (0, 0, 0, 0, 0)) := s149_20 10
theorem s150_0 (j : Nat) : q_ins 150 j = q_at q_c150 j := rfl
theorem s150_1 (j : Nat) : q_ins 150 (j + 16) = q_at q_c150_1 j := s150_0 (j + 16)
theorem s150_2 (j : Nat) : q_ins 150 (j + 32) = q_at q_c150_2 j := s150_1 (j + 16)
theorem s150_3 (j : Nat) : q_ins 150 (j + 48) = q_at q_c150_3 j := s150_2 (j + 16)
theorem s150_4 (j : Nat) : q_ins 150 (j + 64) = q_at q_c150_4 j := s150_3 (j + 16)
theorem s150_5 (j : Nat) : q_ins 150 (j + 80) = q_at q_c150_5 j := s150_4 (j + 16)
theorem s150_6 (j : Nat) : q_ins 150 (j + 96) = q_at q_c150_6 j := s150_5 (j + 16)
theorem s150_7 (j : Nat) : q_ins 150 (j + 112) = q_at q_c150_7 j := s150_6 (j + 16)
theorem s150_8 (j : Nat) : q_ins 150 (j + 128) = q_at q_c150_8 j := s150_7 (j + 16)
theorem i150_0 : q_ins 150 0 = some (.aload_n 0, 1, (0, 0, 0, 0, 0)) := s150_0 0
theorem i150_1 : q_ins 150 1 = some (.getfield 90, 3, (186, 10, 7, 0, 0)) := s150_0 1
theorem i150_4 : q_ins 150 4 = some (.aload_n 0, 1, (0, 0, 0, 0, 0)) := s150_0 4
theorem i150_5 : q_ins 150 5 = some (.getfield 97, 3, (181, 10, 8, 0, 0)) := s150_0 5
theorem i150_8 : q_ins 150 8 = some (.isub, 1, (0, 0, 0, 0, 0)) := s150_0 8
theorem i150_9 : q_ins 150 9 = some (.bipush 8, 2, (0, 0, 0, 0, 0)) := s150_0 9
theorem i150_11 : q_ins 150 11 = some (.if_icmp .ne 61, 3, (0, 0, 0, 0, 0)) := s150_0 11
theorem i150_14 : q_ins 150 14 = some (.aload_n 0, 1, (0, 0, 0, 0, 0)) := s150_0 14
theorem i150_15 : q_ins 150 15 = some (.aload_n 0, 1, (0, 0, 0, 0, 0)) := s150_0 15
theorem i150_16 : q_ins 150 16 = some (.getfield 97, 3, (181, 10, 8, 0, 0)) := s150_1 0
theorem i150_19 : q_ins 150 19 = some (.invokevirtual 93, 3, (173, 128, 2, 0, 10)) := s150_1 3
theorem i150_22 : q_ins 150 22 = some (.bipush 108, 2, (0, 0, 0, 0, 0)) := s150_1 6
theorem i150_24 : q_ins 150 24 = some (.if_icmp .ne 48, 3, (0, 0, 0, 0, 0)) := s150_1 8
theorem i150_27 : q_ins 150 27 = some (.aload_n 0, 1, (0, 0, 0, 0, 0)) := s150_1 11
theorem i150_28 : q_ins 150 28 = some (.aload_n 0, 1, (0, 0, 0, 0, 0)) := s150_1 12
theorem i150_29 : q_ins 150 29 = some (.getfield 97, 3, (181, 10, 8, 0, 0)) := s150_1 13
theorem i150_32 : q_ins 150 32 = some (.iconst 1, 1, (0, 0, 0, 0, 0)) := s150_2 0
theorem i150_33 : q_ins 150 33 = some (.iadd, 1, (0, 0, 0, 0, 0)) := s150_2 1
theorem i150_34 : q_ins 150 34 = some (.invokevirtual 93, 3, (173, 128, 2, 0, 10)) := s150_2 2
theorem i150_37 : q_ins 150 37 = some (.bipush 97, 2, (0, 0, 0, 0, 0)) := s150_2 5
theorem i150_39 : q_ins 150 39 = some (.if_icmp .ne 33, 3, (0, 0, 0, 0, 0)) := s150_2 7
theorem i150_42 : q_ins 150 42 = some (.aload_n 0, 1, (0, 0, 0, 0, 0)) := s150_2 10
theorem i150_43 : q_ins 150 43 = some (.aload_n 0, 1, (0, 0, 0, 0, 0)) := s150_2 11
theorem i150_44 : q_ins 150 44 = some (.getfield 97, 3, (181, 10, 8, 0, 0)) := s150_2 12
theorem i150_47 : q_ins 150 47 = some (.iconst 2, 1, (0, 0, 0, 0, 0)) := s150_2 15
theorem i150_48 : q_ins 150 48 = some (.iadd, 1, (0, 0, 0, 0, 0)) := s150_3 0
theorem i150_49 : q_ins 150 49 = some (.invokevirtual 93, 3, (173, 128, 2, 0, 10)) := s150_3 1
theorem i150_52 : q_ins 150 52 = some (.bipush 117, 2, (0, 0, 0, 0, 0)) := s150_3 4
theorem i150_54 : q_ins 150 54 = some (.if_icmp .ne 18, 3, (0, 0, 0, 0, 0)) := s150_3 6
theorem i150_57 : q_ins 150 57 = some (.aload_n 0, 1, (0, 0, 0, 0, 0)) := s150_3 9
theorem i150_58 : q_ins 150 58 = some (.aload_n 0, 1, (0, 0, 0, 0, 0)) := s150_3 10
theorem i150_59 : q_ins 150 59 = some (.getfield 97, 3, (181, 10, 8, 0, 0)) := s150_3 11
theorem i150_62 : q_ins 150 62 = some (.iconst 3, 1, (0, 0, 0, 0, 0)) := s150_3 14
theorem i150_63 : q_ins 150 63 = some (.iadd, 1, (0, 0, 0, 0, 0)) := s150_3 15
theorem i150_64 : q_ins 150 64 = some (.invokevirtual 93, 3, (173, 128, 2, 0, 10)) := s150_4 0
theorem i150_67 : q_ins 150 67 = some (.bipush 103, 2, (0, 0, 0, 0, 0)) := s150_4 3
theorem i150_69 : q_ins 150 69 = some (.if_icmp .eq 5, 3, (0, 0, 0, 0, 0)) := s150_4 5
theorem i150_72 : q_ins 150 72 = some (.iconst 0, 1, (0, 0, 0, 0, 0)) := s150_4 8
theorem i150_73 : q_ins 150 73 = some (.ireturn, 1, (0, 0, 0, 0, 0)) := s150_4 9
theorem i150_74 : q_ins 150 74 = some (.aload_n 0, 1, (0, 0, 0, 0, 0)) := s150_4 10
theorem i150_75 : q_ins 150 75 = some (.aload_n 0, 1, (0, 0, 0, 0, 0)) := s150_4 11
theorem i150_76 : q_ins 150 76 = some (.getfield 97, 3, (181, 10, 8, 0, 0)) := s150_4 12
theorem i150_79 : q_ins 150 79 = some (.iconst 4, 1, (0, 0, 0, 0, 0)) := s150_4 15
theorem i150_80 : q_ins 150 80 = some (.iadd, 1, (0, 0, 0, 0, 0)) := s150_5 0
theorem i150_81 : q_ins 150 81 = some (.invokevirtual 93, 3, (173, 128, 2, 0, 10)) := s150_5 1
theorem i150_84 : q_ins 150 84 = some (.bipush 104, 2, (0, 0, 0, 0, 0)) := s150_5 4
theorem i150_86 : q_ins 150 86 = some (.if_icmp .ne 54, 3, (0, 0, 0, 0, 0)) := s150_5 6
theorem i150_89 : q_ins 150 89 = some (.aload_n 0, 1, (0, 0, 0, 0, 0)) := s150_5 9
theorem i150_90 : q_ins 150 90 = some (.aload_n 0, 1, (0, 0, 0, 0, 0)) := s150_5 10
theorem i150_91 : q_ins 150 91 = some (.getfield 97, 3, (181, 10, 8, 0, 0)) := s150_5 11
theorem i150_94 : q_ins 150 94 = some (.iconst 5, 1, (0, 0, 0, 0, 0)) := s150_5 14
theorem i150_95 : q_ins 150 95 = some (.iadd, 1, (0, 0, 0, 0, 0)) := s150_5 15
theorem i150_96 : q_ins 150 96 = some (.invokevirtual 93, 3, (173, 128, 2, 0, 10)) := s150_6 0
theorem i150_99 : q_ins 150 99 = some (.bipush 105, 2, (0, 0, 0, 0, 0)) := s150_6 3
theorem i150_101 : q_ins 150 101 = some (.if_icmp .ne 39, 3, (0, 0, 0, 0, 0)) := s150_6 5
theorem i150_104 : q_ins 150 104 = some (.aload_n 0, 1, (0, 0, 0, 0, 0)) := s150_6 8
theorem i150_105 : q_ins 150 105 = some (.aload_n 0, 1, (0, 0, 0, 0, 0)) := s150_6 9
theorem i150_106 : q_ins 150 106 = some (.getfield 97, 3, (181, 10, 8, 0, 0)) := s150_6 10
theorem i150_109 : q_ins 150 109 = some (.bipush 6, 2, (0, 0, 0, 0, 0)) := s150_6 13
theorem i150_111 : q_ins 150 111 = some (.iadd, 1, (0, 0, 0, 0, 0)) := s150_6 15
theorem i150_112 : q_ins 150 112 = some (.invokevirtual 93, 3, (173, 128, 2, 0, 10)) := s150_7 0
theorem i150_115 : q_ins 150 115 = some (.bipush 110, 2, (0, 0, 0, 0, 0)) := s150_7 3
theorem i150_117 : q_ins 150 117 = some (.if_icmp .ne 23, 3, (0, 0, 0, 0, 0)) := s150_7 5
theorem i150_120 : q_ins 150 120 = some (.aload_n 0, 1, (0, 0, 0, 0, 0)) := s150_7 8
theorem i150_121 : q_ins 150 121 = some (.aload_n 0, 1, (0, 0, 0, 0, 0)) := s150_7 9
theorem i150_122 : q_ins 150 122 = some (.getfield 97, 3, (181, 10, 8, 0, 0)) := s150_7 10
theorem i150_125 : q_ins 150 125 = some (.bipush 7, 2, (0, 0, 0, 0, 0)) := s150_7 13
theorem i150_127 : q_ins 150 127 = some (.iadd, 1, (0, 0, 0, 0, 0)) := s150_7 15
theorem i150_128 : q_ins 150 128 = some (.invokevirtual 93, 3, (173, 128, 2, 0, 10)) := s150_8 0
theorem i150_131 : q_ins 150 131 = some (.bipush 103, 2, (0, 0, 0, 0, 0)) := s150_8 3
theorem i150_133 : q_ins 150 133 = some (.if_icmp .ne 7, 3, (0, 0, 0, 0, 0)) := s150_8 5
theorem i150_136 : q_ins 150 136 = some (.iconst 1, 1, (0, 0, 0, 0, 0)) := s150_8 8
theorem i150_137 : q_ins 150 137 = some (.goto 4, 3, (0, 0, 0, 0, 0)) := s150_8 9
theorem i150_140 : q_ins 150 140 = some (.iconst 0, 1, (0, 0, 0, 0, 0)) := s150_8 12
theorem i150_141 : q_ins 150 141 = some (.ireturn, 1, (0, 0, 0, 0, 0)) := s150_8 13
theorem s151_0 (j : Nat) : q_ins 151 j = q_at q_c151 j := rfl
theorem s151_1 (j : Nat) : q_ins 151 (j + 16) = q_at q_c151_1 j := s151_0 (j + 16)
theorem s151_2 (j : Nat) : q_ins 151 (j + 32) = q_at q_c151_2 j := s151_1 (j + 16)
theorem s151_3 (j : Nat) : q_ins 151 (j + 48) = q_at q_c151_3 j := s151_2 (j + 16)
theorem i151_0 : q_ins 151 0 = some (.aload_n 0, 1, (0, 0, 0, 0, 0)) := s151_0 0
theorem i151_1 : q_ins 151 1 = some (.getfield 158, 3, (190, 10, 20, 0, 0)) := s151_0 1
theorem i151_4 : q_ins 151 4 = some (.ifCond .ne 15, 3, (0, 0, 0, 0, 0)) := s151_0 4
theorem i151_7 : q_ins 151 7 = some (.iload_n 1, 1, (0, 0, 0, 0, 0)) := s151_0 7
theorem i151_8 : q_ins 151 8 = some (.bipush 6, 2, (0, 0, 0, 0, 0)) := s151_0 8
theorem i151_10 : q_ins 151 10 = some (.if_icmp .le 7, 3, (0, 0, 0, 0, 0)) := s151_0 10
theorem i151_13 : q_ins 151 13 = some (.iconst 1, 1, (0, 0, 0, 0, 0)) := s151_0 13
theorem i151_14 : q_ins 151 14 = some (.goto 4, 3, (0, 0, 0, 0, 0)) := s151_0 14
theorem i151_17 : q_ins 151 17 = some (.iconst 0, 1, (0, 0, 0, 0, 0)) := s151_1 1
theorem i151_18 : q_ins 151 18 = some (.ireturn, 1, (0, 0, 0, 0, 0)) := s151_1 2
theorem i151_19 : q_ins 151 19 = some (.aload_n 0, 1, (0, 0, 0, 0, 0)) := s151_1 3
theorem i151_20 : q_ins 151 20 = some (.getfield 158, 3, (190, 10, 20, 0, 0)) := s151_1 4
theorem i151_23 : q_ins 151 23 = some (.iconst 1, 1, (0, 0, 0, 0, 0)) := s151_1 7
theorem i151_24 : q_ins 151 24 = some (.if_icmp .ne 32, 3, (0, 0, 0, 0, 0)) := s151_1 8
theorem i151_27 : q_ins 151 27 = some (.iload_n 1, 1, (0, 0, 0, 0, 0)) := s151_1 11
theorem i151_28 : q_ins 151 28 = some (.iconst 3, 1, (0, 0, 0, 0, 0)) := s151_1 12
theorem i151_29 : q_ins 151 29 = some (.if_icmp .eq 23, 3, (0, 0, 0, 0, 0)) := s151_1 13
theorem i151_32 : q_ins 151 32 = some (.iload_n 1, 1, (0, 0, 0, 0, 0)) := s151_2 0
theorem i151_33 : q_ins 151 33 = some (.iconst 4, 1, (0, 0, 0, 0, 0)) := s151_2 1
theorem i151_34 : q_ins 151 34 = some (.if_icmp .eq 18, 3, (0, 0, 0, 0, 0)) := s151_2 2
theorem i151_37 : q_ins 151 37 = some (.iload_n 1, 1, (0, 0, 0, 0, 0)) := s151_2 5
theorem i151_38 : q_ins 151 38 = some (.bipush 7, 2, (0, 0, 0, 0, 0)) := s151_2 6
theorem i151_40 : q_ins 151 40 = some (.bipush 9, 2, (0, 0, 0, 0, 0)) := s151_2 8
theorem i151_42 : q_ins 151 42 = some (.invokestatic 71, 3, (167, 118, 3, 2, 0)) := s151_2 10
theorem i151_45 : q_ins 151 45 = some (.ifCond .ne 7, 3, (0, 0, 0, 0, 0)) := s151_2 13
theorem i151_48 : q_ins 151 48 = some (.iconst 1, 1, (0, 0, 0, 0, 0)) := s151_3 0
theorem i151_49 : q_ins 151 49 = some (.goto 14, 3, (0, 0, 0, 0, 0)) := s151_3 1
theorem i151_52 : q_ins 151 52 = some (.iconst 0, 1, (0, 0, 0, 0, 0)) := s151_3 4
theorem i151_53 : q_ins 151 53 = some (.goto 10, 3, (0, 0, 0, 0, 0)) := s151_3 5
theorem i151_56 : q_ins 151 56 = some (.iload_n 1, 1, (0, 0, 0, 0, 0)) := s151_3 8
theorem i151_57 : q_ins 151 57 = some (.iconst 3, 1, (0, 0, 0, 0, 0)) := s151_3 9
theorem i151_58 : q_ins 151 58 = some (.bipush 9, 2, (0, 0, 0, 0, 0)) := s151_3 10
theorem i151_60 : q_ins 151 60 = some (.invokestatic 71, 3, (167, 118, 3, 2, 0)) := s151_3 12
theorem i151_63 : q_ins 151 63 = some (.ireturn, 1, (0, 0, 0, 0, 0)) := s151_3 15
theorem s152_0 (j : Nat) : q_ins 152 j = q_at q_c152 j := rfl
theorem s152_1 (j : Nat) : q_ins 152 (j + 16) = q_at q_c152_1 j := s152_0 (j + 16)
theorem s152_2 (j : Nat) : q_ins 152 (j + 32) = q_at q_c152_2 j := s152_1 (j + 16)
theorem s152_3 (j : Nat) : q_ins 152 (j + 48) = q_at q_c152_3 j := s152_2 (j + 16)
theorem s152_4 (j : Nat) : q_ins 152 (j + 64) = q_at q_c152_4 j := s152_3 (j + 16)
theorem s152_5 (j : Nat) : q_ins 152 (j + 80) = q_at q_c152_5 j := s152_4 (j + 16)
theorem i152_0 : q_ins 152 0 = some (.aload_n 0, 1, (0, 0, 0, 0, 0)) := s152_0 0
theorem i152_1 : q_ins 152 1 = some (.getfield 100, 3, (187, 10, 9, 0, 0)) := s152_0 1
theorem i152_4 : q_ins 152 4 = some (.bipush 60, 2, (0, 0, 0, 0, 0)) := s152_0 4
theorem i152_6 : q_ins 152 6 = some (.if_icmp .ne 8, 3, (0, 0, 0, 0, 0)) := s152_0 6
theorem i152_9 : q_ins 152 9 = some (.bipush 10, 2, (0, 0, 0, 0, 0)) := s152_0 9
theorem i152_11 : q_ins 152 11 = some (.goto 72, 3, (0, 0, 0, 0, 0)) := s152_0 11
theorem i152_14 : q_ins 152 14 = some (.aload_n 0, 1, (0, 0, 0, 0, 0)) := s152_0 14
theorem i152_15 : q_ins 152 15 = some (.getfield 100, 3, (187, 10, 9, 0, 0)) := s152_0 15
theorem i152_18 : q_ins 152 18 = some (.iconst 4, 1, (0, 0, 0, 0, 0)) := s152_1 2
theorem i152_19 : q_ins 152 19 = some (.if_icmp .ne 8, 3, (0, 0, 0, 0, 0)) := s152_1 3
theorem i152_22 : q_ins 152 22 = some (.bipush 11, 2, (0, 0, 0, 0, 0)) := s152_1 6
theorem i152_24 : q_ins 152 24 = some (.goto 59, 3, (0, 0, 0, 0, 0)) := s152_1 8
theorem i152_27 : q_ins 152 27 = some (.aload_n 0, 1, (0, 0, 0, 0, 0)) := s152_1 11
theorem i152_28 : q_ins 152 28 = some (.getfield 100, 3, (187, 10, 9, 0, 0)) := s152_1 12
theorem i152_31 : q_ins 152 31 = some (.bipush 62, 2, (0, 0, 0, 0, 0)) := s152_1 15
theorem i152_33 : q_ins 152 33 = some (.if_icmp .ne 8, 3, (0, 0, 0, 0, 0)) := s152_2 1
theorem i152_36 : q_ins 152 36 = some (.bipush 12, 2, (0, 0, 0, 0, 0)) := s152_2 4
theorem i152_38 : q_ins 152 38 = some (.goto 45, 3, (0, 0, 0, 0, 0)) := s152_2 6
theorem i152_41 : q_ins 152 41 = some (.aload_n 0, 1, (0, 0, 0, 0, 0)) := s152_2 9
theorem i152_42 : q_ins 152 42 = some (.getfield 100, 3, (187, 10, 9, 0, 0)) := s152_2 10
theorem i152_45 : q_ins 152 45 = some (.iconst 5, 1, (0, 0, 0, 0, 0)) := s152_2 13
theorem i152_46 : q_ins 152 46 = some (.if_icmp .ne 8, 3, (0, 0, 0, 0, 0)) := s152_2 14
theorem i152_49 : q_ins 152 49 = some (.bipush 13, 2, (0, 0, 0, 0, 0)) := s152_3 1
theorem i152_51 : q_ins 152 51 = some (.goto 32, 3, (0, 0, 0, 0, 0)) := s152_3 3
theorem i152_54 : q_ins 152 54 = some (.aload_n 0, 1, (0, 0, 0, 0, 0)) := s152_3 6
theorem i152_55 : q_ins 152 55 = some (.getfield 100, 3, (187, 10, 9, 0, 0)) := s152_3 7
theorem i152_58 : q_ins 152 58 = some (.bipush 61, 2, (0, 0, 0, 0, 0)) := s152_3 10
theorem i152_60 : q_ins 152 60 = some (.if_icmp .ne 8, 3, (0, 0, 0, 0, 0)) := s152_3 12
theorem i152_63 : q_ins 152 63 = some (.bipush 14, 2, (0, 0, 0, 0, 0)) := s152_3 15
theorem i152_65 : q_ins 152 65 = some (.goto 18, 3, (0, 0, 0, 0, 0)) := s152_4 1
theorem i152_68 : q_ins 152 68 = some (.aload_n 0, 1, (0, 0, 0, 0, 0)) := s152_4 4
theorem i152_69 : q_ins 152 69 = some (.getfield 100, 3, (187, 10, 9, 0, 0)) := s152_4 5
theorem i152_72 : q_ins 152 72 = some (.bipush 35, 2, (0, 0, 0, 0, 0)) := s152_4 8
theorem i152_74 : q_ins 152 74 = some (.if_icmp .ne 8, 3, (0, 0, 0, 0, 0)) := s152_4 10
theorem i152_77 : q_ins 152 77 = some (.bipush 15, 2, (0, 0, 0, 0, 0)) := s152_4 13
theorem i152_79 : q_ins 152 79 = some (.goto 4, 3, (0, 0, 0, 0, 0)) := s152_4 15
theorem i152_82 : q_ins 152 82 = some (.iconst (-1), 1, (0, 0, 0, 0, 0)) := s152_5 2
theorem i152_83 : q_ins 152 83 = some (.ireturn, 1, (0, 0, 0, 0, 0)) := s152_5 3
theorem s153_0 (j : Nat) : q_ins 153 j = q_at q_c153 j := rfl
theorem s153_1 (j : Nat) : q_ins 153 (j + 16) = q_at q_c153_1 j := s153_0 (j + 16)
theorem s153_2 (j : Nat) : q_ins 153 (j + 32) = q_at q_c153_2 j := s153_1 (j + 16)
theorem s153_3 (j : Nat) : q_ins 153 (j + 48) = q_at q_c153_3 j := s153_2 (j + 16)
theorem i153_0 : q_ins 153 0 = some (.iload_n 1, 1, (0, 0, 0, 0, 0)) := s153_0 0
theorem i153_1 : q_ins 153 1 = some (.bipush 6, 2, (0, 0, 0, 0, 0)) := s153_0 1
theorem i153_3 : q_ins 153 3 = some (.if_icmp .ne 5, 3, (0, 0, 0, 0, 0)) := s153_0 3
theorem i153_6 : q_ins 153 6 = some (.iconst 0, 1, (0, 0, 0, 0, 0)) := s153_0 6
theorem i153_7 : q_ins 153 7 = some (.ireturn, 1, (0, 0, 0, 0, 0)) := s153_0 7
theorem i153_8 : q_ins 153 8 = some (.aload_n 0, 1, (0, 0, 0, 0, 0)) := s153_0 8
theorem i153_9 : q_ins 153 9 = some (.iload_n 2, 1, (0, 0, 0, 0, 0)) := s153_0 9
theorem i153_10 : q_ins 153 10 = some (.iconst 1, 1, (0, 0, 0, 0, 0)) := s153_0 10
theorem i153_11 : q_ins 153 11 = some (.iadd, 1, (0, 0, 0, 0, 0)) := s153_0 11
theorem i153_12 : q_ins 153 12 = some (.iconst 5, 1, (0, 0, 0, 0, 0)) := s153_0 12
theorem i153_13 : q_ins 153 13 = some (.invokevirtual 207, 3, (198, 154, 3, 0, 10)) := s153_0 13
theorem i153_16 : q_ins 153 16 = some (.istore_n 3, 1, (0, 0, 0, 0, 0)) := s153_1 0
theorem i153_17 : q_ins 153 17 = some (.iload_n 3, 1, (0, 0, 0, 0, 0)) := s153_1 1
theorem i153_18 : q_ins 153 18 = some (.ifCond .ne 8, 3, (0, 0, 0, 0, 0)) := s153_1 2
theorem i153_21 : q_ins 153 21 = some (.iload_n 1, 1, (0, 0, 0, 0, 0)) := s153_1 5
theorem i153_22 : q_ins 153 22 = some (.iconst 3, 1, (0, 0, 0, 0, 0)) := s153_1 6
theorem i153_23 : q_ins 153 23 = some (.if_icmp .eq 5, 3, (0, 0, 0, 0, 0)) := s153_1 7
theorem i153_26 : q_ins 153 26 = some (.iload_n 3, 1, (0, 0, 0, 0, 0)) := s153_1 10
theorem i153_27 : q_ins 153 27 = some (.ireturn, 1, (0, 0, 0, 0, 0)) := s153_1 11
theorem i153_28 : q_ins 153 28 = some (.aload_n 0, 1, (0, 0, 0, 0, 0)) := s153_1 12
theorem i153_29 : q_ins 153 29 = some (.getfield 100, 3, (187, 10, 9, 0, 0)) := s153_1 13
theorem i153_32 : q_ins 153 32 = some (.iconst 2, 1, (0, 0, 0, 0, 0)) := s153_2 0
theorem i153_33 : q_ins 153 33 = some (.if_icmp .ne 14, 3, (0, 0, 0, 0, 0)) := s153_2 1
theorem i153_36 : q_ins 153 36 = some (.aload_n 0, 1, (0, 0, 0, 0, 0)) := s153_2 4
theorem i153_37 : q_ins 153 37 = some (.getfield 114, 3, (189, 10, 11, 1, 0)) := s153_2 5
theorem i153_40 : q_ins 153 40 = some (.ldc2_w 210, 3, (1263, 0, 0, 0, 24948)) := s153_2 8
theorem i153_43 : q_ins 153 43 = some (.lcmp, 1, (0, 0, 0, 0, 0)) := s153_2 11
theorem i153_44 : q_ins 153 44 = some (.ifCond .eq 5, 3, (0, 0, 0, 0, 0)) := s153_2 12
theorem i153_47 : q_ins 153 47 = some (.iconst 1, 1, (0, 0, 0, 0, 0)) := s153_2 15
theorem i153_48 : q_ins 153 48 = some (.ireturn, 1, (0, 0, 0, 0, 0)) := s153_3 0
theorem i153_49 : q_ins 153 49 = some (.aload_n 0, 1, (0, 0, 0, 0, 0)) := s153_3 1
theorem i153_50 : q_ins 153 50 = some (.invokevirtual 161, 3, (171, 127, 1, 0, 10)) := s153_3 2
theorem i153_53 : q_ins 153 53 = some (.aload_n 0, 1, (0, 0, 0, 0, 0)) := s153_3 5
theorem i153_54 : q_ins 153 54 = some (.iload_n 2, 1, (0, 0, 0, 0, 0)) := s153_3 6
theorem i153_55 : q_ins 153 55 = some (.iconst 2, 1, (0, 0, 0, 0, 0)) := s153_3 7
theorem i153_56 : q_ins 153 56 = some (.iadd, 1, (0, 0, 0, 0, 0)) := s153_3 8
theorem i153_57 : q_ins 153 57 = some (.bipush 15, 2, (0, 0, 0, 0, 0)) := s153_3 9
theorem i153_59 : q_ins 153 59 = some (.invokevirtual 207, 3, (198, 154, 3, 0, 10)) := s153_3 11
theorem i153_62 : q_ins 153 62 = some (.ireturn, 1, (0, 0, 0, 0, 0)) := s153_3 14
theorem s154_0 (j : Nat) : q_ins 154 j = q_at q_c154 j := rfl
theorem s154_1 (j : Nat) : q_ins 154 (j + 16) = q_at q_c154_1 j := s154_0 (j + 16)
theorem s154_2 (j : Nat) : q_ins 154 (j + 32) = q_at q_c154_2 j := s154_1 (j + 16)
theorem i154_0 : q_ins 154 0 = some (.aload_n 0, 1, (0, 0, 0, 0, 0)) := s154_0 0
theorem i154_1 : q_ins 154 1 = some (.getfield 100, 3, (187, 10, 9, 0, 0)) := s154_0 1
theorem i154_4 : q_ins 154 4 = some (.iconst 1, 1, (0, 0, 0, 0, 0)) := s154_0 4
theorem i154_5 : q_ins 154 5 = some (.if_icmp .eq 5, 3, (0, 0, 0, 0, 0)) := s154_0 5
theorem i154_8 : q_ins 154 8 = some (.iconst 1, 1, (0, 0, 0, 0, 0)) := s154_0 8
theorem i154_9 : q_ins 154 9 = some (.ireturn, 1, (0, 0, 0, 0, 0)) := s154_0 9
theorem i154_10 : q_ins 154 10 = some (.aload_n 0, 1, (0, 0, 0, 0, 0)) := s154_0 10
theorem i154_11 : q_ins 154 11 = some (.getfield 107, 3, (188, 10, 10, 0, 0)) := s154_0 11
theorem i154_14 : q_ins 154 14 = some (.iload_n 2, 1, (0, 0, 0, 0, 0)) := s154_0 14
theorem i154_15 : q_ins 154 15 = some (.if_icmp .le 5, 3, (0, 0, 0, 0, 0)) := s154_0 15
theorem i154_18 : q_ins 154 18 = some (.iconst 2, 1, (0, 0, 0, 0, 0)) := s154_1 2
theorem i154_19 : q_ins 154 19 = some (.ireturn, 1, (0, 0, 0, 0, 0)) := s154_1 3
theorem i154_20 : q_ins 154 20 = some (.aload_n 0, 1, (0, 0, 0, 0, 0)) := s154_1 4
theorem i154_21 : q_ins 154 21 = some (.getfield 16, 3, (164, 10, 2, 2, 0)) := s154_1 5
theorem i154_24 : q_ins 154 24 = some (.iload_n 1, 1, (0, 0, 0, 0, 0)) := s154_1 8
theorem i154_25 : q_ins 154 25 = some (.aload_n 0, 1, (0, 0, 0, 0, 0)) := s154_1 9
theorem i154_26 : q_ins 154 26 = some (.getfield 107, 3, (188, 10, 10, 0, 0)) := s154_1 10
theorem i154_29 : q_ins 154 29 = some (.iastore, 1, (0, 0, 0, 0, 0)) := s154_1 13
theorem i154_30 : q_ins 154 30 = some (.aload_n 0, 1, (0, 0, 0, 0, 0)) := s154_1 14
theorem i154_31 : q_ins 154 31 = some (.invokevirtual 161, 3, (171, 127, 1, 0, 10)) := s154_1 15
theorem i154_34 : q_ins 154 34 = some (.iconst 0, 1, (0, 0, 0, 0, 0)) := s154_2 2
theorem i154_35 : q_ins 154 35 = some (.ireturn, 1, (0, 0, 0, 0, 0)) := s154_2 3
theorem s155_0 (j : Nat) : q_ins 155 j = q_at q_c155 j := rfl
theorem s155_1 (j : Nat) : q_ins 155 (j + 16) = q_at q_c155_1 j := s155_0 (j + 16)
theorem i155_0 : q_ins 155 0 = some (.iload_n 1, 1, (0, 0, 0, 0, 0)) := s155_0 0
theorem i155_1 : q_ins 155 1 = some (.ifCond .ne 10, 3, (0, 0, 0, 0, 0)) := s155_0 1
theorem i155_4 : q_ins 155 4 = some (.aload_n 0, 1, (0, 0, 0, 0, 0)) := s155_0 4
theorem i155_5 : q_ins 155 5 = some (.getfield 22, 3, (166, 10, 5, 0, 0)) := s155_0 5
theorem i155_8 : q_ins 155 8 = some (.goto 16, 3, (0, 0, 0, 0, 0)) := s155_0 8
theorem i155_11 : q_ins 155 11 = some (.iload_n 1, 1, (0, 0, 0, 0, 0)) := s155_0 11
theorem i155_12 : q_ins 155 12 = some (.iconst 1, 1, (0, 0, 0, 0, 0)) := s155_0 12
theorem i155_13 : q_ins 155 13 = some (.if_icmp .ne 10, 3, (0, 0, 0, 0, 0)) := s155_0 13
theorem i155_16 : q_ins 155 16 = some (.aload_n 0, 1, (0, 0, 0, 0, 0)) := s155_1 0
theorem i155_17 : q_ins 155 17 = some (.getfield 26, 3, (167, 10, 6, 0, 0)) := s155_1 1
theorem i155_20 : q_ins 155 20 = some (.goto 4, 3, (0, 0, 0, 0, 0)) := s155_1 4
theorem i155_23 : q_ins 155 23 = some (.iconst (-1), 1, (0, 0, 0, 0, 0)) := s155_1 7
theorem i155_24 : q_ins 155 24 = some (.ireturn, 1, (0, 0, 0, 0, 0)) := s155_1 8
theorem s156_0 (j : Nat) : q_ins 156 j = q_at q_c156 j := rfl
theorem s156_1 (j : Nat) : q_ins 156 (j + 16) = q_at q_c156_1 j := s156_0 (j + 16)
theorem i156_0 : q_ins 156 0 = some (.iload_n 1, 1, (0, 0, 0, 0, 0)) := s156_0 0
theorem i156_1 : q_ins 156 1 = some (.iconst (-1), 1, (0, 0, 0, 0, 0)) := s156_0 1
theorem i156_2 : q_ins 156 2 = some (.aload_n 0, 1, (0, 0, 0, 0, 0)) := s156_0 2
theorem i156_3 : q_ins 156 3 = some (.getfield 7, 3, (162, 10, 0, 2, 0)) := s156_0 3
theorem i156_6 : q_ins 156 6 = some (.iconst 4, 1, (0, 0, 0, 0, 0)) := s156_0 6
theorem i156_7 : q_ins 156 7 = some (.iaload, 1, (0, 0, 0, 0, 0)) := s156_0 7
theorem i156_8 : q_ins 156 8 = some (.iconst 1, 1, (0, 0, 0, 0, 0)) := s156_0 8
theorem i156_9 : q_ins 156 9 = some (.isub, 1, (0, 0, 0, 0, 0)) := s156_0 9
theorem i156_10 : q_ins 156 10 = some (.invokestatic 71, 3, (167, 118, 3, 2, 0)) := s156_0 10
theorem i156_13 : q_ins 156 13 = some (.ifCond .ne 5, 3, (0, 0, 0, 0, 0)) := s156_0 13
theorem i156_16 : q_ins 156 16 = some (.iconst 0, 1, (0, 0, 0, 0, 0)) := s156_1 0
theorem i156_17 : q_ins 156 17 = some (.ireturn, 1, (0, 0, 0, 0, 0)) := s156_1 1
theorem i156_18 : q_ins 156 18 = some (.aload_n 0, 1, (0, 0, 0, 0, 0)) := s156_1 2
theorem i156_19 : q_ins 156 19 = some (.getfield 7, 3, (162, 10, 0, 2, 0)) := s156_1 3
theorem i156_22 : q_ins 156 22 = some (.iconst 5, 1, (0, 0, 0, 0, 0)) := s156_1 6
theorem i156_23 : q_ins 156 23 = some (.iload_n 1, 1, (0, 0, 0, 0, 0)) := s156_1 7
theorem i156_24 : q_ins 156 24 = some (.iastore, 1, (0, 0, 0, 0, 0)) := s156_1 8
theorem i156_25 : q_ins 156 25 = some (.iconst 1, 1, (0, 0, 0, 0, 0)) := s156_1 9
theorem i156_26 : q_ins 156 26 = some (.ireturn, 1, (0, 0, 0, 0, 0)) := s156_1 10
theorem s157_0 (j : Nat) : q_ins 157 j = q_at q_c157 j := rfl
theorem s157_1 (j : Nat) : q_ins 157 (j + 16) = q_at q_c157_1 j := s157_0 (j + 16)
theorem s157_2 (j : Nat) : q_ins 157 (j + 32) = q_at q_c157_2 j := s157_1 (j + 16)
theorem s157_3 (j : Nat) : q_ins 157 (j + 48) = q_at q_c157_3 j := s157_2 (j + 16)
theorem s157_4 (j : Nat) : q_ins 157 (j + 64) = q_at q_c157_4 j := s157_3 (j + 16)
theorem i157_0 : q_ins 157 0 = some (.aload_n 0, 1, (0, 0, 0, 0, 0)) := s157_0 0
theorem i157_1 : q_ins 157 1 = some (.iload_n 1, 1, (0, 0, 0, 0, 0)) := s157_0 1
theorem i157_2 : q_ins 157 2 = some (.invokevirtual 296, 3, (199, 158, 2, 0, 10)) := s157_0 2
theorem i157_5 : q_ins 157 5 = some (.ifCond .eq 12, 3, (0, 0, 0, 0, 0)) := s157_0 5
theorem i157_8 : q_ins 157 8 = some (.iload_n 2, 1, (0, 0, 0, 0, 0)) := s157_0 8
theorem i157_9 : q_ins 157 9 = some (.iconst 0, 1, (0, 0, 0, 0, 0)) := s157_0 9
theorem i157_10 : q_ins 157 10 = some (.iconst 4, 1, (0, 0, 0, 0, 0)) := s157_0 10
theorem i157_11 : q_ins 157 11 = some (.invokestatic 71, 3, (167, 118, 3, 2, 0)) := s157_0 11
theorem i157_14 : q_ins 157 14 = some (.ifCond .ne 5, 3, (0, 0, 0, 0, 0)) := s157_0 14
theorem i157_17 : q_ins 157 17 = some (.iconst (-1), 1, (0, 0, 0, 0, 0)) := s157_1 1
theorem i157_18 : q_ins 157 18 = some (.ireturn, 1, (0, 0, 0, 0, 0)) := s157_1 2
theorem i157_19 : q_ins 157 19 = some (.iload_n 2, 1, (0, 0, 0, 0, 0)) := s157_1 3
theorem i157_20 : q_ins 157 20 = some (.iconst 2, 1, (0, 0, 0, 0, 0)) := s157_1 4
theorem i157_21 : q_ins 157 21 = some (.if_icmp .le 19, 3, (0, 0, 0, 0, 0)) := s157_1 5
theorem i157_24 : q_ins 157 24 = some (.aload_n 0, 1, (0, 0, 0, 0, 0)) := s157_1 8
theorem i157_25 : q_ins 157 25 = some (.getfield 7, 3, (162, 10, 0, 2, 0)) := s157_1 9
theorem i157_28 : q_ins 157 28 = some (.bipush 46, 2, (0, 0, 0, 0, 0)) := s157_1 12
theorem i157_30 : q_ins 157 30 = some (.iconst 2, 1, (0, 0, 0, 0, 0)) := s157_1 14
theorem i157_31 : q_ins 157 31 = some (.iload_n 1, 1, (0, 0, 0, 0, 0)) := s157_1 15
theorem i157_32 : q_ins 157 32 = some (.imul, 1, (0, 0, 0, 0, 0)) := s157_2 0
theorem i157_33 : q_ins 157 33 = some (.iadd, 1, (0, 0, 0, 0, 0)) := s157_2 1
theorem i157_34 : q_ins 157 34 = some (.iload_n 2, 1, (0, 0, 0, 0, 0)) := s157_2 2
theorem i157_35 : q_ins 157 35 = some (.iadd, 1, (0, 0, 0, 0, 0)) := s157_2 3
theorem i157_36 : q_ins 157 36 = some (.iconst 3, 1, (0, 0, 0, 0, 0)) := s157_2 4
theorem i157_37 : q_ins 157 37 = some (.isub, 1, (0, 0, 0, 0, 0)) := s157_2 5
theorem i157_38 : q_ins 157 38 = some (.iaload, 1, (0, 0, 0, 0, 0)) := s157_2 6
theorem i157_39 : q_ins 157 39 = some (.ireturn, 1, (0, 0, 0, 0, 0)) := s157_2 7
theorem i157_40 : q_ins 157 40 = some (.aload_n 0, 1, (0, 0, 0, 0, 0)) := s157_2 8
theorem i157_41 : q_ins 157 41 = some (.invokevirtual 299, 3, (200, 159, 1, 0, 10)) := s157_2 9
theorem i157_44 : q_ins 157 44 = some (.aload_n 0, 1, (0, 0, 0, 0, 0)) := s157_2 12
theorem i157_45 : q_ins 157 45 = some (.iload_n 1, 1, (0, 0, 0, 0, 0)) := s157_2 13
theorem i157_46 : q_ins 157 46 = some (.bipush 63, 2, (0, 0, 0, 0, 0)) := s157_2 14
theorem i157_48 : q_ins 157 48 = some (.invokevirtual 293, 3, (201, 162, 3, 0, 10)) := s157_3 0
theorem i157_51 : q_ins 157 51 = some (.istore_n 3, 1, (0, 0, 0, 0, 0)) := s157_3 3
theorem i157_52 : q_ins 157 52 = some (.iload_n 2, 1, (0, 0, 0, 0, 0)) := s157_3 4
theorem i157_53 : q_ins 157 53 = some (.ifCond .ne 10, 3, (0, 0, 0, 0, 0)) := s157_3 5
theorem i157_56 : q_ins 157 56 = some (.aload_n 0, 1, (0, 0, 0, 0, 0)) := s157_3 8
theorem i157_57 : q_ins 157 57 = some (.getfield 255, 3, (193, 10, 27, 0, 0)) := s157_3 9
theorem i157_60 : q_ins 157 60 = some (.goto 16, 3, (0, 0, 0, 0, 0)) := s157_3 12
theorem i157_63 : q_ins 157 63 = some (.iload_n 2, 1, (0, 0, 0, 0, 0)) := s157_3 15
theorem i157_64 : q_ins 157 64 = some (.iconst 1, 1, (0, 0, 0, 0, 0)) := s157_4 0
theorem i157_65 : q_ins 157 65 = some (.if_icmp .ne 10, 3, (0, 0, 0, 0, 0)) := s157_4 1
theorem i157_68 : q_ins 157 68 = some (.aload_n 0, 1, (0, 0, 0, 0, 0)) := s157_4 4
theorem i157_69 : q_ins 157 69 = some (.getfield 277, 3, (194, 10, 28, 0, 0)) := s157_4 5
theorem i157_72 : q_ins 157 72 = some (.goto 4, 3, (0, 0, 0, 0, 0)) := s157_4 8
theorem i157_75 : q_ins 157 75 = some (.iload_n 3, 1, (0, 0, 0, 0, 0)) := s157_4 11
theorem i157_76 : q_ins 157 76 = some (.ireturn, 1, (0, 0, 0, 0, 0)) := s157_4 12
theorem s158_0 (j : Nat) : q_ins 158 j = q_at q_c158 j := rfl
theorem i158_0 : q_ins 158 0 = some (.iload_n 1, 1, (0, 0, 0, 0, 0)) := s158_0 0
theorem i158_1 : q_ins 158 1 = some (.iconst 0, 1, (0, 0, 0, 0, 0)) := s158_0 1
theorem i158_2 : q_ins 158 2 = some (.aload_n 0, 1, (0, 0, 0, 0, 0)) := s158_0 2
theorem i158_3 : q_ins 158 3 = some (.getfield 7, 3, (162, 10, 0, 2, 0)) := s158_0 3
theorem i158_6 : q_ins 158 6 = some (.iconst 1, 1, (0, 0, 0, 0, 0)) := s158_0 6
theorem i158_7 : q_ins 158 7 = some (.iaload, 1, (0, 0, 0, 0, 0)) := s158_0 7
theorem i158_8 : q_ins 158 8 = some (.iconst 1, 1, (0, 0, 0, 0, 0)) := s158_0 8
theorem i158_9 : q_ins 158 9 = some (.isub, 1, (0, 0, 0, 0, 0)) := s158_0 9
theorem i158_10 : q_ins 158 10 = some (.invokestatic 71, 3, (167, 118, 3, 2, 0)) := s158_0 10
theorem i158_13 : q_ins 158 13 = some (.ireturn, 1, (0, 0, 0, 0, 0)) := s158_0 13
theorem s159_0 (j : Nat) : q_ins 159 j = q_at q_c159 j := rfl
theorem s159_1 (j : Nat) : q_ins 159 (j + 16) = q_at q_c159_1 j := s159_0 (j + 16)
theorem s159_2 (j : Nat) : q_ins 159 (j + 32) = q_at q_c159_2 j := s159_1 (j + 16)
theorem s159_3 (j : Nat) : q_ins 159 (j + 48) = q_at q_c159_3 j := s159_2 (j + 16)
theorem s159_4 (j : Nat) : q_ins 159 (j + 64) = q_at q_c159_4 j := s159_3 (j + 16)
theorem i159_0 : q_ins 159 0 = some (.aload_n 0, 1, (0, 0, 0, 0, 0)) := s159_0 0
theorem i159_1 : q_ins 159 1 = some (.iconst 0, 1, (0, 0, 0, 0, 0)) := s159_0 1
theorem i159_2 : q_ins 159 2 = some (.putfield 246, 3, (195, 10, 26, 0, 0)) := s159_0 2
theorem i159_5 : q_ins 159 5 = some (.iconst 0, 1, (0, 0, 0, 0, 0)) := s159_0 5
theorem i159_6 : q_ins 159 6 = some (.istore_n 1, 1, (0, 0, 0, 0, 0)) := s159_0 6
theorem i159_7 : q_ins 159 7 = some (.iload_n 1, 1, (0, 0, 0, 0, 0)) := s159_0 7
theorem i159_8 : q_ins 159 8 = some (.bipush 6, 2, (0, 0, 0, 0, 0)) := s159_0 8
theorem i159_10 : q_ins 159 10 = some (.if_icmp .ge 67, 3, (0, 0, 0, 0, 0)) := s159_0 10
theorem i159_13 : q_ins 159 13 = some (.aload_n 0, 1, (0, 0, 0, 0, 0)) := s159_0 13
theorem i159_14 : q_ins 159 14 = some (.getfield 43, 3, (172, 10, 25, 2, 0)) := s159_0 14
theorem i159_17 : q_ins 159 17 = some (.iload_n 1, 1, (0, 0, 0, 0, 0)) := s159_1 1
theorem i159_18 : q_ins 159 18 = some (.aload_n 0, 1, (0, 0, 0, 0, 0)) := s159_1 2
theorem i159_19 : q_ins 159 19 = some (.iload_n 1, 1, (0, 0, 0, 0, 0)) := s159_1 3
theorem i159_20 : q_ins 159 20 = some (.invokevirtual 249, 3, (202, 160, 2, 0, 10)) := s159_1 4
theorem i159_23 : q_ins 159 23 = some (.ifCond .eq 12, 3, (0, 0, 0, 0, 0)) := s159_1 7
theorem i159_26 : q_ins 159 26 = some (.aload_n 0, 1, (0, 0, 0, 0, 0)) := s159_1 10
theorem i159_27 : q_ins 159 27 = some (.iload_n 1, 1, (0, 0, 0, 0, 0)) := s159_1 11
theorem i159_28 : q_ins 159 28 = some (.iconst 3, 1, (0, 0, 0, 0, 0)) := s159_1 12
theorem i159_29 : q_ins 159 29 = some (.invokevirtual 75, 3, (203, 161, 3, 0, 10)) := s159_1 13
theorem i159_32 : q_ins 159 32 = some (.goto 4, 3, (0, 0, 0, 0, 0)) := s159_2 0
theorem i159_35 : q_ins 159 35 = some (.iconst (-1), 1, (0, 0, 0, 0, 0)) := s159_2 3
theorem i159_36 : q_ins 159 36 = some (.iastore, 1, (0, 0, 0, 0, 0)) := s159_2 4
theorem i159_37 : q_ins 159 37 = some (.aload_n 0, 1, (0, 0, 0, 0, 0)) := s159_2 5
theorem i159_38 : q_ins 159 38 = some (.dup, 1, (0, 0, 0, 0, 0)) := s159_2 6
theorem i159_39 : q_ins 159 39 = some (.getfield 246, 3, (195, 10, 26, 0, 0)) := s159_2 7
theorem i159_42 : q_ins 159 42 = some (.aload_n 0, 1, (0, 0, 0, 0, 0)) := s159_2 10
theorem i159_43 : q_ins 159 43 = some (.iload_n 1, 1, (0, 0, 0, 0, 0)) := s159_2 11
theorem i159_44 : q_ins 159 44 = some (.invokevirtual 249, 3, (202, 160, 2, 0, 10)) := s159_2 12
theorem i159_47 : q_ins 159 47 = some (.ifCond .eq 19, 3, (0, 0, 0, 0, 0)) := s159_2 15
theorem i159_50 : q_ins 159 50 = some (.aload_n 0, 1, (0, 0, 0, 0, 0)) := s159_3 2
theorem i159_51 : q_ins 159 51 = some (.iload_n 1, 1, (0, 0, 0, 0, 0)) := s159_3 3
theorem i159_52 : q_ins 159 52 = some (.iconst 4, 1, (0, 0, 0, 0, 0)) := s159_3 4
theorem i159_53 : q_ins 159 53 = some (.invokevirtual 75, 3, (203, 161, 3, 0, 10)) := s159_3 5
theorem i159_56 : q_ins 159 56 = some (.iconst 1, 1, (0, 0, 0, 0, 0)) := s159_3 8
theorem i159_57 : q_ins 159 57 = some (.if_icmp .ne 9, 3, (0, 0, 0, 0, 0)) := s159_3 9
theorem i159_60 : q_ins 159 60 = some (.iconst 1, 1, (0, 0, 0, 0, 0)) := s159_3 12
theorem i159_61 : q_ins 159 61 = some (.iload_n 1, 1, (0, 0, 0, 0, 0)) := s159_3 13
theorem i159_62 : q_ins 159 62 = some (.ishl, 1, (0, 0, 0, 0, 0)) := s159_3 14
theorem i159_63 : q_ins 159 63 = some (.goto 4, 3, (0, 0, 0, 0, 0)) := s159_3 15
theorem i159_66 : q_ins 159 66 = some (.iconst 0, 1, (0, 0, 0, 0, 0)) := s159_4 2
theorem i159_67 : q_ins 159 67 = some (.ior, 1, (0, 0, 0, 0, 0)) := s159_4 3
theorem i159_68 : q_ins 159 68 = some (.putfield 246, 3, (195, 10, 26, 0, 0)) := s159_4 4
theorem i159_71 : q_ins 159 71 = some (.iinc 1 1, 3, (0, 0, 0, 0, 0)) := s159_4 7
theorem i159_74 : q_ins 159 74 = some (.goto (-67), 3, (0, 0, 0, 0, 0)) := s159_4 10
theorem i159_77 : q_ins 159 77 = some (.return_, 1, (0, 0, 0, 0, 0)) := s159_4 13
theorem s160_0 (j : Nat) : q_ins 160 j = q_at q_c160 j := rfl
theorem i160_0 : q_ins 160 0 = some (.iload_n 1, 1, (0, 0, 0, 0, 0)) := s160_0 0
theorem i160_1 : q_ins 160 1 = some (.iconst 0, 1, (0, 0, 0, 0, 0)) := s160_0 1
theorem i160_2 : q_ins 160 2 = some (.aload_n 0, 1, (0, 0, 0, 0, 0)) := s160_0 2
theorem i160_3 : q_ins 160 3 = some (.getfield 7, 3, (162, 10, 0, 2, 0)) := s160_0 3
theorem i160_6 : q_ins 160 6 = some (.iconst 0, 1, (0, 0, 0, 0, 0)) := s160_0 6
theorem i160_7 : q_ins 160 7 = some (.iaload, 1, (0, 0, 0, 0, 0)) := s160_0 7
theorem i160_8 : q_ins 160 8 = some (.iconst 1, 1, (0, 0, 0, 0, 0)) := s160_0 8
theorem i160_9 : q_ins 160 9 = some (.isub, 1, (0, 0, 0, 0, 0)) := s160_0 9
theorem i160_10 : q_ins 160 10 = some (.invokestatic 71, 3, (167, 118, 3, 2, 0)) := s160_0 10
theorem i160_13 : q_ins 160 13 = some (.ireturn, 1, (0, 0, 0, 0, 0)) := s160_0 13
theorem s161_0 (j : Nat) : q_ins 161 j = q_at q_c161 j := rfl
theorem i161_0 : q_ins 161 0 = some (.aload_n 0, 1, (0, 0, 0, 0, 0)) := s161_0 0
theorem i161_1 : q_ins 161 1 = some (.getfield 7, 3, (162, 10, 0, 2, 0)) := s161_0 1
theorem i161_4 : q_ins 161 4 = some (.bipush 10, 2, (0, 0, 0, 0, 0)) := s161_0 4
theorem i161_6 : q_ins 161 6 = some (.bipush 6, 2, (0, 0, 0, 0, 0)) := s161_0 6
theorem i161_8 : q_ins 161 8 = some (.iload_n 1, 1, (0, 0, 0, 0, 0)) := s161_0 8
theorem i161_9 : q_ins 161 9 = some (.imul, 1, (0, 0, 0, 0, 0)) := s161_0 9
theorem i161_10 : q_ins 161 10 = some (.iadd, 1, (0, 0, 0, 0, 0)) := s161_0 10
theorem i161_11 : q_ins 161 11 = some (.iload_n 2, 1, (0, 0, 0, 0, 0)) := s161_0 11
theorem i161_12 : q_ins 161 12 = some (.iadd, 1, (0, 0, 0, 0, 0)) := s161_0 12
theorem i161_13 : q_ins 161 13 = some (.iaload, 1, (0, 0, 0, 0, 0)) := s161_0 13
theorem i161_14 : q_ins 161 14 = some (.ireturn, 1, (0, 0, 0, 0, 0)) := s161_0 14
theorem s162_0 (j : Nat) : q_ins 162 j = q_at q_c162 j := rfl
theorem i162_0 : q_ins 162 0 = some (.aload_n 0, 1, (0, 0, 0, 0, 0)) := s162_0 0
theorem i162_1 : q_ins 162 1 = some (.iload_n 1, 1, (0, 0, 0, 0, 0)) := s162_0 1
theorem i162_2 : q_ins 162 2 = some (.iload_n 2, 1, (0, 0, 0, 0, 0)) := s162_0 2
theorem i162_3 : q_ins 162 3 = some (.invokevirtual 287, 3, (204, 163, 3, 0, 10)) := s162_0 3
theorem i162_6 : q_ins 162 6 = some (.aload_n 0, 1, (0, 0, 0, 0, 0)) := s162_0 6
theorem i162_7 : q_ins 162 7 = some (.iload_n 1, 1, (0, 0, 0, 0, 0)) := s162_0 7
theorem i162_8 : q_ins 162 8 = some (.iconst 0, 1, (0, 0, 0, 0, 0)) := s162_0 8
theorem i162_9 : q_ins 162 9 = some (.invokevirtual 290, 3, (205, 175, 3, 0, 10)) := s162_0 9
theorem i162_12 : q_ins 162 12 = some (.ireturn, 1, (0, 0, 0, 0, 0)) := s162_0 12
theorem s163_0 (j : Nat) : q_ins 163 j = q_at q_c163 j := rfl
theorem s163_1 (j : Nat) : q_ins 163 (j + 16) = q_at q_c163_1 j := s163_0 (j + 16)
theorem s163_2 (j : Nat) : q_ins 163 (j + 32) = q_at q_c163_2 j := s163_1 (j + 16)
theorem s163_3 (j : Nat) : q_ins 163 (j + 48) = q_at q_c163_3 j := s163_2 (j + 16)
theorem s163_4 (j : Nat) : q_ins 163 (j + 64) = q_at q_c163_4 j := s163_3 (j + 16)
theorem s163_5 (j : Nat) : q_ins 163 (j + 80) = q_at q_c163_5 j := s163_4 (j + 16)
theorem s163_6 (j : Nat) : q_ins 163 (j + 96) = q_at q_c163_6 j := s163_5 (j + 16)
theorem s163_7 (j : Nat) : q_ins 163 (j + 112) = q_at q_c163_7 j := s163_6 (j + 16)
theorem i163_0 : q_ins 163 0 = some (.aload_n 0, 1, (0, 0, 0, 0, 0)) := s163_0 0
theorem i163_1 : q_ins 163 1 = some (.iconst 0, 1, (0, 0, 0, 0, 0)) := s163_0 1
theorem i163_2 : q_ins 163 2 = some (.putfield 255, 3, (193, 10, 27, 0, 0)) := s163_0 2
theorem i163_5 : q_ins 163 5 = some (.aload_n 0, 1, (0, 0, 0, 0, 0)) := s163_0 5
theorem i163_6 : q_ins 163 6 = some (.iconst 0, 1, (0, 0, 0, 0, 0)) := s163_0 6
theorem i163_7 : q_ins 163 7 = some (.putfield 277, 3, (194, 10, 28, 0, 0)) := s163_0 7
theorem i163_10 : q_ins 163 10 = some (.iconst 1, 1, (0, 0, 0, 0, 0)) := s163_0 10
theorem i163_11 : q_ins 163 11 = some (.istore_n 3, 1, (0, 0, 0, 0, 0)) := s163_0 11
theorem i163_12 : q_ins 163 12 = some (.iload_n 3, 1, (0, 0, 0, 0, 0)) := s163_0 12
theorem i163_13 : q_ins 163 13 = some (.ifCond .eq 106, 3, (0, 0, 0, 0, 0)) := s163_0 13
theorem i163_16 : q_ins 163 16 = some (.iconst 0, 1, (0, 0, 0, 0, 0)) := s163_1 0
theorem i163_17 : q_ins 163 17 = some (.istore_n 3, 1, (0, 0, 0, 0, 0)) := s163_1 1
theorem i163_18 : q_ins 163 18 = some (.iconst 0, 1, (0, 0, 0, 0, 0)) := s163_1 2
theorem i163_19 : q_ins 163 19 = some (.istore 4, 2, (0, 0, 0, 0, 0)) := s163_1 3
theorem i163_21 : q_ins 163 21 = some (.iload 4, 2, (0, 0, 0, 0, 0)) := s163_1 5
theorem i163_23 : q_ins 163 23 = some (.aload_n 0, 1, (0, 0, 0, 0, 0)) := s163_1 7
theorem i163_24 : q_ins 163 24 = some (.getfield 7, 3, (162, 10, 0, 2, 0)) := s163_1 8
theorem i163_27 : q_ins 163 27 = some (.iconst 0, 1, (0, 0, 0, 0, 0)) := s163_1 11
theorem i163_28 : q_ins 163 28 = some (.iaload, 1, (0, 0, 0, 0, 0)) := s163_1 12
theorem i163_29 : q_ins 163 29 = some (.if_icmp .ge 59, 3, (0, 0, 0, 0, 0)) := s163_1 13
theorem i163_32 : q_ins 163 32 = some (.iload_n 2, 1, (0, 0, 0, 0, 0)) := s163_2 0
theorem i163_33 : q_ins 163 33 = some (.aload_n 0, 1, (0, 0, 0, 0, 0)) := s163_2 1
theorem i163_34 : q_ins 163 34 = some (.getfield 246, 3, (195, 10, 26, 0, 0)) := s163_2 2
theorem i163_37 : q_ins 163 37 = some (.iconst (-1), 1, (0, 0, 0, 0, 0)) := s163_2 5
theorem i163_38 : q_ins 163 38 = some (.ixor, 1, (0, 0, 0, 0, 0)) := s163_2 6
theorem i163_39 : q_ins 163 39 = some (.iand, 1, (0, 0, 0, 0, 0)) := s163_2 7
theorem i163_40 : q_ins 163 40 = some (.aload_n 0, 1, (0, 0, 0, 0, 0)) := s163_2 8
theorem i163_41 : q_ins 163 41 = some (.getfield 255, 3, (193, 10, 27, 0, 0)) := s163_2 9
theorem i163_44 : q_ins 163 44 = some (.iconst (-1), 1, (0, 0, 0, 0, 0)) := s163_2 12
theorem i163_45 : q_ins 163 45 = some (.ixor, 1, (0, 0, 0, 0, 0)) := s163_2 13
theorem i163_46 : q_ins 163 46 = some (.iand, 1, (0, 0, 0, 0, 0)) := s163_2 14
theorem i163_47 : q_ins 163 47 = some (.iload 4, 2, (0, 0, 0, 0, 0)) := s163_2 15
theorem i163_49 : q_ins 163 49 = some (.invokestatic 258, 3, (206, 164, 2, 2, 0)) := s163_3 1
theorem i163_52 : q_ins 163 52 = some (.ifCond .eq 30, 3, (0, 0, 0, 0, 0)) := s163_3 4
theorem i163_55 : q_ins 163 55 = some (.aload_n 0, 1, (0, 0, 0, 0, 0)) := s163_3 7
theorem i163_56 : q_ins 163 56 = some (.getfield 43, 3, (172, 10, 25, 2, 0)) := s163_3 8
theorem i163_59 : q_ins 163 59 = some (.iload 4, 2, (0, 0, 0, 0, 0)) := s163_3 11
theorem i163_61 : q_ins 163 61 = some (.iaload, 1, (0, 0, 0, 0, 0)) := s163_3 13
theorem i163_62 : q_ins 163 62 = some (.ifCond .lt 20, 3, (0, 0, 0, 0, 0)) := s163_3 14
theorem i163_65 : q_ins 163 65 = some (.aload_n 0, 1, (0, 0, 0, 0, 0)) := s163_4 1
theorem i163_66 : q_ins 163 66 = some (.iload 4, 2, (0, 0, 0, 0, 0)) := s163_4 2
theorem i163_68 : q_ins 163 68 = some (.iload_n 1, 1, (0, 0, 0, 0, 0)) := s163_4 4
theorem i163_69 : q_ins 163 69 = some (.invokevirtual 280, 3, (207, 165, 3, 0, 10)) := s163_4 5
theorem i163_72 : q_ins 163 72 = some (.ifCond .eq 10, 3, (0, 0, 0, 0, 0)) := s163_4 8
theorem i163_75 : q_ins 163 75 = some (.iload_n 3, 1, (0, 0, 0, 0, 0)) := s163_4 11
theorem i163_76 : q_ins 163 76 = some (.iconst 1, 1, (0, 0, 0, 0, 0)) := s163_4 12
theorem i163_77 : q_ins 163 77 = some (.iload 4, 2, (0, 0, 0, 0, 0)) := s163_4 13
theorem i163_79 : q_ins 163 79 = some (.ishl, 1, (0, 0, 0, 0, 0)) := s163_4 15
theorem i163_80 : q_ins 163 80 = some (.ior, 1, (0, 0, 0, 0, 0)) := s163_5 0
theorem i163_81 : q_ins 163 81 = some (.istore_n 3, 1, (0, 0, 0, 0, 0)) := s163_5 1
theorem i163_82 : q_ins 163 82 = some (.iinc 4 1, 3, (0, 0, 0, 0, 0)) := s163_5 2
theorem i163_85 : q_ins 163 85 = some (.goto (-64), 3, (0, 0, 0, 0, 0)) := s163_5 5
theorem i163_88 : q_ins 163 88 = some (.aload_n 0, 1, (0, 0, 0, 0, 0)) := s163_5 8
theorem i163_89 : q_ins 163 89 = some (.dup, 1, (0, 0, 0, 0, 0)) := s163_5 9
theorem i163_90 : q_ins 163 90 = some (.getfield 255, 3, (193, 10, 27, 0, 0)) := s163_5 10
theorem i163_93 : q_ins 163 93 = some (.iload_n 3, 1, (0, 0, 0, 0, 0)) := s163_5 13
theorem i163_94 : q_ins 163 94 = some (.ior, 1, (0, 0, 0, 0, 0)) := s163_5 14
theorem i163_95 : q_ins 163 95 = some (.putfield 255, 3, (193, 10, 27, 0, 0)) := s163_5 15
theorem i163_98 : q_ins 163 98 = some (.aload_n 0, 1, (0, 0, 0, 0, 0)) := s163_6 2
theorem i163_99 : q_ins 163 99 = some (.dup, 1, (0, 0, 0, 0, 0)) := s163_6 3
theorem i163_100 : q_ins 163 100 = some (.getfield 277, 3, (194, 10, 28, 0, 0)) := s163_6 4
theorem i163_103 : q_ins 163 103 = some (.iload_n 3, 1, (0, 0, 0, 0, 0)) := s163_6 7
theorem i163_104 : q_ins 163 104 = some (.ifCond .eq 7, 3, (0, 0, 0, 0, 0)) := s163_6 8
theorem i163_107 : q_ins 163 107 = some (.iconst 1, 1, (0, 0, 0, 0, 0)) := s163_6 11
theorem i163_108 : q_ins 163 108 = some (.goto 4, 3, (0, 0, 0, 0, 0)) := s163_6 12
theorem i163_111 : q_ins 163 111 = some (.iconst 0, 1, (0, 0, 0, 0, 0)) := s163_6 15
theorem i163_112 : q_ins 163 112 = some (.iadd, 1, (0, 0, 0, 0, 0)) := s163_7 0
theorem i163_113 : q_ins 163 113 = some (.putfield 277, 3, (194, 10, 28, 0, 0)) := s163_7 1
theorem i163_116 : q_ins 163 116 = some (.goto (-104), 3, (0, 0, 0, 0, 0)) := s163_7 4
theorem i163_119 : q_ins 163 119 = some (.return_, 1, (0, 0, 0, 0, 0)) := s163_7 7
theorem s164_0 (j : Nat) : q_ins 164 j = q_at q_c164 j := rfl
theorem i164_0 : q_ins 164 0 = some (.iload_n 0, 1, (0, 0, 0, 0, 0)) := s164_0 0
theorem i164_1 : q_ins 164 1 = some (.iload_n 1, 1, (0, 0, 0, 0, 0)) := s164_0 1
theorem i164_2 : q_ins 164 2 = some (.ishr, 1, (0, 0, 0, 0, 0)) := s164_0 2
theorem i164_3 : q_ins 164 3 = some (.iconst 1, 1, (0, 0, 0, 0, 0)) := s164_0 3
theorem i164_4 : q_ins 164 4 = some (.iand, 1, (0, 0, 0, 0, 0)) := s164_0 4
theorem i164_5 : q_ins 164 5 = some (.iconst 1, 1, (0, 0, 0, 0, 0)) := s164_0 5
theorem i164_6 : q_ins 164 6 = some (.if_icmp .ne 7, 3, (0, 0, 0, 0, 0)) := s164_0 6
theorem i164_9 : q_ins 164 9 = some (.iconst 1, 1, (0, 0, 0, 0, 0)) := s164_0 9
theorem i164_10 : q_ins 164 10 = some (.goto 4, 3, (0, 0, 0, 0, 0)) := s164_0 10
theorem i164_13 : q_ins 164 13 = some (.iconst 0, 1, (0, 0, 0, 0, 0)) := s164_0 13
theorem i164_14 : q_ins 164 14 = some (.ireturn, 1, (0, 0, 0, 0, 0)) := s164_0 14
theorem s165_0 (j : Nat) : q_ins 165 j = q_at q_c165 j := rfl
theorem s165_1 (j : Nat) : q_ins 165 (j + 16) = q_at q_c165_1 j := s165_0 (j + 16)
theorem s165_2 (j : Nat) : q_ins 165 (j + 32) = q_at q_c165_2 j := s165_1 (j + 16)
theorem s165_3 (j : Nat) : q_ins 165 (j + 48) = q_at q_c165_3 j := s165_2 (j + 16)
theorem s165_4 (j : Nat) : q_ins 165 (j + 64) = q_at q_c165_4 j := s165_3 (j + 16)
theorem s165_5 (j : Nat) : q_ins 165 (j + 80) = q_at q_c165_5 j := s165_4 (j + 16)
theorem s165_6 (j : Nat) : q_ins 165 (j + 96) = q_at q_c165_6 j := s165_5 (j + 16)
theorem s165_7 (j : Nat) : q_ins 165 (j + 112) = q_at q_c165_7 j := s165_6 (j + 16)
theorem s165_8 (j : Nat) : q_ins 165 (j + 128) = q_at q_c165_8 j := s165_7 (j + 16)
theorem s165_9 (j : Nat) : q_ins 165 (j + 144) = q_at q_c165_9 j := s165_8 (j + 16)
theorem s165_10 (j : Nat) : q_ins 165 (j + 160) = q_at q_c165_10 j := s165_9 (j + 16)
theorem i165_0 : q_ins 165 0 = some (.aload_n 0, 1, (0, 0, 0, 0, 0)) := s165_0 0
theorem i165_1 : q_ins 165 1 = some (.iconst 0, 1, (0, 0, 0, 0, 0)) := s165_0 1
theorem i165_2 : q_ins 165 2 = some (.invokevirtual 265, 3, (208, 166, 2, 0, 10)) := s165_0 2
theorem i165_5 : q_ins 165 5 = some (.istore_n 3, 1, (0, 0, 0, 0, 0)) := s165_0 5
theorem i165_6 : q_ins 165 6 = some (.iload_n 3, 1, (0, 0, 0, 0, 0)) := s165_0 6
theorem i165_7 : q_ins 165 7 = some (.ifCond .ge 46, 3, (0, 0, 0, 0, 0)) := s165_0 7
theorem i165_10 : q_ins 165 10 = some (.aload_n 0, 1, (0, 0, 0, 0, 0)) := s165_0 10
theorem i165_11 : q_ins 165 11 = some (.getfield 7, 3, (162, 10, 0, 2, 0)) := s165_0 11
theorem i165_14 : q_ins 165 14 = some (.bipush 46, 2, (0, 0, 0, 0, 0)) := s165_0 14
theorem i165_16 : q_ins 165 16 = some (.iconst 2, 1, (0, 0, 0, 0, 0)) := s165_1 0
theorem i165_17 : q_ins 165 17 = some (.iload_n 2, 1, (0, 0, 0, 0, 0)) := s165_1 1
theorem i165_18 : q_ins 165 18 = some (.imul, 1, (0, 0, 0, 0, 0)) := s165_1 2
theorem i165_19 : q_ins 165 19 = some (.iadd, 1, (0, 0, 0, 0, 0)) := s165_1 3
theorem i165_20 : q_ins 165 20 = some (.iaload, 1, (0, 0, 0, 0, 0)) := s165_1 4
theorem i165_21 : q_ins 165 21 = some (.iconst 1, 1, (0, 0, 0, 0, 0)) := s165_1 5
theorem i165_22 : q_ins 165 22 = some (.if_icmp .ne 29, 3, (0, 0, 0, 0, 0)) := s165_1 6
theorem i165_25 : q_ins 165 25 = some (.aload_n 0, 1, (0, 0, 0, 0, 0)) := s165_1 9
theorem i165_26 : q_ins 165 26 = some (.getfield 7, 3, (162, 10, 0, 2, 0)) := s165_1 10
theorem i165_29 : q_ins 165 29 = some (.bipush 46, 2, (0, 0, 0, 0, 0)) := s165_1 13
theorem i165_31 : q_ins 165 31 = some (.iconst 2, 1, (0, 0, 0, 0, 0)) := s165_1 15
theorem i165_32 : q_ins 165 32 = some (.iload_n 2, 1, (0, 0, 0, 0, 0)) := s165_2 0
theorem i165_33 : q_ins 165 33 = some (.imul, 1, (0, 0, 0, 0, 0)) := s165_2 1
theorem i165_34 : q_ins 165 34 = some (.iadd, 1, (0, 0, 0, 0, 0)) := s165_2 2
theorem i165_35 : q_ins 165 35 = some (.iconst 1, 1, (0, 0, 0, 0, 0)) := s165_2 3
theorem i165_36 : q_ins 165 36 = some (.iadd, 1, (0, 0, 0, 0, 0)) := s165_2 4
theorem i165_37 : q_ins 165 37 = some (.iaload, 1, (0, 0, 0, 0, 0)) := s165_2 5
theorem i165_38 : q_ins 165 38 = some (.aload_n 0, 1, (0, 0, 0, 0, 0)) := s165_2 6
theorem i165_39 : q_ins 165 39 = some (.iload_n 1, 1, (0, 0, 0, 0, 0)) := s165_2 7
theorem i165_40 : q_ins 165 40 = some (.iconst 1, 1, (0, 0, 0, 0, 0)) := s165_2 8
theorem i165_41 : q_ins 165 41 = some (.invokevirtual 75, 3, (203, 161, 3, 0, 10)) := s165_2 9
theorem i165_44 : q_ins 165 44 = some (.if_icmp .le 7, 3, (0, 0, 0, 0, 0)) := s165_2 12
theorem i165_47 : q_ins 165 47 = some (.iconst 1, 1, (0, 0, 0, 0, 0)) := s165_2 15
theorem i165_48 : q_ins 165 48 = some (.goto 4, 3, (0, 0, 0, 0, 0)) := s165_3 0
theorem i165_51 : q_ins 165 51 = some (.iconst 0, 1, (0, 0, 0, 0, 0)) := s165_3 3
theorem i165_52 : q_ins 165 52 = some (.ireturn, 1, (0, 0, 0, 0, 0)) := s165_3 4
theorem i165_53 : q_ins 165 53 = some (.aload_n 0, 1, (0, 0, 0, 0, 0)) := s165_3 5
theorem i165_54 : q_ins 165 54 = some (.getfield 32, 3, (169, 10, 22, 2, 0)) := s165_3 6
theorem i165_57 : q_ins 165 57 = some (.iconst 0, 1, (0, 0, 0, 0, 0)) := s165_3 9
theorem i165_58 : q_ins 165 58 = some (.aload_n 0, 1, (0, 0, 0, 0, 0)) := s165_3 10
theorem i165_59 : q_ins 165 59 = some (.iload_n 1, 1, (0, 0, 0, 0, 0)) := s165_3 11
theorem i165_60 : q_ins 165 60 = some (.iconst 0, 1, (0, 0, 0, 0, 0)) := s165_3 12
theorem i165_61 : q_ins 165 61 = some (.invokevirtual 75, 3, (203, 161, 3, 0, 10)) := s165_3 13
theorem i165_64 : q_ins 165 64 = some (.iastore, 1, (0, 0, 0, 0, 0)) := s165_4 0
theorem i165_65 : q_ins 165 65 = some (.aload_n 0, 1, (0, 0, 0, 0, 0)) := s165_4 1
theorem i165_66 : q_ins 165 66 = some (.getfield 32, 3, (169, 10, 22, 2, 0)) := s165_4 2
theorem i165_69 : q_ins 165 69 = some (.iconst 1, 1, (0, 0, 0, 0, 0)) := s165_4 5
theorem i165_70 : q_ins 165 70 = some (.aload_n 0, 1, (0, 0, 0, 0, 0)) := s165_4 6
theorem i165_71 : q_ins 165 71 = some (.iload_n 1, 1, (0, 0, 0, 0, 0)) := s165_4 7
theorem i165_72 : q_ins 165 72 = some (.iconst 1, 1, (0, 0, 0, 0, 0)) := s165_4 8
theorem i165_73 : q_ins 165 73 = some (.invokevirtual 75, 3, (203, 161, 3, 0, 10)) := s165_4 9
theorem i165_76 : q_ins 165 76 = some (.iastore, 1, (0, 0, 0, 0, 0)) := s165_4 12
theorem i165_77 : q_ins 165 77 = some (.aload_n 0, 1, (0, 0, 0, 0, 0)) := s165_4 13
theorem i165_78 : q_ins 165 78 = some (.getfield 32, 3, (169, 10, 22, 2, 0)) := s165_4 14
theorem i165_81 : q_ins 165 81 = some (.iconst 2, 1, (0, 0, 0, 0, 0)) := s165_5 1
theorem i165_82 : q_ins 165 82 = some (.aload_n 0, 1, (0, 0, 0, 0, 0)) := s165_5 2
theorem i165_83 : q_ins 165 83 = some (.getfield 43, 3, (172, 10, 25, 2, 0)) := s165_5 3
theorem i165_86 : q_ins 165 86 = some (.iload_n 1, 1, (0, 0, 0, 0, 0)) := s165_5 6
theorem i165_87 : q_ins 165 87 = some (.iaload, 1, (0, 0, 0, 0, 0)) := s165_5 7
theorem i165_88 : q_ins 165 88 = some (.iconst 4, 1, (0, 0, 0, 0, 0)) := s165_5 8
theorem i165_89 : q_ins 165 89 = some (.idiv, 1, (0, 0, 0, 0, 0)) := s165_5 9
theorem i165_90 : q_ins 165 90 = some (.iastore, 1, (0, 0, 0, 0, 0)) := s165_5 10
theorem i165_91 : q_ins 165 91 = some (.aload_n 0, 1, (0, 0, 0, 0, 0)) := s165_5 11
theorem i165_92 : q_ins 165 92 = some (.getfield 32, 3, (169, 10, 22, 2, 0)) := s165_5 12
theorem i165_95 : q_ins 165 95 = some (.iconst 3, 1, (0, 0, 0, 0, 0)) := s165_5 15
theorem i165_96 : q_ins 165 96 = some (.aload_n 0, 1, (0, 0, 0, 0, 0)) := s165_6 0
theorem i165_97 : q_ins 165 97 = some (.getfield 7, 3, (162, 10, 0, 2, 0)) := s165_6 1
theorem i165_100 : q_ins 165 100 = some (.bipush 46, 2, (0, 0, 0, 0, 0)) := s165_6 4
theorem i165_102 : q_ins 165 102 = some (.iconst 2, 1, (0, 0, 0, 0, 0)) := s165_6 6
theorem i165_103 : q_ins 165 103 = some (.iload_n 2, 1, (0, 0, 0, 0, 0)) := s165_6 7
theorem i165_104 : q_ins 165 104 = some (.imul, 1, (0, 0, 0, 0, 0)) := s165_6 8
theorem i165_105 : q_ins 165 105 = some (.iadd, 1, (0, 0, 0, 0, 0)) := s165_6 9
theorem i165_106 : q_ins 165 106 = some (.iaload, 1, (0, 0, 0, 0, 0)) := s165_6 10
theorem i165_107 : q_ins 165 107 = some (.iastore, 1, (0, 0, 0, 0, 0)) := s165_6 11
theorem i165_108 : q_ins 165 108 = some (.aload_n 0, 1, (0, 0, 0, 0, 0)) := s165_6 12
theorem i165_109 : q_ins 165 109 = some (.getfield 32, 3, (169, 10, 22, 2, 0)) := s165_6 13
theorem i165_112 : q_ins 165 112 = some (.iconst 4, 1, (0, 0, 0, 0, 0)) := s165_7 0
theorem i165_113 : q_ins 165 113 = some (.aload_n 0, 1, (0, 0, 0, 0, 0)) := s165_7 1
theorem i165_114 : q_ins 165 114 = some (.getfield 7, 3, (162, 10, 0, 2, 0)) := s165_7 2
theorem i165_117 : q_ins 165 117 = some (.bipush 46, 2, (0, 0, 0, 0, 0)) := s165_7 5
theorem i165_119 : q_ins 165 119 = some (.iconst 2, 1, (0, 0, 0, 0, 0)) := s165_7 7
theorem i165_120 : q_ins 165 120 = some (.iload_n 2, 1, (0, 0, 0, 0, 0)) := s165_7 8
theorem i165_121 : q_ins 165 121 = some (.imul, 1, (0, 0, 0, 0, 0)) := s165_7 9
theorem i165_122 : q_ins 165 122 = some (.iadd, 1, (0, 0, 0, 0, 0)) := s165_7 10
theorem i165_123 : q_ins 165 123 = some (.iconst 1, 1, (0, 0, 0, 0, 0)) := s165_7 11
theorem i165_124 : q_ins 165 124 = some (.iadd, 1, (0, 0, 0, 0, 0)) := s165_7 12
theorem i165_125 : q_ins 165 125 = some (.iaload, 1, (0, 0, 0, 0, 0)) := s165_7 13
theorem i165_126 : q_ins 165 126 = some (.iastore, 1, (0, 0, 0, 0, 0)) := s165_7 14
theorem i165_127 : q_ins 165 127 = some (.aload_n 0, 1, (0, 0, 0, 0, 0)) := s165_7 15
theorem i165_128 : q_ins 165 128 = some (.getfield 32, 3, (169, 10, 22, 2, 0)) := s165_8 0
theorem i165_131 : q_ins 165 131 = some (.iconst 5, 1, (0, 0, 0, 0, 0)) := s165_8 3
theorem i165_132 : q_ins 165 132 = some (.aload_n 0, 1, (0, 0, 0, 0, 0)) := s165_8 4
theorem i165_133 : q_ins 165 133 = some (.iload_n 1, 1, (0, 0, 0, 0, 0)) := s165_8 5
theorem i165_134 : q_ins 165 134 = some (.invokevirtual 268, 3, (209, 167, 2, 0, 10)) := s165_8 6
theorem i165_137 : q_ins 165 137 = some (.iastore, 1, (0, 0, 0, 0, 0)) := s165_8 9
theorem i165_138 : q_ins 165 138 = some (.aload_n 0, 1, (0, 0, 0, 0, 0)) := s165_8 10
theorem i165_139 : q_ins 165 139 = some (.getfield 32, 3, (169, 10, 22, 2, 0)) := s165_8 11
theorem i165_142 : q_ins 165 142 = some (.bipush 6, 2, (0, 0, 0, 0, 0)) := s165_8 14
theorem i165_144 : q_ins 165 144 = some (.aload_n 0, 1, (0, 0, 0, 0, 0)) := s165_9 0
theorem i165_145 : q_ins 165 145 = some (.getfield 255, 3, (193, 10, 27, 0, 0)) := s165_9 1
theorem i165_148 : q_ins 165 148 = some (.invokestatic 271, 3, (210, 170, 1, 2, 0)) := s165_9 4
theorem i165_151 : q_ins 165 151 = some (.iastore, 1, (0, 0, 0, 0, 0)) := s165_9 7
theorem i165_152 : q_ins 165 152 = some (.aload_n 0, 1, (0, 0, 0, 0, 0)) := s165_9 8
theorem i165_153 : q_ins 165 153 = some (.iload_n 3, 1, (0, 0, 0, 0, 0)) := s165_9 9
theorem i165_154 : q_ins 165 154 = some (.invokevirtual 274, 3, (211, 171, 2, 0, 10)) := s165_9 10
theorem i165_157 : q_ins 165 157 = some (.aload_n 0, 1, (0, 0, 0, 0, 0)) := s165_9 13
theorem i165_158 : q_ins 165 158 = some (.getfield 39, 3, (171, 10, 24, 2, 0)) := s165_9 14
theorem i165_161 : q_ins 165 161 = some (.iconst 0, 1, (0, 0, 0, 0, 0)) := s165_10 1
theorem i165_162 : q_ins 165 162 = some (.baload, 1, (0, 0, 0, 0, 0)) := s165_10 2
theorem i165_163 : q_ins 165 163 = some (.ireturn, 1, (0, 0, 0, 0, 0)) := s165_10 3
theorem s166_0 (j : Nat) : q_ins 166 j = q_at q_c166 j := rfl
theorem s166_1 (j : Nat) : q_ins 166 (j + 16) = q_at q_c166_1 j := s166_0 (j + 16)
theorem s166_2 (j : Nat) : q_ins 166 (j + 32) = q_at q_c166_2 j := s166_1 (j + 16)
theorem s166_3 (j : Nat) : q_ins 166 (j + 48) = q_at q_c166_3 j := s166_2 (j + 16)
theorem s166_4 (j : Nat) : q_ins 166 (j + 64) = q_at q_c166_4 j := s166_3 (j + 16)
theorem i166_0 : q_ins 166 0 = some (.iconst 0, 1, (0, 0, 0, 0, 0)) := s166_0 0
theorem i166_1 : q_ins 166 1 = some (.istore_n 2, 1, (0, 0, 0, 0, 0)) := s166_0 1
theorem i166_2 : q_ins 166 2 = some (.aload_n 0, 1, (0, 0, 0, 0, 0)) := s166_0 2
theorem i166_3 : q_ins 166 3 = some (.getfield 7, 3, (162, 10, 0, 2, 0)) := s166_0 3
theorem i166_6 : q_ins 166 6 = some (.iconst 5, 1, (0, 0, 0, 0, 0)) := s166_0 6
theorem i166_7 : q_ins 166 7 = some (.iaload, 1, (0, 0, 0, 0, 0)) := s166_0 7
theorem i166_8 : q_ins 166 8 = some (.ifCond .lt 55, 3, (0, 0, 0, 0, 0)) := s166_0 8
theorem i166_11 : q_ins 166 11 = some (.iload_n 2, 1, (0, 0, 0, 0, 0)) := s166_0 11
theorem i166_12 : q_ins 166 12 = some (.aload_n 0, 1, (0, 0, 0, 0, 0)) := s166_0 12
theorem i166_13 : q_ins 166 13 = some (.getfield 16, 3, (164, 10, 2, 2, 0)) := s166_0 13
theorem i166_16 : q_ins 166 16 = some (.sipush 680, 3, (0, 0, 0, 0, 0)) := s166_1 0
theorem i166_19 : q_ins 166 19 = some (.aload_n 0, 1, (0, 0, 0, 0, 0)) := s166_1 3
theorem i166_20 : q_ins 166 20 = some (.getfield 7, 3, (162, 10, 0, 2, 0)) := s166_1 4
theorem i166_23 : q_ins 166 23 = some (.iconst 5, 1, (0, 0, 0, 0, 0)) := s166_1 7
theorem i166_24 : q_ins 166 24 = some (.iaload, 1, (0, 0, 0, 0, 0)) := s166_1 8
theorem i166_25 : q_ins 166 25 = some (.imul, 1, (0, 0, 0, 0, 0)) := s166_1 9
theorem i166_26 : q_ins 166 26 = some (.iaload, 1, (0, 0, 0, 0, 0)) := s166_1 10
theorem i166_27 : q_ins 166 27 = some (.if_icmp .ge 36, 3, (0, 0, 0, 0, 0)) := s166_1 11
theorem i166_30 : q_ins 166 30 = some (.aload_n 0, 1, (0, 0, 0, 0, 0)) := s166_1 14
theorem i166_31 : q_ins 166 31 = some (.getfield 16, 3, (164, 10, 2, 2, 0)) := s166_1 15
theorem i166_34 : q_ins 166 34 = some (.sipush 680, 3, (0, 0, 0, 0, 0)) := s166_2 2
theorem i166_37 : q_ins 166 37 = some (.aload_n 0, 1, (0, 0, 0, 0, 0)) := s166_2 5
theorem i166_38 : q_ins 166 38 = some (.getfield 7, 3, (162, 10, 0, 2, 0)) := s166_2 6
theorem i166_41 : q_ins 166 41 = some (.iconst 5, 1, (0, 0, 0, 0, 0)) := s166_2 9
theorem i166_42 : q_ins 166 42 = some (.iaload, 1, (0, 0, 0, 0, 0)) := s166_2 10
theorem i166_43 : q_ins 166 43 = some (.imul, 1, (0, 0, 0, 0, 0)) := s166_2 11
theorem i166_44 : q_ins 166 44 = some (.iconst 1, 1, (0, 0, 0, 0, 0)) := s166_2 12
theorem i166_45 : q_ins 166 45 = some (.iadd, 1, (0, 0, 0, 0, 0)) := s166_2 13
theorem i166_46 : q_ins 166 46 = some (.iconst 3, 1, (0, 0, 0, 0, 0)) := s166_2 14
theorem i166_47 : q_ins 166 47 = some (.iload_n 2, 1, (0, 0, 0, 0, 0)) := s166_2 15
theorem i166_48 : q_ins 166 48 = some (.imul, 1, (0, 0, 0, 0, 0)) := s166_3 0
theorem i166_49 : q_ins 166 49 = some (.iadd, 1, (0, 0, 0, 0, 0)) := s166_3 1
theorem i166_50 : q_ins 166 50 = some (.iaload, 1, (0, 0, 0, 0, 0)) := s166_3 2
theorem i166_51 : q_ins 166 51 = some (.iload_n 1, 1, (0, 0, 0, 0, 0)) := s166_3 3
theorem i166_52 : q_ins 166 52 = some (.if_icmp .ne 5, 3, (0, 0, 0, 0, 0)) := s166_3 4
theorem i166_55 : q_ins 166 55 = some (.iload_n 2, 1, (0, 0, 0, 0, 0)) := s166_3 7
theorem i166_56 : q_ins 166 56 = some (.ireturn, 1, (0, 0, 0, 0, 0)) := s166_3 8
theorem i166_57 : q_ins 166 57 = some (.iinc 2 1, 3, (0, 0, 0, 0, 0)) := s166_3 9
theorem i166_60 : q_ins 166 60 = some (.goto (-58), 3, (0, 0, 0, 0, 0)) := s166_3 12
theorem i166_63 : q_ins 166 63 = some (.iconst (-1), 1, (0, 0, 0, 0, 0)) := s166_3 15
theorem i166_64 : q_ins 166 64 = some (.ireturn, 1, (0, 0, 0, 0, 0)) := s166_4 0
theorem s167_0 (j : Nat) : q_ins 167 j = q_at q_c167 j := rfl
theorem s167_1 (j : Nat) : q_ins 167 (j + 16) = q_at q_c167_1 j := s167_0 (j + 16)
theorem s167_2 (j : Nat) : q_ins 167 (j + 32) = q_at q_c167_2 j := s167_1 (j + 16)
theorem s167_3 (j : Nat) : q_ins 167 (j + 48) = q_at q_c167_3 j := s167_2 (j + 16)
theorem i167_0 : q_ins 167 0 = some (.iconst 0, 1, (0, 0, 0, 0, 0)) := s167_0 0
theorem i167_1 : q_ins 167 1 = some (.istore_n 2, 1, (0, 0, 0, 0, 0)) := s167_0 1
theorem i167_2 : q_ins 167 2 = some (.iconst 0, 1, (0, 0, 0, 0, 0)) := s167_0 2
theorem i167_3 : q_ins 167 3 = some (.istore_n 3, 1, (0, 0, 0, 0, 0)) := s167_0 3
theorem i167_4 : q_ins 167 4 = some (.iload_n 3, 1, (0, 0, 0, 0, 0)) := s167_0 4
theorem i167_5 : q_ins 167 5 = some (.bipush 6, 2, (0, 0, 0, 0, 0)) := s167_0 5
theorem i167_7 : q_ins 167 7 = some (.if_icmp .ge 46, 3, (0, 0, 0, 0, 0)) := s167_0 7
theorem i167_10 : q_ins 167 10 = some (.iload_n 2, 1, (0, 0, 0, 0, 0)) := s167_0 10
theorem i167_11 : q_ins 167 11 = some (.aload_n 0, 1, (0, 0, 0, 0, 0)) := s167_0 11
theorem i167_12 : q_ins 167 12 = some (.getfield 255, 3, (193, 10, 27, 0, 0)) := s167_0 12
theorem i167_15 : q_ins 167 15 = some (.iload_n 3, 1, (0, 0, 0, 0, 0)) := s167_0 15
theorem i167_16 : q_ins 167 16 = some (.invokestatic 258, 3, (206, 164, 2, 2, 0)) := s167_1 0
theorem i167_19 : q_ins 167 19 = some (.ifCond .eq 25, 3, (0, 0, 0, 0, 0)) := s167_1 3
theorem i167_22 : q_ins 167 22 = some (.aload_n 0, 1, (0, 0, 0, 0, 0)) := s167_1 6
theorem i167_23 : q_ins 167 23 = some (.getfield 43, 3, (172, 10, 25, 2, 0)) := s167_1 7
theorem i167_26 : q_ins 167 26 = some (.iload_n 1, 1, (0, 0, 0, 0, 0)) := s167_1 10
theorem i167_27 : q_ins 167 27 = some (.iaload, 1, (0, 0, 0, 0, 0)) := s167_1 11
theorem i167_28 : q_ins 167 28 = some (.aload_n 0, 1, (0, 0, 0, 0, 0)) := s167_1 12
theorem i167_29 : q_ins 167 29 = some (.getfield 43, 3, (172, 10, 25, 2, 0)) := s167_1 13
theorem i167_32 : q_ins 167 32 = some (.iload_n 3, 1, (0, 0, 0, 0, 0)) := s167_2 0
theorem i167_33 : q_ins 167 33 = some (.iaload, 1, (0, 0, 0, 0, 0)) := s167_2 1
theorem i167_34 : q_ins 167 34 = some (.invokestatic 262, 3, (212, 168, 2, 2, 0)) := s167_2 2
theorem i167_37 : q_ins 167 37 = some (.ifCond .eq 7, 3, (0, 0, 0, 0, 0)) := s167_2 5
theorem i167_40 : q_ins 167 40 = some (.iconst 1, 1, (0, 0, 0, 0, 0)) := s167_2 8
theorem i167_41 : q_ins 167 41 = some (.goto 4, 3, (0, 0, 0, 0, 0)) := s167_2 9
theorem i167_44 : q_ins 167 44 = some (.iconst 0, 1, (0, 0, 0, 0, 0)) := s167_2 12
theorem i167_45 : q_ins 167 45 = some (.iadd, 1, (0, 0, 0, 0, 0)) := s167_2 13
theorem i167_46 : q_ins 167 46 = some (.istore_n 2, 1, (0, 0, 0, 0, 0)) := s167_2 14
theorem i167_47 : q_ins 167 47 = some (.iinc 3 1, 3, (0, 0, 0, 0, 0)) := s167_2 15
theorem i167_50 : q_ins 167 50 = some (.goto (-46), 3, (0, 0, 0, 0, 0)) := s167_3 2
theorem i167_53 : q_ins 167 53 = some (.iload_n 2, 1, (0, 0, 0, 0, 0)) := s167_3 5
theorem i167_54 : q_ins 167 54 = some (.ireturn, 1, (0, 0, 0, 0, 0)) := s167_3 6
theorem s168_0 (j : Nat) : q_ins 168 j = q_at q_c168 j := rfl
theorem s168_1 (j : Nat) : q_ins 168 (j + 16) = q_at q_c168_1 j := s168_0 (j + 16)
theorem i168_0 : q_ins 168 0 = some (.iload_n 0, 1, (0, 0, 0, 0, 0)) := s168_0 0
theorem i168_1 : q_ins 168 1 = some (.iconst 4, 1, (0, 0, 0, 0, 0)) := s168_0 1
theorem i168_2 : q_ins 168 2 = some (.idiv, 1, (0, 0, 0, 0, 0)) := s168_0 2
theorem i168_3 : q_ins 168 3 = some (.iload_n 1, 1, (0, 0, 0, 0, 0)) := s168_0 3
theorem i168_4 : q_ins 168 4 = some (.iconst 4, 1, (0, 0, 0, 0, 0)) := s168_0 4
theorem i168_5 : q_ins 168 5 = some (.idiv, 1, (0, 0, 0, 0, 0)) := s168_0 5
theorem i168_6 : q_ins 168 6 = some (.invokestatic 252, 3, (213, 169, 2, 2, 0)) := s168_0 6
theorem i168_9 : q_ins 168 9 = some (.iload_n 0, 1, (0, 0, 0, 0, 0)) := s168_0 9
theorem i168_10 : q_ins 168 10 = some (.iconst 4, 1, (0, 0, 0, 0, 0)) := s168_0 10
theorem i168_11 : q_ins 168 11 = some (.irem, 1, (0, 0, 0, 0, 0)) := s168_0 11
theorem i168_12 : q_ins 168 12 = some (.iload_n 1, 1, (0, 0, 0, 0, 0)) := s168_0 12
theorem i168_13 : q_ins 168 13 = some (.iconst 4, 1, (0, 0, 0, 0, 0)) := s168_0 13
theorem i168_14 : q_ins 168 14 = some (.irem, 1, (0, 0, 0, 0, 0)) := s168_0 14
theorem i168_15 : q_ins 168 15 = some (.invokestatic 252, 3, (213, 169, 2, 2, 0)) := s168_0 15
theorem i168_18 : q_ins 168 18 = some (.iadd, 1, (0, 0, 0, 0, 0)) := s168_1 2
theorem i168_19 : q_ins 168 19 = some (.iconst 1, 1, (0, 0, 0, 0, 0)) := s168_1 3
theorem i168_20 : q_ins 168 20 = some (.if_icmp .ne 7, 3, (0, 0, 0, 0, 0)) := s168_1 4
theorem i168_23 : q_ins 168 23 = some (.iconst 1, 1, (0, 0, 0, 0, 0)) := s168_1 7
theorem i168_24 : q_ins 168 24 = some (.goto 4, 3, (0, 0, 0, 0, 0)) := s168_1 8
theorem i168_27 : q_ins 168 27 = some (.iconst 0, 1, (0, 0, 0, 0, 0)) := s168_1 11
theorem i168_28 : q_ins 168 28 = some (.ireturn, 1, (0, 0, 0, 0, 0)) := s168_1 12
theorem s169_0 (j : Nat) : q_ins 169 j = q_at q_c169 j := rfl
theorem i169_0 : q_ins 169 0 = some (.iload_n 0, 1, (0, 0, 0, 0, 0)) := s169_0 0
theorem i169_1 : q_ins 169 1 = some (.iload_n 1, 1, (0, 0, 0, 0, 0)) := s169_0 1
theorem i169_2 : q_ins 169 2 = some (.if_icmp .ge 9, 3, (0, 0, 0, 0, 0)) := s169_0 2
theorem i169_5 : q_ins 169 5 = some (.iload_n 1, 1, (0, 0, 0, 0, 0)) := s169_0 5
theorem i169_6 : q_ins 169 6 = some (.iload_n 0, 1, (0, 0, 0, 0, 0)) := s169_0 6
theorem i169_7 : q_ins 169 7 = some (.isub, 1, (0, 0, 0, 0, 0)) := s169_0 7
theorem i169_8 : q_ins 169 8 = some (.goto 6, 3, (0, 0, 0, 0, 0)) := s169_0 8
theorem i169_11 : q_ins 169 11 = some (.iload_n 0, 1, (0, 0, 0, 0, 0)) := s169_0 11
theorem i169_12 : q_ins 169 12 = some (.iload_n 1, 1, (0, 0, 0, 0, 0)) := s169_0 12
theorem i169_13 : q_ins 169 13 = some (.isub, 1, (0, 0, 0, 0, 0)) := s169_0 13
theorem i169_14 : q_ins 169 14 = some (.ireturn, 1, (0, 0, 0, 0, 0)) := s169_0 14
theorem s170_0 (j : Nat) : q_ins 170 j = q_at q_c170 j := rfl
theorem s170_1 (j : Nat) : q_ins 170 (j + 16) = q_at q_c170_1 j := s170_0 (j + 16)
theorem i170_0 : q_ins 170 0 = some (.iconst 0, 1, (0, 0, 0, 0, 0)) := s170_0 0
theorem i170_1 : q_ins 170 1 = some (.istore_n 1, 1, (0, 0, 0, 0, 0)) := s170_0 1
theorem i170_2 : q_ins 170 2 = some (.iconst 0, 1, (0, 0, 0, 0, 0)) := s170_0 2
theorem i170_3 : q_ins 170 3 = some (.istore_n 2, 1, (0, 0, 0, 0, 0)) := s170_0 3
theorem i170_4 : q_ins 170 4 = some (.iload_n 2, 1, (0, 0, 0, 0, 0)) := s170_0 4
theorem i170_5 : q_ins 170 5 = some (.bipush 10, 2, (0, 0, 0, 0, 0)) := s170_0 5
theorem i170_7 : q_ins 170 7 = some (.if_icmp .ge 17, 3, (0, 0, 0, 0, 0)) := s170_0 7
theorem i170_10 : q_ins 170 10 = some (.iload_n 1, 1, (0, 0, 0, 0, 0)) := s170_0 10
theorem i170_11 : q_ins 170 11 = some (.iload_n 0, 1, (0, 0, 0, 0, 0)) := s170_0 11
theorem i170_12 : q_ins 170 12 = some (.iload_n 2, 1, (0, 0, 0, 0, 0)) := s170_0 12
theorem i170_13 : q_ins 170 13 = some (.ishr, 1, (0, 0, 0, 0, 0)) := s170_0 13
theorem i170_14 : q_ins 170 14 = some (.iconst 1, 1, (0, 0, 0, 0, 0)) := s170_0 14
theorem i170_15 : q_ins 170 15 = some (.iand, 1, (0, 0, 0, 0, 0)) := s170_0 15
theorem i170_16 : q_ins 170 16 = some (.iadd, 1, (0, 0, 0, 0, 0)) := s170_1 0
theorem i170_17 : q_ins 170 17 = some (.istore_n 1, 1, (0, 0, 0, 0, 0)) := s170_1 1
theorem i170_18 : q_ins 170 18 = some (.iinc 2 1, 3, (0, 0, 0, 0, 0)) := s170_1 2
theorem i170_21 : q_ins 170 21 = some (.goto (-17), 3, (0, 0, 0, 0, 0)) := s170_1 5
theorem i170_24 : q_ins 170 24 = some (.iload_n 1, 1, (0, 0, 0, 0, 0)) := s170_1 8
theorem i170_25 : q_ins 170 25 = some (.ireturn, 1, (0, 0, 0, 0, 0)) := s170_1 9
theorem s171_0 (j : Nat) : q_ins 171 j = q_at q_c171 j := rfl
theorem s171_1 (j : Nat) : q_ins 171 (j + 16) = q_at q_c171_1 j := s171_0 (j + 16)
theorem s171_2 (j : Nat) : q_ins 171 (j + 32) = q_at q_c171_2 j := s171_1 (j + 16)
theorem s171_3 (j : Nat) : q_ins 171 (j + 48) = q_at q_c171_3 j := s171_2 (j + 16)
theorem s171_4 (j : Nat) : q_ins 171 (j + 64) = q_at q_c171_4 j := s171_3 (j + 16)
theorem s171_5 (j : Nat) : q_ins 171 (j + 80) = q_at q_c171_5 j := s171_4 (j + 16)
theorem s171_6 (j : Nat) : q_ins 171 (j + 96) = q_at q_c171_6 j := s171_5 (j + 16)
theorem s171_7 (j : Nat) : q_ins 171 (j + 112) = q_at q_c171_7 j := s171_6 (j + 16)
theorem s171_8 (j : Nat) : q_ins 171 (j + 128) = q_at q_c171_8 j := s171_7 (j + 16)
theorem s171_9 (j : Nat) : q_ins 171 (j + 144) = q_at q_c171_9 j := s171_8 (j + 16)
theorem s171_10 (j : Nat) : q_ins 171 (j + 160) = q_at q_c171_10 j := s171_9 (j + 16)
theorem s171_11 (j : Nat) : q_ins 171 (j + 176) = q_at q_c171_11 j := s171_10 (j + 16)
theorem s171_12 (j : Nat) : q_ins 171 (j + 192) = q_at q_c171_12 j := s171_11 (j + 16)
theorem s171_13 (j : Nat) : q_ins 171 (j + 208) = q_at q_c171_13 j := s171_12 (j + 16)
theorem s171_14 (j : Nat) : q_ins 171 (j + 224) = q_at q_c171_14 j := s171_13 (j + 16)
theorem s171_15 (j : Nat) : q_ins 171 (j + 240) = q_at q_c171_15 j := s171_14 (j + 16)
theorem s171_16 (j : Nat) : q_ins 171 (j + 256) = q_at q_c171_16 j := s171_15 (j + 16)
theorem s171_17 (j : Nat) : q_ins 171 (j + 272) = q_at q_c171_17 j := s171_16 (j + 16)
theorem s171_18 (j : Nat) : q_ins 171 (j + 288) = q_at q_c171_18 j := s171_17 (j + 16)
theorem s171_19 (j : Nat) : q_ins 171 (j + 304) = q_at q_c171_19 j := s171_18 (j + 16)
theorem s171_20 (j : Nat) : q_ins 171 (j + 320) = q_at q_c171_20 j := s171_19 (j + 16)
theorem s171_21 (j : Nat) : q_ins 171 (j + 336) = q_at q_c171_21 j := s171_20 (j + 16)
theorem s171_22 (j : Nat) : q_ins 171 (j + 352) = q_at q_c171_22 j := s171_21 (j + 16)
theorem i171_0 : q_ins 171 0 = some (.sipush 680, 3, (0, 0, 0, 0, 0)) := s171_0 0
theorem i171_3 : q_ins 171 3 = some (.aload_n 0, 1, (0, 0, 0, 0, 0)) := s171_0 3
theorem i171_4 : q_ins 171 4 = some (.getfield 7, 3, (162, 10, 0, 2, 0)) := s171_0 4
theorem i171_7 : q_ins 171 7 = some (.iconst 5, 1, (0, 0, 0, 0, 0)) := s171_0 7
theorem i171_8 : q_ins 171 8 = some (.iaload, 1, (0, 0, 0, 0, 0)) := s171_0 8
theorem i171_9 : q_ins 171 9 = some (.imul, 1, (0, 0, 0, 0, 0)) := s171_0 9
theorem i171_10 : q_ins 171 10 = some (.iconst 1, 1, (0, 0, 0, 0, 0)) := s171_0 10
theorem i171_11 : q_ins 171 11 = some (.iadd, 1, (0, 0, 0, 0, 0)) := s171_0 11
theorem i171_12 : q_ins 171 12 = some (.iconst 3, 1, (0, 0, 0, 0, 0)) := s171_0 12
theorem i171_13 : q_ins 171 13 = some (.iload_n 1, 1, (0, 0, 0, 0, 0)) := s171_0 13
theorem i171_14 : q_ins 171 14 = some (.imul, 1, (0, 0, 0, 0, 0)) := s171_0 14
theorem i171_15 : q_ins 171 15 = some (.iadd, 1, (0, 0, 0, 0, 0)) := s171_0 15
theorem i171_16 : q_ins 171 16 = some (.istore_n 2, 1, (0, 0, 0, 0, 0)) := s171_1 0
theorem i171_17 : q_ins 171 17 = some (.sipush 680, 3, (0, 0, 0, 0, 0)) := s171_1 1
theorem i171_20 : q_ins 171 20 = some (.aload_n 0, 1, (0, 0, 0, 0, 0)) := s171_1 4
theorem i171_21 : q_ins 171 21 = some (.getfield 7, 3, (162, 10, 0, 2, 0)) := s171_1 5
theorem i171_24 : q_ins 171 24 = some (.iconst 5, 1, (0, 0, 0, 0, 0)) := s171_1 8
theorem i171_25 : q_ins 171 25 = some (.iaload, 1, (0, 0, 0, 0, 0)) := s171_1 9
theorem i171_26 : q_ins 171 26 = some (.imul, 1, (0, 0, 0, 0, 0)) := s171_1 10
theorem i171_27 : q_ins 171 27 = some (.bipush 75, 2, (0, 0, 0, 0, 0)) := s171_1 11
theorem i171_29 : q_ins 171 29 = some (.iadd, 1, (0, 0, 0, 0, 0)) := s171_1 13
theorem i171_30 : q_ins 171 30 = some (.istore_n 3, 1, (0, 0, 0, 0, 0)) := s171_1 14
theorem i171_31 : q_ins 171 31 = some (.iconst 0, 1, (0, 0, 0, 0, 0)) := s171_1 15
theorem i171_32 : q_ins 171 32 = some (.istore 4, 2, (0, 0, 0, 0, 0)) := s171_2 0
theorem i171_34 : q_ins 171 34 = some (.iconst 0, 1, (0, 0, 0, 0, 0)) := s171_2 2
theorem i171_35 : q_ins 171 35 = some (.istore 5, 2, (0, 0, 0, 0, 0)) := s171_2 3
theorem i171_37 : q_ins 171 37 = some (.aload_n 0, 1, (0, 0, 0, 0, 0)) := s171_2 5
theorem i171_38 : q_ins 171 38 = some (.getfield 16, 3, (164, 10, 2, 2, 0)) := s171_2 6
theorem i171_41 : q_ins 171 41 = some (.iload_n 2, 1, (0, 0, 0, 0, 0)) := s171_2 9
theorem i171_42 : q_ins 171 42 = some (.iconst 1, 1, (0, 0, 0, 0, 0)) := s171_2 10
theorem i171_43 : q_ins 171 43 = some (.iadd, 1, (0, 0, 0, 0, 0)) := s171_2 11
theorem i171_44 : q_ins 171 44 = some (.iaload, 1, (0, 0, 0, 0, 0)) := s171_2 12
theorem i171_45 : q_ins 171 45 = some (.istore 6, 2, (0, 0, 0, 0, 0)) := s171_2 13
theorem i171_47 : q_ins 171 47 = some (.iload 6, 2, (0, 0, 0, 0, 0)) := s171_2 15
theorem i171_49 : q_ins 171 49 = some (.aload_n 0, 1, (0, 0, 0, 0, 0)) := s171_3 1
theorem i171_50 : q_ins 171 50 = some (.getfield 16, 3, (164, 10, 2, 2, 0)) := s171_3 2
theorem i171_53 : q_ins 171 53 = some (.iload_n 2, 1, (0, 0, 0, 0, 0)) := s171_3 5
theorem i171_54 : q_ins 171 54 = some (.iconst 2, 1, (0, 0, 0, 0, 0)) := s171_3 6
theorem i171_55 : q_ins 171 55 = some (.iadd, 1, (0, 0, 0, 0, 0)) := s171_3 7
theorem i171_56 : q_ins 171 56 = some (.iaload, 1, (0, 0, 0, 0, 0)) := s171_3 8
theorem i171_57 : q_ins 171 57 = some (.if_icmp .ge 302, 3, (0, 0, 0, 0, 0)) := s171_3 9
theorem i171_60 : q_ins 171 60 = some (.aload_n 0, 1, (0, 0, 0, 0, 0)) := s171_3 12
theorem i171_61 : q_ins 171 61 = some (.getfield 16, 3, (164, 10, 2, 2, 0)) := s171_3 13
theorem i171_64 : q_ins 171 64 = some (.iload_n 3, 1, (0, 0, 0, 0, 0)) := s171_4 0
theorem i171_65 : q_ins 171 65 = some (.iconst 2, 1, (0, 0, 0, 0, 0)) := s171_4 1
theorem i171_66 : q_ins 171 66 = some (.iload 6, 2, (0, 0, 0, 0, 0)) := s171_4 2
theorem i171_68 : q_ins 171 68 = some (.imul, 1, (0, 0, 0, 0, 0)) := s171_4 4
theorem i171_69 : q_ins 171 69 = some (.iadd, 1, (0, 0, 0, 0, 0)) := s171_4 5
theorem i171_70 : q_ins 171 70 = some (.iaload, 1, (0, 0, 0, 0, 0)) := s171_4 6
theorem i171_71 : q_ins 171 71 = some (.istore 7, 2, (0, 0, 0, 0, 0)) := s171_4 7
theorem i171_73 : q_ins 171 73 = some (.aload_n 0, 1, (0, 0, 0, 0, 0)) := s171_4 9
theorem i171_74 : q_ins 171 74 = some (.getfield 16, 3, (164, 10, 2, 2, 0)) := s171_4 10
theorem i171_77 : q_ins 171 77 = some (.iload_n 3, 1, (0, 0, 0, 0, 0)) := s171_4 13
theorem i171_78 : q_ins 171 78 = some (.iconst 2, 1, (0, 0, 0, 0, 0)) := s171_4 14
theorem i171_79 : q_ins 171 79 = some (.iload 6, 2, (0, 0, 0, 0, 0)) := s171_4 15
theorem i171_81 : q_ins 171 81 = some (.imul, 1, (0, 0, 0, 0, 0)) := s171_5 1
theorem i171_82 : q_ins 171 82 = some (.iadd, 1, (0, 0, 0, 0, 0)) := s171_5 2
theorem i171_83 : q_ins 171 83 = some (.iconst 1, 1, (0, 0, 0, 0, 0)) := s171_5 3
theorem i171_84 : q_ins 171 84 = some (.iadd, 1, (0, 0, 0, 0, 0)) := s171_5 4
theorem i171_85 : q_ins 171 85 = some (.iaload, 1, (0, 0, 0, 0, 0)) := s171_5 5
theorem i171_86 : q_ins 171 86 = some (.istore 8, 2, (0, 0, 0, 0, 0)) := s171_5 6
theorem i171_88 : q_ins 171 88 = some (.iload 7, 2, (0, 0, 0, 0, 0)) := s171_5 8
theorem i171_90 : q_ins 171 90 = some (.iconst 1, 1, (0, 0, 0, 0, 0)) := s171_5 10
theorem i171_91 : q_ins 171 91 = some (.if_icmp .gt 35, 3, (0, 0, 0, 0, 0)) := s171_5 11
theorem i171_94 : q_ins 171 94 = some (.aload_n 0, 1, (0, 0, 0, 0, 0)) := s171_5 14
theorem i171_95 : q_ins 171 95 = some (.getfield 35, 3, (170, 10, 23, 2, 0)) := s171_5 15
theorem i171_98 : q_ins 171 98 = some (.iload 4, 2, (0, 0, 0, 0, 0)) := s171_6 2
theorem i171_100 : q_ins 171 100 = some (.iload 7, 2, (0, 0, 0, 0, 0)) := s171_6 4
theorem i171_102 : q_ins 171 102 = some (.ifCond .ne 9, 3, (0, 0, 0, 0, 0)) := s171_6 6
theorem i171_105 : q_ins 171 105 = some (.iload 8, 2, (0, 0, 0, 0, 0)) := s171_6 9
theorem i171_107 : q_ins 171 107 = some (.i2l, 1, (0, 0, 0, 0, 0)) := s171_6 11
theorem i171_108 : q_ins 171 108 = some (.goto 11, 3, (0, 0, 0, 0, 0)) := s171_6 12
theorem i171_111 : q_ins 171 111 = some (.aload_n 0, 1, (0, 0, 0, 0, 0)) := s171_6 15
theorem i171_112 : q_ins 171 112 = some (.getfield 32, 3, (169, 10, 22, 2, 0)) := s171_7 0
theorem i171_115 : q_ins 171 115 = some (.iload 8, 2, (0, 0, 0, 0, 0)) := s171_7 3
theorem i171_117 : q_ins 171 117 = some (.iaload, 1, (0, 0, 0, 0, 0)) := s171_7 5
theorem i171_118 : q_ins 171 118 = some (.i2l, 1, (0, 0, 0, 0, 0)) := s171_7 6
theorem i171_119 : q_ins 171 119 = some (.lastore, 1, (0, 0, 0, 0, 0)) := s171_7 7
theorem i171_120 : q_ins 171 120 = some (.iinc 4 1, 3, (0, 0, 0, 0, 0)) := s171_7 8
theorem i171_123 : q_ins 171 123 = some (.goto 230, 3, (0, 0, 0, 0, 0)) := s171_7 11
theorem i171_126 : q_ins 171 126 = some (.iload 7, 2, (0, 0, 0, 0, 0)) := s171_7 14
theorem i171_128 : q_ins 171 128 = some (.iconst 2, 1, (0, 0, 0, 0, 0)) := s171_8 0
theorem i171_129 : q_ins 171 129 = some (.if_icmp .ne 25, 3, (0, 0, 0, 0, 0)) := s171_8 1
theorem i171_132 : q_ins 171 132 = some (.aload_n 0, 1, (0, 0, 0, 0, 0)) := s171_8 4
theorem i171_133 : q_ins 171 133 = some (.getfield 35, 3, (170, 10, 23, 2, 0)) := s171_8 5
theorem i171_136 : q_ins 171 136 = some (.iload 4, 2, (0, 0, 0, 0, 0)) := s171_8 8
theorem i171_138 : q_ins 171 138 = some (.iconst 1, 1, (0, 0, 0, 0, 0)) := s171_8 10
theorem i171_139 : q_ins 171 139 = some (.isub, 1, (0, 0, 0, 0, 0)) := s171_8 11
theorem i171_140 : q_ins 171 140 = some (.aload_n 0, 1, (0, 0, 0, 0, 0)) := s171_8 12
theorem i171_141 : q_ins 171 141 = some (.getfield 35, 3, (170, 10, 23, 2, 0)) := s171_8 13
theorem i171_144 : q_ins 171 144 = some (.iload 4, 2, (0, 0, 0, 0, 0)) := s171_9 0
theorem i171_146 : q_ins 171 146 = some (.iconst 1, 1, (0, 0, 0, 0, 0)) := s171_9 2
theorem i171_147 : q_ins 171 147 = some (.isub, 1, (0, 0, 0, 0, 0)) := s171_9 3
theorem i171_148 : q_ins 171 148 = some (.laload, 1, (0, 0, 0, 0, 0)) := s171_9 4
theorem i171_149 : q_ins 171 149 = some (.lneg, 1, (0, 0, 0, 0, 0)) := s171_9 5
theorem i171_150 : q_ins 171 150 = some (.lastore, 1, (0, 0, 0, 0, 0)) := s171_9 6
theorem i171_151 : q_ins 171 151 = some (.goto 202, 3, (0, 0, 0, 0, 0)) := s171_9 7
theorem i171_154 : q_ins 171 154 = some (.iload 7, 2, (0, 0, 0, 0, 0)) := s171_9 10
theorem i171_156 : q_ins 171 156 = some (.bipush 10, 2, (0, 0, 0, 0, 0)) := s171_9 12
theorem i171_158 : q_ins 171 158 = some (.if_icmp .ge 39, 3, (0, 0, 0, 0, 0)) := s171_9 14
theorem i171_161 : q_ins 171 161 = some (.iinc 4 (-1), 3, (0, 0, 0, 0, 0)) := s171_10 1
theorem i171_164 : q_ins 171 164 = some (.aload_n 0, 1, (0, 0, 0, 0, 0)) := s171_10 4
theorem i171_165 : q_ins 171 165 = some (.getfield 35, 3, (170, 10, 23, 2, 0)) := s171_10 5
theorem i171_168 : q_ins 171 168 = some (.iload 4, 2, (0, 0, 0, 0, 0)) := s171_10 8
theorem i171_170 : q_ins 171 170 = some (.iconst 1, 1, (0, 0, 0, 0, 0)) := s171_10 10
theorem i171_171 : q_ins 171 171 = some (.isub, 1, (0, 0, 0, 0, 0)) := s171_10 11
theorem i171_172 : q_ins 171 172 = some (.iload 7, 2, (0, 0, 0, 0, 0)) := s171_10 12
theorem i171_174 : q_ins 171 174 = some (.aload_n 0, 1, (0, 0, 0, 0, 0)) := s171_10 14
theorem i171_175 : q_ins 171 175 = some (.getfield 35, 3, (170, 10, 23, 2, 0)) := s171_10 15
theorem i171_178 : q_ins 171 178 = some (.iload 4, 2, (0, 0, 0, 0, 0)) := s171_11 2
theorem i171_180 : q_ins 171 180 = some (.iconst 1, 1, (0, 0, 0, 0, 0)) := s171_11 4
theorem i171_181 : q_ins 171 181 = some (.isub, 1, (0, 0, 0, 0, 0)) := s171_11 5
theorem i171_182 : q_ins 171 182 = some (.laload, 1, (0, 0, 0, 0, 0)) := s171_11 6
theorem i171_183 : q_ins 171 183 = some (.aload_n 0, 1, (0, 0, 0, 0, 0)) := s171_11 7
theorem i171_184 : q_ins 171 184 = some (.getfield 35, 3, (170, 10, 23, 2, 0)) := s171_11 8
theorem i171_187 : q_ins 171 187 = some (.iload 4, 2, (0, 0, 0, 0, 0)) := s171_11 11
theorem i171_189 : q_ins 171 189 = some (.laload, 1, (0, 0, 0, 0, 0)) := s171_11 13
theorem i171_190 : q_ins 171 190 = some (.invokestatic 238, 3, (214, 172, 3, 2, 0)) := s171_11 14
theorem i171_193 : q_ins 171 193 = some (.lastore, 1, (0, 0, 0, 0, 0)) := s171_12 1
theorem i171_194 : q_ins 171 194 = some (.goto 159, 3, (0, 0, 0, 0, 0)) := s171_12 2
theorem i171_197 : q_ins 171 197 = some (.iload 7, 2, (0, 0, 0, 0, 0)) := s171_12 5
theorem i171_199 : q_ins 171 199 = some (.bipush 20, 2, (0, 0, 0, 0, 0)) := s171_12 7
theorem i171_201 : q_ins 171 201 = some (.if_icmp .ge 40, 3, (0, 0, 0, 0, 0)) := s171_12 9
theorem i171_204 : q_ins 171 204 = some (.iinc 4 (-2), 3, (0, 0, 0, 0, 0)) := s171_12 12
theorem i171_207 : q_ins 171 207 = some (.aload_n 0, 1, (0, 0, 0, 0, 0)) := s171_12 15
theorem i171_208 : q_ins 171 208 = some (.getfield 39, 3, (171, 10, 24, 2, 0)) := s171_13 0
theorem i171_211 : q_ins 171 211 = some (.iload 5, 2, (0, 0, 0, 0, 0)) := s171_13 3
theorem i171_213 : q_ins 171 213 = some (.iload 7, 2, (0, 0, 0, 0, 0)) := s171_13 5
theorem i171_215 : q_ins 171 215 = some (.aload_n 0, 1, (0, 0, 0, 0, 0)) := s171_13 7
theorem i171_216 : q_ins 171 216 = some (.getfield 35, 3, (170, 10, 23, 2, 0)) := s171_13 8
theorem i171_219 : q_ins 171 219 = some (.iload 4, 2, (0, 0, 0, 0, 0)) := s171_13 11
theorem i171_221 : q_ins 171 221 = some (.laload, 1, (0, 0, 0, 0, 0)) := s171_13 13
theorem i171_222 : q_ins 171 222 = some (.aload_n 0, 1, (0, 0, 0, 0, 0)) := s171_13 14
theorem i171_223 : q_ins 171 223 = some (.getfield 35, 3, (170, 10, 23, 2, 0)) := s171_13 15
theorem i171_226 : q_ins 171 226 = some (.iload 4, 2, (0, 0, 0, 0, 0)) := s171_14 2
theorem i171_228 : q_ins 171 228 = some (.iconst 1, 1, (0, 0, 0, 0, 0)) := s171_14 4
theorem i171_229 : q_ins 171 229 = some (.iadd, 1, (0, 0, 0, 0, 0)) := s171_14 5
theorem i171_230 : q_ins 171 230 = some (.laload, 1, (0, 0, 0, 0, 0)) := s171_14 6
theorem i171_231 : q_ins 171 231 = some (.invokestatic 242, 3, (215, 174, 3, 2, 0)) := s171_14 7
theorem i171_234 : q_ins 171 234 = some (.bastore, 1, (0, 0, 0, 0, 0)) := s171_14 10
theorem i171_235 : q_ins 171 235 = some (.iinc 5 1, 3, (0, 0, 0, 0, 0)) := s171_14 11
theorem i171_238 : q_ins 171 238 = some (.goto 115, 3, (0, 0, 0, 0, 0)) := s171_14 14
theorem i171_241 : q_ins 171 241 = some (.iload 7, 2, (0, 0, 0, 0, 0)) := s171_15 1
theorem i171_243 : q_ins 171 243 = some (.bipush 20, 2, (0, 0, 0, 0, 0)) := s171_15 3
theorem i171_245 : q_ins 171 245 = some (.if_icmp .ne 32, 3, (0, 0, 0, 0, 0)) := s171_15 5
theorem i171_248 : q_ins 171 248 = some (.aload_n 0, 1, (0, 0, 0, 0, 0)) := s171_15 8
theorem i171_249 : q_ins 171 249 = some (.getfield 39, 3, (171, 10, 24, 2, 0)) := s171_15 9
theorem i171_252 : q_ins 171 252 = some (.iload 5, 2, (0, 0, 0, 0, 0)) := s171_15 12
theorem i171_254 : q_ins 171 254 = some (.iconst 1, 1, (0, 0, 0, 0, 0)) := s171_15 14
theorem i171_255 : q_ins 171 255 = some (.isub, 1, (0, 0, 0, 0, 0)) := s171_15 15
theorem i171_256 : q_ins 171 256 = some (.aload_n 0, 1, (0, 0, 0, 0, 0)) := s171_16 0
theorem i171_257 : q_ins 171 257 = some (.getfield 39, 3, (171, 10, 24, 2, 0)) := s171_16 1
theorem i171_260 : q_ins 171 260 = some (.iload 5, 2, (0, 0, 0, 0, 0)) := s171_16 4
theorem i171_262 : q_ins 171 262 = some (.iconst 1, 1, (0, 0, 0, 0, 0)) := s171_16 6
theorem i171_263 : q_ins 171 263 = some (.isub, 1, (0, 0, 0, 0, 0)) := s171_16 7
theorem i171_264 : q_ins 171 264 = some (.baload, 1, (0, 0, 0, 0, 0)) := s171_16 8
theorem i171_265 : q_ins 171 265 = some (.ifCond .ne 7, 3, (0, 0, 0, 0, 0)) := s171_16 9
theorem i171_268 : q_ins 171 268 = some (.iconst 1, 1, (0, 0, 0, 0, 0)) := s171_16 12
theorem i171_269 : q_ins 171 269 = some (.goto 4, 3, (0, 0, 0, 0, 0)) := s171_16 13
theorem i171_272 : q_ins 171 272 = some (.iconst 0, 1, (0, 0, 0, 0, 0)) := s171_17 0
theorem i171_273 : q_ins 171 273 = some (.bastore, 1, (0, 0, 0, 0, 0)) := s171_17 1
theorem i171_274 : q_ins 171 274 = some (.goto 79, 3, (0, 0, 0, 0, 0)) := s171_17 2
theorem i171_277 : q_ins 171 277 = some (.iinc 5 (-1), 3, (0, 0, 0, 0, 0)) := s171_17 5
theorem i171_280 : q_ins 171 280 = some (.aload_n 0, 1, (0, 0, 0, 0, 0)) := s171_17 8
theorem i171_281 : q_ins 171 281 = some (.getfield 39, 3, (171, 10, 24, 2, 0)) := s171_17 9
theorem i171_284 : q_ins 171 284 = some (.iload 5, 2, (0, 0, 0, 0, 0)) := s171_17 12
theorem i171_286 : q_ins 171 286 = some (.iconst 1, 1, (0, 0, 0, 0, 0)) := s171_17 14
theorem i171_287 : q_ins 171 287 = some (.isub, 1, (0, 0, 0, 0, 0)) := s171_17 15
theorem i171_288 : q_ins 171 288 = some (.iload 7, 2, (0, 0, 0, 0, 0)) := s171_18 0
theorem i171_290 : q_ins 171 290 = some (.bipush 21, 2, (0, 0, 0, 0, 0)) := s171_18 2
theorem i171_292 : q_ins 171 292 = some (.if_icmp .ne 33, 3, (0, 0, 0, 0, 0)) := s171_18 4
theorem i171_295 : q_ins 171 295 = some (.aload_n 0, 1, (0, 0, 0, 0, 0)) := s171_18 7
theorem i171_296 : q_ins 171 296 = some (.getfield 39, 3, (171, 10, 24, 2, 0)) := s171_18 8
theorem i171_299 : q_ins 171 299 = some (.iload 5, 2, (0, 0, 0, 0, 0)) := s171_18 11
theorem i171_301 : q_ins 171 301 = some (.iconst 1, 1, (0, 0, 0, 0, 0)) := s171_18 13
theorem i171_302 : q_ins 171 302 = some (.isub, 1, (0, 0, 0, 0, 0)) := s171_18 14
theorem i171_303 : q_ins 171 303 = some (.baload, 1, (0, 0, 0, 0, 0)) := s171_18 15
theorem i171_304 : q_ins 171 304 = some (.ifCond .eq 17, 3, (0, 0, 0, 0, 0)) := s171_19 0
theorem i171_307 : q_ins 171 307 = some (.aload_n 0, 1, (0, 0, 0, 0, 0)) := s171_19 3
theorem i171_308 : q_ins 171 308 = some (.getfield 39, 3, (171, 10, 24, 2, 0)) := s171_19 4
theorem i171_311 : q_ins 171 311 = some (.iload 5, 2, (0, 0, 0, 0, 0)) := s171_19 7
theorem i171_313 : q_ins 171 313 = some (.baload, 1, (0, 0, 0, 0, 0)) := s171_19 9
theorem i171_314 : q_ins 171 314 = some (.ifCond .eq 7, 3, (0, 0, 0, 0, 0)) := s171_19 10
theorem i171_317 : q_ins 171 317 = some (.iconst 1, 1, (0, 0, 0, 0, 0)) := s171_19 13
theorem i171_318 : q_ins 171 318 = some (.goto 34, 3, (0, 0, 0, 0, 0)) := s171_19 14
theorem i171_321 : q_ins 171 321 = some (.iconst 0, 1, (0, 0, 0, 0, 0)) := s171_20 1
theorem i171_322 : q_ins 171 322 = some (.goto 30, 3, (0, 0, 0, 0, 0)) := s171_20 2
theorem i171_325 : q_ins 171 325 = some (.aload_n 0, 1, (0, 0, 0, 0, 0)) := s171_20 5
theorem i171_326 : q_ins 171 326 = some (.getfield 39, 3, (171, 10, 24, 2, 0)) := s171_20 6
theorem i171_329 : q_ins 171 329 = some (.iload 5, 2, (0, 0, 0, 0, 0)) := s171_20 9
theorem i171_331 : q_ins 171 331 = some (.iconst 1, 1, (0, 0, 0, 0, 0)) := s171_20 11
theorem i171_332 : q_ins 171 332 = some (.isub, 1, (0, 0, 0, 0, 0)) := s171_20 12
theorem i171_333 : q_ins 171 333 = some (.baload, 1, (0, 0, 0, 0, 0)) := s171_20 13
theorem i171_334 : q_ins 171 334 = some (.ifCond .ne 13, 3, (0, 0, 0, 0, 0)) := s171_20 14
theorem i171_337 : q_ins 171 337 = some (.aload_n 0, 1, (0, 0, 0, 0, 0)) := s171_21 1
theorem i171_338 : q_ins 171 338 = some (.getfield 39, 3, (171, 10, 24, 2, 0)) := s171_21 2
theorem i171_341 : q_ins 171 341 = some (.iload 5, 2, (0, 0, 0, 0, 0)) := s171_21 5
theorem i171_343 : q_ins 171 343 = some (.baload, 1, (0, 0, 0, 0, 0)) := s171_21 7
theorem i171_344 : q_ins 171 344 = some (.ifCond .eq 7, 3, (0, 0, 0, 0, 0)) := s171_21 8
theorem i171_347 : q_ins 171 347 = some (.iconst 1, 1, (0, 0, 0, 0, 0)) := s171_21 11
theorem i171_348 : q_ins 171 348 = some (.goto 4, 3, (0, 0, 0, 0, 0)) := s171_21 12
theorem i171_351 : q_ins 171 351 = some (.iconst 0, 1, (0, 0, 0, 0, 0)) := s171_21 15
theorem i171_352 : q_ins 171 352 = some (.bastore, 1, (0, 0, 0, 0, 0)) := s171_22 0
theorem i171_353 : q_ins 171 353 = some (.iinc 6 1, 3, (0, 0, 0, 0, 0)) := s171_22 1
theorem i171_356 : q_ins 171 356 = some (.goto (-309), 3, (0, 0, 0, 0, 0)) := s171_22 4
theorem i171_359 : q_ins 171 359 = some (.return_, 1, (0, 0, 0, 0, 0)) := s171_22 7
theorem s172_0 (j : Nat) : q_ins 172 j = q_at q_c172 j := rfl
theorem s172_1 (j : Nat) : q_ins 172 (j + 16) = q_at q_c172_1 j := s172_0 (j + 16)
theorem s172_2 (j : Nat) : q_ins 172 (j + 32) = q_at q_c172_2 j := s172_1 (j + 16)
theorem s172_3 (j : Nat) : q_ins 172 (j + 48) = q_at q_c172_3 j := s172_2 (j + 16)
theorem s172_4 (j : Nat) : q_ins 172 (j + 64) = q_at q_c172_4 j := s172_3 (j + 16)
theorem i172_0 : q_ins 172 0 = some (.iload_n 0, 1, (0, 0, 0, 0, 0)) := s172_0 0
theorem i172_1 : q_ins 172 1 = some (.tableswitch 48 3 5 #[27, 34, 41], 27, (0, 0, 0, 0, 0)) := s172_0 1
theorem i172_28 : q_ins 172 28 = some (.lload_n 1, 1, (0, 0, 0, 0, 0)) := s172_1 12
theorem i172_29 : q_ins 172 29 = some (.lload_n 3, 1, (0, 0, 0, 0, 0)) := s172_1 13
theorem i172_30 : q_ins 172 30 = some (.ladd, 1, (0, 0, 0, 0, 0)) := s172_1 14
theorem i172_31 : q_ins 172 31 = some (.invokestatic 234, 3, (216, 173, 1, 2, 0)) := s172_1 15
theorem i172_34 : q_ins 172 34 = some (.lreturn, 1, (0, 0, 0, 0, 0)) := s172_2 2
theorem i172_35 : q_ins 172 35 = some (.lload_n 1, 1, (0, 0, 0, 0, 0)) := s172_2 3
theorem i172_36 : q_ins 172 36 = some (.lload_n 3, 1, (0, 0, 0, 0, 0)) := s172_2 4
theorem i172_37 : q_ins 172 37 = some (.lsub, 1, (0, 0, 0, 0, 0)) := s172_2 5
theorem i172_38 : q_ins 172 38 = some (.invokestatic 234, 3, (216, 173, 1, 2, 0)) := s172_2 6
theorem i172_41 : q_ins 172 41 = some (.lreturn, 1, (0, 0, 0, 0, 0)) := s172_2 9
theorem i172_42 : q_ins 172 42 = some (.lload_n 1, 1, (0, 0, 0, 0, 0)) := s172_2 10
theorem i172_43 : q_ins 172 43 = some (.lload_n 3, 1, (0, 0, 0, 0, 0)) := s172_2 11
theorem i172_44 : q_ins 172 44 = some (.lmul, 1, (0, 0, 0, 0, 0)) := s172_2 12
theorem i172_45 : q_ins 172 45 = some (.invokestatic 234, 3, (216, 173, 1, 2, 0)) := s172_2 13
theorem i172_48 : q_ins 172 48 = some (.lreturn, 1, (0, 0, 0, 0, 0)) := s172_3 0
theorem i172_49 : q_ins 172 49 = some (.lload_n 3, 1, (0, 0, 0, 0, 0)) := s172_3 1
theorem i172_50 : q_ins 172 50 = some (.lconst 0, 1, (0, 0, 0, 0, 0)) := s172_3 2
theorem i172_51 : q_ins 172 51 = some (.lcmp, 1, (0, 0, 0, 0, 0)) := s172_3 3
theorem i172_52 : q_ins 172 52 = some (.ifCond .ne 7, 3, (0, 0, 0, 0, 0)) := s172_3 4
theorem i172_55 : q_ins 172 55 = some (.lconst 0, 1, (0, 0, 0, 0, 0)) := s172_3 7
theorem i172_56 : q_ins 172 56 = some (.goto 9, 3, (0, 0, 0, 0, 0)) := s172_3 8
theorem i172_59 : q_ins 172 59 = some (.lload_n 1, 1, (0, 0, 0, 0, 0)) := s172_3 11
theorem i172_60 : q_ins 172 60 = some (.lload_n 3, 1, (0, 0, 0, 0, 0)) := s172_3 12
theorem i172_61 : q_ins 172 61 = some (.ldiv, 1, (0, 0, 0, 0, 0)) := s172_3 13
theorem i172_62 : q_ins 172 62 = some (.invokestatic 234, 3, (216, 173, 1, 2, 0)) := s172_3 14
theorem i172_65 : q_ins 172 65 = some (.lreturn, 1, (0, 0, 0, 0, 0)) := s172_4 1
theorem s173_0 (j : Nat) : q_ins 173 j = q_at q_c173 j := rfl
theorem s173_1 (j : Nat) : q_ins 173 (j + 16) = q_at q_c173_1 j := s173_0 (j + 16)
theorem i173_0 : q_ins 173 0 = some (.lload_n 0, 1, (0, 0, 0, 0, 0)) := s173_0 0
theorem i173_1 : q_ins 173 1 = some (.ldc2_w 230, 3, (1334, 0, 0, 0, 1000000)) := s173_0 1
theorem i173_4 : q_ins 173 4 = some (.lcmp, 1, (0, 0, 0, 0, 0)) := s173_0 4
theorem i173_5 : q_ins 173 5 = some (.ifCond .le 9, 3, (0, 0, 0, 0, 0)) := s173_0 5
theorem i173_8 : q_ins 173 8 = some (.ldc2_w 230, 3, (1334, 0, 0, 0, 1000000)) := s173_0 8
theorem i173_11 : q_ins 173 11 = some (.goto 18, 3, (0, 0, 0, 0, 0)) := s173_0 11
theorem i173_14 : q_ins 173 14 = some (.lload_n 0, 1, (0, 0, 0, 0, 0)) := s173_0 14
theorem i173_15 : q_ins 173 15 = some (.ldc2_w 232, 3, (1335, 0, 0, 0, (-1000000))) := s173_0 15
theorem i173_18 : q_ins 173 18 = some (.lcmp, 1, (0, 0, 0, 0, 0)) := s173_1 2
theorem i173_19 : q_ins 173 19 = some (.ifCond .ge 9, 3, (0, 0, 0, 0, 0)) := s173_1 3
theorem i173_22 : q_ins 173 22 = some (.ldc2_w 232, 3, (1335, 0, 0, 0, (-1000000))) := s173_1 6
theorem i173_25 : q_ins 173 25 = some (.goto 4, 3, (0, 0, 0, 0, 0)) := s173_1 9
theorem i173_28 : q_ins 173 28 = some (.lload_n 0, 1, (0, 0, 0, 0, 0)) := s173_1 12
theorem i173_29 : q_ins 173 29 = some (.lreturn, 1, (0, 0, 0, 0, 0)) := s173_1 13
theorem s174_0 (j : Nat) : q_ins 174 j = q_at q_c174 j := rfl
theorem s174_1 (j : Nat) : q_ins 174 (j + 16) = q_at q_c174_1 j := s174_0 (j + 16)
theorem s174_2 (j : Nat) : q_ins 174 (j + 32) = q_at q_c174_2 j := s174_1 (j + 16)
theorem s174_3 (j : Nat) : q_ins 174 (j + 48) = q_at q_c174_3 j := s174_2 (j + 16)
theorem s174_4 (j : Nat) : q_ins 174 (j + 64) = q_at q_c174_4 j := s174_3 (j + 16)
theorem s174_5 (j : Nat) : q_ins 174 (j + 80) = q_at q_c174_5 j := s174_4 (j + 16)
theorem s174_6 (j : Nat) : q_ins 174 (j + 96) = q_at q_c174_6 j := s174_5 (j + 16)
theorem i174_0 : q_ins 174 0 = some (.iload_n 0, 1, (0, 0, 0, 0, 0)) := s174_0 0
theorem i174_1 : q_ins 174 1 = some (.bipush 10, 2, (0, 0, 0, 0, 0)) := s174_0 1
theorem i174_3 : q_ins 174 3 = some (.if_icmp .ne 17, 3, (0, 0, 0, 0, 0)) := s174_0 3
theorem i174_6 : q_ins 174 6 = some (.lload_n 1, 1, (0, 0, 0, 0, 0)) := s174_0 6
theorem i174_7 : q_ins 174 7 = some (.lload_n 3, 1, (0, 0, 0, 0, 0)) := s174_0 7
theorem i174_8 : q_ins 174 8 = some (.lcmp, 1, (0, 0, 0, 0, 0)) := s174_0 8
theorem i174_9 : q_ins 174 9 = some (.ifCond .ge 7, 3, (0, 0, 0, 0, 0)) := s174_0 9
theorem i174_12 : q_ins 174 12 = some (.iconst 1, 1, (0, 0, 0, 0, 0)) := s174_0 12
theorem i174_13 : q_ins 174 13 = some (.goto 98, 3, (0, 0, 0, 0, 0)) := s174_0 13
theorem i174_16 : q_ins 174 16 = some (.iconst 0, 1, (0, 0, 0, 0, 0)) := s174_1 0
theorem i174_17 : q_ins 174 17 = some (.goto 94, 3, (0, 0, 0, 0, 0)) := s174_1 1
theorem i174_20 : q_ins 174 20 = some (.iload_n 0, 1, (0, 0, 0, 0, 0)) := s174_1 4
theorem i174_21 : q_ins 174 21 = some (.bipush 11, 2, (0, 0, 0, 0, 0)) := s174_1 5
theorem i174_23 : q_ins 174 23 = some (.if_icmp .ne 17, 3, (0, 0, 0, 0, 0)) := s174_1 7
theorem i174_26 : q_ins 174 26 = some (.lload_n 1, 1, (0, 0, 0, 0, 0)) := s174_1 10
theorem i174_27 : q_ins 174 27 = some (.lload_n 3, 1, (0, 0, 0, 0, 0)) := s174_1 11
theorem i174_28 : q_ins 174 28 = some (.lcmp, 1, (0, 0, 0, 0, 0)) := s174_1 12
theorem i174_29 : q_ins 174 29 = some (.ifCond .gt 7, 3, (0, 0, 0, 0, 0)) := s174_1 13
theorem i174_32 : q_ins 174 32 = some (.iconst 1, 1, (0, 0, 0, 0, 0)) := s174_2 0
theorem i174_33 : q_ins 174 33 = some (.goto 78, 3, (0, 0, 0, 0, 0)) := s174_2 1
theorem i174_36 : q_ins 174 36 = some (.iconst 0, 1, (0, 0, 0, 0, 0)) := s174_2 4
theorem i174_37 : q_ins 174 37 = some (.goto 74, 3, (0, 0, 0, 0, 0)) := s174_2 5
theorem i174_40 : q_ins 174 40 = some (.iload_n 0, 1, (0, 0, 0, 0, 0)) := s174_2 8
theorem i174_41 : q_ins 174 41 = some (.bipush 12, 2, (0, 0, 0, 0, 0)) := s174_2 9
theorem i174_43 : q_ins 174 43 = some (.if_icmp .ne 17, 3, (0, 0, 0, 0, 0)) := s174_2 11
theorem i174_46 : q_ins 174 46 = some (.lload_n 1, 1, (0, 0, 0, 0, 0)) := s174_2 14
theorem i174_47 : q_ins 174 47 = some (.lload_n 3, 1, (0, 0, 0, 0, 0)) := s174_2 15
theorem i174_48 : q_ins 174 48 = some (.lcmp, 1, (0, 0, 0, 0, 0)) := s174_3 0
theorem i174_49 : q_ins 174 49 = some (.ifCond .le 7, 3, (0, 0, 0, 0, 0)) := s174_3 1
theorem i174_52 : q_ins 174 52 = some (.iconst 1, 1, (0, 0, 0, 0, 0)) := s174_3 4
theorem i174_53 : q_ins 174 53 = some (.goto 58, 3, (0, 0, 0, 0, 0)) := s174_3 5
theorem i174_56 : q_ins 174 56 = some (.iconst 0, 1, (0, 0, 0, 0, 0)) := s174_3 8
theorem i174_57 : q_ins 174 57 = some (.goto 54, 3, (0, 0, 0, 0, 0)) := s174_3 9
theorem i174_60 : q_ins 174 60 = some (.iload_n 0, 1, (0, 0, 0, 0, 0)) := s174_3 12
theorem i174_61 : q_ins 174 61 = some (.bipush 13, 2, (0, 0, 0, 0, 0)) := s174_3 13
theorem i174_63 : q_ins 174 63 = some (.if_icmp .ne 17, 3, (0, 0, 0, 0, 0)) := s174_3 15
theorem i174_66 : q_ins 174 66 = some (.lload_n 1, 1, (0, 0, 0, 0, 0)) := s174_4 2
theorem i174_67 : q_ins 174 67 = some (.lload_n 3, 1, (0, 0, 0, 0, 0)) := s174_4 3
theorem i174_68 : q_ins 174 68 = some (.lcmp, 1, (0, 0, 0, 0, 0)) := s174_4 4
theorem i174_69 : q_ins 174 69 = some (.ifCond .lt 7, 3, (0, 0, 0, 0, 0)) := s174_4 5
theorem i174_72 : q_ins 174 72 = some (.iconst 1, 1, (0, 0, 0, 0, 0)) := s174_4 8
theorem i174_73 : q_ins 174 73 = some (.goto 38, 3, (0, 0, 0, 0, 0)) := s174_4 9
theorem i174_76 : q_ins 174 76 = some (.iconst 0, 1, (0, 0, 0, 0, 0)) := s174_4 12
theorem i174_77 : q_ins 174 77 = some (.goto 34, 3, (0, 0, 0, 0, 0)) := s174_4 13
theorem i174_80 : q_ins 174 80 = some (.iload_n 0, 1, (0, 0, 0, 0, 0)) := s174_5 0
theorem i174_81 : q_ins 174 81 = some (.bipush 14, 2, (0, 0, 0, 0, 0)) := s174_5 1
theorem i174_83 : q_ins 174 83 = some (.if_icmp .ne 17, 3, (0, 0, 0, 0, 0)) := s174_5 3
theorem i174_86 : q_ins 174 86 = some (.lload_n 1, 1, (0, 0, 0, 0, 0)) := s174_5 6
theorem i174_87 : q_ins 174 87 = some (.lload_n 3, 1, (0, 0, 0, 0, 0)) := s174_5 7
theorem i174_88 : q_ins 174 88 = some (.lcmp, 1, (0, 0, 0, 0, 0)) := s174_5 8
theorem i174_89 : q_ins 174 89 = some (.ifCond .ne 7, 3, (0, 0, 0, 0, 0)) := s174_5 9
theorem i174_92 : q_ins 174 92 = some (.iconst 1, 1, (0, 0, 0, 0, 0)) := s174_5 12
theorem i174_93 : q_ins 174 93 = some (.goto 18, 3, (0, 0, 0, 0, 0)) := s174_5 13
theorem i174_96 : q_ins 174 96 = some (.iconst 0, 1, (0, 0, 0, 0, 0)) := s174_6 0
theorem i174_97 : q_ins 174 97 = some (.goto 14, 3, (0, 0, 0, 0, 0)) := s174_6 1
theorem i174_100 : q_ins 174 100 = some (.lload_n 1, 1, (0, 0, 0, 0, 0)) := s174_6 4
theorem i174_101 : q_ins 174 101 = some (.lload_n 3, 1, (0, 0, 0, 0, 0)) := s174_6 5
theorem i174_102 : q_ins 174 102 = some (.lcmp, 1, (0, 0, 0, 0, 0)) := s174_6 6
theorem i174_103 : q_ins 174 103 = some (.ifCond .eq 7, 3, (0, 0, 0, 0, 0)) := s174_6 7
theorem i174_106 : q_ins 174 106 = some (.iconst 1, 1, (0, 0, 0, 0, 0)) := s174_6 10
theorem i174_107 : q_ins 174 107 = some (.goto 4, 3, (0, 0, 0, 0, 0)) := s174_6 11
theorem i174_110 : q_ins 174 110 = some (.iconst 0, 1, (0, 0, 0, 0, 0)) := s174_6 14
theorem i174_111 : q_ins 174 111 = some (.ireturn, 1, (0, 0, 0, 0, 0)) := s174_6 15
theorem s175_0 (j : Nat) : q_ins 175 j = q_at q_c175 j := rfl
theorem s175_1 (j : Nat) : q_ins 175 (j + 16) = q_at q_c175_1 j := s175_0 (j + 16)
theorem s175_2 (j : Nat) : q_ins 175 (j + 32) = q_at q_c175_2 j := s175_1 (j + 16)
theorem s175_3 (j : Nat) : q_ins 175 (j + 48) = q_at q_c175_3 j := s175_2 (j + 16)
theorem s175_4 (j : Nat) : q_ins 175 (j + 64) = q_at q_c175_4 j := s175_3 (j + 16)
theorem s175_5 (j : Nat) : q_ins 175 (j + 80) = q_at q_c175_5 j := s175_4 (j + 16)
theorem s175_6 (j : Nat) : q_ins 175 (j + 96) = q_at q_c175_6 j := s175_5 (j + 16)
theorem i175_0 : q_ins 175 0 = some (.aload_n 0, 1, (0, 0, 0, 0, 0)) := s175_0 0
theorem i175_1 : q_ins 175 1 = some (.iconst 1, 1, (0, 0, 0, 0, 0)) := s175_0 1
theorem i175_2 : q_ins 175 2 = some (.invokevirtual 265, 3, (208, 166, 2, 0, 10)) := s175_0 2
theorem i175_5 : q_ins 175 5 = some (.istore_n 3, 1, (0, 0, 0, 0, 0)) := s175_0 5
theorem i175_6 : q_ins 175 6 = some (.iload_n 3, 1, (0, 0, 0, 0, 0)) := s175_0 6
theorem i175_7 : q_ins 175 7 = some (.ifCond .ge 13, 3, (0, 0, 0, 0, 0)) := s175_0 7
theorem i175_10 : q_ins 175 10 = some (.aload_n 0, 1, (0, 0, 0, 0, 0)) := s175_0 10
theorem i175_11 : q_ins 175 11 = some (.getfield 255, 3, (193, 10, 27, 0, 0)) := s175_0 11
theorem i175_14 : q_ins 175 14 = some (.invokestatic 271, 3, (210, 170, 1, 2, 0)) := s175_0 14
theorem i175_17 : q_ins 175 17 = some (.iload_n 2, 1, (0, 0, 0, 0, 0)) := s175_1 1
theorem i175_18 : q_ins 175 18 = some (.iadd, 1, (0, 0, 0, 0, 0)) := s175_1 2
theorem i175_19 : q_ins 175 19 = some (.ireturn, 1, (0, 0, 0, 0, 0)) := s175_1 3
theorem i175_20 : q_ins 175 20 = some (.aload_n 0, 1, (0, 0, 0, 0, 0)) := s175_1 4
theorem i175_21 : q_ins 175 21 = some (.getfield 32, 3, (169, 10, 22, 2, 0)) := s175_1 5
theorem i175_24 : q_ins 175 24 = some (.iconst 3, 1, (0, 0, 0, 0, 0)) := s175_1 8
theorem i175_25 : q_ins 175 25 = some (.aload_n 0, 1, (0, 0, 0, 0, 0)) := s175_1 9
theorem i175_26 : q_ins 175 26 = some (.getfield 7, 3, (162, 10, 0, 2, 0)) := s175_1 10
theorem i175_29 : q_ins 175 29 = some (.bipush 46, 2, (0, 0, 0, 0, 0)) := s175_1 13
theorem i175_31 : q_ins 175 31 = some (.iconst 2, 1, (0, 0, 0, 0, 0)) := s175_1 15
theorem i175_32 : q_ins 175 32 = some (.iload_n 1, 1, (0, 0, 0, 0, 0)) := s175_2 0
theorem i175_33 : q_ins 175 33 = some (.imul, 1, (0, 0, 0, 0, 0)) := s175_2 1
theorem i175_34 : q_ins 175 34 = some (.iadd, 1, (0, 0, 0, 0, 0)) := s175_2 2
theorem i175_35 : q_ins 175 35 = some (.iaload, 1, (0, 0, 0, 0, 0)) := s175_2 3
theorem i175_36 : q_ins 175 36 = some (.iastore, 1, (0, 0, 0, 0, 0)) := s175_2 4
theorem i175_37 : q_ins 175 37 = some (.aload_n 0, 1, (0, 0, 0, 0, 0)) := s175_2 5
theorem i175_38 : q_ins 175 38 = some (.getfield 32, 3, (169, 10, 22, 2, 0)) := s175_2 6
theorem i175_41 : q_ins 175 41 = some (.iconst 4, 1, (0, 0, 0, 0, 0)) := s175_2 9
theorem i175_42 : q_ins 175 42 = some (.aload_n 0, 1, (0, 0, 0, 0, 0)) := s175_2 10
theorem i175_43 : q_ins 175 43 = some (.getfield 7, 3, (162, 10, 0, 2, 0)) := s175_2 11
theorem i175_46 : q_ins 175 46 = some (.bipush 46, 2, (0, 0, 0, 0, 0)) := s175_2 14
theorem i175_48 : q_ins 175 48 = some (.iconst 2, 1, (0, 0, 0, 0, 0)) := s175_3 0
theorem i175_49 : q_ins 175 49 = some (.iload_n 1, 1, (0, 0, 0, 0, 0)) := s175_3 1
theorem i175_50 : q_ins 175 50 = some (.imul, 1, (0, 0, 0, 0, 0)) := s175_3 2
theorem i175_51 : q_ins 175 51 = some (.iadd, 1, (0, 0, 0, 0, 0)) := s175_3 3
theorem i175_52 : q_ins 175 52 = some (.iconst 1, 1, (0, 0, 0, 0, 0)) := s175_3 4
theorem i175_53 : q_ins 175 53 = some (.iadd, 1, (0, 0, 0, 0, 0)) := s175_3 5
theorem i175_54 : q_ins 175 54 = some (.iaload, 1, (0, 0, 0, 0, 0)) := s175_3 6
theorem i175_55 : q_ins 175 55 = some (.iastore, 1, (0, 0, 0, 0, 0)) := s175_3 7
theorem i175_56 : q_ins 175 56 = some (.aload_n 0, 1, (0, 0, 0, 0, 0)) := s175_3 8
theorem i175_57 : q_ins 175 57 = some (.getfield 32, 3, (169, 10, 22, 2, 0)) := s175_3 9
theorem i175_60 : q_ins 175 60 = some (.bipush 7, 2, (0, 0, 0, 0, 0)) := s175_3 12
theorem i175_62 : q_ins 175 62 = some (.aload_n 0, 1, (0, 0, 0, 0, 0)) := s175_3 14
theorem i175_63 : q_ins 175 63 = some (.getfield 255, 3, (193, 10, 27, 0, 0)) := s175_3 15
theorem i175_66 : q_ins 175 66 = some (.invokestatic 271, 3, (210, 170, 1, 2, 0)) := s175_4 2
theorem i175_69 : q_ins 175 69 = some (.iastore, 1, (0, 0, 0, 0, 0)) := s175_4 5
theorem i175_70 : q_ins 175 70 = some (.aload_n 0, 1, (0, 0, 0, 0, 0)) := s175_4 6
theorem i175_71 : q_ins 175 71 = some (.getfield 32, 3, (169, 10, 22, 2, 0)) := s175_4 7
theorem i175_74 : q_ins 175 74 = some (.bipush 8, 2, (0, 0, 0, 0, 0)) := s175_4 10
theorem i175_76 : q_ins 175 76 = some (.aload_n 0, 1, (0, 0, 0, 0, 0)) := s175_4 12
theorem i175_77 : q_ins 175 77 = some (.getfield 277, 3, (194, 10, 28, 0, 0)) := s175_4 13
theorem i175_80 : q_ins 175 80 = some (.iastore, 1, (0, 0, 0, 0, 0)) := s175_5 0
theorem i175_81 : q_ins 175 81 = some (.aload_n 0, 1, (0, 0, 0, 0, 0)) := s175_5 1
theorem i175_82 : q_ins 175 82 = some (.getfield 32, 3, (169, 10, 22, 2, 0)) := s175_5 2
theorem i175_85 : q_ins 175 85 = some (.bipush 9, 2, (0, 0, 0, 0, 0)) := s175_5 5
theorem i175_87 : q_ins 175 87 = some (.iload_n 2, 1, (0, 0, 0, 0, 0)) := s175_5 7
theorem i175_88 : q_ins 175 88 = some (.iastore, 1, (0, 0, 0, 0, 0)) := s175_5 8
theorem i175_89 : q_ins 175 89 = some (.aload_n 0, 1, (0, 0, 0, 0, 0)) := s175_5 9
theorem i175_90 : q_ins 175 90 = some (.iload_n 3, 1, (0, 0, 0, 0, 0)) := s175_5 10
theorem i175_91 : q_ins 175 91 = some (.invokevirtual 274, 3, (211, 171, 2, 0, 10)) := s175_5 11
theorem i175_94 : q_ins 175 94 = some (.aload_n 0, 1, (0, 0, 0, 0, 0)) := s175_5 14
theorem i175_95 : q_ins 175 95 = some (.getfield 35, 3, (170, 10, 23, 2, 0)) := s175_5 15
theorem i175_98 : q_ins 175 98 = some (.iconst 0, 1, (0, 0, 0, 0, 0)) := s175_6 2
theorem i175_99 : q_ins 175 99 = some (.laload, 1, (0, 0, 0, 0, 0)) := s175_6 3
theorem i175_100 : q_ins 175 100 = some (.bipush 99, 2, (0, 0, 0, 0, 0)) := s175_6 4
theorem i175_102 : q_ins 175 102 = some (.invokestatic 283, 3, (217, 176, 2, 2, 0)) := s175_6 6
theorem i175_105 : q_ins 175 105 = some (.ireturn, 1, (0, 0, 0, 0, 0)) := s175_6 9
theorem s176_0 (j : Nat) : q_ins 176 j = q_at q_c176 j := rfl
theorem s176_1 (j : Nat) : q_ins 176 (j + 16) = q_at q_c176_1 j := s176_0 (j + 16)
theorem i176_0 : q_ins 176 0 = some (.lload_n 0, 1, (0, 0, 0, 0, 0)) := s176_0 0
theorem i176_1 : q_ins 176 1 = some (.lconst 0, 1, (0, 0, 0, 0, 0)) := s176_0 1
theorem i176_2 : q_ins 176 2 = some (.lcmp, 1, (0, 0, 0, 0, 0)) := s176_0 2
theorem i176_3 : q_ins 176 3 = some (.ifCond .ge 7, 3, (0, 0, 0, 0, 0)) := s176_0 3
theorem i176_6 : q_ins 176 6 = some (.iconst 0, 1, (0, 0, 0, 0, 0)) := s176_0 6
theorem i176_7 : q_ins 176 7 = some (.goto 16, 3, (0, 0, 0, 0, 0)) := s176_0 7
theorem i176_10 : q_ins 176 10 = some (.lload_n 0, 1, (0, 0, 0, 0, 0)) := s176_0 10
theorem i176_11 : q_ins 176 11 = some (.iload_n 2, 1, (0, 0, 0, 0, 0)) := s176_0 11
theorem i176_12 : q_ins 176 12 = some (.i2l, 1, (0, 0, 0, 0, 0)) := s176_0 12
theorem i176_13 : q_ins 176 13 = some (.lcmp, 1, (0, 0, 0, 0, 0)) := s176_0 13
theorem i176_14 : q_ins 176 14 = some (.ifCond .le 7, 3, (0, 0, 0, 0, 0)) := s176_0 14
theorem i176_17 : q_ins 176 17 = some (.iload_n 2, 1, (0, 0, 0, 0, 0)) := s176_1 1
theorem i176_18 : q_ins 176 18 = some (.goto 5, 3, (0, 0, 0, 0, 0)) := s176_1 2
theorem i176_21 : q_ins 176 21 = some (.lload_n 0, 1, (0, 0, 0, 0, 0)) := s176_1 5
theorem i176_22 : q_ins 176 22 = some (.l2i, 1, (0, 0, 0, 0, 0)) := s176_1 6
theorem i176_23 : q_ins 176 23 = some (.ireturn, 1, (0, 0, 0, 0, 0)) := s176_1 7
theorem s177_0 (j : Nat) : q_ins 177 j = q_at q_c177 j := rfl
theorem s177_1 (j : Nat) : q_ins 177 (j + 16) = q_at q_c177_1 j := s177_0 (j + 16)
theorem s177_2 (j : Nat) : q_ins 177 (j + 32) = q_at q_c177_2 j := s177_1 (j + 16)
theorem s177_3 (j : Nat) : q_ins 177 (j + 48) = q_at q_c177_3 j := s177_2 (j + 16)
theorem s177_4 (j : Nat) : q_ins 177 (j + 64) = q_at q_c177_4 j := s177_3 (j + 16)
theorem s177_5 (j : Nat) : q_ins 177 (j + 80) = q_at q_c177_5 j := s177_4 (j + 16)
theorem s177_6 (j : Nat) : q_ins 177 (j + 96) = q_at q_c177_6 j := s177_5 (j + 16)
theorem s177_7 (j : Nat) : q_ins 177 (j + 112) = q_at q_c177_7 j := s177_6 (j + 16)
theorem s177_8 (j : Nat) : q_ins 177 (j + 128) = q_at q_c177_8 j := s177_7 (j + 16)
theorem s177_9 (j : Nat) : q_ins 177 (j + 144) = q_at q_c177_9 j := s177_8 (j + 16)
theorem i177_0 : q_ins 177 0 = some (.aload_n 0, 1, (0, 0, 0, 0, 0)) := s177_0 0
theorem i177_1 : q_ins 177 1 = some (.getfield 7, 3, (162, 10, 0, 2, 0)) := s177_0 1
theorem i177_4 : q_ins 177 4 = some (.bipush 6, 2, (0, 0, 0, 0, 0)) := s177_0 4
theorem i177_6 : q_ins 177 6 = some (.iaload, 1, (0, 0, 0, 0, 0)) := s177_0 6
theorem i177_7 : q_ins 177 7 = some (.ifCond .ne 5, 3, (0, 0, 0, 0, 0)) := s177_0 7
theorem i177_10 : q_ins 177 10 = some (.iconst (-1), 1, (0, 0, 0, 0, 0)) := s177_0 10
theorem i177_11 : q_ins 177 11 = some (.ireturn, 1, (0, 0, 0, 0, 0)) := s177_0 11
theorem i177_12 : q_ins 177 12 = some (.aload_n 0, 1, (0, 0, 0, 0, 0)) := s177_0 12
theorem i177_13 : q_ins 177 13 = some (.getfield 7, 3, (162, 10, 0, 2, 0)) := s177_0 13
theorem i177_16 : q_ins 177 16 = some (.bipush 6, 2, (0, 0, 0, 0, 0)) := s177_1 0
theorem i177_18 : q_ins 177 18 = some (.dup2, 1, (0, 0, 0, 0, 0)) := s177_1 2
theorem i177_19 : q_ins 177 19 = some (.iaload, 1, (0, 0, 0, 0, 0)) := s177_1 3
theorem i177_20 : q_ins 177 20 = some (.iconst 1, 1, (0, 0, 0, 0, 0)) := s177_1 4
theorem i177_21 : q_ins 177 21 = some (.isub, 1, (0, 0, 0, 0, 0)) := s177_1 5
theorem i177_22 : q_ins 177 22 = some (.iastore, 1, (0, 0, 0, 0, 0)) := s177_1 6
theorem i177_23 : q_ins 177 23 = some (.bipush 76, 2, (0, 0, 0, 0, 0)) := s177_1 7
theorem i177_25 : q_ins 177 25 = some (.bipush 21, 2, (0, 0, 0, 0, 0)) := s177_1 9
theorem i177_27 : q_ins 177 27 = some (.aload_n 0, 1, (0, 0, 0, 0, 0)) := s177_1 11
theorem i177_28 : q_ins 177 28 = some (.getfield 7, 3, (162, 10, 0, 2, 0)) := s177_1 12
theorem i177_31 : q_ins 177 31 = some (.bipush 6, 2, (0, 0, 0, 0, 0)) := s177_1 15
theorem i177_33 : q_ins 177 33 = some (.iaload, 1, (0, 0, 0, 0, 0)) := s177_2 1
theorem i177_34 : q_ins 177 34 = some (.imul, 1, (0, 0, 0, 0, 0)) := s177_2 2
theorem i177_35 : q_ins 177 35 = some (.iadd, 1, (0, 0, 0, 0, 0)) := s177_2 3
theorem i177_36 : q_ins 177 36 = some (.istore_n 1, 1, (0, 0, 0, 0, 0)) := s177_2 4
theorem i177_37 : q_ins 177 37 = some (.aload_n 0, 1, (0, 0, 0, 0, 0)) := s177_2 5
theorem i177_38 : q_ins 177 38 = some (.getfield 7, 3, (162, 10, 0, 2, 0)) := s177_2 6
theorem i177_41 : q_ins 177 41 = some (.iconst 3, 1, (0, 0, 0, 0, 0)) := s177_2 9
theorem i177_42 : q_ins 177 42 = some (.aload_n 0, 1, (0, 0, 0, 0, 0)) := s177_2 10
theorem i177_43 : q_ins 177 43 = some (.getfield 7, 3, (162, 10, 0, 2, 0)) := s177_2 11
theorem i177_46 : q_ins 177 46 = some (.iload_n 1, 1, (0, 0, 0, 0, 0)) := s177_2 14
theorem i177_47 : q_ins 177 47 = some (.iconst 1, 1, (0, 0, 0, 0, 0)) := s177_2 15
theorem i177_48 : q_ins 177 48 = some (.iadd, 1, (0, 0, 0, 0, 0)) := s177_3 0
theorem i177_49 : q_ins 177 49 = some (.iaload, 1, (0, 0, 0, 0, 0)) := s177_3 1
theorem i177_50 : q_ins 177 50 = some (.iastore, 1, (0, 0, 0, 0, 0)) := s177_3 2
theorem i177_51 : q_ins 177 51 = some (.aload_n 0, 1, (0, 0, 0, 0, 0)) := s177_3 3
theorem i177_52 : q_ins 177 52 = some (.getfield 7, 3, (162, 10, 0, 2, 0)) := s177_3 4
theorem i177_55 : q_ins 177 55 = some (.iconst 2, 1, (0, 0, 0, 0, 0)) := s177_3 7
theorem i177_56 : q_ins 177 56 = some (.aload_n 0, 1, (0, 0, 0, 0, 0)) := s177_3 8
theorem i177_57 : q_ins 177 57 = some (.getfield 7, 3, (162, 10, 0, 2, 0)) := s177_3 9
theorem i177_60 : q_ins 177 60 = some (.iload_n 1, 1, (0, 0, 0, 0, 0)) := s177_3 12
theorem i177_61 : q_ins 177 61 = some (.iconst 2, 1, (0, 0, 0, 0, 0)) := s177_3 13
theorem i177_62 : q_ins 177 62 = some (.iadd, 1, (0, 0, 0, 0, 0)) := s177_3 14
theorem i177_63 : q_ins 177 63 = some (.iaload, 1, (0, 0, 0, 0, 0)) := s177_3 15
theorem i177_64 : q_ins 177 64 = some (.iastore, 1, (0, 0, 0, 0, 0)) := s177_4 0
theorem i177_65 : q_ins 177 65 = some (.iconst 0, 1, (0, 0, 0, 0, 0)) := s177_4 1
theorem i177_66 : q_ins 177 66 = some (.istore_n 2, 1, (0, 0, 0, 0, 0)) := s177_4 2
theorem i177_67 : q_ins 177 67 = some (.iload_n 2, 1, (0, 0, 0, 0, 0)) := s177_4 3
theorem i177_68 : q_ins 177 68 = some (.aload_n 0, 1, (0, 0, 0, 0, 0)) := s177_4 4
theorem i177_69 : q_ins 177 69 = some (.getfield 7, 3, (162, 10, 0, 2, 0)) := s177_4 5
theorem i177_72 : q_ins 177 72 = some (.iconst 0, 1, (0, 0, 0, 0, 0)) := s177_4 8
theorem i177_73 : q_ins 177 73 = some (.iaload, 1, (0, 0, 0, 0, 0)) := s177_4 9
theorem i177_74 : q_ins 177 74 = some (.if_icmp .ge 66, 3, (0, 0, 0, 0, 0)) := s177_4 10
theorem i177_77 : q_ins 177 77 = some (.iconst 0, 1, (0, 0, 0, 0, 0)) := s177_4 13
theorem i177_78 : q_ins 177 78 = some (.istore_n 3, 1, (0, 0, 0, 0, 0)) := s177_4 14
theorem i177_79 : q_ins 177 79 = some (.iload_n 3, 1, (0, 0, 0, 0, 0)) := s177_4 15
theorem i177_80 : q_ins 177 80 = some (.iconst 3, 1, (0, 0, 0, 0, 0)) := s177_5 0
theorem i177_81 : q_ins 177 81 = some (.if_icmp .ge 53, 3, (0, 0, 0, 0, 0)) := s177_5 1
theorem i177_84 : q_ins 177 84 = some (.aload_n 0, 1, (0, 0, 0, 0, 0)) := s177_5 4
theorem i177_85 : q_ins 177 85 = some (.iload_n 2, 1, (0, 0, 0, 0, 0)) := s177_5 5
theorem i177_86 : q_ins 177 86 = some (.iconst 3, 1, (0, 0, 0, 0, 0)) := s177_5 6
theorem i177_87 : q_ins 177 87 = some (.iload_n 3, 1, (0, 0, 0, 0, 0)) := s177_5 7
theorem i177_88 : q_ins 177 88 = some (.iadd, 1, (0, 0, 0, 0, 0)) := s177_5 8
theorem i177_89 : q_ins 177 89 = some (.iload_n 2, 1, (0, 0, 0, 0, 0)) := s177_5 9
theorem i177_90 : q_ins 177 90 = some (.aload_n 0, 1, (0, 0, 0, 0, 0)) := s177_5 10
theorem i177_91 : q_ins 177 91 = some (.getfield 7, 3, (162, 10, 0, 2, 0)) := s177_5 11
theorem i177_94 : q_ins 177 94 = some (.iload_n 1, 1, (0, 0, 0, 0, 0)) := s177_5 14
theorem i177_95 : q_ins 177 95 = some (.iaload, 1, (0, 0, 0, 0, 0)) := s177_5 15
theorem i177_96 : q_ins 177 96 = some (.if_icmp .ge 20, 3, (0, 0, 0, 0, 0)) := s177_6 0
theorem i177_99 : q_ins 177 99 = some (.aload_n 0, 1, (0, 0, 0, 0, 0)) := s177_6 3
theorem i177_100 : q_ins 177 100 = some (.getfield 7, 3, (162, 10, 0, 2, 0)) := s177_6 4
theorem i177_103 : q_ins 177 103 = some (.iload_n 1, 1, (0, 0, 0, 0, 0)) := s177_6 7
theorem i177_104 : q_ins 177 104 = some (.iconst 3, 1, (0, 0, 0, 0, 0)) := s177_6 8
theorem i177_105 : q_ins 177 105 = some (.iadd, 1, (0, 0, 0, 0, 0)) := s177_6 9
theorem i177_106 : q_ins 177 106 = some (.iconst 3, 1, (0, 0, 0, 0, 0)) := s177_6 10
theorem i177_107 : q_ins 177 107 = some (.iload_n 2, 1, (0, 0, 0, 0, 0)) := s177_6 11
theorem i177_108 : q_ins 177 108 = some (.imul, 1, (0, 0, 0, 0, 0)) := s177_6 12
theorem i177_109 : q_ins 177 109 = some (.iadd, 1, (0, 0, 0, 0, 0)) := s177_6 13
theorem i177_110 : q_ins 177 110 = some (.iload_n 3, 1, (0, 0, 0, 0, 0)) := s177_6 14
theorem i177_111 : q_ins 177 111 = some (.iadd, 1, (0, 0, 0, 0, 0)) := s177_6 15
theorem i177_112 : q_ins 177 112 = some (.iaload, 1, (0, 0, 0, 0, 0)) := s177_7 0
theorem i177_113 : q_ins 177 113 = some (.goto 12, 3, (0, 0, 0, 0, 0)) := s177_7 1
theorem i177_116 : q_ins 177 116 = some (.iload_n 3, 1, (0, 0, 0, 0, 0)) := s177_7 4
theorem i177_117 : q_ins 177 117 = some (.ifCond .ne 7, 3, (0, 0, 0, 0, 0)) := s177_7 5
theorem i177_120 : q_ins 177 120 = some (.iconst (-1), 1, (0, 0, 0, 0, 0)) := s177_7 8
theorem i177_121 : q_ins 177 121 = some (.goto 4, 3, (0, 0, 0, 0, 0)) := s177_7 9
theorem i177_124 : q_ins 177 124 = some (.iconst 0, 1, (0, 0, 0, 0, 0)) := s177_7 12
theorem i177_125 : q_ins 177 125 = some (.invokevirtual 79, 3, (168, 119, 4, 0, 10)) := s177_7 13
theorem i177_128 : q_ins 177 128 = some (.iinc 3 1, 3, (0, 0, 0, 0, 0)) := s177_8 0
theorem i177_131 : q_ins 177 131 = some (.goto (-52), 3, (0, 0, 0, 0, 0)) := s177_8 3
theorem i177_134 : q_ins 177 134 = some (.iinc 2 1, 3, (0, 0, 0, 0, 0)) := s177_8 6
theorem i177_137 : q_ins 177 137 = some (.goto (-70), 3, (0, 0, 0, 0, 0)) := s177_8 9
theorem i177_140 : q_ins 177 140 = some (.aload_n 0, 1, (0, 0, 0, 0, 0)) := s177_8 12
theorem i177_141 : q_ins 177 141 = some (.getfield 7, 3, (162, 10, 0, 2, 0)) := s177_8 13
theorem i177_144 : q_ins 177 144 = some (.bipush 6, 2, (0, 0, 0, 0, 0)) := s177_9 0
theorem i177_146 : q_ins 177 146 = some (.iaload, 1, (0, 0, 0, 0, 0)) := s177_9 2
theorem i177_147 : q_ins 177 147 = some (.ireturn, 1, (0, 0, 0, 0, 0)) := s177_9 3
theorem s178_0 (j : Nat) : q_ins 178 j = q_at q_c178 j := rfl
theorem s178_1 (j : Nat) : q_ins 178 (j + 16) = q_at q_c178_1 j := s178_0 (j + 16)
theorem s178_2 (j : Nat) : q_ins 178 (j + 32) = q_at q_c178_2 j := s178_1 (j + 16)
theorem s178_3 (j : Nat) : q_ins 178 (j + 48) = q_at q_c178_3 j := s178_2 (j + 16)
theorem i178_0 : q_ins 178 0 = some (.aload_n 0, 1, (0, 0, 0, 0, 0)) := s178_0 0
theorem i178_1 : q_ins 178 1 = some (.iload_n 1, 1, (0, 0, 0, 0, 0)) := s178_0 1
theorem i178_2 : q_ins 178 2 = some (.invokevirtual 249, 3, (202, 160, 2, 0, 10)) := s178_0 2
theorem i178_5 : q_ins 178 5 = some (.ifCond .eq 35, 3, (0, 0, 0, 0, 0)) := s178_0 5
theorem i178_8 : q_ins 178 8 = some (.iload_n 2, 1, (0, 0, 0, 0, 0)) := s178_0 8
theorem i178_9 : q_ins 178 9 = some (.iconst (-1), 1, (0, 0, 0, 0, 0)) := s178_0 9
theorem i178_10 : q_ins 178 10 = some (.bipush 15, 2, (0, 0, 0, 0, 0)) := s178_0 10
theorem i178_12 : q_ins 178 12 = some (.invokestatic 71, 3, (167, 118, 3, 2, 0)) := s178_0 12
theorem i178_15 : q_ins 178 15 = some (.ifCond .eq 25, 3, (0, 0, 0, 0, 0)) := s178_0 15
theorem i178_18 : q_ins 178 18 = some (.aload_n 0, 1, (0, 0, 0, 0, 0)) := s178_1 2
theorem i178_19 : q_ins 178 19 = some (.iload_n 1, 1, (0, 0, 0, 0, 0)) := s178_1 3
theorem i178_20 : q_ins 178 20 = some (.iconst 3, 1, (0, 0, 0, 0, 0)) := s178_1 4
theorem i178_21 : q_ins 178 21 = some (.invokevirtual 75, 3, (203, 161, 3, 0, 10)) := s178_1 5
theorem i178_24 : q_ins 178 24 = some (.iload_n 2, 1, (0, 0, 0, 0, 0)) := s178_1 8
theorem i178_25 : q_ins 178 25 = some (.if_icmp .eq 15, 3, (0, 0, 0, 0, 0)) := s178_1 9
theorem i178_28 : q_ins 178 28 = some (.iload_n 2, 1, (0, 0, 0, 0, 0)) := s178_1 12
theorem i178_29 : q_ins 178 29 = some (.ifCond .lt 13, 3, (0, 0, 0, 0, 0)) := s178_1 13
theorem i178_32 : q_ins 178 32 = some (.aload_n 0, 1, (0, 0, 0, 0, 0)) := s178_2 0
theorem i178_33 : q_ins 178 33 = some (.iload_n 2, 1, (0, 0, 0, 0, 0)) := s178_2 1
theorem i178_34 : q_ins 178 34 = some (.invokevirtual 302, 3, (218, 179, 2, 0, 10)) := s178_2 2
theorem i178_37 : q_ins 178 37 = some (.ifCond .lt 5, 3, (0, 0, 0, 0, 0)) := s178_2 5
theorem i178_40 : q_ins 178 40 = some (.iconst 0, 1, (0, 0, 0, 0, 0)) := s178_2 8
theorem i178_41 : q_ins 178 41 = some (.ireturn, 1, (0, 0, 0, 0, 0)) := s178_2 9
theorem i178_42 : q_ins 178 42 = some (.aload_n 0, 1, (0, 0, 0, 0, 0)) := s178_2 10
theorem i178_43 : q_ins 178 43 = some (.invokevirtual 305, 3, (219, 180, 1, 0, 10)) := s178_2 11
theorem i178_46 : q_ins 178 46 = some (.aload_n 0, 1, (0, 0, 0, 0, 0)) := s178_2 14
theorem i178_47 : q_ins 178 47 = some (.iload_n 1, 1, (0, 0, 0, 0, 0)) := s178_2 15
theorem i178_48 : q_ins 178 48 = some (.iconst 3, 1, (0, 0, 0, 0, 0)) := s178_3 0
theorem i178_49 : q_ins 178 49 = some (.iload_n 2, 1, (0, 0, 0, 0, 0)) := s178_3 1
theorem i178_50 : q_ins 178 50 = some (.invokevirtual 79, 3, (168, 119, 4, 0, 10)) := s178_3 2
theorem i178_53 : q_ins 178 53 = some (.iconst 1, 1, (0, 0, 0, 0, 0)) := s178_3 5
theorem i178_54 : q_ins 178 54 = some (.ireturn, 1, (0, 0, 0, 0, 0)) := s178_3 6
theorem s179_0 (j : Nat) : q_ins 179 j = q_at q_c179 j := rfl
theorem s179_1 (j : Nat) : q_ins 179 (j + 16) = q_at q_c179_1 j := s179_0 (j + 16)
theorem i179_0 : q_ins 179 0 = some (.iconst 0, 1, (0, 0, 0, 0, 0)) := s179_0 0
theorem i179_1 : q_ins 179 1 = some (.istore_n 2, 1, (0, 0, 0, 0, 0)) := s179_0 1
theorem i179_2 : q_ins 179 2 = some (.iload_n 2, 1, (0, 0, 0, 0, 0)) := s179_0 2
theorem i179_3 : q_ins 179 3 = some (.aload_n 0, 1, (0, 0, 0, 0, 0)) := s179_0 3
theorem i179_4 : q_ins 179 4 = some (.getfield 7, 3, (162, 10, 0, 2, 0)) := s179_0 4
theorem i179_7 : q_ins 179 7 = some (.iconst 0, 1, (0, 0, 0, 0, 0)) := s179_0 7
theorem i179_8 : q_ins 179 8 = some (.iaload, 1, (0, 0, 0, 0, 0)) := s179_0 8
theorem i179_9 : q_ins 179 9 = some (.if_icmp .ge 21, 3, (0, 0, 0, 0, 0)) := s179_0 9
theorem i179_12 : q_ins 179 12 = some (.aload_n 0, 1, (0, 0, 0, 0, 0)) := s179_0 12
theorem i179_13 : q_ins 179 13 = some (.iload_n 2, 1, (0, 0, 0, 0, 0)) := s179_0 13
theorem i179_14 : q_ins 179 14 = some (.iconst 3, 1, (0, 0, 0, 0, 0)) := s179_0 14
theorem i179_15 : q_ins 179 15 = some (.invokevirtual 75, 3, (203, 161, 3, 0, 10)) := s179_0 15
theorem i179_18 : q_ins 179 18 = some (.iload_n 1, 1, (0, 0, 0, 0, 0)) := s179_1 2
theorem i179_19 : q_ins 179 19 = some (.if_icmp .ne 5, 3, (0, 0, 0, 0, 0)) := s179_1 3
theorem i179_22 : q_ins 179 22 = some (.iload_n 2, 1, (0, 0, 0, 0, 0)) := s179_1 6
theorem i179_23 : q_ins 179 23 = some (.ireturn, 1, (0, 0, 0, 0, 0)) := s179_1 7
theorem i179_24 : q_ins 179 24 = some (.iinc 2 1, 3, (0, 0, 0, 0, 0)) := s179_1 8
theorem i179_27 : q_ins 179 27 = some (.goto (-25), 3, (0, 0, 0, 0, 0)) := s179_1 11
theorem i179_30 : q_ins 179 30 = some (.iconst (-1), 1, (0, 0, 0, 0, 0)) := s179_1 14
theorem i179_31 : q_ins 179 31 = some (.ireturn, 1, (0, 0, 0, 0, 0)) := s179_1 15
theorem s180_0 (j : Nat) : q_ins 180 j = q_at q_c180 j := rfl
theorem s180_1 (j : Nat) : q_ins 180 (j + 16) = q_at q_c180_1 j := s180_0 (j + 16)
theorem s180_2 (j : Nat) : q_ins 180 (j + 32) = q_at q_c180_2 j := s180_1 (j + 16)
theorem s180_3 (j : Nat) : q_ins 180 (j + 48) = q_at q_c180_3 j := s180_2 (j + 16)
theorem s180_4 (j : Nat) : q_ins 180 (j + 64) = q_at q_c180_4 j := s180_3 (j + 16)
theorem s180_5 (j : Nat) : q_ins 180 (j + 80) = q_at q_c180_5 j := s180_4 (j + 16)
theorem s180_6 (j : Nat) : q_ins 180 (j + 96) = q_at q_c180_6 j := s180_5 (j + 16)
theorem s180_7 (j : Nat) : q_ins 180 (j + 112) = q_at q_c180_7 j := s180_6 (j + 16)
theorem s180_8 (j : Nat) : q_ins 180 (j + 128) = q_at q_c180_8 j := s180_7 (j + 16)
theorem s180_9 (j : Nat) : q_ins 180 (j + 144) = q_at q_c180_9 j := s180_8 (j + 16)
theorem s180_10 (j : Nat) : q_ins 180 (j + 160) = q_at q_c180_10 j := s180_9 (j + 16)
theorem i180_0 : q_ins 180 0 = some (.aload_n 0, 1, (0, 0, 0, 0, 0)) := s180_0 0
theorem i180_1 : q_ins 180 1 = some (.getfield 7, 3, (162, 10, 0, 2, 0)) := s180_0 1
theorem i180_4 : q_ins 180 4 = some (.bipush 6, 2, (0, 0, 0, 0, 0)) := s180_0 4
theorem i180_6 : q_ins 180 6 = some (.iaload, 1, (0, 0, 0, 0, 0)) := s180_0 6
theorem i180_7 : q_ins 180 7 = some (.bipush 30, 2, (0, 0, 0, 0, 0)) := s180_0 7
theorem i180_9 : q_ins 180 9 = some (.if_icmp .ne 47, 3, (0, 0, 0, 0, 0)) := s180_0 9
theorem i180_12 : q_ins 180 12 = some (.iconst 0, 1, (0, 0, 0, 0, 0)) := s180_0 12
theorem i180_13 : q_ins 180 13 = some (.istore_n 1, 1, (0, 0, 0, 0, 0)) := s180_0 13
theorem i180_14 : q_ins 180 14 = some (.iload_n 1, 1, (0, 0, 0, 0, 0)) := s180_0 14
theorem i180_15 : q_ins 180 15 = some (.sipush 609, 3, (0, 0, 0, 0, 0)) := s180_0 15
theorem i180_18 : q_ins 180 18 = some (.if_icmp .ge 27, 3, (0, 0, 0, 0, 0)) := s180_1 2
theorem i180_21 : q_ins 180 21 = some (.aload_n 0, 1, (0, 0, 0, 0, 0)) := s180_1 5
theorem i180_22 : q_ins 180 22 = some (.getfield 7, 3, (162, 10, 0, 2, 0)) := s180_1 6
theorem i180_25 : q_ins 180 25 = some (.bipush 76, 2, (0, 0, 0, 0, 0)) := s180_1 9
theorem i180_27 : q_ins 180 27 = some (.iload_n 1, 1, (0, 0, 0, 0, 0)) := s180_1 11
theorem i180_28 : q_ins 180 28 = some (.iadd, 1, (0, 0, 0, 0, 0)) := s180_1 12
theorem i180_29 : q_ins 180 29 = some (.aload_n 0, 1, (0, 0, 0, 0, 0)) := s180_1 13
theorem i180_30 : q_ins 180 30 = some (.getfield 7, 3, (162, 10, 0, 2, 0)) := s180_1 14
theorem i180_33 : q_ins 180 33 = some (.bipush 97, 2, (0, 0, 0, 0, 0)) := s180_2 1
theorem i180_35 : q_ins 180 35 = some (.iload_n 1, 1, (0, 0, 0, 0, 0)) := s180_2 3
theorem i180_36 : q_ins 180 36 = some (.iadd, 1, (0, 0, 0, 0, 0)) := s180_2 4
theorem i180_37 : q_ins 180 37 = some (.iaload, 1, (0, 0, 0, 0, 0)) := s180_2 5
theorem i180_38 : q_ins 180 38 = some (.iastore, 1, (0, 0, 0, 0, 0)) := s180_2 6
theorem i180_39 : q_ins 180 39 = some (.iinc 1 1, 3, (0, 0, 0, 0, 0)) := s180_2 7
theorem i180_42 : q_ins 180 42 = some (.goto (-28), 3, (0, 0, 0, 0, 0)) := s180_2 10
theorem i180_45 : q_ins 180 45 = some (.aload_n 0, 1, (0, 0, 0, 0, 0)) := s180_2 13
theorem i180_46 : q_ins 180 46 = some (.getfield 7, 3, (162, 10, 0, 2, 0)) := s180_2 14
theorem i180_49 : q_ins 180 49 = some (.bipush 6, 2, (0, 0, 0, 0, 0)) := s180_3 1
theorem i180_51 : q_ins 180 51 = some (.dup2, 1, (0, 0, 0, 0, 0)) := s180_3 3
theorem i180_52 : q_ins 180 52 = some (.iaload, 1, (0, 0, 0, 0, 0)) := s180_3 4
theorem i180_53 : q_ins 180 53 = some (.iconst 1, 1, (0, 0, 0, 0, 0)) := s180_3 5
theorem i180_54 : q_ins 180 54 = some (.isub, 1, (0, 0, 0, 0, 0)) := s180_3 6
theorem i180_55 : q_ins 180 55 = some (.iastore, 1, (0, 0, 0, 0, 0)) := s180_3 7
theorem i180_56 : q_ins 180 56 = some (.bipush 76, 2, (0, 0, 0, 0, 0)) := s180_3 8
theorem i180_58 : q_ins 180 58 = some (.bipush 21, 2, (0, 0, 0, 0, 0)) := s180_3 10
theorem i180_60 : q_ins 180 60 = some (.aload_n 0, 1, (0, 0, 0, 0, 0)) := s180_3 12
theorem i180_61 : q_ins 180 61 = some (.getfield 7, 3, (162, 10, 0, 2, 0)) := s180_3 13
theorem i180_64 : q_ins 180 64 = some (.bipush 6, 2, (0, 0, 0, 0, 0)) := s180_4 0
theorem i180_66 : q_ins 180 66 = some (.iaload, 1, (0, 0, 0, 0, 0)) := s180_4 2
theorem i180_67 : q_ins 180 67 = some (.imul, 1, (0, 0, 0, 0, 0)) := s180_4 3
theorem i180_68 : q_ins 180 68 = some (.iadd, 1, (0, 0, 0, 0, 0)) := s180_4 4
theorem i180_69 : q_ins 180 69 = some (.istore_n 1, 1, (0, 0, 0, 0, 0)) := s180_4 5
theorem i180_70 : q_ins 180 70 = some (.aload_n 0, 1, (0, 0, 0, 0, 0)) := s180_4 6
theorem i180_71 : q_ins 180 71 = some (.getfield 7, 3, (162, 10, 0, 2, 0)) := s180_4 7
theorem i180_74 : q_ins 180 74 = some (.iload_n 1, 1, (0, 0, 0, 0, 0)) := s180_4 10
theorem i180_75 : q_ins 180 75 = some (.aload_n 0, 1, (0, 0, 0, 0, 0)) := s180_4 11
theorem i180_76 : q_ins 180 76 = some (.getfield 7, 3, (162, 10, 0, 2, 0)) := s180_4 12
theorem i180_79 : q_ins 180 79 = some (.iconst 0, 1, (0, 0, 0, 0, 0)) := s180_4 15
theorem i180_80 : q_ins 180 80 = some (.iaload, 1, (0, 0, 0, 0, 0)) := s180_5 0
theorem i180_81 : q_ins 180 81 = some (.iastore, 1, (0, 0, 0, 0, 0)) := s180_5 1
theorem i180_82 : q_ins 180 82 = some (.aload_n 0, 1, (0, 0, 0, 0, 0)) := s180_5 2
theorem i180_83 : q_ins 180 83 = some (.getfield 7, 3, (162, 10, 0, 2, 0)) := s180_5 3
theorem i180_86 : q_ins 180 86 = some (.iload_n 1, 1, (0, 0, 0, 0, 0)) := s180_5 6
theorem i180_87 : q_ins 180 87 = some (.iconst 1, 1, (0, 0, 0, 0, 0)) := s180_5 7
theorem i180_88 : q_ins 180 88 = some (.iadd, 1, (0, 0, 0, 0, 0)) := s180_5 8
theorem i180_89 : q_ins 180 89 = some (.aload_n 0, 1, (0, 0, 0, 0, 0)) := s180_5 9
theorem i180_90 : q_ins 180 90 = some (.getfield 7, 3, (162, 10, 0, 2, 0)) := s180_5 10
theorem i180_93 : q_ins 180 93 = some (.iconst 3, 1, (0, 0, 0, 0, 0)) := s180_5 13
theorem i180_94 : q_ins 180 94 = some (.iaload, 1, (0, 0, 0, 0, 0)) := s180_5 14
theorem i180_95 : q_ins 180 95 = some (.iastore, 1, (0, 0, 0, 0, 0)) := s180_5 15
theorem i180_96 : q_ins 180 96 = some (.aload_n 0, 1, (0, 0, 0, 0, 0)) := s180_6 0
theorem i180_97 : q_ins 180 97 = some (.getfield 7, 3, (162, 10, 0, 2, 0)) := s180_6 1
theorem i180_100 : q_ins 180 100 = some (.iload_n 1, 1, (0, 0, 0, 0, 0)) := s180_6 4
theorem i180_101 : q_ins 180 101 = some (.iconst 2, 1, (0, 0, 0, 0, 0)) := s180_6 5
theorem i180_102 : q_ins 180 102 = some (.iadd, 1, (0, 0, 0, 0, 0)) := s180_6 6
theorem i180_103 : q_ins 180 103 = some (.aload_n 0, 1, (0, 0, 0, 0, 0)) := s180_6 7
theorem i180_104 : q_ins 180 104 = some (.getfield 7, 3, (162, 10, 0, 2, 0)) := s180_6 8
theorem i180_107 : q_ins 180 107 = some (.iconst 2, 1, (0, 0, 0, 0, 0)) := s180_6 11
theorem i180_108 : q_ins 180 108 = some (.iaload, 1, (0, 0, 0, 0, 0)) := s180_6 12
theorem i180_109 : q_ins 180 109 = some (.iastore, 1, (0, 0, 0, 0, 0)) := s180_6 13
theorem i180_110 : q_ins 180 110 = some (.iconst 0, 1, (0, 0, 0, 0, 0)) := s180_6 14
theorem i180_111 : q_ins 180 111 = some (.istore_n 2, 1, (0, 0, 0, 0, 0)) := s180_6 15
theorem i180_112 : q_ins 180 112 = some (.iload_n 2, 1, (0, 0, 0, 0, 0)) := s180_7 0
theorem i180_113 : q_ins 180 113 = some (.bipush 6, 2, (0, 0, 0, 0, 0)) := s180_7 1
theorem i180_115 : q_ins 180 115 = some (.if_icmp .ge 44, 3, (0, 0, 0, 0, 0)) := s180_7 3
theorem i180_118 : q_ins 180 118 = some (.iconst 0, 1, (0, 0, 0, 0, 0)) := s180_7 6
theorem i180_119 : q_ins 180 119 = some (.istore_n 3, 1, (0, 0, 0, 0, 0)) := s180_7 7
theorem i180_120 : q_ins 180 120 = some (.iload_n 3, 1, (0, 0, 0, 0, 0)) := s180_7 8
theorem i180_121 : q_ins 180 121 = some (.iconst 3, 1, (0, 0, 0, 0, 0)) := s180_7 9
theorem i180_122 : q_ins 180 122 = some (.if_icmp .ge 31, 3, (0, 0, 0, 0, 0)) := s180_7 10
theorem i180_125 : q_ins 180 125 = some (.aload_n 0, 1, (0, 0, 0, 0, 0)) := s180_7 13
theorem i180_126 : q_ins 180 126 = some (.getfield 7, 3, (162, 10, 0, 2, 0)) := s180_7 14
theorem i180_129 : q_ins 180 129 = some (.iload_n 1, 1, (0, 0, 0, 0, 0)) := s180_8 1
theorem i180_130 : q_ins 180 130 = some (.iconst 3, 1, (0, 0, 0, 0, 0)) := s180_8 2
theorem i180_131 : q_ins 180 131 = some (.iadd, 1, (0, 0, 0, 0, 0)) := s180_8 3
theorem i180_132 : q_ins 180 132 = some (.iconst 3, 1, (0, 0, 0, 0, 0)) := s180_8 4
theorem i180_133 : q_ins 180 133 = some (.iload_n 2, 1, (0, 0, 0, 0, 0)) := s180_8 5
theorem i180_134 : q_ins 180 134 = some (.imul, 1, (0, 0, 0, 0, 0)) := s180_8 6
theorem i180_135 : q_ins 180 135 = some (.iadd, 1, (0, 0, 0, 0, 0)) := s180_8 7
theorem i180_136 : q_ins 180 136 = some (.iload_n 3, 1, (0, 0, 0, 0, 0)) := s180_8 8
theorem i180_137 : q_ins 180 137 = some (.iadd, 1, (0, 0, 0, 0, 0)) := s180_8 9
theorem i180_138 : q_ins 180 138 = some (.aload_n 0, 1, (0, 0, 0, 0, 0)) := s180_8 10
theorem i180_139 : q_ins 180 139 = some (.iload_n 2, 1, (0, 0, 0, 0, 0)) := s180_8 11
theorem i180_140 : q_ins 180 140 = some (.iconst 3, 1, (0, 0, 0, 0, 0)) := s180_8 12
theorem i180_141 : q_ins 180 141 = some (.iload_n 3, 1, (0, 0, 0, 0, 0)) := s180_8 13
theorem i180_142 : q_ins 180 142 = some (.iadd, 1, (0, 0, 0, 0, 0)) := s180_8 14
theorem i180_143 : q_ins 180 143 = some (.invokevirtual 75, 3, (203, 161, 3, 0, 10)) := s180_8 15
theorem i180_146 : q_ins 180 146 = some (.iastore, 1, (0, 0, 0, 0, 0)) := s180_9 2
theorem i180_147 : q_ins 180 147 = some (.iinc 3 1, 3, (0, 0, 0, 0, 0)) := s180_9 3
theorem i180_150 : q_ins 180 150 = some (.goto (-30), 3, (0, 0, 0, 0, 0)) := s180_9 6
theorem i180_153 : q_ins 180 153 = some (.iinc 2 1, 3, (0, 0, 0, 0, 0)) := s180_9 9
theorem i180_156 : q_ins 180 156 = some (.goto (-44), 3, (0, 0, 0, 0, 0)) := s180_9 12
theorem i180_159 : q_ins 180 159 = some (.aload_n 0, 1, (0, 0, 0, 0, 0)) := s180_9 15
theorem i180_160 : q_ins 180 160 = some (.getfield 7, 3, (162, 10, 0, 2, 0)) := s180_10 0
theorem i180_163 : q_ins 180 163 = some (.bipush 6, 2, (0, 0, 0, 0, 0)) := s180_10 3
theorem i180_165 : q_ins 180 165 = some (.dup2, 1, (0, 0, 0, 0, 0)) := s180_10 5
theorem i180_166 : q_ins 180 166 = some (.iaload, 1, (0, 0, 0, 0, 0)) := s180_10 6
theorem i180_167 : q_ins 180 167 = some (.iconst 1, 1, (0, 0, 0, 0, 0)) := s180_10 7
theorem i180_168 : q_ins 180 168 = some (.iadd, 1, (0, 0, 0, 0, 0)) := s180_10 8
theorem i180_169 : q_ins 180 169 = some (.iastore, 1, (0, 0, 0, 0, 0)) := s180_10 9
theorem i180_170 : q_ins 180 170 = some (.return_, 1, (0, 0, 0, 0, 0)) := s180_10 10
theorem s181_0 (j : Nat) : q_ins 181 j = q_at q_c181 j := rfl
theorem s181_1 (j : Nat) : q_ins 181 (j + 16) = q_at q_c181_1 j := s181_0 (j + 16)
theorem s181_2 (j : Nat) : q_ins 181 (j + 32) = q_at q_c181_2 j := s181_1 (j + 16)
theorem s181_3 (j : Nat) : q_ins 181 (j + 48) = q_at q_c181_3 j := s181_2 (j + 16)
theorem i181_0 : q_ins 181 0 = some (.aload_n 0, 1, (0, 0, 0, 0, 0)) := s181_0 0
theorem i181_1 : q_ins 181 1 = some (.iload_n 1, 1, (0, 0, 0, 0, 0)) := s181_0 1
theorem i181_2 : q_ins 181 2 = some (.invokevirtual 249, 3, (202, 160, 2, 0, 10)) := s181_0 2
theorem i181_5 : q_ins 181 5 = some (.ifCond .eq 21, 3, (0, 0, 0, 0, 0)) := s181_0 5
theorem i181_8 : q_ins 181 8 = some (.aload_n 0, 1, (0, 0, 0, 0, 0)) := s181_0 8
theorem i181_9 : q_ins 181 9 = some (.iload_n 1, 1, (0, 0, 0, 0, 0)) := s181_0 9
theorem i181_10 : q_ins 181 10 = some (.iconst 4, 1, (0, 0, 0, 0, 0)) := s181_0 10
theorem i181_11 : q_ins 181 11 = some (.invokevirtual 75, 3, (203, 161, 3, 0, 10)) := s181_0 11
theorem i181_14 : q_ins 181 14 = some (.iload_n 2, 1, (0, 0, 0, 0, 0)) := s181_0 14
theorem i181_15 : q_ins 181 15 = some (.ifCond .eq 7, 3, (0, 0, 0, 0, 0)) := s181_0 15
theorem i181_18 : q_ins 181 18 = some (.iconst 1, 1, (0, 0, 0, 0, 0)) := s181_1 2
theorem i181_19 : q_ins 181 19 = some (.goto 4, 3, (0, 0, 0, 0, 0)) := s181_1 3
theorem i181_22 : q_ins 181 22 = some (.iconst 0, 1, (0, 0, 0, 0, 0)) := s181_1 6
theorem i181_23 : q_ins 181 23 = some (.if_icmp .ne 5, 3, (0, 0, 0, 0, 0)) := s181_1 7
theorem i181_26 : q_ins 181 26 = some (.iconst 0, 1, (0, 0, 0, 0, 0)) := s181_1 10
theorem i181_27 : q_ins 181 27 = some (.ireturn, 1, (0, 0, 0, 0, 0)) := s181_1 11
theorem i181_28 : q_ins 181 28 = some (.aload_n 0, 1, (0, 0, 0, 0, 0)) := s181_1 12
theorem i181_29 : q_ins 181 29 = some (.invokevirtual 305, 3, (219, 180, 1, 0, 10)) := s181_1 13
theorem i181_32 : q_ins 181 32 = some (.aload_n 0, 1, (0, 0, 0, 0, 0)) := s181_2 0
theorem i181_33 : q_ins 181 33 = some (.iload_n 1, 1, (0, 0, 0, 0, 0)) := s181_2 1
theorem i181_34 : q_ins 181 34 = some (.iconst 4, 1, (0, 0, 0, 0, 0)) := s181_2 2
theorem i181_35 : q_ins 181 35 = some (.iload_n 2, 1, (0, 0, 0, 0, 0)) := s181_2 3
theorem i181_36 : q_ins 181 36 = some (.ifCond .eq 7, 3, (0, 0, 0, 0, 0)) := s181_2 4
theorem i181_39 : q_ins 181 39 = some (.iconst 1, 1, (0, 0, 0, 0, 0)) := s181_2 7
theorem i181_40 : q_ins 181 40 = some (.goto 4, 3, (0, 0, 0, 0, 0)) := s181_2 8
theorem i181_43 : q_ins 181 43 = some (.iconst 0, 1, (0, 0, 0, 0, 0)) := s181_2 11
theorem i181_44 : q_ins 181 44 = some (.invokevirtual 79, 3, (168, 119, 4, 0, 10)) := s181_2 12
theorem i181_47 : q_ins 181 47 = some (.iconst 1, 1, (0, 0, 0, 0, 0)) := s181_2 15
theorem i181_48 : q_ins 181 48 = some (.ireturn, 1, (0, 0, 0, 0, 0)) := s181_3 0
theorem s182_0 (j : Nat) : q_ins 182 j = q_at q_c182 j := rfl
theorem s182_1 (j : Nat) : q_ins 182 (j + 16) = q_at q_c182_1 j := s182_0 (j + 16)
theorem s182_2 (j : Nat) : q_ins 182 (j + 32) = q_at q_c182_2 j := s182_1 (j + 16)
theorem s182_3 (j : Nat) : q_ins 182 (j + 48) = q_at q_c182_3 j := s182_2 (j + 16)
theorem s182_4 (j : Nat) : q_ins 182 (j + 64) = q_at q_c182_4 j := s182_3 (j + 16)
theorem s182_5 (j : Nat) : q_ins 182 (j + 80) = q_at q_c182_5 j := s182_4 (j + 16)
theorem s182_6 (j : Nat) : q_ins 182 (j + 96) = q_at q_c182_6 j := s182_5 (j + 16)
theorem s182_7 (j : Nat) : q_ins 182 (j + 112) = q_at q_c182_7 j := s182_6 (j + 16)
theorem s182_8 (j : Nat) : q_ins 182 (j + 128) = q_at q_c182_8 j := s182_7 (j + 16)
theorem s182_9 (j : Nat) : q_ins 182 (j + 144) = q_at q_c182_9 j := s182_8 (j + 16)
theorem s182_10 (j : Nat) : q_ins 182 (j + 160) = q_at q_c182_10 j := s182_9 (j + 16)
theorem s182_11 (j : Nat) : q_ins 182 (j + 176) = q_at q_c182_11 j := s182_10 (j + 16)
theorem s182_12 (j : Nat) : q_ins 182 (j + 192) = q_at q_c182_12 j := s182_11 (j + 16)
theorem i182_0 : q_ins 182 0 = some (.aload_n 0, 1, (0, 0, 0, 0, 0)) := s182_0 0
theorem i182_1 : q_ins 182 1 = some (.invokevirtual 308, 3, (220, 183, 1, 0, 10)) := s182_0 1
theorem i182_4 : q_ins 182 4 = some (.istore_n 1, 1, (0, 0, 0, 0, 0)) := s182_0 4
theorem i182_5 : q_ins 182 5 = some (.iload_n 1, 1, (0, 0, 0, 0, 0)) := s182_0 5
theorem i182_6 : q_ins 182 6 = some (.ifCond .ne 5, 3, (0, 0, 0, 0, 0)) := s182_0 6
theorem i182_9 : q_ins 182 9 = some (.iconst (-1), 1, (0, 0, 0, 0, 0)) := s182_0 9
theorem i182_10 : q_ins 182 10 = some (.ireturn, 1, (0, 0, 0, 0, 0)) := s182_0 10
theorem i182_11 : q_ins 182 11 = some (.aload_n 0, 1, (0, 0, 0, 0, 0)) := s182_0 11
theorem i182_12 : q_ins 182 12 = some (.invokevirtual 305, 3, (219, 180, 1, 0, 10)) := s182_0 12
theorem i182_15 : q_ins 182 15 = some (.aload_n 0, 1, (0, 0, 0, 0, 0)) := s182_0 15
theorem i182_16 : q_ins 182 16 = some (.invokevirtual 299, 3, (200, 159, 1, 0, 10)) := s182_1 0
theorem i182_19 : q_ins 182 19 = some (.iconst 0, 1, (0, 0, 0, 0, 0)) := s182_1 3
theorem i182_20 : q_ins 182 20 = some (.istore_n 2, 1, (0, 0, 0, 0, 0)) := s182_1 4
theorem i182_21 : q_ins 182 21 = some (.iload_n 2, 1, (0, 0, 0, 0, 0)) := s182_1 5
theorem i182_22 : q_ins 182 22 = some (.bipush 6, 2, (0, 0, 0, 0, 0)) := s182_1 6
theorem i182_24 : q_ins 182 24 = some (.if_icmp .ge 23, 3, (0, 0, 0, 0, 0)) := s182_1 8
theorem i182_27 : q_ins 182 27 = some (.aload_n 0, 1, (0, 0, 0, 0, 0)) := s182_1 11
theorem i182_28 : q_ins 182 28 = some (.getfield 46, 3, (173, 10, 29, 2, 0)) := s182_1 12
theorem i182_31 : q_ins 182 31 = some (.iload_n 2, 1, (0, 0, 0, 0, 0)) := s182_1 15
theorem i182_32 : q_ins 182 32 = some (.iconst 0, 1, (0, 0, 0, 0, 0)) := s182_2 0
theorem i182_33 : q_ins 182 33 = some (.iastore, 1, (0, 0, 0, 0, 0)) := s182_2 1
theorem i182_34 : q_ins 182 34 = some (.aload_n 0, 1, (0, 0, 0, 0, 0)) := s182_2 2
theorem i182_35 : q_ins 182 35 = some (.getfield 49, 3, (174, 10, 30, 2, 0)) := s182_2 3
theorem i182_38 : q_ins 182 38 = some (.iload_n 2, 1, (0, 0, 0, 0, 0)) := s182_2 6
theorem i182_39 : q_ins 182 39 = some (.iconst 0, 1, (0, 0, 0, 0, 0)) := s182_2 7
theorem i182_40 : q_ins 182 40 = some (.iastore, 1, (0, 0, 0, 0, 0)) := s182_2 8
theorem i182_41 : q_ins 182 41 = some (.iinc 2 1, 3, (0, 0, 0, 0, 0)) := s182_2 9
theorem i182_44 : q_ins 182 44 = some (.goto (-23), 3, (0, 0, 0, 0, 0)) := s182_2 12
theorem i182_47 : q_ins 182 47 = some (.iconst 0, 1, (0, 0, 0, 0, 0)) := s182_2 15
theorem i182_48 : q_ins 182 48 = some (.istore_n 2, 1, (0, 0, 0, 0, 0)) := s182_3 0
theorem i182_49 : q_ins 182 49 = some (.iconst 0, 1, (0, 0, 0, 0, 0)) := s182_3 1
theorem i182_50 : q_ins 182 50 = some (.istore_n 3, 1, (0, 0, 0, 0, 0)) := s182_3 2
theorem i182_51 : q_ins 182 51 = some (.iload_n 3, 1, (0, 0, 0, 0, 0)) := s182_3 3
theorem i182_52 : q_ins 182 52 = some (.aload_n 0, 1, (0, 0, 0, 0, 0)) := s182_3 4
theorem i182_53 : q_ins 182 53 = some (.getfield 7, 3, (162, 10, 0, 2, 0)) := s182_3 5
theorem i182_56 : q_ins 182 56 = some (.iconst 1, 1, (0, 0, 0, 0, 0)) := s182_3 8
theorem i182_57 : q_ins 182 57 = some (.iaload, 1, (0, 0, 0, 0, 0)) := s182_3 9
theorem i182_58 : q_ins 182 58 = some (.if_icmp .ge 75, 3, (0, 0, 0, 0, 0)) := s182_3 10
theorem i182_61 : q_ins 182 61 = some (.aload_n 0, 1, (0, 0, 0, 0, 0)) := s182_3 13
theorem i182_62 : q_ins 182 62 = some (.iload_n 3, 1, (0, 0, 0, 0, 0)) := s182_3 14
theorem i182_63 : q_ins 182 63 = some (.iload_n 1, 1, (0, 0, 0, 0, 0)) := s182_3 15
theorem i182_64 : q_ins 182 64 = some (.invokevirtual 287, 3, (204, 163, 3, 0, 10)) := s182_4 0
theorem i182_67 : q_ins 182 67 = some (.iconst 0, 1, (0, 0, 0, 0, 0)) := s182_4 3
theorem i182_68 : q_ins 182 68 = some (.istore 4, 2, (0, 0, 0, 0, 0)) := s182_4 4
theorem i182_70 : q_ins 182 70 = some (.iload 4, 2, (0, 0, 0, 0, 0)) := s182_4 6
theorem i182_72 : q_ins 182 72 = some (.bipush 6, 2, (0, 0, 0, 0, 0)) := s182_4 8
theorem i182_74 : q_ins 182 74 = some (.if_icmp .ge 36, 3, (0, 0, 0, 0, 0)) := s182_4 10
theorem i182_77 : q_ins 182 77 = some (.aload_n 0, 1, (0, 0, 0, 0, 0)) := s182_4 13
theorem i182_78 : q_ins 182 78 = some (.getfield 46, 3, (173, 10, 29, 2, 0)) := s182_4 14
theorem i182_81 : q_ins 182 81 = some (.iload 4, 2, (0, 0, 0, 0, 0)) := s182_5 1
theorem i182_83 : q_ins 182 83 = some (.dup2, 1, (0, 0, 0, 0, 0)) := s182_5 3
theorem i182_84 : q_ins 182 84 = some (.iaload, 1, (0, 0, 0, 0, 0)) := s182_5 4
theorem i182_85 : q_ins 182 85 = some (.aload_n 0, 1, (0, 0, 0, 0, 0)) := s182_5 5
theorem i182_86 : q_ins 182 86 = some (.getfield 255, 3, (193, 10, 27, 0, 0)) := s182_5 6
theorem i182_89 : q_ins 182 89 = some (.iload 4, 2, (0, 0, 0, 0, 0)) := s182_5 9
theorem i182_91 : q_ins 182 91 = some (.invokestatic 258, 3, (206, 164, 2, 2, 0)) := s182_5 11
theorem i182_94 : q_ins 182 94 = some (.ifCond .eq 7, 3, (0, 0, 0, 0, 0)) := s182_5 14
theorem i182_97 : q_ins 182 97 = some (.iconst 1, 1, (0, 0, 0, 0, 0)) := s182_6 1
theorem i182_98 : q_ins 182 98 = some (.goto 4, 3, (0, 0, 0, 0, 0)) := s182_6 2
theorem i182_101 : q_ins 182 101 = some (.iconst 0, 1, (0, 0, 0, 0, 0)) := s182_6 5
theorem i182_102 : q_ins 182 102 = some (.iadd, 1, (0, 0, 0, 0, 0)) := s182_6 6
theorem i182_103 : q_ins 182 103 = some (.iastore, 1, (0, 0, 0, 0, 0)) := s182_6 7
theorem i182_104 : q_ins 182 104 = some (.iinc 4 1, 3, (0, 0, 0, 0, 0)) := s182_6 8
theorem i182_107 : q_ins 182 107 = some (.goto (-37), 3, (0, 0, 0, 0, 0)) := s182_6 11
theorem i182_110 : q_ins 182 110 = some (.aload_n 0, 1, (0, 0, 0, 0, 0)) := s182_6 14
theorem i182_111 : q_ins 182 111 = some (.iload_n 1, 1, (0, 0, 0, 0, 0)) := s182_6 15
theorem i182_112 : q_ins 182 112 = some (.invokevirtual 311, 3, (221, 184, 2, 0, 10)) := s182_7 0
theorem i182_115 : q_ins 182 115 = some (.istore 4, 2, (0, 0, 0, 0, 0)) := s182_7 3
theorem i182_117 : q_ins 182 117 = some (.iload_n 2, 1, (0, 0, 0, 0, 0)) := s182_7 5
theorem i182_118 : q_ins 182 118 = some (.aload_n 0, 1, (0, 0, 0, 0, 0)) := s182_7 6
theorem i182_119 : q_ins 182 119 = some (.iload_n 3, 1, (0, 0, 0, 0, 0)) := s182_7 7
theorem i182_120 : q_ins 182 120 = some (.iload 4, 2, (0, 0, 0, 0, 0)) := s182_7 8
theorem i182_122 : q_ins 182 122 = some (.invokevirtual 290, 3, (205, 175, 3, 0, 10)) := s182_7 10
theorem i182_125 : q_ins 182 125 = some (.iadd, 1, (0, 0, 0, 0, 0)) := s182_7 13
theorem i182_126 : q_ins 182 126 = some (.istore_n 2, 1, (0, 0, 0, 0, 0)) := s182_7 14
theorem i182_127 : q_ins 182 127 = some (.iinc 3 1, 3, (0, 0, 0, 0, 0)) := s182_7 15
theorem i182_130 : q_ins 182 130 = some (.goto (-79), 3, (0, 0, 0, 0, 0)) := s182_8 2
theorem i182_133 : q_ins 182 133 = some (.iconst 0, 1, (0, 0, 0, 0, 0)) := s182_8 5
theorem i182_134 : q_ins 182 134 = some (.istore_n 3, 1, (0, 0, 0, 0, 0)) := s182_8 6
theorem i182_135 : q_ins 182 135 = some (.iload_n 3, 1, (0, 0, 0, 0, 0)) := s182_8 7
theorem i182_136 : q_ins 182 136 = some (.aload_n 0, 1, (0, 0, 0, 0, 0)) := s182_8 8
theorem i182_137 : q_ins 182 137 = some (.getfield 7, 3, (162, 10, 0, 2, 0)) := s182_8 9
theorem i182_140 : q_ins 182 140 = some (.iconst 0, 1, (0, 0, 0, 0, 0)) := s182_8 12
theorem i182_141 : q_ins 182 141 = some (.iaload, 1, (0, 0, 0, 0, 0)) := s182_8 13
theorem i182_142 : q_ins 182 142 = some (.if_icmp .ge 40, 3, (0, 0, 0, 0, 0)) := s182_8 14
theorem i182_145 : q_ins 182 145 = some (.iload_n 1, 1, (0, 0, 0, 0, 0)) := s182_9 1
theorem i182_146 : q_ins 182 146 = some (.iload_n 3, 1, (0, 0, 0, 0, 0)) := s182_9 2
theorem i182_147 : q_ins 182 147 = some (.invokestatic 258, 3, (206, 164, 2, 2, 0)) := s182_9 3
theorem i182_150 : q_ins 182 150 = some (.ifCond .eq 26, 3, (0, 0, 0, 0, 0)) := s182_9 6
theorem i182_153 : q_ins 182 153 = some (.aload_n 0, 1, (0, 0, 0, 0, 0)) := s182_9 9
theorem i182_154 : q_ins 182 154 = some (.iload_n 3, 1, (0, 0, 0, 0, 0)) := s182_9 10
theorem i182_155 : q_ins 182 155 = some (.iconst 5, 1, (0, 0, 0, 0, 0)) := s182_9 11
theorem i182_156 : q_ins 182 156 = some (.aload_n 0, 1, (0, 0, 0, 0, 0)) := s182_9 12
theorem i182_157 : q_ins 182 157 = some (.iload_n 3, 1, (0, 0, 0, 0, 0)) := s182_9 13
theorem i182_158 : q_ins 182 158 = some (.iconst 5, 1, (0, 0, 0, 0, 0)) := s182_9 14
theorem i182_159 : q_ins 182 159 = some (.invokevirtual 75, 3, (203, 161, 3, 0, 10)) := s182_9 15
theorem i182_162 : q_ins 182 162 = some (.aload_n 0, 1, (0, 0, 0, 0, 0)) := s182_10 2
theorem i182_163 : q_ins 182 163 = some (.iload_n 3, 1, (0, 0, 0, 0, 0)) := s182_10 3
theorem i182_164 : q_ins 182 164 = some (.iload_n 2, 1, (0, 0, 0, 0, 0)) := s182_10 4
theorem i182_165 : q_ins 182 165 = some (.iload_n 1, 1, (0, 0, 0, 0, 0)) := s182_10 5
theorem i182_166 : q_ins 182 166 = some (.invokestatic 271, 3, (210, 170, 1, 2, 0)) := s182_10 6
theorem i182_169 : q_ins 182 169 = some (.invokevirtual 314, 3, (222, 185, 4, 0, 10)) := s182_10 9
theorem i182_172 : q_ins 182 172 = some (.iadd, 1, (0, 0, 0, 0, 0)) := s182_10 12
theorem i182_173 : q_ins 182 173 = some (.invokevirtual 79, 3, (168, 119, 4, 0, 10)) := s182_10 13
theorem i182_176 : q_ins 182 176 = some (.iinc 3 1, 3, (0, 0, 0, 0, 0)) := s182_11 0
theorem i182_179 : q_ins 182 179 = some (.goto (-44), 3, (0, 0, 0, 0, 0)) := s182_11 3
theorem i182_182 : q_ins 182 182 = some (.aload_n 0, 1, (0, 0, 0, 0, 0)) := s182_11 6
theorem i182_183 : q_ins 182 183 = some (.getfield 7, 3, (162, 10, 0, 2, 0)) := s182_11 7
theorem i182_186 : q_ins 182 186 = some (.iconst 2, 1, (0, 0, 0, 0, 0)) := s182_11 10
theorem i182_187 : q_ins 182 187 = some (.dup2, 1, (0, 0, 0, 0, 0)) := s182_11 11
theorem i182_188 : q_ins 182 188 = some (.iaload, 1, (0, 0, 0, 0, 0)) := s182_11 12
theorem i182_189 : q_ins 182 189 = some (.iconst 1, 1, (0, 0, 0, 0, 0)) := s182_11 13
theorem i182_190 : q_ins 182 190 = some (.iadd, 1, (0, 0, 0, 0, 0)) := s182_11 14
theorem i182_191 : q_ins 182 191 = some (.iastore, 1, (0, 0, 0, 0, 0)) := s182_11 15
theorem i182_192 : q_ins 182 192 = some (.iload_n 2, 1, (0, 0, 0, 0, 0)) := s182_12 0
theorem i182_193 : q_ins 182 193 = some (.ireturn, 1, (0, 0, 0, 0, 0)) := s182_12 1
theorem s183_0 (j : Nat) : q_ins 183 j = q_at q_c183 j := rfl
theorem s183_1 (j : Nat) : q_ins 183 (j + 16) = q_at q_c183_1 j := s183_0 (j + 16)
theorem s183_2 (j : Nat) : q_ins 183 (j + 32) = q_at q_c183_2 j := s183_1 (j + 16)
theorem i183_0 : q_ins 183 0 = some (.iconst 0, 1, (0, 0, 0, 0, 0)) := s183_0 0
theorem i183_1 : q_ins 183 1 = some (.istore_n 1, 1, (0, 0, 0, 0, 0)) := s183_0 1
theorem i183_2 : q_ins 183 2 = some (.iconst 0, 1, (0, 0, 0, 0, 0)) := s183_0 2
theorem i183_3 : q_ins 183 3 = some (.istore_n 2, 1, (0, 0, 0, 0, 0)) := s183_0 3
theorem i183_4 : q_ins 183 4 = some (.iload_n 2, 1, (0, 0, 0, 0, 0)) := s183_0 4
theorem i183_5 : q_ins 183 5 = some (.aload_n 0, 1, (0, 0, 0, 0, 0)) := s183_0 5
theorem i183_6 : q_ins 183 6 = some (.getfield 7, 3, (162, 10, 0, 2, 0)) := s183_0 6
theorem i183_9 : q_ins 183 9 = some (.iconst 0, 1, (0, 0, 0, 0, 0)) := s183_0 9
theorem i183_10 : q_ins 183 10 = some (.iaload, 1, (0, 0, 0, 0, 0)) := s183_0 10
theorem i183_11 : q_ins 183 11 = some (.if_icmp .ge 28, 3, (0, 0, 0, 0, 0)) := s183_0 11
theorem i183_14 : q_ins 183 14 = some (.iload_n 1, 1, (0, 0, 0, 0, 0)) := s183_0 14
theorem i183_15 : q_ins 183 15 = some (.aload_n 0, 1, (0, 0, 0, 0, 0)) := s183_0 15
theorem i183_16 : q_ins 183 16 = some (.iload_n 2, 1, (0, 0, 0, 0, 0)) := s183_1 0
theorem i183_17 : q_ins 183 17 = some (.iconst 3, 1, (0, 0, 0, 0, 0)) := s183_1 1
theorem i183_18 : q_ins 183 18 = some (.invokevirtual 75, 3, (203, 161, 3, 0, 10)) := s183_1 2
theorem i183_21 : q_ins 183 21 = some (.ifCond .lt 9, 3, (0, 0, 0, 0, 0)) := s183_1 5
theorem i183_24 : q_ins 183 24 = some (.iconst 1, 1, (0, 0, 0, 0, 0)) := s183_1 8
theorem i183_25 : q_ins 183 25 = some (.iload_n 2, 1, (0, 0, 0, 0, 0)) := s183_1 9
theorem i183_26 : q_ins 183 26 = some (.ishl, 1, (0, 0, 0, 0, 0)) := s183_1 10
theorem i183_27 : q_ins 183 27 = some (.goto 4, 3, (0, 0, 0, 0, 0)) := s183_1 11
theorem i183_30 : q_ins 183 30 = some (.iconst 0, 1, (0, 0, 0, 0, 0)) := s183_1 14
theorem i183_31 : q_ins 183 31 = some (.ior, 1, (0, 0, 0, 0, 0)) := s183_1 15
theorem i183_32 : q_ins 183 32 = some (.istore_n 1, 1, (0, 0, 0, 0, 0)) := s183_2 0
theorem i183_33 : q_ins 183 33 = some (.iinc 2 1, 3, (0, 0, 0, 0, 0)) := s183_2 1
theorem i183_36 : q_ins 183 36 = some (.goto (-32), 3, (0, 0, 0, 0, 0)) := s183_2 4
theorem i183_39 : q_ins 183 39 = some (.iload_n 1, 1, (0, 0, 0, 0, 0)) := s183_2 7
theorem i183_40 : q_ins 183 40 = some (.ireturn, 1, (0, 0, 0, 0, 0)) := s183_2 8
theorem s184_0 (j : Nat) : q_ins 184 j = q_at q_c184 j := rfl
theorem s184_1 (j : Nat) : q_ins 184 (j + 16) = q_at q_c184_1 j := s184_0 (j + 16)
theorem s184_2 (j : Nat) : q_ins 184 (j + 32) = q_at q_c184_2 j := s184_1 (j + 16)
theorem s184_3 (j : Nat) : q_ins 184 (j + 48) = q_at q_c184_3 j := s184_2 (j + 16)
theorem s184_4 (j : Nat) : q_ins 184 (j + 64) = q_at q_c184_4 j := s184_3 (j + 16)
theorem s184_5 (j : Nat) : q_ins 184 (j + 80) = q_at q_c184_5 j := s184_4 (j + 16)
theorem s184_6 (j : Nat) : q_ins 184 (j + 96) = q_at q_c184_6 j := s184_5 (j + 16)
theorem s184_7 (j : Nat) : q_ins 184 (j + 112) = q_at q_c184_7 j := s184_6 (j + 16)
theorem i184_0 : q_ins 184 0 = some (.iconst 0, 1, (0, 0, 0, 0, 0)) := s184_0 0
theorem i184_1 : q_ins 184 1 = some (.istore_n 2, 1, (0, 0, 0, 0, 0)) := s184_0 1
theorem i184_2 : q_ins 184 2 = some (.iconst 0, 1, (0, 0, 0, 0, 0)) := s184_0 2
theorem i184_3 : q_ins 184 3 = some (.istore_n 3, 1, (0, 0, 0, 0, 0)) := s184_0 3
theorem i184_4 : q_ins 184 4 = some (.iload_n 3, 1, (0, 0, 0, 0, 0)) := s184_0 4
theorem i184_5 : q_ins 184 5 = some (.aload_n 0, 1, (0, 0, 0, 0, 0)) := s184_0 5
theorem i184_6 : q_ins 184 6 = some (.getfield 7, 3, (162, 10, 0, 2, 0)) := s184_0 6
theorem i184_9 : q_ins 184 9 = some (.iconst 0, 1, (0, 0, 0, 0, 0)) := s184_0 9
theorem i184_10 : q_ins 184 10 = some (.iaload, 1, (0, 0, 0, 0, 0)) := s184_0 10
theorem i184_11 : q_ins 184 11 = some (.if_icmp .ge 100, 3, (0, 0, 0, 0, 0)) := s184_0 11
theorem i184_14 : q_ins 184 14 = some (.iload_n 1, 1, (0, 0, 0, 0, 0)) := s184_0 14
theorem i184_15 : q_ins 184 15 = some (.iload_n 3, 1, (0, 0, 0, 0, 0)) := s184_0 15
theorem i184_16 : q_ins 184 16 = some (.invokestatic 258, 3, (206, 164, 2, 2, 0)) := s184_1 0
theorem i184_19 : q_ins 184 19 = some (.ifCond .ne 6, 3, (0, 0, 0, 0, 0)) := s184_1 3
theorem i184_22 : q_ins 184 22 = some (.goto 83, 3, (0, 0, 0, 0, 0)) := s184_1 6
theorem i184_25 : q_ins 184 25 = some (.aload_n 0, 1, (0, 0, 0, 0, 0)) := s184_1 9
theorem i184_26 : q_ins 184 26 = some (.getfield 7, 3, (162, 10, 0, 2, 0)) := s184_1 10
theorem i184_29 : q_ins 184 29 = some (.iconst 3, 1, (0, 0, 0, 0, 0)) := s184_1 13
theorem i184_30 : q_ins 184 30 = some (.iaload, 1, (0, 0, 0, 0, 0)) := s184_1 14
theorem i184_31 : q_ins 184 31 = some (.bipush 10, 2, (0, 0, 0, 0, 0)) := s184_1 15
theorem i184_33 : q_ins 184 33 = some (.irem, 1, (0, 0, 0, 0, 0)) := s184_2 1
theorem i184_34 : q_ins 184 34 = some (.aload_n 0, 1, (0, 0, 0, 0, 0)) := s184_2 2
theorem i184_35 : q_ins 184 35 = some (.iload_n 3, 1, (0, 0, 0, 0, 0)) := s184_2 3
theorem i184_36 : q_ins 184 36 = some (.iconst 2, 1, (0, 0, 0, 0, 0)) := s184_2 4
theorem i184_37 : q_ins 184 37 = some (.invokevirtual 75, 3, (203, 161, 3, 0, 10)) := s184_2 5
theorem i184_40 : q_ins 184 40 = some (.if_icmp .ge 7, 3, (0, 0, 0, 0, 0)) := s184_2 8
theorem i184_43 : q_ins 184 43 = some (.iconst 1, 1, (0, 0, 0, 0, 0)) := s184_2 11
theorem i184_44 : q_ins 184 44 = some (.goto 4, 3, (0, 0, 0, 0, 0)) := s184_2 12
theorem i184_47 : q_ins 184 47 = some (.iconst 0, 1, (0, 0, 0, 0, 0)) := s184_2 15
theorem i184_48 : q_ins 184 48 = some (.istore 4, 2, (0, 0, 0, 0, 0)) := s184_3 0
theorem i184_50 : q_ins 184 50 = some (.aload_n 0, 1, (0, 0, 0, 0, 0)) := s184_3 2
theorem i184_51 : q_ins 184 51 = some (.getfield 7, 3, (162, 10, 0, 2, 0)) := s184_3 3
theorem i184_54 : q_ins 184 54 = some (.iconst 3, 1, (0, 0, 0, 0, 0)) := s184_3 6
theorem i184_55 : q_ins 184 55 = some (.aload_n 0, 1, (0, 0, 0, 0, 0)) := s184_3 7
theorem i184_56 : q_ins 184 56 = some (.getfield 7, 3, (162, 10, 0, 2, 0)) := s184_3 8
theorem i184_59 : q_ins 184 59 = some (.iconst 3, 1, (0, 0, 0, 0, 0)) := s184_3 11
theorem i184_60 : q_ins 184 60 = some (.iaload, 1, (0, 0, 0, 0, 0)) := s184_3 12
theorem i184_61 : q_ins 184 61 = some (.sipush 227, 3, (0, 0, 0, 0, 0)) := s184_3 13
theorem i184_64 : q_ins 184 64 = some (.imul, 1, (0, 0, 0, 0, 0)) := s184_4 0
theorem i184_65 : q_ins 184 65 = some (.bipush 61, 2, (0, 0, 0, 0, 0)) := s184_4 1
theorem i184_67 : q_ins 184 67 = some (.iadd, 1, (0, 0, 0, 0, 0)) := s184_4 3
theorem i184_68 : q_ins 184 68 = some (.sipush 30119, 3, (0, 0, 0, 0, 0)) := s184_4 4
theorem i184_71 : q_ins 184 71 = some (.irem, 1, (0, 0, 0, 0, 0)) := s184_4 7
theorem i184_72 : q_ins 184 72 = some (.iastore, 1, (0, 0, 0, 0, 0)) := s184_4 8
theorem i184_73 : q_ins 184 73 = some (.aload_n 0, 1, (0, 0, 0, 0, 0)) := s184_4 9
theorem i184_74 : q_ins 184 74 = some (.getfield 49, 3, (174, 10, 30, 2, 0)) := s184_4 10
theorem i184_77 : q_ins 184 77 = some (.iload_n 3, 1, (0, 0, 0, 0, 0)) := s184_4 13
theorem i184_78 : q_ins 184 78 = some (.dup2, 1, (0, 0, 0, 0, 0)) := s184_4 14
theorem i184_79 : q_ins 184 79 = some (.iaload, 1, (0, 0, 0, 0, 0)) := s184_4 15
theorem i184_80 : q_ins 184 80 = some (.iload 4, 2, (0, 0, 0, 0, 0)) := s184_5 0
theorem i184_82 : q_ins 184 82 = some (.ifCond .eq 7, 3, (0, 0, 0, 0, 0)) := s184_5 2
theorem i184_85 : q_ins 184 85 = some (.iconst 1, 1, (0, 0, 0, 0, 0)) := s184_5 5
theorem i184_86 : q_ins 184 86 = some (.goto 4, 3, (0, 0, 0, 0, 0)) := s184_5 6
theorem i184_89 : q_ins 184 89 = some (.iconst 0, 1, (0, 0, 0, 0, 0)) := s184_5 9
theorem i184_90 : q_ins 184 90 = some (.iadd, 1, (0, 0, 0, 0, 0)) := s184_5 10
theorem i184_91 : q_ins 184 91 = some (.iastore, 1, (0, 0, 0, 0, 0)) := s184_5 11
theorem i184_92 : q_ins 184 92 = some (.iload_n 2, 1, (0, 0, 0, 0, 0)) := s184_5 12
theorem i184_93 : q_ins 184 93 = some (.iload 4, 2, (0, 0, 0, 0, 0)) := s184_5 13
theorem i184_95 : q_ins 184 95 = some (.ifCond .eq 7, 3, (0, 0, 0, 0, 0)) := s184_5 15
theorem i184_98 : q_ins 184 98 = some (.iconst 1, 1, (0, 0, 0, 0, 0)) := s184_6 2
theorem i184_99 : q_ins 184 99 = some (.goto 4, 3, (0, 0, 0, 0, 0)) := s184_6 3
theorem i184_102 : q_ins 184 102 = some (.iconst 0, 1, (0, 0, 0, 0, 0)) := s184_6 6
theorem i184_103 : q_ins 184 103 = some (.iadd, 1, (0, 0, 0, 0, 0)) := s184_6 7
theorem i184_104 : q_ins 184 104 = some (.istore_n 2, 1, (0, 0, 0, 0, 0)) := s184_6 8
theorem i184_105 : q_ins 184 105 = some (.iinc 3 1, 3, (0, 0, 0, 0, 0)) := s184_6 9
theorem i184_108 : q_ins 184 108 = some (.goto (-104), 3, (0, 0, 0, 0, 0)) := s184_6 12
theorem i184_111 : q_ins 184 111 = some (.iload_n 2, 1, (0, 0, 0, 0, 0)) := s184_6 15
theorem i184_112 : q_ins 184 112 = some (.ireturn, 1, (0, 0, 0, 0, 0)) := s184_7 0
theorem s185_0 (j : Nat) : q_ins 185 j = q_at q_c185 j := rfl
theorem s185_1 (j : Nat) : q_ins 185 (j + 16) = q_at q_c185_1 j := s185_0 (j + 16)
theorem s185_2 (j : Nat) : q_ins 185 (j + 32) = q_at q_c185_2 j := s185_1 (j + 16)
theorem s185_3 (j : Nat) : q_ins 185 (j + 48) = q_at q_c185_3 j := s185_2 (j + 16)
theorem s185_4 (j : Nat) : q_ins 185 (j + 64) = q_at q_c185_4 j := s185_3 (j + 16)
theorem s185_5 (j : Nat) : q_ins 185 (j + 80) = q_at q_c185_5 j := s185_4 (j + 16)
theorem s185_6 (j : Nat) : q_ins 185 (j + 96) = q_at q_c185_6 j := s185_5 (j + 16)
theorem s185_7 (j : Nat) : q_ins 185 (j + 112) = q_at q_c185_7 j := s185_6 (j + 16)
theorem i185_0 : q_ins 185 0 = some (.aload_n 0, 1, (0, 0, 0, 0, 0)) := s185_0 0
theorem i185_1 : q_ins 185 1 = some (.iconst 2, 1, (0, 0, 0, 0, 0)) := s185_0 1
theorem i185_2 : q_ins 185 2 = some (.invokevirtual 265, 3, (208, 166, 2, 0, 10)) := s185_0 2
theorem i185_5 : q_ins 185 5 = some (.istore 4, 2, (0, 0, 0, 0, 0)) := s185_0 5
theorem i185_7 : q_ins 185 7 = some (.iload 4, 2, (0, 0, 0, 0, 0)) := s185_0 7
theorem i185_9 : q_ins 185 9 = some (.ifCond .ge 7, 3, (0, 0, 0, 0, 0)) := s185_0 9
theorem i185_12 : q_ins 185 12 = some (.iload_n 2, 1, (0, 0, 0, 0, 0)) := s185_0 12
theorem i185_13 : q_ins 185 13 = some (.iload_n 3, 1, (0, 0, 0, 0, 0)) := s185_0 13
theorem i185_14 : q_ins 185 14 = some (.idiv, 1, (0, 0, 0, 0, 0)) := s185_0 14
theorem i185_15 : q_ins 185 15 = some (.ireturn, 1, (0, 0, 0, 0, 0)) := s185_0 15
theorem i185_16 : q_ins 185 16 = some (.aload_n 0, 1, (0, 0, 0, 0, 0)) := s185_1 0
theorem i185_17 : q_ins 185 17 = some (.getfield 32, 3, (169, 10, 22, 2, 0)) := s185_1 1
theorem i185_20 : q_ins 185 20 = some (.iconst 0, 1, (0, 0, 0, 0, 0)) := s185_1 4
theorem i185_21 : q_ins 185 21 = some (.aload_n 0, 1, (0, 0, 0, 0, 0)) := s185_1 5
theorem i185_22 : q_ins 185 22 = some (.iload_n 1, 1, (0, 0, 0, 0, 0)) := s185_1 6
theorem i185_23 : q_ins 185 23 = some (.iconst 0, 1, (0, 0, 0, 0, 0)) := s185_1 7
theorem i185_24 : q_ins 185 24 = some (.invokevirtual 75, 3, (203, 161, 3, 0, 10)) := s185_1 8
theorem i185_27 : q_ins 185 27 = some (.iastore, 1, (0, 0, 0, 0, 0)) := s185_1 11
theorem i185_28 : q_ins 185 28 = some (.aload_n 0, 1, (0, 0, 0, 0, 0)) := s185_1 12
theorem i185_29 : q_ins 185 29 = some (.getfield 32, 3, (169, 10, 22, 2, 0)) := s185_1 13
theorem i185_32 : q_ins 185 32 = some (.iconst 1, 1, (0, 0, 0, 0, 0)) := s185_2 0
theorem i185_33 : q_ins 185 33 = some (.aload_n 0, 1, (0, 0, 0, 0, 0)) := s185_2 1
theorem i185_34 : q_ins 185 34 = some (.iload_n 1, 1, (0, 0, 0, 0, 0)) := s185_2 2
theorem i185_35 : q_ins 185 35 = some (.iconst 1, 1, (0, 0, 0, 0, 0)) := s185_2 3
theorem i185_36 : q_ins 185 36 = some (.invokevirtual 75, 3, (203, 161, 3, 0, 10)) := s185_2 4
theorem i185_39 : q_ins 185 39 = some (.iastore, 1, (0, 0, 0, 0, 0)) := s185_2 7
theorem i185_40 : q_ins 185 40 = some (.aload_n 0, 1, (0, 0, 0, 0, 0)) := s185_2 8
theorem i185_41 : q_ins 185 41 = some (.getfield 32, 3, (169, 10, 22, 2, 0)) := s185_2 9
theorem i185_44 : q_ins 185 44 = some (.iconst 2, 1, (0, 0, 0, 0, 0)) := s185_2 12
theorem i185_45 : q_ins 185 45 = some (.aload_n 0, 1, (0, 0, 0, 0, 0)) := s185_2 13
theorem i185_46 : q_ins 185 46 = some (.iload_n 1, 1, (0, 0, 0, 0, 0)) := s185_2 14
theorem i185_47 : q_ins 185 47 = some (.iconst 3, 1, (0, 0, 0, 0, 0)) := s185_2 15
theorem i185_48 : q_ins 185 48 = some (.invokevirtual 75, 3, (203, 161, 3, 0, 10)) := s185_3 0
theorem i185_51 : q_ins 185 51 = some (.iconst 4, 1, (0, 0, 0, 0, 0)) := s185_3 3
theorem i185_52 : q_ins 185 52 = some (.idiv, 1, (0, 0, 0, 0, 0)) := s185_3 4
theorem i185_53 : q_ins 185 53 = some (.iastore, 1, (0, 0, 0, 0, 0)) := s185_3 5
theorem i185_54 : q_ins 185 54 = some (.aload_n 0, 1, (0, 0, 0, 0, 0)) := s185_3 6
theorem i185_55 : q_ins 185 55 = some (.getfield 32, 3, (169, 10, 22, 2, 0)) := s185_3 7
theorem i185_58 : q_ins 185 58 = some (.bipush 10, 2, (0, 0, 0, 0, 0)) := s185_3 10
theorem i185_60 : q_ins 185 60 = some (.iload_n 2, 1, (0, 0, 0, 0, 0)) := s185_3 12
theorem i185_61 : q_ins 185 61 = some (.iastore, 1, (0, 0, 0, 0, 0)) := s185_3 13
theorem i185_62 : q_ins 185 62 = some (.aload_n 0, 1, (0, 0, 0, 0, 0)) := s185_3 14
theorem i185_63 : q_ins 185 63 = some (.getfield 32, 3, (169, 10, 22, 2, 0)) := s185_3 15
theorem i185_66 : q_ins 185 66 = some (.bipush 11, 2, (0, 0, 0, 0, 0)) := s185_4 2
theorem i185_68 : q_ins 185 68 = some (.iload_n 3, 1, (0, 0, 0, 0, 0)) := s185_4 4
theorem i185_69 : q_ins 185 69 = some (.iastore, 1, (0, 0, 0, 0, 0)) := s185_4 5
theorem i185_70 : q_ins 185 70 = some (.aload_n 0, 1, (0, 0, 0, 0, 0)) := s185_4 6
theorem i185_71 : q_ins 185 71 = some (.getfield 32, 3, (169, 10, 22, 2, 0)) := s185_4 7
theorem i185_74 : q_ins 185 74 = some (.bipush 12, 2, (0, 0, 0, 0, 0)) := s185_4 10
theorem i185_76 : q_ins 185 76 = some (.aload_n 0, 1, (0, 0, 0, 0, 0)) := s185_4 12
theorem i185_77 : q_ins 185 77 = some (.getfield 46, 3, (173, 10, 29, 2, 0)) := s185_4 13
theorem i185_80 : q_ins 185 80 = some (.iload_n 1, 1, (0, 0, 0, 0, 0)) := s185_5 0
theorem i185_81 : q_ins 185 81 = some (.iaload, 1, (0, 0, 0, 0, 0)) := s185_5 1
theorem i185_82 : q_ins 185 82 = some (.iastore, 1, (0, 0, 0, 0, 0)) := s185_5 2
theorem i185_83 : q_ins 185 83 = some (.aload_n 0, 1, (0, 0, 0, 0, 0)) := s185_5 3
theorem i185_84 : q_ins 185 84 = some (.getfield 32, 3, (169, 10, 22, 2, 0)) := s185_5 4
theorem i185_87 : q_ins 185 87 = some (.bipush 13, 2, (0, 0, 0, 0, 0)) := s185_5 7
theorem i185_89 : q_ins 185 89 = some (.aload_n 0, 1, (0, 0, 0, 0, 0)) := s185_5 9
theorem i185_90 : q_ins 185 90 = some (.getfield 49, 3, (174, 10, 30, 2, 0)) := s185_5 10
theorem i185_93 : q_ins 185 93 = some (.iload_n 1, 1, (0, 0, 0, 0, 0)) := s185_5 13
theorem i185_94 : q_ins 185 94 = some (.iaload, 1, (0, 0, 0, 0, 0)) := s185_5 14
theorem i185_95 : q_ins 185 95 = some (.iastore, 1, (0, 0, 0, 0, 0)) := s185_5 15
theorem i185_96 : q_ins 185 96 = some (.aload_n 0, 1, (0, 0, 0, 0, 0)) := s185_6 0
theorem i185_97 : q_ins 185 97 = some (.iload 4, 2, (0, 0, 0, 0, 0)) := s185_6 1
theorem i185_99 : q_ins 185 99 = some (.invokevirtual 274, 3, (211, 171, 2, 0, 10)) := s185_6 3
theorem i185_102 : q_ins 185 102 = some (.aload_n 0, 1, (0, 0, 0, 0, 0)) := s185_6 6
theorem i185_103 : q_ins 185 103 = some (.getfield 35, 3, (170, 10, 23, 2, 0)) := s185_6 7
theorem i185_106 : q_ins 185 106 = some (.iconst 0, 1, (0, 0, 0, 0, 0)) := s185_6 10
theorem i185_107 : q_ins 185 107 = some (.laload, 1, (0, 0, 0, 0, 0)) := s185_6 11
theorem i185_108 : q_ins 185 108 = some (.sipush 999, 3, (0, 0, 0, 0, 0)) := s185_6 12
theorem i185_111 : q_ins 185 111 = some (.invokestatic 283, 3, (217, 176, 2, 2, 0)) := s185_6 15
theorem i185_114 : q_ins 185 114 = some (.ireturn, 1, (0, 0, 0, 0, 0)) := s185_7 2
theorem s186_0 (j : Nat) : q_ins 186 j = q_at q_c186 j := rfl
theorem s186_1 (j : Nat) : q_ins 186 (j + 16) = q_at q_c186_1 j := s186_0 (j + 16)
theorem s186_2 (j : Nat) : q_ins 186 (j + 32) = q_at q_c186_2 j := s186_1 (j + 16)
theorem s186_3 (j : Nat) : q_ins 186 (j + 48) = q_at q_c186_3 j := s186_2 (j + 16)
theorem i186_0 : q_ins 186 0 = some (.iload_n 1, 1, (0, 0, 0, 0, 0)) := s186_0 0
theorem i186_1 : q_ins 186 1 = some (.iconst 0, 1, (0, 0, 0, 0, 0)) := s186_0 1
theorem i186_2 : q_ins 186 2 = some (.aload_n 0, 1, (0, 0, 0, 0, 0)) := s186_0 2
theorem i186_3 : q_ins 186 3 = some (.getfield 7, 3, (162, 10, 0, 2, 0)) := s186_0 3
theorem i186_6 : q_ins 186 6 = some (.iconst 4, 1, (0, 0, 0, 0, 0)) := s186_0 6
theorem i186_7 : q_ins 186 7 = some (.iaload, 1, (0, 0, 0, 0, 0)) := s186_0 7
theorem i186_8 : q_ins 186 8 = some (.iconst 1, 1, (0, 0, 0, 0, 0)) := s186_0 8
theorem i186_9 : q_ins 186 9 = some (.isub, 1, (0, 0, 0, 0, 0)) := s186_0 9
theorem i186_10 : q_ins 186 10 = some (.invokestatic 71, 3, (167, 118, 3, 2, 0)) := s186_0 10
theorem i186_13 : q_ins 186 13 = some (.ifCond .ne 6, 3, (0, 0, 0, 0, 0)) := s186_0 13
theorem i186_16 : q_ins 186 16 = some (.bipush (-2), 2, (0, 0, 0, 0, 0)) := s186_1 0
theorem i186_18 : q_ins 186 18 = some (.ireturn, 1, (0, 0, 0, 0, 0)) := s186_1 2
theorem i186_19 : q_ins 186 19 = some (.iconst 0, 1, (0, 0, 0, 0, 0)) := s186_1 3
theorem i186_20 : q_ins 186 20 = some (.istore_n 2, 1, (0, 0, 0, 0, 0)) := s186_1 4
theorem i186_21 : q_ins 186 21 = some (.iload_n 2, 1, (0, 0, 0, 0, 0)) := s186_1 5
theorem i186_22 : q_ins 186 22 = some (.aload_n 0, 1, (0, 0, 0, 0, 0)) := s186_1 6
theorem i186_23 : q_ins 186 23 = some (.getfield 16, 3, (164, 10, 2, 2, 0)) := s186_1 7
theorem i186_26 : q_ins 186 26 = some (.sipush 680, 3, (0, 0, 0, 0, 0)) := s186_1 10
theorem i186_29 : q_ins 186 29 = some (.iload_n 1, 1, (0, 0, 0, 0, 0)) := s186_1 13
theorem i186_30 : q_ins 186 30 = some (.imul, 1, (0, 0, 0, 0, 0)) := s186_1 14
theorem i186_31 : q_ins 186 31 = some (.iaload, 1, (0, 0, 0, 0, 0)) := s186_1 15
theorem i186_32 : q_ins 186 32 = some (.if_icmp .ge 29, 3, (0, 0, 0, 0, 0)) := s186_2 0
theorem i186_35 : q_ins 186 35 = some (.aload_n 0, 1, (0, 0, 0, 0, 0)) := s186_2 3
theorem i186_36 : q_ins 186 36 = some (.sipush 680, 3, (0, 0, 0, 0, 0)) := s186_2 4
theorem i186_39 : q_ins 186 39 = some (.iload_n 1, 1, (0, 0, 0, 0, 0)) := s186_2 7
theorem i186_40 : q_ins 186 40 = some (.imul, 1, (0, 0, 0, 0, 0)) := s186_2 8
theorem i186_41 : q_ins 186 41 = some (.iconst 1, 1, (0, 0, 0, 0, 0)) := s186_2 9
theorem i186_42 : q_ins 186 42 = some (.iadd, 1, (0, 0, 0, 0, 0)) := s186_2 10
theorem i186_43 : q_ins 186 43 = some (.iconst 3, 1, (0, 0, 0, 0, 0)) := s186_2 11
theorem i186_44 : q_ins 186 44 = some (.iload_n 2, 1, (0, 0, 0, 0, 0)) := s186_2 12
theorem i186_45 : q_ins 186 45 = some (.imul, 1, (0, 0, 0, 0, 0)) := s186_2 13
theorem i186_46 : q_ins 186 46 = some (.iadd, 1, (0, 0, 0, 0, 0)) := s186_2 14
theorem i186_47 : q_ins 186 47 = some (.invokevirtual 328, 3, (223, 187, 2, 0, 10)) := s186_2 15
theorem i186_50 : q_ins 186 50 = some (.ifCond .ne 5, 3, (0, 0, 0, 0, 0)) := s186_3 2
theorem i186_53 : q_ins 186 53 = some (.iload_n 2, 1, (0, 0, 0, 0, 0)) := s186_3 5
theorem i186_54 : q_ins 186 54 = some (.ireturn, 1, (0, 0, 0, 0, 0)) := s186_3 6
theorem i186_55 : q_ins 186 55 = some (.iinc 2 1, 3, (0, 0, 0, 0, 0)) := s186_3 7
theorem i186_58 : q_ins 186 58 = some (.goto (-37), 3, (0, 0, 0, 0, 0)) := s186_3 10
theorem i186_61 : q_ins 186 61 = some (.iconst (-1), 1, (0, 0, 0, 0, 0)) := s186_3 13
theorem i186_62 : q_ins 186 62 = some (.ireturn, 1, (0, 0, 0, 0, 0)) := s186_3 14
theorem s187_0 (j : Nat) : q_ins 187 j = q_at q_c187 j := rfl
theorem s187_1 (j : Nat) : q_ins 187 (j + 16) = q_at q_c187_1 j := s187_0 (j + 16)
theorem s187_2 (j : Nat) : q_ins 187 (j + 32) = q_at q_c187_2 j := s187_1 (j + 16)
theorem s187_3 (j : Nat) : q_ins 187 (j + 48) = q_at q_c187_3 j := s187_2 (j + 16)
theorem s187_4 (j : Nat) : q_ins 187 (j + 64) = q_at q_c187_4 j := s187_3 (j + 16)
theorem s187_5 (j : Nat) : q_ins 187 (j + 80) = q_at q_c187_5 j := s187_4 (j + 16)
theorem s187_6 (j : Nat) : q_ins 187 (j + 96) = q_at q_c187_6 j := s187_5 (j + 16)
theorem i187_0 : q_ins 187 0 = some (.aload_n 0, 1, (0, 0, 0, 0, 0)) := s187_0 0
theorem i187_1 : q_ins 187 1 = some (.getfield 16, 3, (164, 10, 2, 2, 0)) := s187_0 1
theorem i187_4 : q_ins 187 4 = some (.iload_n 1, 1, (0, 0, 0, 0, 0)) := s187_0 4
theorem i187_5 : q_ins 187 5 = some (.iaload, 1, (0, 0, 0, 0, 0)) := s187_0 5
theorem i187_6 : q_ins 187 6 = some (.tableswitch 92 3 6 #[30, 51, 65, 79], 30, (0, 0, 0, 0, 0)) := s187_0 6
theorem i187_36 : q_ins 187 36 = some (.aload_n 0, 1, (0, 0, 0, 0, 0)) := s187_2 4
theorem i187_37 : q_ins 187 37 = some (.aload_n 0, 1, (0, 0, 0, 0, 0)) := s187_2 5
theorem i187_38 : q_ins 187 38 = some (.getfield 16, 3, (164, 10, 2, 2, 0)) := s187_2 6
theorem i187_41 : q_ins 187 41 = some (.iload_n 1, 1, (0, 0, 0, 0, 0)) := s187_2 9
theorem i187_42 : q_ins 187 42 = some (.iconst 1, 1, (0, 0, 0, 0, 0)) := s187_2 10
theorem i187_43 : q_ins 187 43 = some (.iadd, 1, (0, 0, 0, 0, 0)) := s187_2 11
theorem i187_44 : q_ins 187 44 = some (.iaload, 1, (0, 0, 0, 0, 0)) := s187_2 12
theorem i187_45 : q_ins 187 45 = some (.aload_n 0, 1, (0, 0, 0, 0, 0)) := s187_2 13
theorem i187_46 : q_ins 187 46 = some (.getfield 16, 3, (164, 10, 2, 2, 0)) := s187_2 14
theorem i187_49 : q_ins 187 49 = some (.iload_n 1, 1, (0, 0, 0, 0, 0)) := s187_3 1
theorem i187_50 : q_ins 187 50 = some (.iconst 2, 1, (0, 0, 0, 0, 0)) := s187_3 2
theorem i187_51 : q_ins 187 51 = some (.iadd, 1, (0, 0, 0, 0, 0)) := s187_3 3
theorem i187_52 : q_ins 187 52 = some (.iaload, 1, (0, 0, 0, 0, 0)) := s187_3 4
theorem i187_53 : q_ins 187 53 = some (.invokevirtual 318, 3, (224, 178, 3, 0, 10)) := s187_3 5
theorem i187_56 : q_ins 187 56 = some (.ireturn, 1, (0, 0, 0, 0, 0)) := s187_3 8
theorem i187_57 : q_ins 187 57 = some (.aload_n 0, 1, (0, 0, 0, 0, 0)) := s187_3 9
theorem i187_58 : q_ins 187 58 = some (.aload_n 0, 1, (0, 0, 0, 0, 0)) := s187_3 10
theorem i187_59 : q_ins 187 59 = some (.getfield 16, 3, (164, 10, 2, 2, 0)) := s187_3 11
theorem i187_62 : q_ins 187 62 = some (.iload_n 1, 1, (0, 0, 0, 0, 0)) := s187_3 14
theorem i187_63 : q_ins 187 63 = some (.iconst 1, 1, (0, 0, 0, 0, 0)) := s187_3 15
theorem i187_64 : q_ins 187 64 = some (.iadd, 1, (0, 0, 0, 0, 0)) := s187_4 0
theorem i187_65 : q_ins 187 65 = some (.iaload, 1, (0, 0, 0, 0, 0)) := s187_4 1
theorem i187_66 : q_ins 187 66 = some (.iconst (-1), 1, (0, 0, 0, 0, 0)) := s187_4 2
theorem i187_67 : q_ins 187 67 = some (.invokevirtual 318, 3, (224, 178, 3, 0, 10)) := s187_4 3
theorem i187_70 : q_ins 187 70 = some (.ireturn, 1, (0, 0, 0, 0, 0)) := s187_4 6
theorem i187_71 : q_ins 187 71 = some (.aload_n 0, 1, (0, 0, 0, 0, 0)) := s187_4 7
theorem i187_72 : q_ins 187 72 = some (.aload_n 0, 1, (0, 0, 0, 0, 0)) := s187_4 8
theorem i187_73 : q_ins 187 73 = some (.getfield 16, 3, (164, 10, 2, 2, 0)) := s187_4 9
theorem i187_76 : q_ins 187 76 = some (.iload_n 1, 1, (0, 0, 0, 0, 0)) := s187_4 12
theorem i187_77 : q_ins 187 77 = some (.iconst 1, 1, (0, 0, 0, 0, 0)) := s187_4 13
theorem i187_78 : q_ins 187 78 = some (.iadd, 1, (0, 0, 0, 0, 0)) := s187_4 14
theorem i187_79 : q_ins 187 79 = some (.iaload, 1, (0, 0, 0, 0, 0)) := s187_4 15
theorem i187_80 : q_ins 187 80 = some (.iconst 1, 1, (0, 0, 0, 0, 0)) := s187_5 0
theorem i187_81 : q_ins 187 81 = some (.invokevirtual 321, 3, (225, 181, 3, 0, 10)) := s187_5 1
theorem i187_84 : q_ins 187 84 = some (.ireturn, 1, (0, 0, 0, 0, 0)) := s187_5 4
theorem i187_85 : q_ins 187 85 = some (.aload_n 0, 1, (0, 0, 0, 0, 0)) := s187_5 5
theorem i187_86 : q_ins 187 86 = some (.invokevirtual 325, 3, (226, 182, 1, 0, 10)) := s187_5 6
theorem i187_89 : q_ins 187 89 = some (.ifCond .lt 7, 3, (0, 0, 0, 0, 0)) := s187_5 9
theorem i187_92 : q_ins 187 92 = some (.iconst 1, 1, (0, 0, 0, 0, 0)) := s187_5 12
theorem i187_93 : q_ins 187 93 = some (.goto 4, 3, (0, 0, 0, 0, 0)) := s187_5 13
theorem i187_96 : q_ins 187 96 = some (.iconst 0, 1, (0, 0, 0, 0, 0)) := s187_6 0
theorem i187_97 : q_ins 187 97 = some (.ireturn, 1, (0, 0, 0, 0, 0)) := s187_6 1
theorem i187_98 : q_ins 187 98 = some (.iconst 1, 1, (0, 0, 0, 0, 0)) := s187_6 2
theorem i187_99 : q_ins 187 99 = some (.ireturn, 1, (0, 0, 0, 0, 0)) := s187_6 3
theorem s188_0 (j : Nat) : q_ins 188 j = q_at q_c188 j := rfl
theorem s188_1 (j : Nat) : q_ins 188 (j + 16) = q_at q_c188_1 j := s188_0 (j + 16)
theorem s188_2 (j : Nat) : q_ins 188 (j + 32) = q_at q_c188_2 j := s188_1 (j + 16)
theorem i188_0 : q_ins 188 0 = some (.aload_n 0, 1, (0, 0, 0, 0, 0)) := s188_0 0
theorem i188_1 : q_ins 188 1 = some (.iload_n 1, 1, (0, 0, 0, 0, 0)) := s188_0 1
theorem i188_2 : q_ins 188 2 = some (.invokevirtual 249, 3, (202, 160, 2, 0, 10)) := s188_0 2
theorem i188_5 : q_ins 188 5 = some (.ifCond .eq 12, 3, (0, 0, 0, 0, 0)) := s188_0 5
theorem i188_8 : q_ins 188 8 = some (.iload_n 2, 1, (0, 0, 0, 0, 0)) := s188_0 8
theorem i188_9 : q_ins 188 9 = some (.iconst 0, 1, (0, 0, 0, 0, 0)) := s188_0 9
theorem i188_10 : q_ins 188 10 = some (.iconst 5, 1, (0, 0, 0, 0, 0)) := s188_0 10
theorem i188_11 : q_ins 188 11 = some (.invokestatic 71, 3, (167, 118, 3, 2, 0)) := s188_0 11
theorem i188_14 : q_ins 188 14 = some (.ifCond .ne 6, 3, (0, 0, 0, 0, 0)) := s188_0 14
theorem i188_17 : q_ins 188 17 = some (.bipush (-2), 2, (0, 0, 0, 0, 0)) := s188_1 1
theorem i188_19 : q_ins 188 19 = some (.ireturn, 1, (0, 0, 0, 0, 0)) := s188_1 3
theorem i188_20 : q_ins 188 20 = some (.iload_n 2, 1, (0, 0, 0, 0, 0)) := s188_1 4
theorem i188_21 : q_ins 188 21 = some (.iconst 3, 1, (0, 0, 0, 0, 0)) := s188_1 5
theorem i188_22 : q_ins 188 22 = some (.if_icmp .ge 14, 3, (0, 0, 0, 0, 0)) := s188_1 6
theorem i188_25 : q_ins 188 25 = some (.aload_n 0, 1, (0, 0, 0, 0, 0)) := s188_1 9
theorem i188_26 : q_ins 188 26 = some (.iload_n 1, 1, (0, 0, 0, 0, 0)) := s188_1 10
theorem i188_27 : q_ins 188 27 = some (.iconst 3, 1, (0, 0, 0, 0, 0)) := s188_1 11
theorem i188_28 : q_ins 188 28 = some (.iload_n 2, 1, (0, 0, 0, 0, 0)) := s188_1 12
theorem i188_29 : q_ins 188 29 = some (.iadd, 1, (0, 0, 0, 0, 0)) := s188_1 13
theorem i188_30 : q_ins 188 30 = some (.invokevirtual 75, 3, (203, 161, 3, 0, 10)) := s188_1 14
theorem i188_33 : q_ins 188 33 = some (.goto 11, 3, (0, 0, 0, 0, 0)) := s188_2 1
theorem i188_36 : q_ins 188 36 = some (.aload_n 0, 1, (0, 0, 0, 0, 0)) := s188_2 4
theorem i188_37 : q_ins 188 37 = some (.iload_n 1, 1, (0, 0, 0, 0, 0)) := s188_2 5
theorem i188_38 : q_ins 188 38 = some (.iload_n 2, 1, (0, 0, 0, 0, 0)) := s188_2 6
theorem i188_39 : q_ins 188 39 = some (.iconst 3, 1, (0, 0, 0, 0, 0)) := s188_2 7
theorem i188_40 : q_ins 188 40 = some (.isub, 1, (0, 0, 0, 0, 0)) := s188_2 8
theorem i188_41 : q_ins 188 41 = some (.invokevirtual 75, 3, (203, 161, 3, 0, 10)) := s188_2 9
theorem i188_44 : q_ins 188 44 = some (.ireturn, 1, (0, 0, 0, 0, 0)) := s188_2 12
theorem s189_0 (j : Nat) : q_ins 189 j = q_at q_c189 j := rfl
theorem s189_1 (j : Nat) : q_ins 189 (j + 16) = q_at q_c189_1 j := s189_0 (j + 16)
theorem i189_0 : q_ins 189 0 = some (.iload_n 1, 1, (0, 0, 0, 0, 0)) := s189_0 0
theorem i189_1 : q_ins 189 1 = some (.iconst 0, 1, (0, 0, 0, 0, 0)) := s189_0 1
theorem i189_2 : q_ins 189 2 = some (.bipush 63, 2, (0, 0, 0, 0, 0)) := s189_0 2
theorem i189_4 : q_ins 189 4 = some (.invokestatic 71, 3, (167, 118, 3, 2, 0)) := s189_0 4
theorem i189_7 : q_ins 189 7 = some (.ifCond .ne 5, 3, (0, 0, 0, 0, 0)) := s189_0 7
theorem i189_10 : q_ins 189 10 = some (.iconst (-1), 1, (0, 0, 0, 0, 0)) := s189_0 10
theorem i189_11 : q_ins 189 11 = some (.ireturn, 1, (0, 0, 0, 0, 0)) := s189_0 11
theorem i189_12 : q_ins 189 12 = some (.aload_n 0, 1, (0, 0, 0, 0, 0)) := s189_0 12
theorem i189_13 : q_ins 189 13 = some (.invokevirtual 299, 3, (200, 159, 1, 0, 10)) := s189_0 13
theorem i189_16 : q_ins 189 16 = some (.aload_n 0, 1, (0, 0, 0, 0, 0)) := s189_1 0
theorem i189_17 : q_ins 189 17 = some (.iload_n 1, 1, (0, 0, 0, 0, 0)) := s189_1 1
theorem i189_18 : q_ins 189 18 = some (.invokevirtual 331, 3, (227, 190, 2, 0, 10)) := s189_1 2
theorem i189_21 : q_ins 189 21 = some (.ireturn, 1, (0, 0, 0, 0, 0)) := s189_1 5
theorem s190_0 (j : Nat) : q_ins 190 j = q_at q_c190 j := rfl
theorem s190_1 (j : Nat) : q_ins 190 (j + 16) = q_at q_c190_1 j := s190_0 (j + 16)
theorem i190_0 : q_ins 190 0 = some (.iconst 0, 1, (0, 0, 0, 0, 0)) := s190_0 0
theorem i190_1 : q_ins 190 1 = some (.istore_n 2, 1, (0, 0, 0, 0, 0)) := s190_0 1
theorem i190_2 : q_ins 190 2 = some (.iconst 0, 1, (0, 0, 0, 0, 0)) := s190_0 2
theorem i190_3 : q_ins 190 3 = some (.istore_n 3, 1, (0, 0, 0, 0, 0)) := s190_0 3
theorem i190_4 : q_ins 190 4 = some (.iload_n 3, 1, (0, 0, 0, 0, 0)) := s190_0 4
theorem i190_5 : q_ins 190 5 = some (.aload_n 0, 1, (0, 0, 0, 0, 0)) := s190_0 5
theorem i190_6 : q_ins 190 6 = some (.getfield 7, 3, (162, 10, 0, 2, 0)) := s190_0 6
theorem i190_9 : q_ins 190 9 = some (.iconst 1, 1, (0, 0, 0, 0, 0)) := s190_0 9
theorem i190_10 : q_ins 190 10 = some (.iaload, 1, (0, 0, 0, 0, 0)) := s190_0 10
theorem i190_11 : q_ins 190 11 = some (.if_icmp .ge 18, 3, (0, 0, 0, 0, 0)) := s190_0 11
theorem i190_14 : q_ins 190 14 = some (.iload_n 2, 1, (0, 0, 0, 0, 0)) := s190_0 14
theorem i190_15 : q_ins 190 15 = some (.aload_n 0, 1, (0, 0, 0, 0, 0)) := s190_0 15
theorem i190_16 : q_ins 190 16 = some (.iload_n 3, 1, (0, 0, 0, 0, 0)) := s190_1 0
theorem i190_17 : q_ins 190 17 = some (.iload_n 1, 1, (0, 0, 0, 0, 0)) := s190_1 1
theorem i190_18 : q_ins 190 18 = some (.invokevirtual 293, 3, (201, 162, 3, 0, 10)) := s190_1 2
theorem i190_21 : q_ins 190 21 = some (.iadd, 1, (0, 0, 0, 0, 0)) := s190_1 5
theorem i190_22 : q_ins 190 22 = some (.istore_n 2, 1, (0, 0, 0, 0, 0)) := s190_1 6
theorem i190_23 : q_ins 190 23 = some (.iinc 3 1, 3, (0, 0, 0, 0, 0)) := s190_1 7
theorem i190_26 : q_ins 190 26 = some (.goto (-22), 3, (0, 0, 0, 0, 0)) := s190_1 10
theorem i190_29 : q_ins 190 29 = some (.iload_n 2, 1, (0, 0, 0, 0, 0)) := s190_1 13
theorem i190_30 : q_ins 190 30 = some (.ireturn, 1, (0, 0, 0, 0, 0)) := s190_1 14
theorem s191_0 (j : Nat) : q_ins 191 j = q_at q_c191 j := rfl
theorem s191_1 (j : Nat) : q_ins 191 (j + 16) = q_at q_c191_1 j := s191_0 (j + 16)
theorem s191_2 (j : Nat) : q_ins 191 (j + 32) = q_at q_c191_2 j := s191_1 (j + 16)
theorem i191_0 : q_ins 191 0 = some (.aload_n 0, 1, (0, 0, 0, 0, 0)) := s191_0 0
theorem i191_1 : q_ins 191 1 = some (.iload_n 1, 1, (0, 0, 0, 0, 0)) := s191_0 1
theorem i191_2 : q_ins 191 2 = some (.invokevirtual 249, 3, (202, 160, 2, 0, 10)) := s191_0 2
theorem i191_5 : q_ins 191 5 = some (.ifCond .eq 12, 3, (0, 0, 0, 0, 0)) := s191_0 5
theorem i191_8 : q_ins 191 8 = some (.aload_n 0, 1, (0, 0, 0, 0, 0)) := s191_0 8
theorem i191_9 : q_ins 191 9 = some (.iload_n 1, 1, (0, 0, 0, 0, 0)) := s191_0 9
theorem i191_10 : q_ins 191 10 = some (.iconst 3, 1, (0, 0, 0, 0, 0)) := s191_0 10
theorem i191_11 : q_ins 191 11 = some (.invokevirtual 75, 3, (203, 161, 3, 0, 10)) := s191_0 11
theorem i191_14 : q_ins 191 14 = some (.ifCond .ge 7, 3, (0, 0, 0, 0, 0)) := s191_0 14
theorem i191_17 : q_ins 191 17 = some (.sipush (-1000), 3, (0, 0, 0, 0, 0)) := s191_1 1
theorem i191_20 : q_ins 191 20 = some (.ireturn, 1, (0, 0, 0, 0, 0)) := s191_1 4
theorem i191_21 : q_ins 191 21 = some (.aload_n 0, 1, (0, 0, 0, 0, 0)) := s191_1 5
theorem i191_22 : q_ins 191 22 = some (.invokevirtual 299, 3, (200, 159, 1, 0, 10)) := s191_1 6
theorem i191_25 : q_ins 191 25 = some (.aload_n 0, 1, (0, 0, 0, 0, 0)) := s191_1 9
theorem i191_26 : q_ins 191 26 = some (.bipush 63, 2, (0, 0, 0, 0, 0)) := s191_1 10
theorem i191_28 : q_ins 191 28 = some (.invokevirtual 331, 3, (227, 190, 2, 0, 10)) := s191_1 12
theorem i191_31 : q_ins 191 31 = some (.aload_n 0, 1, (0, 0, 0, 0, 0)) := s191_1 15
theorem i191_32 : q_ins 191 32 = some (.bipush 63, 2, (0, 0, 0, 0, 0)) := s191_2 0
theorem i191_34 : q_ins 191 34 = some (.iconst 1, 1, (0, 0, 0, 0, 0)) := s191_2 2
theorem i191_35 : q_ins 191 35 = some (.iload_n 1, 1, (0, 0, 0, 0, 0)) := s191_2 3
theorem i191_36 : q_ins 191 36 = some (.ishl, 1, (0, 0, 0, 0, 0)) := s191_2 4
theorem i191_37 : q_ins 191 37 = some (.iconst (-1), 1, (0, 0, 0, 0, 0)) := s191_2 5
theorem i191_38 : q_ins 191 38 = some (.ixor, 1, (0, 0, 0, 0, 0)) := s191_2 6
theorem i191_39 : q_ins 191 39 = some (.iand, 1, (0, 0, 0, 0, 0)) := s191_2 7
theorem i191_40 : q_ins 191 40 = some (.invokevirtual 331, 3, (227, 190, 2, 0, 10)) := s191_2 8
theorem i191_43 : q_ins 191 43 = some (.isub, 1, (0, 0, 0, 0, 0)) := s191_2 11
theorem i191_44 : q_ins 191 44 = some (.ireturn, 1, (0, 0, 0, 0, 0)) := s191_2 12
theorem s192_0 (j : Nat) : q_ins 192 j = q_at q_c192 j := rfl
theorem s192_1 (j : Nat) : q_ins 192 (j + 16) = q_at q_c192_1 j := s192_0 (j + 16)
theorem s192_2 (j : Nat) : q_ins 192 (j + 32) = q_at q_c192_2 j := s192_1 (j + 16)
theorem s192_3 (j : Nat) : q_ins 192 (j + 48) = q_at q_c192_3 j := s192_2 (j + 16)
theorem s192_4 (j : Nat) : q_ins 192 (j + 64) = q_at q_c192_4 j := s192_3 (j + 16)
theorem s192_5 (j : Nat) : q_ins 192 (j + 80) = q_at q_c192_5 j := s192_4 (j + 16)
theorem s192_6 (j : Nat) : q_ins 192 (j + 96) = q_at q_c192_6 j := s192_5 (j + 16)
theorem s192_7 (j : Nat) : q_ins 192 (j + 112) = q_at q_c192_7 j := s192_6 (j + 16)
theorem s192_8 (j : Nat) : q_ins 192 (j + 128) = q_at q_c192_8 j := s192_7 (j + 16)
theorem s192_9 (j : Nat) : q_ins 192 (j + 144) = q_at q_c192_9 j := s192_8 (j + 16)
theorem s192_10 (j : Nat) : q_ins 192 (j + 160) = q_at q_c192_10 j := s192_9 (j + 16)
theorem s192_11 (j : Nat) : q_ins 192 (j + 176) = q_at q_c192_11 j := s192_10 (j + 16)
theorem s192_12 (j : Nat) : q_ins 192 (j + 192) = q_at q_c192_12 j := s192_11 (j + 16)
theorem i192_0 : q_ins 192 0 = some (.aload_n 0, 1, (0, 0, 0, 0, 0)) := s192_0 0
theorem i192_1 : q_ins 192 1 = some (.iload_n 1, 1, (0, 0, 0, 0, 0)) := s192_0 1
theorem i192_2 : q_ins 192 2 = some (.invokevirtual 249, 3, (202, 160, 2, 0, 10)) := s192_0 2
theorem i192_5 : q_ins 192 5 = some (.ifCond .eq 21, 3, (0, 0, 0, 0, 0)) := s192_0 5
theorem i192_8 : q_ins 192 8 = some (.aload_n 0, 1, (0, 0, 0, 0, 0)) := s192_0 8
theorem i192_9 : q_ins 192 9 = some (.iload_n 1, 1, (0, 0, 0, 0, 0)) := s192_0 9
theorem i192_10 : q_ins 192 10 = some (.iconst 3, 1, (0, 0, 0, 0, 0)) := s192_0 10
theorem i192_11 : q_ins 192 11 = some (.invokevirtual 75, 3, (203, 161, 3, 0, 10)) := s192_0 11
theorem i192_14 : q_ins 192 14 = some (.ifCond .lt 12, 3, (0, 0, 0, 0, 0)) := s192_0 14
theorem i192_17 : q_ins 192 17 = some (.iload_n 2, 1, (0, 0, 0, 0, 0)) := s192_1 1
theorem i192_18 : q_ins 192 18 = some (.iconst 0, 1, (0, 0, 0, 0, 0)) := s192_1 2
theorem i192_19 : q_ins 192 19 = some (.iconst 1, 1, (0, 0, 0, 0, 0)) := s192_1 3
theorem i192_20 : q_ins 192 20 = some (.invokestatic 71, 3, (167, 118, 3, 2, 0)) := s192_1 4
theorem i192_23 : q_ins 192 23 = some (.ifCond .ne 7, 3, (0, 0, 0, 0, 0)) := s192_1 7
theorem i192_26 : q_ins 192 26 = some (.ldc_w 334, 3, (1413, 0, 0, 0, (-1000000))) := s192_1 10
theorem i192_29 : q_ins 192 29 = some (.ireturn, 1, (0, 0, 0, 0, 0)) := s192_1 13
theorem i192_30 : q_ins 192 30 = some (.aload_n 0, 1, (0, 0, 0, 0, 0)) := s192_1 14
theorem i192_31 : q_ins 192 31 = some (.invokevirtual 299, 3, (200, 159, 1, 0, 10)) := s192_1 15
theorem i192_34 : q_ins 192 34 = some (.aload_n 0, 1, (0, 0, 0, 0, 0)) := s192_2 2
theorem i192_35 : q_ins 192 35 = some (.invokevirtual 308, 3, (220, 183, 1, 0, 10)) := s192_2 3
theorem i192_38 : q_ins 192 38 = some (.istore_n 3, 1, (0, 0, 0, 0, 0)) := s192_2 6
theorem i192_39 : q_ins 192 39 = some (.iload_n 3, 1, (0, 0, 0, 0, 0)) := s192_2 7
theorem i192_40 : q_ins 192 40 = some (.invokestatic 271, 3, (210, 170, 1, 2, 0)) := s192_2 8
theorem i192_43 : q_ins 192 43 = some (.istore 4, 2, (0, 0, 0, 0, 0)) := s192_2 11
theorem i192_45 : q_ins 192 45 = some (.iconst 0, 1, (0, 0, 0, 0, 0)) := s192_2 13
theorem i192_46 : q_ins 192 46 = some (.istore 5, 2, (0, 0, 0, 0, 0)) := s192_2 14
theorem i192_48 : q_ins 192 48 = some (.iload 5, 2, (0, 0, 0, 0, 0)) := s192_3 0
theorem i192_50 : q_ins 192 50 = some (.bipush 64, 2, (0, 0, 0, 0, 0)) := s192_3 2
theorem i192_52 : q_ins 192 52 = some (.if_icmp .ge 31, 3, (0, 0, 0, 0, 0)) := s192_3 4
theorem i192_55 : q_ins 192 55 = some (.iload 5, 2, (0, 0, 0, 0, 0)) := s192_3 7
theorem i192_57 : q_ins 192 57 = some (.iload_n 3, 1, (0, 0, 0, 0, 0)) := s192_3 9
theorem i192_58 : q_ins 192 58 = some (.iconst (-1), 1, (0, 0, 0, 0, 0)) := s192_3 10
theorem i192_59 : q_ins 192 59 = some (.ixor, 1, (0, 0, 0, 0, 0)) := s192_3 11
theorem i192_60 : q_ins 192 60 = some (.iand, 1, (0, 0, 0, 0, 0)) := s192_3 12
theorem i192_61 : q_ins 192 61 = some (.ifCond .ne 16, 3, (0, 0, 0, 0, 0)) := s192_3 13
theorem i192_64 : q_ins 192 64 = some (.aload_n 0, 1, (0, 0, 0, 0, 0)) := s192_4 0
theorem i192_65 : q_ins 192 65 = some (.getfield 52, 3, (175, 10, 31, 2, 0)) := s192_4 1
theorem i192_68 : q_ins 192 68 = some (.iload 5, 2, (0, 0, 0, 0, 0)) := s192_4 4
theorem i192_70 : q_ins 192 70 = some (.aload_n 0, 1, (0, 0, 0, 0, 0)) := s192_4 6
theorem i192_71 : q_ins 192 71 = some (.iload 5, 2, (0, 0, 0, 0, 0)) := s192_4 7
theorem i192_73 : q_ins 192 73 = some (.invokevirtual 331, 3, (227, 190, 2, 0, 10)) := s192_4 9
theorem i192_76 : q_ins 192 76 = some (.iastore, 1, (0, 0, 0, 0, 0)) := s192_4 12
theorem i192_77 : q_ins 192 77 = some (.iinc 5 1, 3, (0, 0, 0, 0, 0)) := s192_4 13
theorem i192_80 : q_ins 192 80 = some (.goto (-32), 3, (0, 0, 0, 0, 0)) := s192_5 0
theorem i192_83 : q_ins 192 83 = some (.iconst 0, 1, (0, 0, 0, 0, 0)) := s192_5 3
theorem i192_84 : q_ins 192 84 = some (.istore 5, 2, (0, 0, 0, 0, 0)) := s192_5 4
theorem i192_86 : q_ins 192 86 = some (.iconst 0, 1, (0, 0, 0, 0, 0)) := s192_5 6
theorem i192_87 : q_ins 192 87 = some (.istore 6, 2, (0, 0, 0, 0, 0)) := s192_5 7
theorem i192_89 : q_ins 192 89 = some (.iload 6, 2, (0, 0, 0, 0, 0)) := s192_5 9
theorem i192_91 : q_ins 192 91 = some (.bipush 64, 2, (0, 0, 0, 0, 0)) := s192_5 11
theorem i192_93 : q_ins 192 93 = some (.if_icmp .ge 77, 3, (0, 0, 0, 0, 0)) := s192_5 13
theorem i192_96 : q_ins 192 96 = some (.iload 6, 2, (0, 0, 0, 0, 0)) := s192_6 0
theorem i192_98 : q_ins 192 98 = some (.iload_n 3, 1, (0, 0, 0, 0, 0)) := s192_6 2
theorem i192_99 : q_ins 192 99 = some (.iconst (-1), 1, (0, 0, 0, 0, 0)) := s192_6 3
theorem i192_100 : q_ins 192 100 = some (.ixor, 1, (0, 0, 0, 0, 0)) := s192_6 4
theorem i192_101 : q_ins 192 101 = some (.iand, 1, (0, 0, 0, 0, 0)) := s192_6 5
theorem i192_102 : q_ins 192 102 = some (.ifCond .ne 62, 3, (0, 0, 0, 0, 0)) := s192_6 6
theorem i192_105 : q_ins 192 105 = some (.iload 6, 2, (0, 0, 0, 0, 0)) := s192_6 9
theorem i192_107 : q_ins 192 107 = some (.iload_n 1, 1, (0, 0, 0, 0, 0)) := s192_6 11
theorem i192_108 : q_ins 192 108 = some (.invokestatic 258, 3, (206, 164, 2, 2, 0)) := s192_6 12
theorem i192_111 : q_ins 192 111 = some (.ifCond .eq 6, 3, (0, 0, 0, 0, 0)) := s192_6 15
theorem i192_114 : q_ins 192 114 = some (.goto 50, 3, (0, 0, 0, 0, 0)) := s192_7 2
theorem i192_117 : q_ins 192 117 = some (.iload 5, 2, (0, 0, 0, 0, 0)) := s192_7 5
theorem i192_119 : q_ins 192 119 = some (.iload 6, 2, (0, 0, 0, 0, 0)) := s192_7 7
theorem i192_121 : q_ins 192 121 = some (.invokestatic 271, 3, (210, 170, 1, 2, 0)) := s192_7 9
theorem i192_124 : q_ins 192 124 = some (.invokestatic 335, 3, (228, 193, 1, 2, 0)) := s192_7 12
theorem i192_127 : q_ins 192 127 = some (.iload 4, 2, (0, 0, 0, 0, 0)) := s192_7 15
theorem i192_129 : q_ins 192 129 = some (.iload 6, 2, (0, 0, 0, 0, 0)) := s192_8 1
theorem i192_131 : q_ins 192 131 = some (.invokestatic 271, 3, (210, 170, 1, 2, 0)) := s192_8 3
theorem i192_134 : q_ins 192 134 = some (.isub, 1, (0, 0, 0, 0, 0)) := s192_8 6
theorem i192_135 : q_ins 192 135 = some (.iconst 1, 1, (0, 0, 0, 0, 0)) := s192_8 7
theorem i192_136 : q_ins 192 136 = some (.isub, 1, (0, 0, 0, 0, 0)) := s192_8 8
theorem i192_137 : q_ins 192 137 = some (.invokestatic 335, 3, (228, 193, 1, 2, 0)) := s192_8 9
theorem i192_140 : q_ins 192 140 = some (.imul, 1, (0, 0, 0, 0, 0)) := s192_8 12
theorem i192_141 : q_ins 192 141 = some (.aload_n 0, 1, (0, 0, 0, 0, 0)) := s192_8 13
theorem i192_142 : q_ins 192 142 = some (.getfield 52, 3, (175, 10, 31, 2, 0)) := s192_8 14
theorem i192_145 : q_ins 192 145 = some (.iload 6, 2, (0, 0, 0, 0, 0)) := s192_9 1
theorem i192_147 : q_ins 192 147 = some (.iconst 1, 1, (0, 0, 0, 0, 0)) := s192_9 3
theorem i192_148 : q_ins 192 148 = some (.iload_n 1, 1, (0, 0, 0, 0, 0)) := s192_9 4
theorem i192_149 : q_ins 192 149 = some (.ishl, 1, (0, 0, 0, 0, 0)) := s192_9 5
theorem i192_150 : q_ins 192 150 = some (.ior, 1, (0, 0, 0, 0, 0)) := s192_9 6
theorem i192_151 : q_ins 192 151 = some (.iaload, 1, (0, 0, 0, 0, 0)) := s192_9 7
theorem i192_152 : q_ins 192 152 = some (.aload_n 0, 1, (0, 0, 0, 0, 0)) := s192_9 8
theorem i192_153 : q_ins 192 153 = some (.getfield 52, 3, (175, 10, 31, 2, 0)) := s192_9 9
theorem i192_156 : q_ins 192 156 = some (.iload 6, 2, (0, 0, 0, 0, 0)) := s192_9 12
theorem i192_158 : q_ins 192 158 = some (.iaload, 1, (0, 0, 0, 0, 0)) := s192_9 14
theorem i192_159 : q_ins 192 159 = some (.isub, 1, (0, 0, 0, 0, 0)) := s192_9 15
theorem i192_160 : q_ins 192 160 = some (.imul, 1, (0, 0, 0, 0, 0)) := s192_10 0
theorem i192_161 : q_ins 192 161 = some (.iadd, 1, (0, 0, 0, 0, 0)) := s192_10 1
theorem i192_162 : q_ins 192 162 = some (.istore 5, 2, (0, 0, 0, 0, 0)) := s192_10 2
theorem i192_164 : q_ins 192 164 = some (.iinc 6 1, 3, (0, 0, 0, 0, 0)) := s192_10 4
theorem i192_167 : q_ins 192 167 = some (.goto (-78), 3, (0, 0, 0, 0, 0)) := s192_10 7
theorem i192_170 : q_ins 192 170 = some (.iload 4, 2, (0, 0, 0, 0, 0)) := s192_10 10
theorem i192_172 : q_ins 192 172 = some (.invokestatic 335, 3, (228, 193, 1, 2, 0)) := s192_10 12
theorem i192_175 : q_ins 192 175 = some (.istore 6, 2, (0, 0, 0, 0, 0)) := s192_10 15
theorem i192_177 : q_ins 192 177 = some (.iload_n 2, 1, (0, 0, 0, 0, 0)) := s192_11 1
theorem i192_178 : q_ins 192 178 = some (.ifCond .ne 8, 3, (0, 0, 0, 0, 0)) := s192_11 2
theorem i192_181 : q_ins 192 181 = some (.iload 5, 2, (0, 0, 0, 0, 0)) := s192_11 5
theorem i192_183 : q_ins 192 183 = some (.goto 5, 3, (0, 0, 0, 0, 0)) := s192_11 7
theorem i192_186 : q_ins 192 186 = some (.iload 6, 2, (0, 0, 0, 0, 0)) := s192_11 10
theorem i192_188 : q_ins 192 188 = some (.iload 5, 2, (0, 0, 0, 0, 0)) := s192_11 12
theorem i192_190 : q_ins 192 190 = some (.iload 6, 2, (0, 0, 0, 0, 0)) := s192_11 14
theorem i192_192 : q_ins 192 192 = some (.invokestatic 338, 3, (229, 194, 2, 2, 0)) := s192_12 0
theorem i192_195 : q_ins 192 195 = some (.idiv, 1, (0, 0, 0, 0, 0)) := s192_12 3
theorem i192_196 : q_ins 192 196 = some (.ireturn, 1, (0, 0, 0, 0, 0)) := s192_12 4
theorem s193_0 (j : Nat) : q_ins 193 j = q_at q_c193 j := rfl
theorem s193_1 (j : Nat) : q_ins 193 (j + 16) = q_at q_c193_1 j := s193_0 (j + 16)
theorem i193_0 : q_ins 193 0 = some (.iconst 1, 1, (0, 0, 0, 0, 0)) := s193_0 0
theorem i193_1 : q_ins 193 1 = some (.istore_n 1, 1, (0, 0, 0, 0, 0)) := s193_0 1
theorem i193_2 : q_ins 193 2 = some (.iconst 2, 1, (0, 0, 0, 0, 0)) := s193_0 2
theorem i193_3 : q_ins 193 3 = some (.istore_n 2, 1, (0, 0, 0, 0, 0)) := s193_0 3
theorem i193_4 : q_ins 193 4 = some (.iload_n 2, 1, (0, 0, 0, 0, 0)) := s193_0 4
theorem i193_5 : q_ins 193 5 = some (.iload_n 0, 1, (0, 0, 0, 0, 0)) := s193_0 5
theorem i193_6 : q_ins 193 6 = some (.if_icmp .gt 13, 3, (0, 0, 0, 0, 0)) := s193_0 6
theorem i193_9 : q_ins 193 9 = some (.iload_n 1, 1, (0, 0, 0, 0, 0)) := s193_0 9
theorem i193_10 : q_ins 193 10 = some (.iload_n 2, 1, (0, 0, 0, 0, 0)) := s193_0 10
theorem i193_11 : q_ins 193 11 = some (.imul, 1, (0, 0, 0, 0, 0)) := s193_0 11
theorem i193_12 : q_ins 193 12 = some (.istore_n 1, 1, (0, 0, 0, 0, 0)) := s193_0 12
theorem i193_13 : q_ins 193 13 = some (.iinc 2 1, 3, (0, 0, 0, 0, 0)) := s193_0 13
theorem i193_16 : q_ins 193 16 = some (.goto (-12), 3, (0, 0, 0, 0, 0)) := s193_1 0
theorem i193_19 : q_ins 193 19 = some (.iload_n 1, 1, (0, 0, 0, 0, 0)) := s193_1 3
theorem i193_20 : q_ins 193 20 = some (.ireturn, 1, (0, 0, 0, 0, 0)) := s193_1 4
theorem s194_0 (j : Nat) : q_ins 194 j = q_at q_c194 j := rfl
theorem s194_1 (j : Nat) : q_ins 194 (j + 16) = q_at q_c194_1 j := s194_0 (j + 16)
theorem i194_0 : q_ins 194 0 = some (.iload_n 0, 1, (0, 0, 0, 0, 0)) := s194_0 0
theorem i194_1 : q_ins 194 1 = some (.ifCond .ge 8, 3, (0, 0, 0, 0, 0)) := s194_0 1
theorem i194_4 : q_ins 194 4 = some (.iload_n 0, 1, (0, 0, 0, 0, 0)) := s194_0 4
theorem i194_5 : q_ins 194 5 = some (.ineg, 1, (0, 0, 0, 0, 0)) := s194_0 5
theorem i194_6 : q_ins 194 6 = some (.goto 4, 3, (0, 0, 0, 0, 0)) := s194_0 6
theorem i194_9 : q_ins 194 9 = some (.iload_n 0, 1, (0, 0, 0, 0, 0)) := s194_0 9
theorem i194_10 : q_ins 194 10 = some (.istore_n 2, 1, (0, 0, 0, 0, 0)) := s194_0 10
theorem i194_11 : q_ins 194 11 = some (.iload_n 1, 1, (0, 0, 0, 0, 0)) := s194_0 11
theorem i194_12 : q_ins 194 12 = some (.istore_n 3, 1, (0, 0, 0, 0, 0)) := s194_0 12
theorem i194_13 : q_ins 194 13 = some (.iload_n 3, 1, (0, 0, 0, 0, 0)) := s194_0 13
theorem i194_14 : q_ins 194 14 = some (.ifCond .eq 16, 3, (0, 0, 0, 0, 0)) := s194_0 14
theorem i194_17 : q_ins 194 17 = some (.iload_n 2, 1, (0, 0, 0, 0, 0)) := s194_1 1
theorem i194_18 : q_ins 194 18 = some (.iload_n 3, 1, (0, 0, 0, 0, 0)) := s194_1 2
theorem i194_19 : q_ins 194 19 = some (.irem, 1, (0, 0, 0, 0, 0)) := s194_1 3
theorem i194_20 : q_ins 194 20 = some (.istore 4, 2, (0, 0, 0, 0, 0)) := s194_1 4
theorem i194_22 : q_ins 194 22 = some (.iload_n 3, 1, (0, 0, 0, 0, 0)) := s194_1 6
theorem i194_23 : q_ins 194 23 = some (.istore_n 2, 1, (0, 0, 0, 0, 0)) := s194_1 7
theorem i194_24 : q_ins 194 24 = some (.iload 4, 2, (0, 0, 0, 0, 0)) := s194_1 8
theorem i194_26 : q_ins 194 26 = some (.istore_n 3, 1, (0, 0, 0, 0, 0)) := s194_1 10
theorem i194_27 : q_ins 194 27 = some (.goto (-14), 3, (0, 0, 0, 0, 0)) := s194_1 11
theorem i194_30 : q_ins 194 30 = some (.iload_n 2, 1, (0, 0, 0, 0, 0)) := s194_1 14
theorem i194_31 : q_ins 194 31 = some (.ireturn, 1, (0, 0, 0, 0, 0)) := s194_1 15
theorem s195_0 (j : Nat) : q_ins 195 j = q_at q_c195 j := rfl
theorem s195_1 (j : Nat) : q_ins 195 (j + 16) = q_at q_c195_1 j := s195_0 (j + 16)
theorem s195_2 (j : Nat) : q_ins 195 (j + 32) = q_at q_c195_2 j := s195_1 (j + 16)
theorem s195_3 (j : Nat) : q_ins 195 (j + 48) = q_at q_c195_3 j := s195_2 (j + 16)
theorem s195_4 (j : Nat) : q_ins 195 (j + 64) = q_at q_c195_4 j := s195_3 (j + 16)
theorem s195_5 (j : Nat) : q_ins 195 (j + 80) = q_at q_c195_5 j := s195_4 (j + 16)
theorem s195_6 (j : Nat) : q_ins 195 (j + 96) = q_at q_c195_6 j := s195_5 (j + 16)
theorem s195_7 (j : Nat) : q_ins 195 (j + 112) = q_at q_c195_7 j := s195_6 (j + 16)
theorem s195_8 (j : Nat) : q_ins 195 (j + 128) = q_at q_c195_8 j := s195_7 (j + 16)
theorem s195_9 (j : Nat) : q_ins 195 (j + 144) = q_at q_c195_9 j := s195_8 (j + 16)
theorem s195_10 (j : Nat) : q_ins 195 (j + 160) = q_at q_c195_10 j := s195_9 (j + 16)
theorem i195_0 : q_ins 195 0 = some (.iload_n 1, 1, (0, 0, 0, 0, 0)) := s195_0 0
theorem i195_1 : q_ins 195 1 = some (.iconst (-1), 1, (0, 0, 0, 0, 0)) := s195_0 1
theorem i195_2 : q_ins 195 2 = some (.bipush 15, 2, (0, 0, 0, 0, 0)) := s195_0 2
theorem i195_4 : q_ins 195 4 = some (.invokestatic 71, 3, (167, 118, 3, 2, 0)) := s195_0 4
theorem i195_7 : q_ins 195 7 = some (.ifCond .ne 6, 3, (0, 0, 0, 0, 0)) := s195_0 7
theorem i195_10 : q_ins 195 10 = some (.bipush (-2), 2, (0, 0, 0, 0, 0)) := s195_0 10
theorem i195_12 : q_ins 195 12 = some (.ireturn, 1, (0, 0, 0, 0, 0)) := s195_0 12
theorem i195_13 : q_ins 195 13 = some (.aload_n 0, 1, (0, 0, 0, 0, 0)) := s195_0 13
theorem i195_14 : q_ins 195 14 = some (.invokevirtual 299, 3, (200, 159, 1, 0, 10)) := s195_0 14
theorem i195_17 : q_ins 195 17 = some (.aload_n 0, 1, (0, 0, 0, 0, 0)) := s195_1 1
theorem i195_18 : q_ins 195 18 = some (.invokevirtual 347, 3, (230, 196, 1, 0, 10)) := s195_1 2
theorem i195_21 : q_ins 195 21 = some (.ldc_w 350, 3, (1428, 0, 0, 0, 1000000)) := s195_1 5
theorem i195_24 : q_ins 195 24 = some (.istore_n 2, 1, (0, 0, 0, 0, 0)) := s195_1 8
theorem i195_25 : q_ins 195 25 = some (.iconst 1, 1, (0, 0, 0, 0, 0)) := s195_1 9
theorem i195_26 : q_ins 195 26 = some (.istore_n 3, 1, (0, 0, 0, 0, 0)) := s195_1 10
theorem i195_27 : q_ins 195 27 = some (.iload_n 3, 1, (0, 0, 0, 0, 0)) := s195_1 11
theorem i195_28 : q_ins 195 28 = some (.ifCond .eq 97, 3, (0, 0, 0, 0, 0)) := s195_1 12
theorem i195_31 : q_ins 195 31 = some (.iconst 0, 1, (0, 0, 0, 0, 0)) := s195_1 15
theorem i195_32 : q_ins 195 32 = some (.istore 4, 2, (0, 0, 0, 0, 0)) := s195_2 0
theorem i195_34 : q_ins 195 34 = some (.iload 4, 2, (0, 0, 0, 0, 0)) := s195_2 2
theorem i195_36 : q_ins 195 36 = some (.aload_n 0, 1, (0, 0, 0, 0, 0)) := s195_2 4
theorem i195_37 : q_ins 195 37 = some (.getfield 341, 3, (196, 10, 35, 0, 0)) := s195_2 5
theorem i195_40 : q_ins 195 40 = some (.if_icmp .ge 28, 3, (0, 0, 0, 0, 0)) := s195_2 8
theorem i195_43 : q_ins 195 43 = some (.aload_n 0, 1, (0, 0, 0, 0, 0)) := s195_2 11
theorem i195_44 : q_ins 195 44 = some (.getfield 43, 3, (172, 10, 25, 2, 0)) := s195_2 12
theorem i195_47 : q_ins 195 47 = some (.aload_n 0, 1, (0, 0, 0, 0, 0)) := s195_2 15
theorem i195_48 : q_ins 195 48 = some (.getfield 58, 3, (177, 10, 33, 2, 0)) := s195_3 0
theorem i195_51 : q_ins 195 51 = some (.iload 4, 2, (0, 0, 0, 0, 0)) := s195_3 3
theorem i195_53 : q_ins 195 53 = some (.iaload, 1, (0, 0, 0, 0, 0)) := s195_3 5
theorem i195_54 : q_ins 195 54 = some (.aload_n 0, 1, (0, 0, 0, 0, 0)) := s195_3 6
theorem i195_55 : q_ins 195 55 = some (.getfield 55, 3, (176, 10, 32, 2, 0)) := s195_3 7
theorem i195_58 : q_ins 195 58 = some (.iload 4, 2, (0, 0, 0, 0, 0)) := s195_3 10
theorem i195_60 : q_ins 195 60 = some (.iaload, 1, (0, 0, 0, 0, 0)) := s195_3 12
theorem i195_61 : q_ins 195 61 = some (.iastore, 1, (0, 0, 0, 0, 0)) := s195_3 13
theorem i195_62 : q_ins 195 62 = some (.iinc 4 1, 3, (0, 0, 0, 0, 0)) := s195_3 14
theorem i195_65 : q_ins 195 65 = some (.goto (-31), 3, (0, 0, 0, 0, 0)) := s195_4 1
theorem i195_68 : q_ins 195 68 = some (.aload_n 0, 1, (0, 0, 0, 0, 0)) := s195_4 4
theorem i195_69 : q_ins 195 69 = some (.bipush 63, 2, (0, 0, 0, 0, 0)) := s195_4 5
theorem i195_71 : q_ins 195 71 = some (.invokevirtual 331, 3, (227, 190, 2, 0, 10)) := s195_4 7
theorem i195_74 : q_ins 195 74 = some (.istore 4, 2, (0, 0, 0, 0, 0)) := s195_4 10
theorem i195_76 : q_ins 195 76 = some (.iload 4, 2, (0, 0, 0, 0, 0)) := s195_4 12
theorem i195_78 : q_ins 195 78 = some (.iload_n 2, 1, (0, 0, 0, 0, 0)) := s195_4 14
theorem i195_79 : q_ins 195 79 = some (.if_icmp .ge 38, 3, (0, 0, 0, 0, 0)) := s195_4 15
theorem i195_82 : q_ins 195 82 = some (.iload 4, 2, (0, 0, 0, 0, 0)) := s195_5 2
theorem i195_84 : q_ins 195 84 = some (.istore_n 2, 1, (0, 0, 0, 0, 0)) := s195_5 4
theorem i195_85 : q_ins 195 85 = some (.iconst 0, 1, (0, 0, 0, 0, 0)) := s195_5 5
theorem i195_86 : q_ins 195 86 = some (.istore 5, 2, (0, 0, 0, 0, 0)) := s195_5 6
theorem i195_88 : q_ins 195 88 = some (.iload 5, 2, (0, 0, 0, 0, 0)) := s195_5 8
theorem i195_90 : q_ins 195 90 = some (.aload_n 0, 1, (0, 0, 0, 0, 0)) := s195_5 10
theorem i195_91 : q_ins 195 91 = some (.getfield 341, 3, (196, 10, 35, 0, 0)) := s195_5 11
theorem i195_94 : q_ins 195 94 = some (.if_icmp .ge 23, 3, (0, 0, 0, 0, 0)) := s195_5 14
theorem i195_97 : q_ins 195 97 = some (.aload_n 0, 1, (0, 0, 0, 0, 0)) := s195_6 1
theorem i195_98 : q_ins 195 98 = some (.getfield 61, 3, (178, 10, 34, 2, 0)) := s195_6 2
theorem i195_101 : q_ins 195 101 = some (.iload 5, 2, (0, 0, 0, 0, 0)) := s195_6 5
theorem i195_103 : q_ins 195 103 = some (.aload_n 0, 1, (0, 0, 0, 0, 0)) := s195_6 7
theorem i195_104 : q_ins 195 104 = some (.getfield 58, 3, (177, 10, 33, 2, 0)) := s195_6 8
theorem i195_107 : q_ins 195 107 = some (.iload 5, 2, (0, 0, 0, 0, 0)) := s195_6 11
theorem i195_109 : q_ins 195 109 = some (.iaload, 1, (0, 0, 0, 0, 0)) := s195_6 13
theorem i195_110 : q_ins 195 110 = some (.iastore, 1, (0, 0, 0, 0, 0)) := s195_6 14
theorem i195_111 : q_ins 195 111 = some (.iinc 5 1, 3, (0, 0, 0, 0, 0)) := s195_6 15
theorem i195_114 : q_ins 195 114 = some (.goto (-26), 3, (0, 0, 0, 0, 0)) := s195_7 2
theorem i195_117 : q_ins 195 117 = some (.aload_n 0, 1, (0, 0, 0, 0, 0)) := s195_7 5
theorem i195_118 : q_ins 195 118 = some (.invokevirtual 351, 3, (231, 197, 1, 0, 10)) := s195_7 6
theorem i195_121 : q_ins 195 121 = some (.istore_n 3, 1, (0, 0, 0, 0, 0)) := s195_7 9
theorem i195_122 : q_ins 195 122 = some (.goto (-95), 3, (0, 0, 0, 0, 0)) := s195_7 10
theorem i195_125 : q_ins 195 125 = some (.iload_n 1, 1, (0, 0, 0, 0, 0)) := s195_7 13
theorem i195_126 : q_ins 195 126 = some (.iconst (-1), 1, (0, 0, 0, 0, 0)) := s195_7 14
theorem i195_127 : q_ins 195 127 = some (.if_icmp .ne 5, 3, (0, 0, 0, 0, 0)) := s195_7 15
theorem i195_130 : q_ins 195 130 = some (.iload_n 2, 1, (0, 0, 0, 0, 0)) := s195_8 2
theorem i195_131 : q_ins 195 131 = some (.ireturn, 1, (0, 0, 0, 0, 0)) := s195_8 3
theorem i195_132 : q_ins 195 132 = some (.iconst 0, 1, (0, 0, 0, 0, 0)) := s195_8 4
theorem i195_133 : q_ins 195 133 = some (.istore 4, 2, (0, 0, 0, 0, 0)) := s195_8 5
theorem i195_135 : q_ins 195 135 = some (.iload 4, 2, (0, 0, 0, 0, 0)) := s195_8 7
theorem i195_137 : q_ins 195 137 = some (.aload_n 0, 1, (0, 0, 0, 0, 0)) := s195_8 9
theorem i195_138 : q_ins 195 138 = some (.getfield 341, 3, (196, 10, 35, 0, 0)) := s195_8 10
theorem i195_141 : q_ins 195 141 = some (.if_icmp .ge 28, 3, (0, 0, 0, 0, 0)) := s195_8 13
theorem i195_144 : q_ins 195 144 = some (.aload_n 0, 1, (0, 0, 0, 0, 0)) := s195_9 0
theorem i195_145 : q_ins 195 145 = some (.getfield 55, 3, (176, 10, 32, 2, 0)) := s195_9 1
theorem i195_148 : q_ins 195 148 = some (.iload 4, 2, (0, 0, 0, 0, 0)) := s195_9 4
theorem i195_150 : q_ins 195 150 = some (.iaload, 1, (0, 0, 0, 0, 0)) := s195_9 6
theorem i195_151 : q_ins 195 151 = some (.iload_n 1, 1, (0, 0, 0, 0, 0)) := s195_9 7
theorem i195_152 : q_ins 195 152 = some (.if_icmp .ne 11, 3, (0, 0, 0, 0, 0)) := s195_9 8
theorem i195_155 : q_ins 195 155 = some (.aload_n 0, 1, (0, 0, 0, 0, 0)) := s195_9 11
theorem i195_156 : q_ins 195 156 = some (.getfield 61, 3, (178, 10, 34, 2, 0)) := s195_9 12
theorem i195_159 : q_ins 195 159 = some (.iload 4, 2, (0, 0, 0, 0, 0)) := s195_9 15
theorem i195_161 : q_ins 195 161 = some (.iaload, 1, (0, 0, 0, 0, 0)) := s195_10 1
theorem i195_162 : q_ins 195 162 = some (.ireturn, 1, (0, 0, 0, 0, 0)) := s195_10 2
theorem i195_163 : q_ins 195 163 = some (.iinc 4 1, 3, (0, 0, 0, 0, 0)) := s195_10 3
theorem i195_166 : q_ins 195 166 = some (.goto (-31), 3, (0, 0, 0, 0, 0)) := s195_10 6
theorem i195_169 : q_ins 195 169 = some (.iconst (-1), 1, (0, 0, 0, 0, 0)) := s195_10 9
theorem i195_170 : q_ins 195 170 = some (.ireturn, 1, (0, 0, 0, 0, 0)) := s195_10 10
theorem s196_0 (j : Nat) : q_ins 196 j = q_at q_c196 j := rfl
theorem s196_1 (j : Nat) : q_ins 196 (j + 16) = q_at q_c196_1 j := s196_0 (j + 16)
theorem s196_2 (j : Nat) : q_ins 196 (j + 32) = q_at q_c196_2 j := s196_1 (j + 16)
theorem s196_3 (j : Nat) : q_ins 196 (j + 48) = q_at q_c196_3 j := s196_2 (j + 16)
theorem s196_4 (j : Nat) : q_ins 196 (j + 64) = q_at q_c196_4 j := s196_3 (j + 16)
theorem s196_5 (j : Nat) : q_ins 196 (j + 80) = q_at q_c196_5 j := s196_4 (j + 16)
theorem i196_0 : q_ins 196 0 = some (.aload_n 0, 1, (0, 0, 0, 0, 0)) := s196_0 0
theorem i196_1 : q_ins 196 1 = some (.iconst 0, 1, (0, 0, 0, 0, 0)) := s196_0 1
theorem i196_2 : q_ins 196 2 = some (.putfield 341, 3, (196, 10, 35, 0, 0)) := s196_0 2
theorem i196_5 : q_ins 196 5 = some (.iconst 0, 1, (0, 0, 0, 0, 0)) := s196_0 5
theorem i196_6 : q_ins 196 6 = some (.istore_n 1, 1, (0, 0, 0, 0, 0)) := s196_0 6
theorem i196_7 : q_ins 196 7 = some (.iload_n 1, 1, (0, 0, 0, 0, 0)) := s196_0 7
theorem i196_8 : q_ins 196 8 = some (.bipush 16, 2, (0, 0, 0, 0, 0)) := s196_0 8
theorem i196_10 : q_ins 196 10 = some (.if_icmp .ge 40, 3, (0, 0, 0, 0, 0)) := s196_0 10
theorem i196_13 : q_ins 196 13 = some (.aload_n 0, 1, (0, 0, 0, 0, 0)) := s196_0 13
theorem i196_14 : q_ins 196 14 = some (.iload_n 1, 1, (0, 0, 0, 0, 0)) := s196_0 14
theorem i196_15 : q_ins 196 15 = some (.invokevirtual 302, 3, (218, 179, 2, 0, 10)) := s196_0 15
theorem i196_18 : q_ins 196 18 = some (.ifCond .ge 6, 3, (0, 0, 0, 0, 0)) := s196_1 2
theorem i196_21 : q_ins 196 21 = some (.goto 23, 3, (0, 0, 0, 0, 0)) := s196_1 5
theorem i196_24 : q_ins 196 24 = some (.aload_n 0, 1, (0, 0, 0, 0, 0)) := s196_1 8
theorem i196_25 : q_ins 196 25 = some (.getfield 55, 3, (176, 10, 32, 2, 0)) := s196_1 9
theorem i196_28 : q_ins 196 28 = some (.aload_n 0, 1, (0, 0, 0, 0, 0)) := s196_1 12
theorem i196_29 : q_ins 196 29 = some (.getfield 341, 3, (196, 10, 35, 0, 0)) := s196_1 13
theorem i196_32 : q_ins 196 32 = some (.iload_n 1, 1, (0, 0, 0, 0, 0)) := s196_2 0
theorem i196_33 : q_ins 196 33 = some (.iastore, 1, (0, 0, 0, 0, 0)) := s196_2 1
theorem i196_34 : q_ins 196 34 = some (.aload_n 0, 1, (0, 0, 0, 0, 0)) := s196_2 2
theorem i196_35 : q_ins 196 35 = some (.dup, 1, (0, 0, 0, 0, 0)) := s196_2 3
theorem i196_36 : q_ins 196 36 = some (.getfield 341, 3, (196, 10, 35, 0, 0)) := s196_2 4
theorem i196_39 : q_ins 196 39 = some (.iconst 1, 1, (0, 0, 0, 0, 0)) := s196_2 7
theorem i196_40 : q_ins 196 40 = some (.iadd, 1, (0, 0, 0, 0, 0)) := s196_2 8
theorem i196_41 : q_ins 196 41 = some (.putfield 341, 3, (196, 10, 35, 0, 0)) := s196_2 9
theorem i196_44 : q_ins 196 44 = some (.iinc 1 1, 3, (0, 0, 0, 0, 0)) := s196_2 12
theorem i196_47 : q_ins 196 47 = some (.goto (-40), 3, (0, 0, 0, 0, 0)) := s196_2 15
theorem i196_50 : q_ins 196 50 = some (.iconst 0, 1, (0, 0, 0, 0, 0)) := s196_3 2
theorem i196_51 : q_ins 196 51 = some (.istore_n 1, 1, (0, 0, 0, 0, 0)) := s196_3 3
theorem i196_52 : q_ins 196 52 = some (.iconst 0, 1, (0, 0, 0, 0, 0)) := s196_3 4
theorem i196_53 : q_ins 196 53 = some (.istore_n 2, 1, (0, 0, 0, 0, 0)) := s196_3 5
theorem i196_54 : q_ins 196 54 = some (.iload_n 2, 1, (0, 0, 0, 0, 0)) := s196_3 6
theorem i196_55 : q_ins 196 55 = some (.aload_n 0, 1, (0, 0, 0, 0, 0)) := s196_3 7
theorem i196_56 : q_ins 196 56 = some (.getfield 7, 3, (162, 10, 0, 2, 0)) := s196_3 8
theorem i196_59 : q_ins 196 59 = some (.iconst 0, 1, (0, 0, 0, 0, 0)) := s196_3 11
theorem i196_60 : q_ins 196 60 = some (.iaload, 1, (0, 0, 0, 0, 0)) := s196_3 12
theorem i196_61 : q_ins 196 61 = some (.if_icmp .ge 31, 3, (0, 0, 0, 0, 0)) := s196_3 13
theorem i196_64 : q_ins 196 64 = some (.aload_n 0, 1, (0, 0, 0, 0, 0)) := s196_4 0
theorem i196_65 : q_ins 196 65 = some (.iload_n 2, 1, (0, 0, 0, 0, 0)) := s196_4 1
theorem i196_66 : q_ins 196 66 = some (.iconst 3, 1, (0, 0, 0, 0, 0)) := s196_4 2
theorem i196_67 : q_ins 196 67 = some (.invokevirtual 75, 3, (203, 161, 3, 0, 10)) := s196_4 3
theorem i196_70 : q_ins 196 70 = some (.ifCond .ge 6, 3, (0, 0, 0, 0, 0)) := s196_4 6
theorem i196_73 : q_ins 196 73 = some (.goto 13, 3, (0, 0, 0, 0, 0)) := s196_4 9
theorem i196_76 : q_ins 196 76 = some (.aload_n 0, 1, (0, 0, 0, 0, 0)) := s196_4 12
theorem i196_77 : q_ins 196 77 = some (.getfield 58, 3, (177, 10, 33, 2, 0)) := s196_4 13
theorem i196_80 : q_ins 196 80 = some (.iload_n 1, 1, (0, 0, 0, 0, 0)) := s196_5 0
theorem i196_81 : q_ins 196 81 = some (.iload_n 2, 1, (0, 0, 0, 0, 0)) := s196_5 1
theorem i196_82 : q_ins 196 82 = some (.iastore, 1, (0, 0, 0, 0, 0)) := s196_5 2
theorem i196_83 : q_ins 196 83 = some (.iinc 1 1, 3, (0, 0, 0, 0, 0)) := s196_5 3
theorem i196_86 : q_ins 196 86 = some (.iinc 2 1, 3, (0, 0, 0, 0, 0)) := s196_5 6
theorem i196_89 : q_ins 196 89 = some (.goto (-35), 3, (0, 0, 0, 0, 0)) := s196_5 9
theorem i196_92 : q_ins 196 92 = some (.return_, 1, (0, 0, 0, 0, 0)) := s196_5 12
theorem s197_0 (j : Nat) : q_ins 197 j = q_at q_c197 j := rfl
theorem s197_1 (j : Nat) : q_ins 197 (j + 16) = q_at q_c197_1 j := s197_0 (j + 16)
theorem s197_2 (j : Nat) : q_ins 197 (j + 32) = q_at q_c197_2 j := s197_1 (j + 16)
theorem s197_3 (j : Nat) : q_ins 197 (j + 48) = q_at q_c197_3 j := s197_2 (j + 16)
theorem s197_4 (j : Nat) : q_ins 197 (j + 64) = q_at q_c197_4 j := s197_3 (j + 16)
theorem s197_5 (j : Nat) : q_ins 197 (j + 80) = q_at q_c197_5 j := s197_4 (j + 16)
theorem s197_6 (j : Nat) : q_ins 197 (j + 96) = q_at q_c197_6 j := s197_5 (j + 16)
theorem i197_0 : q_ins 197 0 = some (.aload_n 0, 1, (0, 0, 0, 0, 0)) := s197_0 0
theorem i197_1 : q_ins 197 1 = some (.getfield 341, 3, (196, 10, 35, 0, 0)) := s197_0 1
theorem i197_4 : q_ins 197 4 = some (.iconst 2, 1, (0, 0, 0, 0, 0)) := s197_0 4
theorem i197_5 : q_ins 197 5 = some (.isub, 1, (0, 0, 0, 0, 0)) := s197_0 5
theorem i197_6 : q_ins 197 6 = some (.istore_n 1, 1, (0, 0, 0, 0, 0)) := s197_0 6
theorem i197_7 : q_ins 197 7 = some (.iload_n 1, 1, (0, 0, 0, 0, 0)) := s197_0 7
theorem i197_8 : q_ins 197 8 = some (.ifCond .lt 26, 3, (0, 0, 0, 0, 0)) := s197_0 8
theorem i197_11 : q_ins 197 11 = some (.aload_n 0, 1, (0, 0, 0, 0, 0)) := s197_0 11
theorem i197_12 : q_ins 197 12 = some (.getfield 58, 3, (177, 10, 33, 2, 0)) := s197_0 12
theorem i197_15 : q_ins 197 15 = some (.iload_n 1, 1, (0, 0, 0, 0, 0)) := s197_0 15
theorem i197_16 : q_ins 197 16 = some (.iaload, 1, (0, 0, 0, 0, 0)) := s197_1 0
theorem i197_17 : q_ins 197 17 = some (.aload_n 0, 1, (0, 0, 0, 0, 0)) := s197_1 1
theorem i197_18 : q_ins 197 18 = some (.getfield 58, 3, (177, 10, 33, 2, 0)) := s197_1 2
theorem i197_21 : q_ins 197 21 = some (.iload_n 1, 1, (0, 0, 0, 0, 0)) := s197_1 5
theorem i197_22 : q_ins 197 22 = some (.iconst 1, 1, (0, 0, 0, 0, 0)) := s197_1 6
theorem i197_23 : q_ins 197 23 = some (.iadd, 1, (0, 0, 0, 0, 0)) := s197_1 7
theorem i197_24 : q_ins 197 24 = some (.iaload, 1, (0, 0, 0, 0, 0)) := s197_1 8
theorem i197_25 : q_ins 197 25 = some (.if_icmp .le 9, 3, (0, 0, 0, 0, 0)) := s197_1 9
theorem i197_28 : q_ins 197 28 = some (.iinc 1 (-1), 3, (0, 0, 0, 0, 0)) := s197_1 12
theorem i197_31 : q_ins 197 31 = some (.goto (-24), 3, (0, 0, 0, 0, 0)) := s197_1 15
theorem i197_34 : q_ins 197 34 = some (.iload_n 1, 1, (0, 0, 0, 0, 0)) := s197_2 2
theorem i197_35 : q_ins 197 35 = some (.ifCond .ge 5, 3, (0, 0, 0, 0, 0)) := s197_2 3
theorem i197_38 : q_ins 197 38 = some (.iconst 0, 1, (0, 0, 0, 0, 0)) := s197_2 6
theorem i197_39 : q_ins 197 39 = some (.ireturn, 1, (0, 0, 0, 0, 0)) := s197_2 7
theorem i197_40 : q_ins 197 40 = some (.aload_n 0, 1, (0, 0, 0, 0, 0)) := s197_2 8
theorem i197_41 : q_ins 197 41 = some (.getfield 341, 3, (196, 10, 35, 0, 0)) := s197_2 9
theorem i197_44 : q_ins 197 44 = some (.iconst 1, 1, (0, 0, 0, 0, 0)) := s197_2 12
theorem i197_45 : q_ins 197 45 = some (.isub, 1, (0, 0, 0, 0, 0)) := s197_2 13
theorem i197_46 : q_ins 197 46 = some (.istore_n 2, 1, (0, 0, 0, 0, 0)) := s197_2 14
theorem i197_47 : q_ins 197 47 = some (.aload_n 0, 1, (0, 0, 0, 0, 0)) := s197_2 15
theorem i197_48 : q_ins 197 48 = some (.getfield 58, 3, (177, 10, 33, 2, 0)) := s197_3 0
theorem i197_51 : q_ins 197 51 = some (.iload_n 2, 1, (0, 0, 0, 0, 0)) := s197_3 3
theorem i197_52 : q_ins 197 52 = some (.iaload, 1, (0, 0, 0, 0, 0)) := s197_3 4
theorem i197_53 : q_ins 197 53 = some (.aload_n 0, 1, (0, 0, 0, 0, 0)) := s197_3 5
theorem i197_54 : q_ins 197 54 = some (.getfield 58, 3, (177, 10, 33, 2, 0)) := s197_3 6
theorem i197_57 : q_ins 197 57 = some (.iload_n 1, 1, (0, 0, 0, 0, 0)) := s197_3 9
theorem i197_58 : q_ins 197 58 = some (.iaload, 1, (0, 0, 0, 0, 0)) := s197_3 10
theorem i197_59 : q_ins 197 59 = some (.if_icmp .ge 9, 3, (0, 0, 0, 0, 0)) := s197_3 11
theorem i197_62 : q_ins 197 62 = some (.iinc 2 (-1), 3, (0, 0, 0, 0, 0)) := s197_3 14
theorem i197_65 : q_ins 197 65 = some (.goto (-18), 3, (0, 0, 0, 0, 0)) := s197_4 1
theorem i197_68 : q_ins 197 68 = some (.aload_n 0, 1, (0, 0, 0, 0, 0)) := s197_4 4
theorem i197_69 : q_ins 197 69 = some (.iload_n 1, 1, (0, 0, 0, 0, 0)) := s197_4 5
theorem i197_70 : q_ins 197 70 = some (.iload_n 2, 1, (0, 0, 0, 0, 0)) := s197_4 6
theorem i197_71 : q_ins 197 71 = some (.invokevirtual 344, 3, (232, 198, 3, 0, 10)) := s197_4 7
theorem i197_74 : q_ins 197 74 = some (.iload_n 1, 1, (0, 0, 0, 0, 0)) := s197_4 10
theorem i197_75 : q_ins 197 75 = some (.iconst 1, 1, (0, 0, 0, 0, 0)) := s197_4 11
theorem i197_76 : q_ins 197 76 = some (.iadd, 1, (0, 0, 0, 0, 0)) := s197_4 12
theorem i197_77 : q_ins 197 77 = some (.istore_n 3, 1, (0, 0, 0, 0, 0)) := s197_4 13
theorem i197_78 : q_ins 197 78 = some (.aload_n 0, 1, (0, 0, 0, 0, 0)) := s197_4 14
theorem i197_79 : q_ins 197 79 = some (.getfield 341, 3, (196, 10, 35, 0, 0)) := s197_4 15
theorem i197_82 : q_ins 197 82 = some (.iconst 1, 1, (0, 0, 0, 0, 0)) := s197_5 2
theorem i197_83 : q_ins 197 83 = some (.isub, 1, (0, 0, 0, 0, 0)) := s197_5 3
theorem i197_84 : q_ins 197 84 = some (.istore 4, 2, (0, 0, 0, 0, 0)) := s197_5 4
theorem i197_86 : q_ins 197 86 = some (.iload_n 3, 1, (0, 0, 0, 0, 0)) := s197_5 6
theorem i197_87 : q_ins 197 87 = some (.iload 4, 2, (0, 0, 0, 0, 0)) := s197_5 7
theorem i197_89 : q_ins 197 89 = some (.if_icmp .ge 19, 3, (0, 0, 0, 0, 0)) := s197_5 9
theorem i197_92 : q_ins 197 92 = some (.aload_n 0, 1, (0, 0, 0, 0, 0)) := s197_5 12
theorem i197_93 : q_ins 197 93 = some (.iload_n 3, 1, (0, 0, 0, 0, 0)) := s197_5 13
theorem i197_94 : q_ins 197 94 = some (.iload 4, 2, (0, 0, 0, 0, 0)) := s197_5 14
theorem i197_96 : q_ins 197 96 = some (.invokevirtual 344, 3, (232, 198, 3, 0, 10)) := s197_6 0
theorem i197_99 : q_ins 197 99 = some (.iinc 3 1, 3, (0, 0, 0, 0, 0)) := s197_6 3
theorem i197_102 : q_ins 197 102 = some (.iinc 4 (-1), 3, (0, 0, 0, 0, 0)) := s197_6 6
theorem i197_105 : q_ins 197 105 = some (.goto (-19), 3, (0, 0, 0, 0, 0)) := s197_6 9
theorem i197_108 : q_ins 197 108 = some (.iconst 1, 1, (0, 0, 0, 0, 0)) := s197_6 12
theorem i197_109 : q_ins 197 109 = some (.ireturn, 1, (0, 0, 0, 0, 0)) := s197_6 13
theorem s198_0 (j : Nat) : q_ins 198 j = q_at q_c198 j := rfl
theorem s198_1 (j : Nat) : q_ins 198 (j + 16) = q_at q_c198_1 j := s198_0 (j + 16)
theorem i198_0 : q_ins 198 0 = some (.aload_n 0, 1, (0, 0, 0, 0, 0)) := s198_0 0
theorem i198_1 : q_ins 198 1 = some (.getfield 58, 3, (177, 10, 33, 2, 0)) := s198_0 1
theorem i198_4 : q_ins 198 4 = some (.iload_n 1, 1, (0, 0, 0, 0, 0)) := s198_0 4
theorem i198_5 : q_ins 198 5 = some (.iaload, 1, (0, 0, 0, 0, 0)) := s198_0 5
theorem i198_6 : q_ins 198 6 = some (.istore_n 3, 1, (0, 0, 0, 0, 0)) := s198_0 6
theorem i198_7 : q_ins 198 7 = some (.aload_n 0, 1, (0, 0, 0, 0, 0)) := s198_0 7
theorem i198_8 : q_ins 198 8 = some (.getfield 58, 3, (177, 10, 33, 2, 0)) := s198_0 8
theorem i198_11 : q_ins 198 11 = some (.iload_n 1, 1, (0, 0, 0, 0, 0)) := s198_0 11
theorem i198_12 : q_ins 198 12 = some (.aload_n 0, 1, (0, 0, 0, 0, 0)) := s198_0 12
theorem i198_13 : q_ins 198 13 = some (.getfield 58, 3, (177, 10, 33, 2, 0)) := s198_0 13
theorem i198_16 : q_ins 198 16 = some (.iload_n 2, 1, (0, 0, 0, 0, 0)) := s198_1 0
theorem i198_17 : q_ins 198 17 = some (.iaload, 1, (0, 0, 0, 0, 0)) := s198_1 1
theorem i198_18 : q_ins 198 18 = some (.iastore, 1, (0, 0, 0, 0, 0)) := s198_1 2
theorem i198_19 : q_ins 198 19 = some (.aload_n 0, 1, (0, 0, 0, 0, 0)) := s198_1 3
theorem i198_20 : q_ins 198 20 = some (.getfield 58, 3, (177, 10, 33, 2, 0)) := s198_1 4
theorem i198_23 : q_ins 198 23 = some (.iload_n 2, 1, (0, 0, 0, 0, 0)) := s198_1 7
theorem i198_24 : q_ins 198 24 = some (.iload_n 3, 1, (0, 0, 0, 0, 0)) := s198_1 8
theorem i198_25 : q_ins 198 25 = some (.iastore, 1, (0, 0, 0, 0, 0)) := s198_1 9
theorem i198_26 : q_ins 198 26 = some (.return_, 1, (0, 0, 0, 0, 0)) := s198_1 10
theorem s199_0 (j : Nat) : q_ins 199 j = q_at q_c199 j := rfl
theorem s199_1 (j : Nat) : q_ins 199 (j + 16) = q_at q_c199_1 j := s199_0 (j + 16)
theorem s199_2 (j : Nat) : q_ins 199 (j + 32) = q_at q_c199_2 j := s199_1 (j + 16)
theorem s199_3 (j : Nat) : q_ins 199 (j + 48) = q_at q_c199_3 j := s199_2 (j + 16)
theorem s199_4 (j : Nat) : q_ins 199 (j + 64) = q_at q_c199_4 j := s199_3 (j + 16)
theorem s199_5 (j : Nat) : q_ins 199 (j + 80) = q_at q_c199_5 j := s199_4 (j + 16)
theorem s199_6 (j : Nat) : q_ins 199 (j + 96) = q_at q_c199_6 j := s199_5 (j + 16)
theorem s199_7 (j : Nat) : q_ins 199 (j + 112) = q_at q_c199_7 j := s199_6 (j + 16)
theorem s199_8 (j : Nat) : q_ins 199 (j + 128) = q_at q_c199_8 j := s199_7 (j + 16)
theorem s199_9 (j : Nat) : q_ins 199 (j + 144) = q_at q_c199_9 j := s199_8 (j + 16)
theorem i199_0 : q_ins 199 0 = some (.iload_n 1, 1, (0, 0, 0, 0, 0)) := s199_0 0
theorem i199_1 : q_ins 199 1 = some (.iconst 0, 1, (0, 0, 0, 0, 0)) := s199_0 1
theorem i199_2 : q_ins 199 2 = some (.sipush 990, 3, (0, 0, 0, 0, 0)) := s199_0 2
theorem i199_5 : q_ins 199 5 = some (.invokestatic 71, 3, (167, 118, 3, 2, 0)) := s199_0 5
theorem i199_8 : q_ins 199 8 = some (.ifCond .ne 5, 3, (0, 0, 0, 0, 0)) := s199_0 8
theorem i199_11 : q_ins 199 11 = some (.iconst (-1), 1, (0, 0, 0, 0, 0)) := s199_0 11
theorem i199_12 : q_ins 199 12 = some (.ireturn, 1, (0, 0, 0, 0, 0)) := s199_0 12
theorem i199_13 : q_ins 199 13 = some (.aload_n 0, 1, (0, 0, 0, 0, 0)) := s199_0 13
theorem i199_14 : q_ins 199 14 = some (.invokevirtual 299, 3, (200, 159, 1, 0, 10)) := s199_0 14
theorem i199_17 : q_ins 199 17 = some (.iconst 0, 1, (0, 0, 0, 0, 0)) := s199_1 1
theorem i199_18 : q_ins 199 18 = some (.istore_n 2, 1, (0, 0, 0, 0, 0)) := s199_1 2
theorem i199_19 : q_ins 199 19 = some (.iload_n 2, 1, (0, 0, 0, 0, 0)) := s199_1 3
theorem i199_20 : q_ins 199 20 = some (.aload_n 0, 1, (0, 0, 0, 0, 0)) := s199_1 4
theorem i199_21 : q_ins 199 21 = some (.getfield 7, 3, (162, 10, 0, 2, 0)) := s199_1 5
theorem i199_24 : q_ins 199 24 = some (.iconst 1, 1, (0, 0, 0, 0, 0)) := s199_1 8
theorem i199_25 : q_ins 199 25 = some (.iaload, 1, (0, 0, 0, 0, 0)) := s199_1 9
theorem i199_26 : q_ins 199 26 = some (.if_icmp .ge 22, 3, (0, 0, 0, 0, 0)) := s199_1 10
theorem i199_29 : q_ins 199 29 = some (.aload_n 0, 1, (0, 0, 0, 0, 0)) := s199_1 13
theorem i199_30 : q_ins 199 30 = some (.getfield 64, 3, (179, 10, 36, 2, 0)) := s199_1 14
theorem i199_33 : q_ins 199 33 = some (.iload_n 2, 1, (0, 0, 0, 0, 0)) := s199_2 1
theorem i199_34 : q_ins 199 34 = some (.aload_n 0, 1, (0, 0, 0, 0, 0)) := s199_2 2
theorem i199_35 : q_ins 199 35 = some (.iload_n 2, 1, (0, 0, 0, 0, 0)) := s199_2 3
theorem i199_36 : q_ins 199 36 = some (.bipush 63, 2, (0, 0, 0, 0, 0)) := s199_2 4
theorem i199_38 : q_ins 199 38 = some (.invokevirtual 293, 3, (201, 162, 3, 0, 10)) := s199_2 6
theorem i199_41 : q_ins 199 41 = some (.iastore, 1, (0, 0, 0, 0, 0)) := s199_2 9
theorem i199_42 : q_ins 199 42 = some (.iinc 2 1, 3, (0, 0, 0, 0, 0)) := s199_2 10
theorem i199_45 : q_ins 199 45 = some (.goto (-26), 3, (0, 0, 0, 0, 0)) := s199_2 13
theorem i199_48 : q_ins 199 48 = some (.iconst (-1), 1, (0, 0, 0, 0, 0)) := s199_3 0
theorem i199_49 : q_ins 199 49 = some (.istore_n 2, 1, (0, 0, 0, 0, 0)) := s199_3 1
theorem i199_50 : q_ins 199 50 = some (.iconst 0, 1, (0, 0, 0, 0, 0)) := s199_3 2
theorem i199_51 : q_ins 199 51 = some (.istore_n 3, 1, (0, 0, 0, 0, 0)) := s199_3 3
theorem i199_52 : q_ins 199 52 = some (.iload_n 3, 1, (0, 0, 0, 0, 0)) := s199_3 4
theorem i199_53 : q_ins 199 53 = some (.iconst 1, 1, (0, 0, 0, 0, 0)) := s199_3 5
theorem i199_54 : q_ins 199 54 = some (.aload_n 0, 1, (0, 0, 0, 0, 0)) := s199_3 6
theorem i199_55 : q_ins 199 55 = some (.getfield 7, 3, (162, 10, 0, 2, 0)) := s199_3 7
theorem i199_58 : q_ins 199 58 = some (.iconst 1, 1, (0, 0, 0, 0, 0)) := s199_3 10
theorem i199_59 : q_ins 199 59 = some (.iaload, 1, (0, 0, 0, 0, 0)) := s199_3 11
theorem i199_60 : q_ins 199 60 = some (.ishl, 1, (0, 0, 0, 0, 0)) := s199_3 12
theorem i199_61 : q_ins 199 61 = some (.if_icmp .ge 83, 3, (0, 0, 0, 0, 0)) := s199_3 13
theorem i199_64 : q_ins 199 64 = some (.iload_n 2, 1, (0, 0, 0, 0, 0)) := s199_4 0
theorem i199_65 : q_ins 199 65 = some (.ifCond .lt 17, 3, (0, 0, 0, 0, 0)) := s199_4 1
theorem i199_68 : q_ins 199 68 = some (.iload_n 3, 1, (0, 0, 0, 0, 0)) := s199_4 4
theorem i199_69 : q_ins 199 69 = some (.invokestatic 271, 3, (210, 170, 1, 2, 0)) := s199_4 5
theorem i199_72 : q_ins 199 72 = some (.iload_n 2, 1, (0, 0, 0, 0, 0)) := s199_4 8
theorem i199_73 : q_ins 199 73 = some (.invokestatic 271, 3, (210, 170, 1, 2, 0)) := s199_4 9
theorem i199_76 : q_ins 199 76 = some (.if_icmp .lt 6, 3, (0, 0, 0, 0, 0)) := s199_4 12
theorem i199_79 : q_ins 199 79 = some (.goto 59, 3, (0, 0, 0, 0, 0)) := s199_4 15
theorem i199_82 : q_ins 199 82 = some (.iconst 0, 1, (0, 0, 0, 0, 0)) := s199_5 2
theorem i199_83 : q_ins 199 83 = some (.istore 4, 2, (0, 0, 0, 0, 0)) := s199_5 3
theorem i199_85 : q_ins 199 85 = some (.iconst 0, 1, (0, 0, 0, 0, 0)) := s199_5 5
theorem i199_86 : q_ins 199 86 = some (.istore 5, 2, (0, 0, 0, 0, 0)) := s199_5 6
theorem i199_88 : q_ins 199 88 = some (.iload 5, 2, (0, 0, 0, 0, 0)) := s199_5 8
theorem i199_90 : q_ins 199 90 = some (.aload_n 0, 1, (0, 0, 0, 0, 0)) := s199_5 10
theorem i199_91 : q_ins 199 91 = some (.getfield 7, 3, (162, 10, 0, 2, 0)) := s199_5 11
theorem i199_94 : q_ins 199 94 = some (.iconst 1, 1, (0, 0, 0, 0, 0)) := s199_5 14
theorem i199_95 : q_ins 199 95 = some (.iaload, 1, (0, 0, 0, 0, 0)) := s199_5 15
theorem i199_96 : q_ins 199 96 = some (.if_icmp .ge 34, 3, (0, 0, 0, 0, 0)) := s199_6 0
theorem i199_99 : q_ins 199 99 = some (.iload 4, 2, (0, 0, 0, 0, 0)) := s199_6 3
theorem i199_101 : q_ins 199 101 = some (.iload_n 3, 1, (0, 0, 0, 0, 0)) := s199_6 5
theorem i199_102 : q_ins 199 102 = some (.iload 5, 2, (0, 0, 0, 0, 0)) := s199_6 6
theorem i199_104 : q_ins 199 104 = some (.invokestatic 258, 3, (206, 164, 2, 2, 0)) := s199_6 8
theorem i199_107 : q_ins 199 107 = some (.ifCond .eq 7, 3, (0, 0, 0, 0, 0)) := s199_6 11
theorem i199_110 : q_ins 199 110 = some (.iconst 0, 1, (0, 0, 0, 0, 0)) := s199_6 14
theorem i199_111 : q_ins 199 111 = some (.goto 10, 3, (0, 0, 0, 0, 0)) := s199_6 15
theorem i199_114 : q_ins 199 114 = some (.aload_n 0, 1, (0, 0, 0, 0, 0)) := s199_7 2
theorem i199_115 : q_ins 199 115 = some (.getfield 64, 3, (179, 10, 36, 2, 0)) := s199_7 3
theorem i199_118 : q_ins 199 118 = some (.iload 5, 2, (0, 0, 0, 0, 0)) := s199_7 6
theorem i199_120 : q_ins 199 120 = some (.iaload, 1, (0, 0, 0, 0, 0)) := s199_7 8
theorem i199_121 : q_ins 199 121 = some (.iadd, 1, (0, 0, 0, 0, 0)) := s199_7 9
theorem i199_122 : q_ins 199 122 = some (.istore 4, 2, (0, 0, 0, 0, 0)) := s199_7 10
theorem i199_124 : q_ins 199 124 = some (.iinc 5 1, 3, (0, 0, 0, 0, 0)) := s199_7 12
theorem i199_127 : q_ins 199 127 = some (.goto (-39), 3, (0, 0, 0, 0, 0)) := s199_7 15
theorem i199_130 : q_ins 199 130 = some (.iload 4, 2, (0, 0, 0, 0, 0)) := s199_8 2
theorem i199_132 : q_ins 199 132 = some (.iload_n 1, 1, (0, 0, 0, 0, 0)) := s199_8 4
theorem i199_133 : q_ins 199 133 = some (.if_icmp .gt 5, 3, (0, 0, 0, 0, 0)) := s199_8 5
theorem i199_136 : q_ins 199 136 = some (.iload_n 3, 1, (0, 0, 0, 0, 0)) := s199_8 8
theorem i199_137 : q_ins 199 137 = some (.istore_n 2, 1, (0, 0, 0, 0, 0)) := s199_8 9
theorem i199_138 : q_ins 199 138 = some (.iinc 3 1, 3, (0, 0, 0, 0, 0)) := s199_8 10
theorem i199_141 : q_ins 199 141 = some (.goto (-89), 3, (0, 0, 0, 0, 0)) := s199_8 13
theorem i199_144 : q_ins 199 144 = some (.iload_n 2, 1, (0, 0, 0, 0, 0)) := s199_9 0
theorem i199_145 : q_ins 199 145 = some (.ireturn, 1, (0, 0, 0, 0, 0)) := s199_9 1
theorem s200_0 (j : Nat) : q_ins 200 j = q_at q_c200 j := rfl
theorem s200_1 (j : Nat) : q_ins 200 (j + 16) = q_at q_c200_1 j := s200_0 (j + 16)
theorem s200_2 (j : Nat) : q_ins 200 (j + 32) = q_at q_c200_2 j := s200_1 (j + 16)
theorem s200_3 (j : Nat) : q_ins 200 (j + 48) = q_at q_c200_3 j := s200_2 (j + 16)
theorem s200_4 (j : Nat) : q_ins 200 (j + 64) = q_at q_c200_4 j := s200_3 (j + 16)
theorem s200_5 (j : Nat) : q_ins 200 (j + 80) = q_at q_c200_5 j := s200_4 (j + 16)
theorem s200_6 (j : Nat) : q_ins 200 (j + 96) = q_at q_c200_6 j := s200_5 (j + 16)
theorem i200_0 : q_ins 200 0 = some (.iload_n 1, 1, (0, 0, 0, 0, 0)) := s200_0 0
theorem i200_1 : q_ins 200 1 = some (.iconst 0, 1, (0, 0, 0, 0, 0)) := s200_0 1
theorem i200_2 : q_ins 200 2 = some (.sipush 990, 3, (0, 0, 0, 0, 0)) := s200_0 2
theorem i200_5 : q_ins 200 5 = some (.invokestatic 71, 3, (167, 118, 3, 2, 0)) := s200_0 5
theorem i200_8 : q_ins 200 8 = some (.ifCond .ne 5, 3, (0, 0, 0, 0, 0)) := s200_0 8
theorem i200_11 : q_ins 200 11 = some (.iconst (-1), 1, (0, 0, 0, 0, 0)) := s200_0 11
theorem i200_12 : q_ins 200 12 = some (.ireturn, 1, (0, 0, 0, 0, 0)) := s200_0 12
theorem i200_13 : q_ins 200 13 = some (.aload_n 0, 1, (0, 0, 0, 0, 0)) := s200_0 13
theorem i200_14 : q_ins 200 14 = some (.invokevirtual 299, 3, (200, 159, 1, 0, 10)) := s200_0 14
theorem i200_17 : q_ins 200 17 = some (.aload_n 0, 1, (0, 0, 0, 0, 0)) := s200_1 1
theorem i200_18 : q_ins 200 18 = some (.getfield 246, 3, (195, 10, 26, 0, 0)) := s200_1 2
theorem i200_21 : q_ins 200 21 = some (.istore_n 2, 1, (0, 0, 0, 0, 0)) := s200_1 5
theorem i200_22 : q_ins 200 22 = some (.aload_n 0, 1, (0, 0, 0, 0, 0)) := s200_1 6
theorem i200_23 : q_ins 200 23 = some (.invokevirtual 308, 3, (220, 183, 1, 0, 10)) := s200_1 7
theorem i200_26 : q_ins 200 26 = some (.iload_n 2, 1, (0, 0, 0, 0, 0)) := s200_1 10
theorem i200_27 : q_ins 200 27 = some (.iconst (-1), 1, (0, 0, 0, 0, 0)) := s200_1 11
theorem i200_28 : q_ins 200 28 = some (.ixor, 1, (0, 0, 0, 0, 0)) := s200_1 12
theorem i200_29 : q_ins 200 29 = some (.iand, 1, (0, 0, 0, 0, 0)) := s200_1 13
theorem i200_30 : q_ins 200 30 = some (.istore_n 3, 1, (0, 0, 0, 0, 0)) := s200_1 14
theorem i200_31 : q_ins 200 31 = some (.iconst (-1), 1, (0, 0, 0, 0, 0)) := s200_1 15
theorem i200_32 : q_ins 200 32 = some (.istore 4, 2, (0, 0, 0, 0, 0)) := s200_2 0
theorem i200_34 : q_ins 200 34 = some (.iconst 0, 1, (0, 0, 0, 0, 0)) := s200_2 2
theorem i200_35 : q_ins 200 35 = some (.istore 5, 2, (0, 0, 0, 0, 0)) := s200_2 3
theorem i200_37 : q_ins 200 37 = some (.iload 5, 2, (0, 0, 0, 0, 0)) := s200_2 5
theorem i200_39 : q_ins 200 39 = some (.bipush 64, 2, (0, 0, 0, 0, 0)) := s200_2 7
theorem i200_41 : q_ins 200 41 = some (.if_icmp .ge 61, 3, (0, 0, 0, 0, 0)) := s200_2 9
theorem i200_44 : q_ins 200 44 = some (.iload 5, 2, (0, 0, 0, 0, 0)) := s200_2 12
theorem i200_46 : q_ins 200 46 = some (.iload_n 3, 1, (0, 0, 0, 0, 0)) := s200_2 14
theorem i200_47 : q_ins 200 47 = some (.iconst (-1), 1, (0, 0, 0, 0, 0)) := s200_2 15
theorem i200_48 : q_ins 200 48 = some (.ixor, 1, (0, 0, 0, 0, 0)) := s200_3 0
theorem i200_49 : q_ins 200 49 = some (.iand, 1, (0, 0, 0, 0, 0)) := s200_3 1
theorem i200_50 : q_ins 200 50 = some (.ifCond .ne 46, 3, (0, 0, 0, 0, 0)) := s200_3 2
theorem i200_53 : q_ins 200 53 = some (.iload 4, 2, (0, 0, 0, 0, 0)) := s200_3 5
theorem i200_55 : q_ins 200 55 = some (.ifCond .lt 19, 3, (0, 0, 0, 0, 0)) := s200_3 7
theorem i200_58 : q_ins 200 58 = some (.iload 5, 2, (0, 0, 0, 0, 0)) := s200_3 10
theorem i200_60 : q_ins 200 60 = some (.invokestatic 271, 3, (210, 170, 1, 2, 0)) := s200_3 12
theorem i200_63 : q_ins 200 63 = some (.iload 4, 2, (0, 0, 0, 0, 0)) := s200_3 15
theorem i200_65 : q_ins 200 65 = some (.invokestatic 271, 3, (210, 170, 1, 2, 0)) := s200_4 1
theorem i200_68 : q_ins 200 68 = some (.if_icmp .lt 6, 3, (0, 0, 0, 0, 0)) := s200_4 4
theorem i200_71 : q_ins 200 71 = some (.goto 25, 3, (0, 0, 0, 0, 0)) := s200_4 7
theorem i200_74 : q_ins 200 74 = some (.aload_n 0, 1, (0, 0, 0, 0, 0)) := s200_4 10
theorem i200_75 : q_ins 200 75 = some (.iload_n 2, 1, (0, 0, 0, 0, 0)) := s200_4 11
theorem i200_76 : q_ins 200 76 = some (.iload 5, 2, (0, 0, 0, 0, 0)) := s200_4 12
theorem i200_78 : q_ins 200 78 = some (.ior, 1, (0, 0, 0, 0, 0)) := s200_4 14
theorem i200_79 : q_ins 200 79 = some (.putfield 246, 3, (195, 10, 26, 0, 0)) := s200_4 15
theorem i200_82 : q_ins 200 82 = some (.aload_n 0, 1, (0, 0, 0, 0, 0)) := s200_5 2
theorem i200_83 : q_ins 200 83 = some (.bipush 63, 2, (0, 0, 0, 0, 0)) := s200_5 3
theorem i200_85 : q_ins 200 85 = some (.invokevirtual 331, 3, (227, 190, 2, 0, 10)) := s200_5 5
theorem i200_88 : q_ins 200 88 = some (.iload_n 1, 1, (0, 0, 0, 0, 0)) := s200_5 8
theorem i200_89 : q_ins 200 89 = some (.if_icmp .gt 7, 3, (0, 0, 0, 0, 0)) := s200_5 9
theorem i200_92 : q_ins 200 92 = some (.iload 5, 2, (0, 0, 0, 0, 0)) := s200_5 12
theorem i200_94 : q_ins 200 94 = some (.istore 4, 2, (0, 0, 0, 0, 0)) := s200_5 14
theorem i200_96 : q_ins 200 96 = some (.iinc 5 1, 3, (0, 0, 0, 0, 0)) := s200_6 0
theorem i200_99 : q_ins 200 99 = some (.goto (-62), 3, (0, 0, 0, 0, 0)) := s200_6 3
theorem i200_102 : q_ins 200 102 = some (.iload 4, 2, (0, 0, 0, 0, 0)) := s200_6 6
theorem i200_104 : q_ins 200 104 = some (.ireturn, 1, (0, 0, 0, 0, 0)) := s200_6 8
theorem s201_0 (j : Nat) : q_ins 201 j = q_at q_c201 j := rfl
theorem s201_1 (j : Nat) : q_ins 201 (j + 16) = q_at q_c201_1 j := s201_0 (j + 16)
theorem s201_2 (j : Nat) : q_ins 201 (j + 32) = q_at q_c201_2 j := s201_1 (j + 16)
theorem s201_3 (j : Nat) : q_ins 201 (j + 48) = q_at q_c201_3 j := s201_2 (j + 16)
theorem s201_4 (j : Nat) : q_ins 201 (j + 64) = q_at q_c201_4 j := s201_3 (j + 16)
theorem i201_0 : q_ins 201 0 = some (.iload_n 1, 1, (0, 0, 0, 0, 0)) := s201_0 0
theorem i201_1 : q_ins 201 1 = some (.iconst (-1), 1, (0, 0, 0, 0, 0)) := s201_0 1
theorem i201_2 : q_ins 201 2 = some (.if_icmp .ne 13, 3, (0, 0, 0, 0, 0)) := s201_0 2
theorem i201_5 : q_ins 201 5 = some (.aload_n 0, 1, (0, 0, 0, 0, 0)) := s201_0 5
theorem i201_6 : q_ins 201 6 = some (.getfield 7, 3, (162, 10, 0, 2, 0)) := s201_0 6
theorem i201_9 : q_ins 201 9 = some (.bipush 7, 2, (0, 0, 0, 0, 0)) := s201_0 9
theorem i201_11 : q_ins 201 11 = some (.iconst 0, 1, (0, 0, 0, 0, 0)) := s201_0 11
theorem i201_12 : q_ins 201 12 = some (.iastore, 1, (0, 0, 0, 0, 0)) := s201_0 12
theorem i201_13 : q_ins 201 13 = some (.iconst 0, 1, (0, 0, 0, 0, 0)) := s201_0 13
theorem i201_14 : q_ins 201 14 = some (.ireturn, 1, (0, 0, 0, 0, 0)) := s201_0 14
theorem i201_15 : q_ins 201 15 = some (.iload_n 1, 1, (0, 0, 0, 0, 0)) := s201_0 15
theorem i201_16 : q_ins 201 16 = some (.iconst 0, 1, (0, 0, 0, 0, 0)) := s201_1 0
theorem i201_17 : q_ins 201 17 = some (.bipush 99, 2, (0, 0, 0, 0, 0)) := s201_1 1
theorem i201_19 : q_ins 201 19 = some (.invokestatic 71, 3, (167, 118, 3, 2, 0)) := s201_1 3
theorem i201_22 : q_ins 201 22 = some (.ifCond .eq 19, 3, (0, 0, 0, 0, 0)) := s201_1 6
theorem i201_25 : q_ins 201 25 = some (.aload_n 0, 1, (0, 0, 0, 0, 0)) := s201_1 9
theorem i201_26 : q_ins 201 26 = some (.getfield 7, 3, (162, 10, 0, 2, 0)) := s201_1 10
theorem i201_29 : q_ins 201 29 = some (.bipush 7, 2, (0, 0, 0, 0, 0)) := s201_1 13
theorem i201_31 : q_ins 201 31 = some (.iaload, 1, (0, 0, 0, 0, 0)) := s201_1 15
theorem i201_32 : q_ins 201 32 = some (.aload_n 0, 1, (0, 0, 0, 0, 0)) := s201_2 0
theorem i201_33 : q_ins 201 33 = some (.getfield 7, 3, (162, 10, 0, 2, 0)) := s201_2 1
theorem i201_36 : q_ins 201 36 = some (.iconst 1, 1, (0, 0, 0, 0, 0)) := s201_2 4
theorem i201_37 : q_ins 201 37 = some (.iaload, 1, (0, 0, 0, 0, 0)) := s201_2 5
theorem i201_38 : q_ins 201 38 = some (.if_icmp .lt 6, 3, (0, 0, 0, 0, 0)) := s201_2 6
theorem i201_41 : q_ins 201 41 = some (.bipush (-2), 2, (0, 0, 0, 0, 0)) := s201_2 9
theorem i201_43 : q_ins 201 43 = some (.ireturn, 1, (0, 0, 0, 0, 0)) := s201_2 11
theorem i201_44 : q_ins 201 44 = some (.aload_n 0, 1, (0, 0, 0, 0, 0)) := s201_2 12
theorem i201_45 : q_ins 201 45 = some (.getfield 7, 3, (162, 10, 0, 2, 0)) := s201_2 13
theorem i201_48 : q_ins 201 48 = some (.bipush 66, 2, (0, 0, 0, 0, 0)) := s201_3 0
theorem i201_50 : q_ins 201 50 = some (.aload_n 0, 1, (0, 0, 0, 0, 0)) := s201_3 2
theorem i201_51 : q_ins 201 51 = some (.getfield 7, 3, (162, 10, 0, 2, 0)) := s201_3 3
theorem i201_54 : q_ins 201 54 = some (.bipush 7, 2, (0, 0, 0, 0, 0)) := s201_3 6
theorem i201_56 : q_ins 201 56 = some (.iaload, 1, (0, 0, 0, 0, 0)) := s201_3 8
theorem i201_57 : q_ins 201 57 = some (.iadd, 1, (0, 0, 0, 0, 0)) := s201_3 9
theorem i201_58 : q_ins 201 58 = some (.iload_n 1, 1, (0, 0, 0, 0, 0)) := s201_3 10
theorem i201_59 : q_ins 201 59 = some (.iastore, 1, (0, 0, 0, 0, 0)) := s201_3 11
theorem i201_60 : q_ins 201 60 = some (.aload_n 0, 1, (0, 0, 0, 0, 0)) := s201_3 12
theorem i201_61 : q_ins 201 61 = some (.getfield 7, 3, (162, 10, 0, 2, 0)) := s201_3 13
theorem i201_64 : q_ins 201 64 = some (.bipush 7, 2, (0, 0, 0, 0, 0)) := s201_4 0
theorem i201_66 : q_ins 201 66 = some (.dup2, 1, (0, 0, 0, 0, 0)) := s201_4 2
theorem i201_67 : q_ins 201 67 = some (.iaload, 1, (0, 0, 0, 0, 0)) := s201_4 3
theorem i201_68 : q_ins 201 68 = some (.iconst 1, 1, (0, 0, 0, 0, 0)) := s201_4 4
theorem i201_69 : q_ins 201 69 = some (.iadd, 1, (0, 0, 0, 0, 0)) := s201_4 5
theorem i201_70 : q_ins 201 70 = some (.iastore, 1, (0, 0, 0, 0, 0)) := s201_4 6
theorem i201_71 : q_ins 201 71 = some (.aload_n 0, 1, (0, 0, 0, 0, 0)) := s201_4 7
theorem i201_72 : q_ins 201 72 = some (.getfield 7, 3, (162, 10, 0, 2, 0)) := s201_4 8
theorem i201_75 : q_ins 201 75 = some (.bipush 7, 2, (0, 0, 0, 0, 0)) := s201_4 11
theorem i201_77 : q_ins 201 77 = some (.iaload, 1, (0, 0, 0, 0, 0)) := s201_4 13
theorem i201_78 : q_ins 201 78 = some (.ireturn, 1, (0, 0, 0, 0, 0)) := s201_4 14
theorem s202_0 (j : Nat) : q_ins 202 j = q_at q_c202 j := rfl
theorem s202_1 (j : Nat) : q_ins 202 (j + 16) = q_at q_c202_1 j := s202_0 (j + 16)
theorem s202_2 (j : Nat) : q_ins 202 (j + 32) = q_at q_c202_2 j := s202_1 (j + 16)
theorem s202_3 (j : Nat) : q_ins 202 (j + 48) = q_at q_c202_3 j := s202_2 (j + 16)
theorem s202_4 (j : Nat) : q_ins 202 (j + 64) = q_at q_c202_4 j := s202_3 (j + 16)
theorem i202_0 : q_ins 202 0 = some (.iload_n 1, 1, (0, 0, 0, 0, 0)) := s202_0 0
theorem i202_1 : q_ins 202 1 = some (.iconst (-1), 1, (0, 0, 0, 0, 0)) := s202_0 1
theorem i202_2 : q_ins 202 2 = some (.if_icmp .ge 5, 3, (0, 0, 0, 0, 0)) := s202_0 2
theorem i202_5 : q_ins 202 5 = some (.iconst (-1), 1, (0, 0, 0, 0, 0)) := s202_0 5
theorem i202_6 : q_ins 202 6 = some (.ireturn, 1, (0, 0, 0, 0, 0)) := s202_0 6
theorem i202_7 : q_ins 202 7 = some (.aload_n 0, 1, (0, 0, 0, 0, 0)) := s202_0 7
theorem i202_8 : q_ins 202 8 = some (.invokevirtual 299, 3, (200, 159, 1, 0, 10)) := s202_0 8
theorem i202_11 : q_ins 202 11 = some (.aload_n 0, 1, (0, 0, 0, 0, 0)) := s202_0 11
theorem i202_12 : q_ins 202 12 = some (.invokevirtual 308, 3, (220, 183, 1, 0, 10)) := s202_0 12
theorem i202_15 : q_ins 202 15 = some (.istore_n 2, 1, (0, 0, 0, 0, 0)) := s202_0 15
theorem i202_16 : q_ins 202 16 = some (.iconst 0, 1, (0, 0, 0, 0, 0)) := s202_1 0
theorem i202_17 : q_ins 202 17 = some (.istore_n 3, 1, (0, 0, 0, 0, 0)) := s202_1 1
theorem i202_18 : q_ins 202 18 = some (.iconst 0, 1, (0, 0, 0, 0, 0)) := s202_1 2
theorem i202_19 : q_ins 202 19 = some (.istore 4, 2, (0, 0, 0, 0, 0)) := s202_1 3
theorem i202_21 : q_ins 202 21 = some (.iload 4, 2, (0, 0, 0, 0, 0)) := s202_1 5
theorem i202_23 : q_ins 202 23 = some (.bipush 64, 2, (0, 0, 0, 0, 0)) := s202_1 7
theorem i202_25 : q_ins 202 25 = some (.if_icmp .ge 41, 3, (0, 0, 0, 0, 0)) := s202_1 9
theorem i202_28 : q_ins 202 28 = some (.iload 4, 2, (0, 0, 0, 0, 0)) := s202_1 12
theorem i202_30 : q_ins 202 30 = some (.iload_n 2, 1, (0, 0, 0, 0, 0)) := s202_1 14
theorem i202_31 : q_ins 202 31 = some (.iconst (-1), 1, (0, 0, 0, 0, 0)) := s202_1 15
theorem i202_32 : q_ins 202 32 = some (.ixor, 1, (0, 0, 0, 0, 0)) := s202_2 0
theorem i202_33 : q_ins 202 33 = some (.iand, 1, (0, 0, 0, 0, 0)) := s202_2 1
theorem i202_34 : q_ins 202 34 = some (.ifCond .ne 26, 3, (0, 0, 0, 0, 0)) := s202_2 2
theorem i202_37 : q_ins 202 37 = some (.aload_n 0, 1, (0, 0, 0, 0, 0)) := s202_2 5
theorem i202_38 : q_ins 202 38 = some (.iload 4, 2, (0, 0, 0, 0, 0)) := s202_2 6
theorem i202_40 : q_ins 202 40 = some (.invokevirtual 354, 3, (233, 203, 2, 0, 10)) := s202_2 8
theorem i202_43 : q_ins 202 43 = some (.ifCond .ne 6, 3, (0, 0, 0, 0, 0)) := s202_2 11
theorem i202_46 : q_ins 202 46 = some (.goto 14, 3, (0, 0, 0, 0, 0)) := s202_2 14
theorem i202_49 : q_ins 202 49 = some (.iload_n 3, 1, (0, 0, 0, 0, 0)) := s202_3 1
theorem i202_50 : q_ins 202 50 = some (.iload_n 1, 1, (0, 0, 0, 0, 0)) := s202_3 2
theorem i202_51 : q_ins 202 51 = some (.if_icmp .ne 6, 3, (0, 0, 0, 0, 0)) := s202_3 3
theorem i202_54 : q_ins 202 54 = some (.iload 4, 2, (0, 0, 0, 0, 0)) := s202_3 6
theorem i202_56 : q_ins 202 56 = some (.ireturn, 1, (0, 0, 0, 0, 0)) := s202_3 8
theorem i202_57 : q_ins 202 57 = some (.iinc 3 1, 3, (0, 0, 0, 0, 0)) := s202_3 9
theorem i202_60 : q_ins 202 60 = some (.iinc 4 1, 3, (0, 0, 0, 0, 0)) := s202_3 12
theorem i202_63 : q_ins 202 63 = some (.goto (-42), 3, (0, 0, 0, 0, 0)) := s202_3 15
theorem i202_66 : q_ins 202 66 = some (.iload_n 1, 1, (0, 0, 0, 0, 0)) := s202_4 2
theorem i202_67 : q_ins 202 67 = some (.iconst (-1), 1, (0, 0, 0, 0, 0)) := s202_4 3
theorem i202_68 : q_ins 202 68 = some (.if_icmp .ne 7, 3, (0, 0, 0, 0, 0)) := s202_4 4
theorem i202_71 : q_ins 202 71 = some (.iload_n 3, 1, (0, 0, 0, 0, 0)) := s202_4 7
theorem i202_72 : q_ins 202 72 = some (.goto 4, 3, (0, 0, 0, 0, 0)) := s202_4 8
theorem i202_75 : q_ins 202 75 = some (.iconst (-1), 1, (0, 0, 0, 0, 0)) := s202_4 11
theorem i202_76 : q_ins 202 76 = some (.ireturn, 1, (0, 0, 0, 0, 0)) := s202_4 12
theorem s203_0 (j : Nat) : q_ins 203 j = q_at q_c203 j := rfl
theorem s203_1 (j : Nat) : q_ins 203 (j + 16) = q_at q_c203_1 j := s203_0 (j + 16)
theorem s203_2 (j : Nat) : q_ins 203 (j + 32) = q_at q_c203_2 j := s203_1 (j + 16)
theorem i203_0 : q_ins 203 0 = some (.iconst 0, 1, (0, 0, 0, 0, 0)) := s203_0 0
theorem i203_1 : q_ins 203 1 = some (.istore_n 2, 1, (0, 0, 0, 0, 0)) := s203_0 1
theorem i203_2 : q_ins 203 2 = some (.iload_n 2, 1, (0, 0, 0, 0, 0)) := s203_0 2
theorem i203_3 : q_ins 203 3 = some (.aload_n 0, 1, (0, 0, 0, 0, 0)) := s203_0 3
theorem i203_4 : q_ins 203 4 = some (.getfield 7, 3, (162, 10, 0, 2, 0)) := s203_0 4
theorem i203_7 : q_ins 203 7 = some (.bipush 7, 2, (0, 0, 0, 0, 0)) := s203_0 7
theorem i203_9 : q_ins 203 9 = some (.iaload, 1, (0, 0, 0, 0, 0)) := s203_0 9
theorem i203_10 : q_ins 203 10 = some (.if_icmp .ge 29, 3, (0, 0, 0, 0, 0)) := s203_0 10
theorem i203_13 : q_ins 203 13 = some (.aload_n 0, 1, (0, 0, 0, 0, 0)) := s203_0 13
theorem i203_14 : q_ins 203 14 = some (.iload_n 2, 1, (0, 0, 0, 0, 0)) := s203_0 14
theorem i203_15 : q_ins 203 15 = some (.iload_n 1, 1, (0, 0, 0, 0, 0)) := s203_0 15
theorem i203_16 : q_ins 203 16 = some (.invokevirtual 293, 3, (201, 162, 3, 0, 10)) := s203_1 0
theorem i203_19 : q_ins 203 19 = some (.aload_n 0, 1, (0, 0, 0, 0, 0)) := s203_1 3
theorem i203_20 : q_ins 203 20 = some (.getfield 7, 3, (162, 10, 0, 2, 0)) := s203_1 4
theorem i203_23 : q_ins 203 23 = some (.bipush 66, 2, (0, 0, 0, 0, 0)) := s203_1 7
theorem i203_25 : q_ins 203 25 = some (.iload_n 2, 1, (0, 0, 0, 0, 0)) := s203_1 9
theorem i203_26 : q_ins 203 26 = some (.iadd, 1, (0, 0, 0, 0, 0)) := s203_1 10
theorem i203_27 : q_ins 203 27 = some (.iaload, 1, (0, 0, 0, 0, 0)) := s203_1 11
theorem i203_28 : q_ins 203 28 = some (.if_icmp .eq 5, 3, (0, 0, 0, 0, 0)) := s203_1 12
theorem i203_31 : q_ins 203 31 = some (.iconst 0, 1, (0, 0, 0, 0, 0)) := s203_1 15
theorem i203_32 : q_ins 203 32 = some (.ireturn, 1, (0, 0, 0, 0, 0)) := s203_2 0
theorem i203_33 : q_ins 203 33 = some (.iinc 2 1, 3, (0, 0, 0, 0, 0)) := s203_2 1
theorem i203_36 : q_ins 203 36 = some (.goto (-34), 3, (0, 0, 0, 0, 0)) := s203_2 4
theorem i203_39 : q_ins 203 39 = some (.iconst 1, 1, (0, 0, 0, 0, 0)) := s203_2 7
theorem i203_40 : q_ins 203 40 = some (.ireturn, 1, (0, 0, 0, 0, 0)) := s203_2 8
theorem s204_0 (j : Nat) : q_ins 204 j = q_at q_c204 j := rfl
theorem s204_1 (j : Nat) : q_ins 204 (j + 16) = q_at q_c204_1 j := s204_0 (j + 16)
theorem i204_0 : q_ins 204 0 = some (.aload_n 0, 1, (0, 0, 0, 0, 0)) := s204_0 0
theorem i204_1 : q_ins 204 1 = some (.getfield 7, 3, (162, 10, 0, 2, 0)) := s204_0 1
theorem i204_4 : q_ins 204 4 = some (.aload_n 0, 1, (0, 0, 0, 0, 0)) := s204_0 4
theorem i204_5 : q_ins 204 5 = some (.getfield 13, 3, (163, 10, 1, 2, 0)) := s204_0 5
theorem i204_8 : q_ins 204 8 = some (.invokestatic 67, 3, (166, 116, 2, 2, 0)) := s204_0 8
theorem i204_11 : q_ins 204 11 = some (.aload_n 0, 1, (0, 0, 0, 0, 0)) := s204_0 11
theorem i204_12 : q_ins 204 12 = some (.getfield 7, 3, (162, 10, 0, 2, 0)) := s204_0 12
theorem i204_15 : q_ins 204 15 = some (.iconst 2, 1, (0, 0, 0, 0, 0)) := s204_0 15
theorem i204_16 : q_ins 204 16 = some (.iaload, 1, (0, 0, 0, 0, 0)) := s204_1 0
theorem i204_17 : q_ins 204 17 = some (.ireturn, 1, (0, 0, 0, 0, 0)) := s204_1 1
theorem s205_0 (j : Nat) : q_ins 205 j = q_at q_c205 j := rfl
theorem s205_1 (j : Nat) : q_ins 205 (j + 16) = q_at q_c205_1 j := s205_0 (j + 16)
theorem i205_0 : q_ins 205 0 = some (.aload_n 0, 1, (0, 0, 0, 0, 0)) := s205_0 0
theorem i205_1 : q_ins 205 1 = some (.getfield 13, 3, (163, 10, 1, 2, 0)) := s205_0 1
theorem i205_4 : q_ins 205 4 = some (.aload_n 0, 1, (0, 0, 0, 0, 0)) := s205_0 4
theorem i205_5 : q_ins 205 5 = some (.getfield 7, 3, (162, 10, 0, 2, 0)) := s205_0 5
theorem i205_8 : q_ins 205 8 = some (.invokestatic 67, 3, (166, 116, 2, 2, 0)) := s205_0 8
theorem i205_11 : q_ins 205 11 = some (.aload_n 0, 1, (0, 0, 0, 0, 0)) := s205_0 11
theorem i205_12 : q_ins 205 12 = some (.getfield 7, 3, (162, 10, 0, 2, 0)) := s205_0 12
theorem i205_15 : q_ins 205 15 = some (.iconst 2, 1, (0, 0, 0, 0, 0)) := s205_0 15
theorem i205_16 : q_ins 205 16 = some (.iaload, 1, (0, 0, 0, 0, 0)) := s205_1 0
theorem i205_17 : q_ins 205 17 = some (.ireturn, 1, (0, 0, 0, 0, 0)) := s205_1 1
theorem s206_0 (j : Nat) : q_ins 206 j = q_at q_c206 j := rfl
theorem s206_1 (j : Nat) : q_ins 206 (j + 16) = q_at q_c206_1 j := s206_0 (j + 16)
theorem s206_2 (j : Nat) : q_ins 206 (j + 32) = q_at q_c206_2 j := s206_1 (j + 16)
theorem s206_3 (j : Nat) : q_ins 206 (j + 48) = q_at q_c206_3 j := s206_2 (j + 16)
theorem i206_0 : q_ins 206 0 = some (.iload_n 1, 1, (0, 0, 0, 0, 0)) := s206_0 0
theorem i206_1 : q_ins 206 1 = some (.bipush 10, 2, (0, 0, 0, 0, 0)) := s206_0 1
theorem i206_3 : q_ins 206 3 = some (.bipush 25, 2, (0, 0, 0, 0, 0)) := s206_0 3
theorem i206_5 : q_ins 206 5 = some (.invokestatic 71, 3, (167, 118, 3, 2, 0)) := s206_0 5
theorem i206_8 : q_ins 206 8 = some (.ifCond .eq 12, 3, (0, 0, 0, 0, 0)) := s206_0 8
theorem i206_11 : q_ins 206 11 = some (.aload_n 0, 1, (0, 0, 0, 0, 0)) := s206_0 11
theorem i206_12 : q_ins 206 12 = some (.iload_n 1, 1, (0, 0, 0, 0, 0)) := s206_0 12
theorem i206_13 : q_ins 206 13 = some (.bipush 10, 2, (0, 0, 0, 0, 0)) := s206_0 13
theorem i206_15 : q_ins 206 15 = some (.isub, 1, (0, 0, 0, 0, 0)) := s206_0 15
theorem i206_16 : q_ins 206 16 = some (.invokevirtual 302, 3, (218, 179, 2, 0, 10)) := s206_1 0
theorem i206_19 : q_ins 206 19 = some (.ireturn, 1, (0, 0, 0, 0, 0)) := s206_1 3
theorem i206_20 : q_ins 206 20 = some (.iload_n 1, 1, (0, 0, 0, 0, 0)) := s206_1 4
theorem i206_21 : q_ins 206 21 = some (.iconst 0, 1, (0, 0, 0, 0, 0)) := s206_1 5
theorem i206_22 : q_ins 206 22 = some (.bipush 7, 2, (0, 0, 0, 0, 0)) := s206_1 6
theorem i206_24 : q_ins 206 24 = some (.invokestatic 71, 3, (167, 118, 3, 2, 0)) := s206_1 8
theorem i206_27 : q_ins 206 27 = some (.ifCond .eq 12, 3, (0, 0, 0, 0, 0)) := s206_1 11
theorem i206_30 : q_ins 206 30 = some (.aload_n 0, 1, (0, 0, 0, 0, 0)) := s206_1 14
theorem i206_31 : q_ins 206 31 = some (.getfield 7, 3, (162, 10, 0, 2, 0)) := s206_1 15
theorem i206_34 : q_ins 206 34 = some (.iload_n 1, 1, (0, 0, 0, 0, 0)) := s206_2 2
theorem i206_35 : q_ins 206 35 = some (.iaload, 1, (0, 0, 0, 0, 0)) := s206_2 3
theorem i206_36 : q_ins 206 36 = some (.goto 18, 3, (0, 0, 0, 0, 0)) := s206_2 4
theorem i206_39 : q_ins 206 39 = some (.iload_n 1, 1, (0, 0, 0, 0, 0)) := s206_2 7
theorem i206_40 : q_ins 206 40 = some (.bipush 8, 2, (0, 0, 0, 0, 0)) := s206_2 8
theorem i206_42 : q_ins 206 42 = some (.if_icmp .ne 10, 3, (0, 0, 0, 0, 0)) := s206_2 10
theorem i206_45 : q_ins 206 45 = some (.aload_n 0, 1, (0, 0, 0, 0, 0)) := s206_2 13
theorem i206_46 : q_ins 206 46 = some (.getfield 83, 3, (180, 10, 4, 0, 0)) := s206_2 14
theorem i206_49 : q_ins 206 49 = some (.goto 5, 3, (0, 0, 0, 0, 0)) := s206_3 1
theorem i206_52 : q_ins 206 52 = some (.bipush (-2), 2, (0, 0, 0, 0, 0)) := s206_3 4
theorem i206_54 : q_ins 206 54 = some (.ireturn, 1, (0, 0, 0, 0, 0)) := s206_3 6
