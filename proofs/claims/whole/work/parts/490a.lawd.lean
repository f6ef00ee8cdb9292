/-! the law, decoded, in blocks -/
theorem dls_at {l : List (Nat × Instr × Nat)} (h : l.all (fun q => decide (decode cL_law q.1 = .ok (q.2.1, q.2.2))) = true) {i : Nat} {q : Nat × Instr × Nat} (hi : l[i]? = some q) : decode cL_law q.1 = .ok (q.2.1, q.2.2) := of_decide_eq_true (List.all_eq_true.mp h q (List.mem_of_getElem? hi))
def dls_0 : List (Nat × Instr × Nat) := [(20, .iconst 0, 1), (21, .istore 4, 2), (23, .iload 4, 2), (25, .aload_n 0, 1), (26, .arraylength, 1), (27, .iconst 5, 1), (28, .isub, 1), (29, .if_icmp .gt 1623, 3), (32, .aload_n 0, 1), (33, .iload 4, 2), (35, .iaload, 1), (36, .bipush 31, 2), (38, .iand, 1), (39, .tableswitch 1607 0 26 #[121, 193, 249, 293, 306, 362, 430, 514, 570, 583, 639, 707, 775, 823, 907, 975, 1043, 1111, 1178, 1246, 1314, 1386, 1442, 1469, 1525, 1538, 1594], 121), (160, .aload_n 1, 1), (161, .aload_n 0, 1), (162, .iload 4, 2), (164, .iconst 1, 1), (165, .iadd, 1), (166, .iaload, 1), (167, .aload_n 0, 1), (168, .iload 4, 2), (170, .iconst 2, 1), (171, .iadd, 1), (172, .iaload, 1), (173, .aload_n 0, 1), (174, .iload 4, 2), (176, .iconst 3, 1), (177, .iadd, 1), (178, .iaload, 1), (179, .aload_n 0, 1), (180, .iload 4, 2), (182, .iconst 4, 1), (183, .iadd, 1), (184, .iaload, 1), (185, .invokestatic 93, 3), (188, .istore 5, 2), (190, .aload_n 2, 1), (191, .aload_n 0, 1), (192, .iload 4, 2)]
theorem dls_ok_0 : dls_0.all (fun q => decide (decode cL_law q.1 = .ok (q.2.1, q.2.2))) = true := by decide +kernel
theorem dL_law_20 : decode cL_law 20 = .ok (.iconst 0, 1) := dls_at (q := (20, .iconst 0, 1)) dls_ok_0 (i := 0) rfl
theorem dL_law_21 : decode cL_law 21 = .ok (.istore 4, 2) := dls_at (q := (21, .istore 4, 2)) dls_ok_0 (i := 1) rfl
theorem dL_law_23 : decode cL_law 23 = .ok (.iload 4, 2) := dls_at (q := (23, .iload 4, 2)) dls_ok_0 (i := 2) rfl
theorem dL_law_25 : decode cL_law 25 = .ok (.aload_n 0, 1) := dls_at (q := (25, .aload_n 0, 1)) dls_ok_0 (i := 3) rfl
theorem dL_law_26 : decode cL_law 26 = .ok (.arraylength, 1) := dls_at (q := (26, .arraylength, 1)) dls_ok_0 (i := 4) rfl
theorem dL_law_27 : decode cL_law 27 = .ok (.iconst 5, 1) := dls_at (q := (27, .iconst 5, 1)) dls_ok_0 (i := 5) rfl
theorem dL_law_28 : decode cL_law 28 = .ok (.isub, 1) := dls_at (q := (28, .isub, 1)) dls_ok_0 (i := 6) rfl
theorem dL_law_29 : decode cL_law 29 = .ok (.if_icmp .gt 1623, 3) := dls_at (q := (29, .if_icmp .gt 1623, 3)) dls_ok_0 (i := 7) rfl
theorem dL_law_32 : decode cL_law 32 = .ok (.aload_n 0, 1) := dls_at (q := (32, .aload_n 0, 1)) dls_ok_0 (i := 8) rfl
theorem dL_law_33 : decode cL_law 33 = .ok (.iload 4, 2) := dls_at (q := (33, .iload 4, 2)) dls_ok_0 (i := 9) rfl
theorem dL_law_35 : decode cL_law 35 = .ok (.iaload, 1) := dls_at (q := (35, .iaload, 1)) dls_ok_0 (i := 10) rfl
theorem dL_law_36 : decode cL_law 36 = .ok (.bipush 31, 2) := dls_at (q := (36, .bipush 31, 2)) dls_ok_0 (i := 11) rfl
theorem dL_law_38 : decode cL_law 38 = .ok (.iand, 1) := dls_at (q := (38, .iand, 1)) dls_ok_0 (i := 12) rfl
theorem dL_law_39 : decode cL_law 39 = .ok (.tableswitch 1607 0 26 #[121, 193, 249, 293, 306, 362, 430, 514, 570, 583, 639, 707, 775, 823, 907, 975, 1043, 1111, 1178, 1246, 1314, 1386, 1442, 1469, 1525, 1538, 1594], 121) := dls_at (q := (39, .tableswitch 1607 0 26 #[121, 193, 249, 293, 306, 362, 430, 514, 570, 583, 639, 707, 775, 823, 907, 975, 1043, 1111, 1178, 1246, 1314, 1386, 1442, 1469, 1525, 1538, 1594], 121)) dls_ok_0 (i := 13) rfl
theorem dL_law_160 : decode cL_law 160 = .ok (.aload_n 1, 1) := dls_at (q := (160, .aload_n 1, 1)) dls_ok_0 (i := 14) rfl
theorem dL_law_161 : decode cL_law 161 = .ok (.aload_n 0, 1) := dls_at (q := (161, .aload_n 0, 1)) dls_ok_0 (i := 15) rfl
theorem dL_law_162 : decode cL_law 162 = .ok (.iload 4, 2) := dls_at (q := (162, .iload 4, 2)) dls_ok_0 (i := 16) rfl
theorem dL_law_164 : decode cL_law 164 = .ok (.iconst 1, 1) := dls_at (q := (164, .iconst 1, 1)) dls_ok_0 (i := 17) rfl
theorem dL_law_165 : decode cL_law 165 = .ok (.iadd, 1) := dls_at (q := (165, .iadd, 1)) dls_ok_0 (i := 18) rfl
theorem dL_law_166 : decode cL_law 166 = .ok (.iaload, 1) := dls_at (q := (166, .iaload, 1)) dls_ok_0 (i := 19) rfl
theorem dL_law_167 : decode cL_law 167 = .ok (.aload_n 0, 1) := dls_at (q := (167, .aload_n 0, 1)) dls_ok_0 (i := 20) rfl
theorem dL_law_168 : decode cL_law 168 = .ok (.iload 4, 2) := dls_at (q := (168, .iload 4, 2)) dls_ok_0 (i := 21) rfl
theorem dL_law_170 : decode cL_law 170 = .ok (.iconst 2, 1) := dls_at (q := (170, .iconst 2, 1)) dls_ok_0 (i := 22) rfl
theorem dL_law_171 : decode cL_law 171 = .ok (.iadd, 1) := dls_at (q := (171, .iadd, 1)) dls_ok_0 (i := 23) rfl
theorem dL_law_172 : decode cL_law 172 = .ok (.iaload, 1) := dls_at (q := (172, .iaload, 1)) dls_ok_0 (i := 24) rfl
theorem dL_law_173 : decode cL_law 173 = .ok (.aload_n 0, 1) := dls_at (q := (173, .aload_n 0, 1)) dls_ok_0 (i := 25) rfl
theorem dL_law_174 : decode cL_law 174 = .ok (.iload 4, 2) := dls_at (q := (174, .iload 4, 2)) dls_ok_0 (i := 26) rfl
theorem dL_law_176 : decode cL_law 176 = .ok (.iconst 3, 1) := dls_at (q := (176, .iconst 3, 1)) dls_ok_0 (i := 27) rfl
theorem dL_law_177 : decode cL_law 177 = .ok (.iadd, 1) := dls_at (q := (177, .iadd, 1)) dls_ok_0 (i := 28) rfl
theorem dL_law_178 : decode cL_law 178 = .ok (.iaload, 1) := dls_at (q := (178, .iaload, 1)) dls_ok_0 (i := 29) rfl
theorem dL_law_179 : decode cL_law 179 = .ok (.aload_n 0, 1) := dls_at (q := (179, .aload_n 0, 1)) dls_ok_0 (i := 30) rfl
theorem dL_law_180 : decode cL_law 180 = .ok (.iload 4, 2) := dls_at (q := (180, .iload 4, 2)) dls_ok_0 (i := 31) rfl
theorem dL_law_182 : decode cL_law 182 = .ok (.iconst 4, 1) := dls_at (q := (182, .iconst 4, 1)) dls_ok_0 (i := 32) rfl
theorem dL_law_183 : decode cL_law 183 = .ok (.iadd, 1) := dls_at (q := (183, .iadd, 1)) dls_ok_0 (i := 33) rfl
theorem dL_law_184 : decode cL_law 184 = .ok (.iaload, 1) := dls_at (q := (184, .iaload, 1)) dls_ok_0 (i := 34) rfl
theorem dL_law_185 : decode cL_law 185 = .ok (.invokestatic 93, 3) := dls_at (q := (185, .invokestatic 93, 3)) dls_ok_0 (i := 35) rfl
theorem dL_law_188 : decode cL_law 188 = .ok (.istore 5, 2) := dls_at (q := (188, .istore 5, 2)) dls_ok_0 (i := 36) rfl
theorem dL_law_190 : decode cL_law 190 = .ok (.aload_n 2, 1) := dls_at (q := (190, .aload_n 2, 1)) dls_ok_0 (i := 37) rfl
theorem dL_law_191 : decode cL_law 191 = .ok (.aload_n 0, 1) := dls_at (q := (191, .aload_n 0, 1)) dls_ok_0 (i := 38) rfl
theorem dL_law_192 : decode cL_law 192 = .ok (.iload 4, 2) := dls_at (q := (192, .iload 4, 2)) dls_ok_0 (i := 39) rfl
def dls_1 : List (Nat × Instr × Nat) := [(194, .iconst 1, 1), (195, .iadd, 1), (196, .iaload, 1), (197, .aload_n 0, 1), (198, .iload 4, 2), (200, .iconst 2, 1), (201, .iadd, 1), (202, .iaload, 1), (203, .aload_n 0, 1), (204, .iload 4, 2), (206, .iconst 3, 1), (207, .iadd, 1), (208, .iaload, 1), (209, .aload_n 0, 1), (210, .iload 4, 2), (212, .iconst 4, 1), (213, .iadd, 1), (214, .iaload, 1), (215, .invokevirtual 98, 3), (218, .aload_n 2, 1), (219, .invokevirtual 99, 3), (222, .iload 5, 2), (224, .if_icmp .eq 5, 3), (227, .iconst 0, 1), (228, .ireturn, 1), (229, .goto 1417, 3), (232, .aload_n 1, 1), (233, .aload_n 0, 1), (234, .iload 4, 2), (236, .iconst 1, 1), (237, .iadd, 1), (238, .iaload, 1), (239, .aload_n 3, 1), (240, .invokestatic 102, 3), (243, .istore 5, 2), (245, .aload_n 2, 1), (246, .aload_n 0, 1), (247, .iload 4, 2), (249, .iconst 1, 1), (250, .iadd, 1)]
theorem dls_ok_1 : dls_1.all (fun q => decide (decode cL_law q.1 = .ok (q.2.1, q.2.2))) = true := by decide +kernel
theorem dL_law_194 : decode cL_law 194 = .ok (.iconst 1, 1) := dls_at (q := (194, .iconst 1, 1)) dls_ok_1 (i := 0) rfl
theorem dL_law_195 : decode cL_law 195 = .ok (.iadd, 1) := dls_at (q := (195, .iadd, 1)) dls_ok_1 (i := 1) rfl
theorem dL_law_196 : decode cL_law 196 = .ok (.iaload, 1) := dls_at (q := (196, .iaload, 1)) dls_ok_1 (i := 2) rfl
theorem dL_law_197 : decode cL_law 197 = .ok (.aload_n 0, 1) := dls_at (q := (197, .aload_n 0, 1)) dls_ok_1 (i := 3) rfl
theorem dL_law_198 : decode cL_law 198 = .ok (.iload 4, 2) := dls_at (q := (198, .iload 4, 2)) dls_ok_1 (i := 4) rfl
theorem dL_law_200 : decode cL_law 200 = .ok (.iconst 2, 1) := dls_at (q := (200, .iconst 2, 1)) dls_ok_1 (i := 5) rfl
theorem dL_law_201 : decode cL_law 201 = .ok (.iadd, 1) := dls_at (q := (201, .iadd, 1)) dls_ok_1 (i := 6) rfl
theorem dL_law_202 : decode cL_law 202 = .ok (.iaload, 1) := dls_at (q := (202, .iaload, 1)) dls_ok_1 (i := 7) rfl
theorem dL_law_203 : decode cL_law 203 = .ok (.aload_n 0, 1) := dls_at (q := (203, .aload_n 0, 1)) dls_ok_1 (i := 8) rfl
theorem dL_law_204 : decode cL_law 204 = .ok (.iload 4, 2) := dls_at (q := (204, .iload 4, 2)) dls_ok_1 (i := 9) rfl
theorem dL_law_206 : decode cL_law 206 = .ok (.iconst 3, 1) := dls_at (q := (206, .iconst 3, 1)) dls_ok_1 (i := 10) rfl
theorem dL_law_207 : decode cL_law 207 = .ok (.iadd, 1) := dls_at (q := (207, .iadd, 1)) dls_ok_1 (i := 11) rfl
theorem dL_law_208 : decode cL_law 208 = .ok (.iaload, 1) := dls_at (q := (208, .iaload, 1)) dls_ok_1 (i := 12) rfl
theorem dL_law_209 : decode cL_law 209 = .ok (.aload_n 0, 1) := dls_at (q := (209, .aload_n 0, 1)) dls_ok_1 (i := 13) rfl
theorem dL_law_210 : decode cL_law 210 = .ok (.iload 4, 2) := dls_at (q := (210, .iload 4, 2)) dls_ok_1 (i := 14) rfl
theorem dL_law_212 : decode cL_law 212 = .ok (.iconst 4, 1) := dls_at (q := (212, .iconst 4, 1)) dls_ok_1 (i := 15) rfl
theorem dL_law_213 : decode cL_law 213 = .ok (.iadd, 1) := dls_at (q := (213, .iadd, 1)) dls_ok_1 (i := 16) rfl
theorem dL_law_214 : decode cL_law 214 = .ok (.iaload, 1) := dls_at (q := (214, .iaload, 1)) dls_ok_1 (i := 17) rfl
theorem dL_law_215 : decode cL_law 215 = .ok (.invokevirtual 98, 3) := dls_at (q := (215, .invokevirtual 98, 3)) dls_ok_1 (i := 18) rfl
theorem dL_law_218 : decode cL_law 218 = .ok (.aload_n 2, 1) := dls_at (q := (218, .aload_n 2, 1)) dls_ok_1 (i := 19) rfl
theorem dL_law_219 : decode cL_law 219 = .ok (.invokevirtual 99, 3) := dls_at (q := (219, .invokevirtual 99, 3)) dls_ok_1 (i := 20) rfl
theorem dL_law_222 : decode cL_law 222 = .ok (.iload 5, 2) := dls_at (q := (222, .iload 5, 2)) dls_ok_1 (i := 21) rfl
theorem dL_law_224 : decode cL_law 224 = .ok (.if_icmp .eq 5, 3) := dls_at (q := (224, .if_icmp .eq 5, 3)) dls_ok_1 (i := 22) rfl
theorem dL_law_227 : decode cL_law 227 = .ok (.iconst 0, 1) := dls_at (q := (227, .iconst 0, 1)) dls_ok_1 (i := 23) rfl
theorem dL_law_228 : decode cL_law 228 = .ok (.ireturn, 1) := dls_at (q := (228, .ireturn, 1)) dls_ok_1 (i := 24) rfl
theorem dL_law_229 : decode cL_law 229 = .ok (.goto 1417, 3) := dls_at (q := (229, .goto 1417, 3)) dls_ok_1 (i := 25) rfl
theorem dL_law_232 : decode cL_law 232 = .ok (.aload_n 1, 1) := dls_at (q := (232, .aload_n 1, 1)) dls_ok_1 (i := 26) rfl
theorem dL_law_233 : decode cL_law 233 = .ok (.aload_n 0, 1) := dls_at (q := (233, .aload_n 0, 1)) dls_ok_1 (i := 27) rfl
theorem dL_law_234 : decode cL_law 234 = .ok (.iload 4, 2) := dls_at (q := (234, .iload 4, 2)) dls_ok_1 (i := 28) rfl
theorem dL_law_236 : decode cL_law 236 = .ok (.iconst 1, 1) := dls_at (q := (236, .iconst 1, 1)) dls_ok_1 (i := 29) rfl
theorem dL_law_237 : decode cL_law 237 = .ok (.iadd, 1) := dls_at (q := (237, .iadd, 1)) dls_ok_1 (i := 30) rfl
theorem dL_law_238 : decode cL_law 238 = .ok (.iaload, 1) := dls_at (q := (238, .iaload, 1)) dls_ok_1 (i := 31) rfl
theorem dL_law_239 : decode cL_law 239 = .ok (.aload_n 3, 1) := dls_at (q := (239, .aload_n 3, 1)) dls_ok_1 (i := 32) rfl
theorem dL_law_240 : decode cL_law 240 = .ok (.invokestatic 102, 3) := dls_at (q := (240, .invokestatic 102, 3)) dls_ok_1 (i := 33) rfl
theorem dL_law_243 : decode cL_law 243 = .ok (.istore 5, 2) := dls_at (q := (243, .istore 5, 2)) dls_ok_1 (i := 34) rfl
theorem dL_law_245 : decode cL_law 245 = .ok (.aload_n 2, 1) := dls_at (q := (245, .aload_n 2, 1)) dls_ok_1 (i := 35) rfl
theorem dL_law_246 : decode cL_law 246 = .ok (.aload_n 0, 1) := dls_at (q := (246, .aload_n 0, 1)) dls_ok_1 (i := 36) rfl
theorem dL_law_247 : decode cL_law 247 = .ok (.iload 4, 2) := dls_at (q := (247, .iload 4, 2)) dls_ok_1 (i := 37) rfl
theorem dL_law_249 : decode cL_law 249 = .ok (.iconst 1, 1) := dls_at (q := (249, .iconst 1, 1)) dls_ok_1 (i := 38) rfl
theorem dL_law_250 : decode cL_law 250 = .ok (.iadd, 1) := dls_at (q := (250, .iadd, 1)) dls_ok_1 (i := 39) rfl
def dls_2 : List (Nat × Instr × Nat) := [(251, .iaload, 1), (252, .invokevirtual 105, 3), (255, .istore 6, 2), (257, .aload_n 2, 1), (258, .invokevirtual 99, 3), (261, .iload 5, 2), (263, .if_icmp .eq 5, 3), (266, .iconst 0, 1), (267, .ireturn, 1), (268, .iload 5, 2), (270, .ifCond .ne 15, 3), (273, .aload_n 3, 1), (274, .iconst 0, 1), (275, .laload, 1), (276, .iload 6, 2), (278, .i2l, 1), (279, .lcmp, 1), (280, .ifCond .eq 5, 3), (283, .iconst 0, 1), (284, .ireturn, 1), (285, .goto 1361, 3), (288, .aload_n 1, 1), (289, .aload_n 3, 1), (290, .invokestatic 106, 3), (293, .istore 5, 2), (295, .aload_n 2, 1), (296, .invokevirtual 109, 3), (299, .istore 6, 2), (301, .aload_n 2, 1), (302, .invokevirtual 99, 3), (305, .iload 5, 2), (307, .if_icmp .eq 5, 3), (310, .iconst 0, 1), (311, .ireturn, 1), (312, .iload 5, 2), (314, .ifCond .ne 15, 3), (317, .aload_n 3, 1), (318, .iconst 0, 1), (319, .laload, 1), (320, .iload 6, 2)]
theorem dls_ok_2 : dls_2.all (fun q => decide (decode cL_law q.1 = .ok (q.2.1, q.2.2))) = true := by decide +kernel
theorem dL_law_251 : decode cL_law 251 = .ok (.iaload, 1) := dls_at (q := (251, .iaload, 1)) dls_ok_2 (i := 0) rfl
theorem dL_law_252 : decode cL_law 252 = .ok (.invokevirtual 105, 3) := dls_at (q := (252, .invokevirtual 105, 3)) dls_ok_2 (i := 1) rfl
theorem dL_law_255 : decode cL_law 255 = .ok (.istore 6, 2) := dls_at (q := (255, .istore 6, 2)) dls_ok_2 (i := 2) rfl
theorem dL_law_257 : decode cL_law 257 = .ok (.aload_n 2, 1) := dls_at (q := (257, .aload_n 2, 1)) dls_ok_2 (i := 3) rfl
theorem dL_law_258 : decode cL_law 258 = .ok (.invokevirtual 99, 3) := dls_at (q := (258, .invokevirtual 99, 3)) dls_ok_2 (i := 4) rfl
theorem dL_law_261 : decode cL_law 261 = .ok (.iload 5, 2) := dls_at (q := (261, .iload 5, 2)) dls_ok_2 (i := 5) rfl
theorem dL_law_263 : decode cL_law 263 = .ok (.if_icmp .eq 5, 3) := dls_at (q := (263, .if_icmp .eq 5, 3)) dls_ok_2 (i := 6) rfl
theorem dL_law_266 : decode cL_law 266 = .ok (.iconst 0, 1) := dls_at (q := (266, .iconst 0, 1)) dls_ok_2 (i := 7) rfl
theorem dL_law_267 : decode cL_law 267 = .ok (.ireturn, 1) := dls_at (q := (267, .ireturn, 1)) dls_ok_2 (i := 8) rfl
theorem dL_law_268 : decode cL_law 268 = .ok (.iload 5, 2) := dls_at (q := (268, .iload 5, 2)) dls_ok_2 (i := 9) rfl
theorem dL_law_270 : decode cL_law 270 = .ok (.ifCond .ne 15, 3) := dls_at (q := (270, .ifCond .ne 15, 3)) dls_ok_2 (i := 10) rfl
theorem dL_law_273 : decode cL_law 273 = .ok (.aload_n 3, 1) := dls_at (q := (273, .aload_n 3, 1)) dls_ok_2 (i := 11) rfl
theorem dL_law_274 : decode cL_law 274 = .ok (.iconst 0, 1) := dls_at (q := (274, .iconst 0, 1)) dls_ok_2 (i := 12) rfl
theorem dL_law_275 : decode cL_law 275 = .ok (.laload, 1) := dls_at (q := (275, .laload, 1)) dls_ok_2 (i := 13) rfl
theorem dL_law_276 : decode cL_law 276 = .ok (.iload 6, 2) := dls_at (q := (276, .iload 6, 2)) dls_ok_2 (i := 14) rfl
theorem dL_law_278 : decode cL_law 278 = .ok (.i2l, 1) := dls_at (q := (278, .i2l, 1)) dls_ok_2 (i := 15) rfl
theorem dL_law_279 : decode cL_law 279 = .ok (.lcmp, 1) := dls_at (q := (279, .lcmp, 1)) dls_ok_2 (i := 16) rfl
theorem dL_law_280 : decode cL_law 280 = .ok (.ifCond .eq 5, 3) := dls_at (q := (280, .ifCond .eq 5, 3)) dls_ok_2 (i := 17) rfl
theorem dL_law_283 : decode cL_law 283 = .ok (.iconst 0, 1) := dls_at (q := (283, .iconst 0, 1)) dls_ok_2 (i := 18) rfl
theorem dL_law_284 : decode cL_law 284 = .ok (.ireturn, 1) := dls_at (q := (284, .ireturn, 1)) dls_ok_2 (i := 19) rfl
theorem dL_law_285 : decode cL_law 285 = .ok (.goto 1361, 3) := dls_at (q := (285, .goto 1361, 3)) dls_ok_2 (i := 20) rfl
theorem dL_law_288 : decode cL_law 288 = .ok (.aload_n 1, 1) := dls_at (q := (288, .aload_n 1, 1)) dls_ok_2 (i := 21) rfl
theorem dL_law_289 : decode cL_law 289 = .ok (.aload_n 3, 1) := dls_at (q := (289, .aload_n 3, 1)) dls_ok_2 (i := 22) rfl
theorem dL_law_290 : decode cL_law 290 = .ok (.invokestatic 106, 3) := dls_at (q := (290, .invokestatic 106, 3)) dls_ok_2 (i := 23) rfl
theorem dL_law_293 : decode cL_law 293 = .ok (.istore 5, 2) := dls_at (q := (293, .istore 5, 2)) dls_ok_2 (i := 24) rfl
theorem dL_law_295 : decode cL_law 295 = .ok (.aload_n 2, 1) := dls_at (q := (295, .aload_n 2, 1)) dls_ok_2 (i := 25) rfl
theorem dL_law_296 : decode cL_law 296 = .ok (.invokevirtual 109, 3) := dls_at (q := (296, .invokevirtual 109, 3)) dls_ok_2 (i := 26) rfl
theorem dL_law_299 : decode cL_law 299 = .ok (.istore 6, 2) := dls_at (q := (299, .istore 6, 2)) dls_ok_2 (i := 27) rfl
theorem dL_law_301 : decode cL_law 301 = .ok (.aload_n 2, 1) := dls_at (q := (301, .aload_n 2, 1)) dls_ok_2 (i := 28) rfl
theorem dL_law_302 : decode cL_law 302 = .ok (.invokevirtual 99, 3) := dls_at (q := (302, .invokevirtual 99, 3)) dls_ok_2 (i := 29) rfl
theorem dL_law_305 : decode cL_law 305 = .ok (.iload 5, 2) := dls_at (q := (305, .iload 5, 2)) dls_ok_2 (i := 30) rfl
theorem dL_law_307 : decode cL_law 307 = .ok (.if_icmp .eq 5, 3) := dls_at (q := (307, .if_icmp .eq 5, 3)) dls_ok_2 (i := 31) rfl
theorem dL_law_310 : decode cL_law 310 = .ok (.iconst 0, 1) := dls_at (q := (310, .iconst 0, 1)) dls_ok_2 (i := 32) rfl
theorem dL_law_311 : decode cL_law 311 = .ok (.ireturn, 1) := dls_at (q := (311, .ireturn, 1)) dls_ok_2 (i := 33) rfl
theorem dL_law_312 : decode cL_law 312 = .ok (.iload 5, 2) := dls_at (q := (312, .iload 5, 2)) dls_ok_2 (i := 34) rfl
theorem dL_law_314 : decode cL_law 314 = .ok (.ifCond .ne 15, 3) := dls_at (q := (314, .ifCond .ne 15, 3)) dls_ok_2 (i := 35) rfl
theorem dL_law_317 : decode cL_law 317 = .ok (.aload_n 3, 1) := dls_at (q := (317, .aload_n 3, 1)) dls_ok_2 (i := 36) rfl
theorem dL_law_318 : decode cL_law 318 = .ok (.iconst 0, 1) := dls_at (q := (318, .iconst 0, 1)) dls_ok_2 (i := 37) rfl
theorem dL_law_319 : decode cL_law 319 = .ok (.laload, 1) := dls_at (q := (319, .laload, 1)) dls_ok_2 (i := 38) rfl
theorem dL_law_320 : decode cL_law 320 = .ok (.iload 6, 2) := dls_at (q := (320, .iload 6, 2)) dls_ok_2 (i := 39) rfl
def dls_3 : List (Nat × Instr × Nat) := [(322, .i2l, 1), (323, .lcmp, 1), (324, .ifCond .eq 5, 3), (327, .iconst 0, 1), (328, .ireturn, 1), (329, .goto 1317, 3), (332, .aload_n 1, 1), (333, .invokevirtual 110, 3), (336, .aload_n 2, 1), (337, .invokevirtual 113, 3), (340, .if_icmp .eq 1306, 3), (343, .iconst 0, 1), (344, .ireturn, 1), (345, .aload_n 1, 1), (346, .aload_n 0, 1), (347, .iload 4, 2), (349, .iconst 1, 1), (350, .iadd, 1), (351, .iaload, 1), (352, .aload_n 3, 1), (353, .invokestatic 114, 3), (356, .istore 5, 2), (358, .aload_n 2, 1), (359, .aload_n 0, 1), (360, .iload 4, 2), (362, .iconst 1, 1), (363, .iadd, 1), (364, .iaload, 1), (365, .invokevirtual 116, 3), (368, .istore 6, 2), (370, .aload_n 2, 1), (371, .invokevirtual 99, 3), (374, .iload 5, 2), (376, .if_icmp .eq 5, 3), (379, .iconst 0, 1), (380, .ireturn, 1), (381, .iload 5, 2), (383, .ifCond .ne 15, 3), (386, .aload_n 3, 1), (387, .iconst 0, 1)]
theorem dls_ok_3 : dls_3.all (fun q => decide (decode cL_law q.1 = .ok (q.2.1, q.2.2))) = true := by decide +kernel
theorem dL_law_322 : decode cL_law 322 = .ok (.i2l, 1) := dls_at (q := (322, .i2l, 1)) dls_ok_3 (i := 0) rfl
theorem dL_law_323 : decode cL_law 323 = .ok (.lcmp, 1) := dls_at (q := (323, .lcmp, 1)) dls_ok_3 (i := 1) rfl
theorem dL_law_324 : decode cL_law 324 = .ok (.ifCond .eq 5, 3) := dls_at (q := (324, .ifCond .eq 5, 3)) dls_ok_3 (i := 2) rfl
theorem dL_law_327 : decode cL_law 327 = .ok (.iconst 0, 1) := dls_at (q := (327, .iconst 0, 1)) dls_ok_3 (i := 3) rfl
theorem dL_law_328 : decode cL_law 328 = .ok (.ireturn, 1) := dls_at (q := (328, .ireturn, 1)) dls_ok_3 (i := 4) rfl
theorem dL_law_329 : decode cL_law 329 = .ok (.goto 1317, 3) := dls_at (q := (329, .goto 1317, 3)) dls_ok_3 (i := 5) rfl
theorem dL_law_332 : decode cL_law 332 = .ok (.aload_n 1, 1) := dls_at (q := (332, .aload_n 1, 1)) dls_ok_3 (i := 6) rfl
theorem dL_law_333 : decode cL_law 333 = .ok (.invokevirtual 110, 3) := dls_at (q := (333, .invokevirtual 110, 3)) dls_ok_3 (i := 7) rfl
theorem dL_law_336 : decode cL_law 336 = .ok (.aload_n 2, 1) := dls_at (q := (336, .aload_n 2, 1)) dls_ok_3 (i := 8) rfl
theorem dL_law_337 : decode cL_law 337 = .ok (.invokevirtual 113, 3) := dls_at (q := (337, .invokevirtual 113, 3)) dls_ok_3 (i := 9) rfl
theorem dL_law_340 : decode cL_law 340 = .ok (.if_icmp .eq 1306, 3) := dls_at (q := (340, .if_icmp .eq 1306, 3)) dls_ok_3 (i := 10) rfl
theorem dL_law_343 : decode cL_law 343 = .ok (.iconst 0, 1) := dls_at (q := (343, .iconst 0, 1)) dls_ok_3 (i := 11) rfl
theorem dL_law_344 : decode cL_law 344 = .ok (.ireturn, 1) := dls_at (q := (344, .ireturn, 1)) dls_ok_3 (i := 12) rfl
theorem dL_law_345 : decode cL_law 345 = .ok (.aload_n 1, 1) := dls_at (q := (345, .aload_n 1, 1)) dls_ok_3 (i := 13) rfl
theorem dL_law_346 : decode cL_law 346 = .ok (.aload_n 0, 1) := dls_at (q := (346, .aload_n 0, 1)) dls_ok_3 (i := 14) rfl
theorem dL_law_347 : decode cL_law 347 = .ok (.iload 4, 2) := dls_at (q := (347, .iload 4, 2)) dls_ok_3 (i := 15) rfl
theorem dL_law_349 : decode cL_law 349 = .ok (.iconst 1, 1) := dls_at (q := (349, .iconst 1, 1)) dls_ok_3 (i := 16) rfl
theorem dL_law_350 : decode cL_law 350 = .ok (.iadd, 1) := dls_at (q := (350, .iadd, 1)) dls_ok_3 (i := 17) rfl
theorem dL_law_351 : decode cL_law 351 = .ok (.iaload, 1) := dls_at (q := (351, .iaload, 1)) dls_ok_3 (i := 18) rfl
theorem dL_law_352 : decode cL_law 352 = .ok (.aload_n 3, 1) := dls_at (q := (352, .aload_n 3, 1)) dls_ok_3 (i := 19) rfl
theorem dL_law_353 : decode cL_law 353 = .ok (.invokestatic 114, 3) := dls_at (q := (353, .invokestatic 114, 3)) dls_ok_3 (i := 20) rfl
theorem dL_law_356 : decode cL_law 356 = .ok (.istore 5, 2) := dls_at (q := (356, .istore 5, 2)) dls_ok_3 (i := 21) rfl
theorem dL_law_358 : decode cL_law 358 = .ok (.aload_n 2, 1) := dls_at (q := (358, .aload_n 2, 1)) dls_ok_3 (i := 22) rfl
theorem dL_law_359 : decode cL_law 359 = .ok (.aload_n 0, 1) := dls_at (q := (359, .aload_n 0, 1)) dls_ok_3 (i := 23) rfl
theorem dL_law_360 : decode cL_law 360 = .ok (.iload 4, 2) := dls_at (q := (360, .iload 4, 2)) dls_ok_3 (i := 24) rfl
theorem dL_law_362 : decode cL_law 362 = .ok (.iconst 1, 1) := dls_at (q := (362, .iconst 1, 1)) dls_ok_3 (i := 25) rfl
theorem dL_law_363 : decode cL_law 363 = .ok (.iadd, 1) := dls_at (q := (363, .iadd, 1)) dls_ok_3 (i := 26) rfl
theorem dL_law_364 : decode cL_law 364 = .ok (.iaload, 1) := dls_at (q := (364, .iaload, 1)) dls_ok_3 (i := 27) rfl
theorem dL_law_365 : decode cL_law 365 = .ok (.invokevirtual 116, 3) := dls_at (q := (365, .invokevirtual 116, 3)) dls_ok_3 (i := 28) rfl
theorem dL_law_368 : decode cL_law 368 = .ok (.istore 6, 2) := dls_at (q := (368, .istore 6, 2)) dls_ok_3 (i := 29) rfl
theorem dL_law_370 : decode cL_law 370 = .ok (.aload_n 2, 1) := dls_at (q := (370, .aload_n 2, 1)) dls_ok_3 (i := 30) rfl
theorem dL_law_371 : decode cL_law 371 = .ok (.invokevirtual 99, 3) := dls_at (q := (371, .invokevirtual 99, 3)) dls_ok_3 (i := 31) rfl
theorem dL_law_374 : decode cL_law 374 = .ok (.iload 5, 2) := dls_at (q := (374, .iload 5, 2)) dls_ok_3 (i := 32) rfl
theorem dL_law_376 : decode cL_law 376 = .ok (.if_icmp .eq 5, 3) := dls_at (q := (376, .if_icmp .eq 5, 3)) dls_ok_3 (i := 33) rfl
theorem dL_law_379 : decode cL_law 379 = .ok (.iconst 0, 1) := dls_at (q := (379, .iconst 0, 1)) dls_ok_3 (i := 34) rfl
theorem dL_law_380 : decode cL_law 380 = .ok (.ireturn, 1) := dls_at (q := (380, .ireturn, 1)) dls_ok_3 (i := 35) rfl
theorem dL_law_381 : decode cL_law 381 = .ok (.iload 5, 2) := dls_at (q := (381, .iload 5, 2)) dls_ok_3 (i := 36) rfl
theorem dL_law_383 : decode cL_law 383 = .ok (.ifCond .ne 15, 3) := dls_at (q := (383, .ifCond .ne 15, 3)) dls_ok_3 (i := 37) rfl
theorem dL_law_386 : decode cL_law 386 = .ok (.aload_n 3, 1) := dls_at (q := (386, .aload_n 3, 1)) dls_ok_3 (i := 38) rfl
theorem dL_law_387 : decode cL_law 387 = .ok (.iconst 0, 1) := dls_at (q := (387, .iconst 0, 1)) dls_ok_3 (i := 39) rfl
def dls_4 : List (Nat × Instr × Nat) := [(388, .laload, 1), (389, .iload 6, 2), (391, .i2l, 1), (392, .lcmp, 1), (393, .ifCond .eq 5, 3), (396, .iconst 0, 1), (397, .ireturn, 1), (398, .goto 1248, 3), (401, .aload_n 1, 1), (402, .aload_n 0, 1), (403, .iload 4, 2), (405, .iconst 1, 1), (406, .iadd, 1), (407, .iaload, 1), (408, .aload_n 0, 1), (409, .iload 4, 2), (411, .iconst 2, 1), (412, .iadd, 1), (413, .iaload, 1), (414, .aload_n 3, 1), (415, .invokestatic 117, 3), (418, .istore 5, 2), (420, .aload_n 2, 1), (421, .aload_n 0, 1), (422, .iload 4, 2), (424, .iconst 1, 1), (425, .iadd, 1), (426, .iaload, 1), (427, .aload_n 0, 1), (428, .iload 4, 2), (430, .iconst 2, 1), (431, .iadd, 1), (432, .iaload, 1), (433, .invokevirtual 120, 3), (436, .istore 6, 2), (438, .aload_n 2, 1), (439, .invokevirtual 99, 3), (442, .iload 5, 2), (444, .if_icmp .eq 5, 3), (447, .iconst 0, 1)]
theorem dls_ok_4 : dls_4.all (fun q => decide (decode cL_law q.1 = .ok (q.2.1, q.2.2))) = true := by decide +kernel
theorem dL_law_388 : decode cL_law 388 = .ok (.laload, 1) := dls_at (q := (388, .laload, 1)) dls_ok_4 (i := 0) rfl
theorem dL_law_389 : decode cL_law 389 = .ok (.iload 6, 2) := dls_at (q := (389, .iload 6, 2)) dls_ok_4 (i := 1) rfl
theorem dL_law_391 : decode cL_law 391 = .ok (.i2l, 1) := dls_at (q := (391, .i2l, 1)) dls_ok_4 (i := 2) rfl
theorem dL_law_392 : decode cL_law 392 = .ok (.lcmp, 1) := dls_at (q := (392, .lcmp, 1)) dls_ok_4 (i := 3) rfl
theorem dL_law_393 : decode cL_law 393 = .ok (.ifCond .eq 5, 3) := dls_at (q := (393, .ifCond .eq 5, 3)) dls_ok_4 (i := 4) rfl
theorem dL_law_396 : decode cL_law 396 = .ok (.iconst 0, 1) := dls_at (q := (396, .iconst 0, 1)) dls_ok_4 (i := 5) rfl
theorem dL_law_397 : decode cL_law 397 = .ok (.ireturn, 1) := dls_at (q := (397, .ireturn, 1)) dls_ok_4 (i := 6) rfl
theorem dL_law_398 : decode cL_law 398 = .ok (.goto 1248, 3) := dls_at (q := (398, .goto 1248, 3)) dls_ok_4 (i := 7) rfl
theorem dL_law_401 : decode cL_law 401 = .ok (.aload_n 1, 1) := dls_at (q := (401, .aload_n 1, 1)) dls_ok_4 (i := 8) rfl
theorem dL_law_402 : decode cL_law 402 = .ok (.aload_n 0, 1) := dls_at (q := (402, .aload_n 0, 1)) dls_ok_4 (i := 9) rfl
theorem dL_law_403 : decode cL_law 403 = .ok (.iload 4, 2) := dls_at (q := (403, .iload 4, 2)) dls_ok_4 (i := 10) rfl
theorem dL_law_405 : decode cL_law 405 = .ok (.iconst 1, 1) := dls_at (q := (405, .iconst 1, 1)) dls_ok_4 (i := 11) rfl
theorem dL_law_406 : decode cL_law 406 = .ok (.iadd, 1) := dls_at (q := (406, .iadd, 1)) dls_ok_4 (i := 12) rfl
theorem dL_law_407 : decode cL_law 407 = .ok (.iaload, 1) := dls_at (q := (407, .iaload, 1)) dls_ok_4 (i := 13) rfl
theorem dL_law_408 : decode cL_law 408 = .ok (.aload_n 0, 1) := dls_at (q := (408, .aload_n 0, 1)) dls_ok_4 (i := 14) rfl
theorem dL_law_409 : decode cL_law 409 = .ok (.iload 4, 2) := dls_at (q := (409, .iload 4, 2)) dls_ok_4 (i := 15) rfl
theorem dL_law_411 : decode cL_law 411 = .ok (.iconst 2, 1) := dls_at (q := (411, .iconst 2, 1)) dls_ok_4 (i := 16) rfl
theorem dL_law_412 : decode cL_law 412 = .ok (.iadd, 1) := dls_at (q := (412, .iadd, 1)) dls_ok_4 (i := 17) rfl
theorem dL_law_413 : decode cL_law 413 = .ok (.iaload, 1) := dls_at (q := (413, .iaload, 1)) dls_ok_4 (i := 18) rfl
theorem dL_law_414 : decode cL_law 414 = .ok (.aload_n 3, 1) := dls_at (q := (414, .aload_n 3, 1)) dls_ok_4 (i := 19) rfl
theorem dL_law_415 : decode cL_law 415 = .ok (.invokestatic 117, 3) := dls_at (q := (415, .invokestatic 117, 3)) dls_ok_4 (i := 20) rfl
theorem dL_law_418 : decode cL_law 418 = .ok (.istore 5, 2) := dls_at (q := (418, .istore 5, 2)) dls_ok_4 (i := 21) rfl
theorem dL_law_420 : decode cL_law 420 = .ok (.aload_n 2, 1) := dls_at (q := (420, .aload_n 2, 1)) dls_ok_4 (i := 22) rfl
theorem dL_law_421 : decode cL_law 421 = .ok (.aload_n 0, 1) := dls_at (q := (421, .aload_n 0, 1)) dls_ok_4 (i := 23) rfl
theorem dL_law_422 : decode cL_law 422 = .ok (.iload 4, 2) := dls_at (q := (422, .iload 4, 2)) dls_ok_4 (i := 24) rfl
theorem dL_law_424 : decode cL_law 424 = .ok (.iconst 1, 1) := dls_at (q := (424, .iconst 1, 1)) dls_ok_4 (i := 25) rfl
theorem dL_law_425 : decode cL_law 425 = .ok (.iadd, 1) := dls_at (q := (425, .iadd, 1)) dls_ok_4 (i := 26) rfl
theorem dL_law_426 : decode cL_law 426 = .ok (.iaload, 1) := dls_at (q := (426, .iaload, 1)) dls_ok_4 (i := 27) rfl
theorem dL_law_427 : decode cL_law 427 = .ok (.aload_n 0, 1) := dls_at (q := (427, .aload_n 0, 1)) dls_ok_4 (i := 28) rfl
theorem dL_law_428 : decode cL_law 428 = .ok (.iload 4, 2) := dls_at (q := (428, .iload 4, 2)) dls_ok_4 (i := 29) rfl
theorem dL_law_430 : decode cL_law 430 = .ok (.iconst 2, 1) := dls_at (q := (430, .iconst 2, 1)) dls_ok_4 (i := 30) rfl
theorem dL_law_431 : decode cL_law 431 = .ok (.iadd, 1) := dls_at (q := (431, .iadd, 1)) dls_ok_4 (i := 31) rfl
theorem dL_law_432 : decode cL_law 432 = .ok (.iaload, 1) := dls_at (q := (432, .iaload, 1)) dls_ok_4 (i := 32) rfl
theorem dL_law_433 : decode cL_law 433 = .ok (.invokevirtual 120, 3) := dls_at (q := (433, .invokevirtual 120, 3)) dls_ok_4 (i := 33) rfl
theorem dL_law_436 : decode cL_law 436 = .ok (.istore 6, 2) := dls_at (q := (436, .istore 6, 2)) dls_ok_4 (i := 34) rfl
theorem dL_law_438 : decode cL_law 438 = .ok (.aload_n 2, 1) := dls_at (q := (438, .aload_n 2, 1)) dls_ok_4 (i := 35) rfl
theorem dL_law_439 : decode cL_law 439 = .ok (.invokevirtual 99, 3) := dls_at (q := (439, .invokevirtual 99, 3)) dls_ok_4 (i := 36) rfl
theorem dL_law_442 : decode cL_law 442 = .ok (.iload 5, 2) := dls_at (q := (442, .iload 5, 2)) dls_ok_4 (i := 37) rfl
theorem dL_law_444 : decode cL_law 444 = .ok (.if_icmp .eq 5, 3) := dls_at (q := (444, .if_icmp .eq 5, 3)) dls_ok_4 (i := 38) rfl
theorem dL_law_447 : decode cL_law 447 = .ok (.iconst 0, 1) := dls_at (q := (447, .iconst 0, 1)) dls_ok_4 (i := 39) rfl
def dls_5 : List (Nat × Instr × Nat) := [(448, .ireturn, 1), (449, .iload 5, 2), (451, .ifCond .ne 15, 3), (454, .aload_n 3, 1), (455, .iconst 0, 1), (456, .laload, 1), (457, .iload 6, 2), (459, .i2l, 1), (460, .lcmp, 1), (461, .ifCond .eq 5, 3), (464, .iconst 0, 1), (465, .ireturn, 1), (466, .goto 1180, 3), (469, .aload_n 1, 1), (470, .aload_n 0, 1), (471, .iload 4, 2), (473, .iconst 1, 1), (474, .iadd, 1), (475, .iaload, 1), (476, .aload_n 0, 1), (477, .iload 4, 2), (479, .iconst 2, 1), (480, .iadd, 1), (481, .iaload, 1), (482, .ifCond .eq 7, 3), (485, .iconst 1, 1), (486, .goto 4, 3), (489, .iconst 0, 1), (490, .aload_n 3, 1), (491, .invokestatic 121, 3), (494, .istore 5, 2), (496, .aload_n 2, 1), (497, .aload_n 0, 1), (498, .iload 4, 2), (500, .iconst 1, 1), (501, .iadd, 1), (502, .iaload, 1), (503, .aload_n 0, 1), (504, .iload 4, 2), (506, .iconst 2, 1)]
theorem dls_ok_5 : dls_5.all (fun q => decide (decode cL_law q.1 = .ok (q.2.1, q.2.2))) = true := by decide +kernel
theorem dL_law_448 : decode cL_law 448 = .ok (.ireturn, 1) := dls_at (q := (448, .ireturn, 1)) dls_ok_5 (i := 0) rfl
theorem dL_law_449 : decode cL_law 449 = .ok (.iload 5, 2) := dls_at (q := (449, .iload 5, 2)) dls_ok_5 (i := 1) rfl
theorem dL_law_451 : decode cL_law 451 = .ok (.ifCond .ne 15, 3) := dls_at (q := (451, .ifCond .ne 15, 3)) dls_ok_5 (i := 2) rfl
theorem dL_law_454 : decode cL_law 454 = .ok (.aload_n 3, 1) := dls_at (q := (454, .aload_n 3, 1)) dls_ok_5 (i := 3) rfl
theorem dL_law_455 : decode cL_law 455 = .ok (.iconst 0, 1) := dls_at (q := (455, .iconst 0, 1)) dls_ok_5 (i := 4) rfl
theorem dL_law_456 : decode cL_law 456 = .ok (.laload, 1) := dls_at (q := (456, .laload, 1)) dls_ok_5 (i := 5) rfl
theorem dL_law_457 : decode cL_law 457 = .ok (.iload 6, 2) := dls_at (q := (457, .iload 6, 2)) dls_ok_5 (i := 6) rfl
theorem dL_law_459 : decode cL_law 459 = .ok (.i2l, 1) := dls_at (q := (459, .i2l, 1)) dls_ok_5 (i := 7) rfl
theorem dL_law_460 : decode cL_law 460 = .ok (.lcmp, 1) := dls_at (q := (460, .lcmp, 1)) dls_ok_5 (i := 8) rfl
theorem dL_law_461 : decode cL_law 461 = .ok (.ifCond .eq 5, 3) := dls_at (q := (461, .ifCond .eq 5, 3)) dls_ok_5 (i := 9) rfl
theorem dL_law_464 : decode cL_law 464 = .ok (.iconst 0, 1) := dls_at (q := (464, .iconst 0, 1)) dls_ok_5 (i := 10) rfl
theorem dL_law_465 : decode cL_law 465 = .ok (.ireturn, 1) := dls_at (q := (465, .ireturn, 1)) dls_ok_5 (i := 11) rfl
theorem dL_law_466 : decode cL_law 466 = .ok (.goto 1180, 3) := dls_at (q := (466, .goto 1180, 3)) dls_ok_5 (i := 12) rfl
theorem dL_law_469 : decode cL_law 469 = .ok (.aload_n 1, 1) := dls_at (q := (469, .aload_n 1, 1)) dls_ok_5 (i := 13) rfl
theorem dL_law_470 : decode cL_law 470 = .ok (.aload_n 0, 1) := dls_at (q := (470, .aload_n 0, 1)) dls_ok_5 (i := 14) rfl
theorem dL_law_471 : decode cL_law 471 = .ok (.iload 4, 2) := dls_at (q := (471, .iload 4, 2)) dls_ok_5 (i := 15) rfl
theorem dL_law_473 : decode cL_law 473 = .ok (.iconst 1, 1) := dls_at (q := (473, .iconst 1, 1)) dls_ok_5 (i := 16) rfl
theorem dL_law_474 : decode cL_law 474 = .ok (.iadd, 1) := dls_at (q := (474, .iadd, 1)) dls_ok_5 (i := 17) rfl
theorem dL_law_475 : decode cL_law 475 = .ok (.iaload, 1) := dls_at (q := (475, .iaload, 1)) dls_ok_5 (i := 18) rfl
theorem dL_law_476 : decode cL_law 476 = .ok (.aload_n 0, 1) := dls_at (q := (476, .aload_n 0, 1)) dls_ok_5 (i := 19) rfl
theorem dL_law_477 : decode cL_law 477 = .ok (.iload 4, 2) := dls_at (q := (477, .iload 4, 2)) dls_ok_5 (i := 20) rfl
theorem dL_law_479 : decode cL_law 479 = .ok (.iconst 2, 1) := dls_at (q := (479, .iconst 2, 1)) dls_ok_5 (i := 21) rfl
theorem dL_law_480 : decode cL_law 480 = .ok (.iadd, 1) := dls_at (q := (480, .iadd, 1)) dls_ok_5 (i := 22) rfl
theorem dL_law_481 : decode cL_law 481 = .ok (.iaload, 1) := dls_at (q := (481, .iaload, 1)) dls_ok_5 (i := 23) rfl
theorem dL_law_482 : decode cL_law 482 = .ok (.ifCond .eq 7, 3) := dls_at (q := (482, .ifCond .eq 7, 3)) dls_ok_5 (i := 24) rfl
theorem dL_law_485 : decode cL_law 485 = .ok (.iconst 1, 1) := dls_at (q := (485, .iconst 1, 1)) dls_ok_5 (i := 25) rfl
theorem dL_law_486 : decode cL_law 486 = .ok (.goto 4, 3) := dls_at (q := (486, .goto 4, 3)) dls_ok_5 (i := 26) rfl
theorem dL_law_489 : decode cL_law 489 = .ok (.iconst 0, 1) := dls_at (q := (489, .iconst 0, 1)) dls_ok_5 (i := 27) rfl
theorem dL_law_490 : decode cL_law 490 = .ok (.aload_n 3, 1) := dls_at (q := (490, .aload_n 3, 1)) dls_ok_5 (i := 28) rfl
theorem dL_law_491 : decode cL_law 491 = .ok (.invokestatic 121, 3) := dls_at (q := (491, .invokestatic 121, 3)) dls_ok_5 (i := 29) rfl
theorem dL_law_494 : decode cL_law 494 = .ok (.istore 5, 2) := dls_at (q := (494, .istore 5, 2)) dls_ok_5 (i := 30) rfl
theorem dL_law_496 : decode cL_law 496 = .ok (.aload_n 2, 1) := dls_at (q := (496, .aload_n 2, 1)) dls_ok_5 (i := 31) rfl
theorem dL_law_497 : decode cL_law 497 = .ok (.aload_n 0, 1) := dls_at (q := (497, .aload_n 0, 1)) dls_ok_5 (i := 32) rfl
theorem dL_law_498 : decode cL_law 498 = .ok (.iload 4, 2) := dls_at (q := (498, .iload 4, 2)) dls_ok_5 (i := 33) rfl
theorem dL_law_500 : decode cL_law 500 = .ok (.iconst 1, 1) := dls_at (q := (500, .iconst 1, 1)) dls_ok_5 (i := 34) rfl
theorem dL_law_501 : decode cL_law 501 = .ok (.iadd, 1) := dls_at (q := (501, .iadd, 1)) dls_ok_5 (i := 35) rfl
theorem dL_law_502 : decode cL_law 502 = .ok (.iaload, 1) := dls_at (q := (502, .iaload, 1)) dls_ok_5 (i := 36) rfl
theorem dL_law_503 : decode cL_law 503 = .ok (.aload_n 0, 1) := dls_at (q := (503, .aload_n 0, 1)) dls_ok_5 (i := 37) rfl
theorem dL_law_504 : decode cL_law 504 = .ok (.iload 4, 2) := dls_at (q := (504, .iload 4, 2)) dls_ok_5 (i := 38) rfl
theorem dL_law_506 : decode cL_law 506 = .ok (.iconst 2, 1) := dls_at (q := (506, .iconst 2, 1)) dls_ok_5 (i := 39) rfl
def dls_6 : List (Nat × Instr × Nat) := [(507, .iadd, 1), (508, .iaload, 1), (509, .ifCond .eq 7, 3), (512, .iconst 1, 1), (513, .goto 4, 3), (516, .iconst 0, 1), (517, .invokevirtual 124, 3), (520, .istore 6, 2), (522, .aload_n 2, 1), (523, .invokevirtual 99, 3), (526, .iload 5, 2), (528, .if_icmp .eq 5, 3), (531, .iconst 0, 1), (532, .ireturn, 1), (533, .iload 5, 2), (535, .ifCond .ne 15, 3), (538, .aload_n 3, 1), (539, .iconst 0, 1), (540, .laload, 1), (541, .iload 6, 2), (543, .i2l, 1), (544, .lcmp, 1), (545, .ifCond .eq 5, 3), (548, .iconst 0, 1), (549, .ireturn, 1), (550, .goto 1096, 3), (553, .aload_n 1, 1), (554, .aload_n 0, 1), (555, .iload 4, 2), (557, .iconst 1, 1), (558, .iadd, 1), (559, .iaload, 1), (560, .aload_n 3, 1), (561, .invokestatic 125, 3), (564, .istore 5, 2), (566, .aload_n 2, 1), (567, .aload_n 0, 1), (568, .iload 4, 2), (570, .iconst 1, 1), (571, .iadd, 1)]
theorem dls_ok_6 : dls_6.all (fun q => decide (decode cL_law q.1 = .ok (q.2.1, q.2.2))) = true := by decide +kernel
theorem dL_law_507 : decode cL_law 507 = .ok (.iadd, 1) := dls_at (q := (507, .iadd, 1)) dls_ok_6 (i := 0) rfl
theorem dL_law_508 : decode cL_law 508 = .ok (.iaload, 1) := dls_at (q := (508, .iaload, 1)) dls_ok_6 (i := 1) rfl
theorem dL_law_509 : decode cL_law 509 = .ok (.ifCond .eq 7, 3) := dls_at (q := (509, .ifCond .eq 7, 3)) dls_ok_6 (i := 2) rfl
theorem dL_law_512 : decode cL_law 512 = .ok (.iconst 1, 1) := dls_at (q := (512, .iconst 1, 1)) dls_ok_6 (i := 3) rfl
theorem dL_law_513 : decode cL_law 513 = .ok (.goto 4, 3) := dls_at (q := (513, .goto 4, 3)) dls_ok_6 (i := 4) rfl
theorem dL_law_516 : decode cL_law 516 = .ok (.iconst 0, 1) := dls_at (q := (516, .iconst 0, 1)) dls_ok_6 (i := 5) rfl
theorem dL_law_517 : decode cL_law 517 = .ok (.invokevirtual 124, 3) := dls_at (q := (517, .invokevirtual 124, 3)) dls_ok_6 (i := 6) rfl
theorem dL_law_520 : decode cL_law 520 = .ok (.istore 6, 2) := dls_at (q := (520, .istore 6, 2)) dls_ok_6 (i := 7) rfl
theorem dL_law_522 : decode cL_law 522 = .ok (.aload_n 2, 1) := dls_at (q := (522, .aload_n 2, 1)) dls_ok_6 (i := 8) rfl
theorem dL_law_523 : decode cL_law 523 = .ok (.invokevirtual 99, 3) := dls_at (q := (523, .invokevirtual 99, 3)) dls_ok_6 (i := 9) rfl
theorem dL_law_526 : decode cL_law 526 = .ok (.iload 5, 2) := dls_at (q := (526, .iload 5, 2)) dls_ok_6 (i := 10) rfl
theorem dL_law_528 : decode cL_law 528 = .ok (.if_icmp .eq 5, 3) := dls_at (q := (528, .if_icmp .eq 5, 3)) dls_ok_6 (i := 11) rfl
theorem dL_law_531 : decode cL_law 531 = .ok (.iconst 0, 1) := dls_at (q := (531, .iconst 0, 1)) dls_ok_6 (i := 12) rfl
theorem dL_law_532 : decode cL_law 532 = .ok (.ireturn, 1) := dls_at (q := (532, .ireturn, 1)) dls_ok_6 (i := 13) rfl
theorem dL_law_533 : decode cL_law 533 = .ok (.iload 5, 2) := dls_at (q := (533, .iload 5, 2)) dls_ok_6 (i := 14) rfl
theorem dL_law_535 : decode cL_law 535 = .ok (.ifCond .ne 15, 3) := dls_at (q := (535, .ifCond .ne 15, 3)) dls_ok_6 (i := 15) rfl
theorem dL_law_538 : decode cL_law 538 = .ok (.aload_n 3, 1) := dls_at (q := (538, .aload_n 3, 1)) dls_ok_6 (i := 16) rfl
theorem dL_law_539 : decode cL_law 539 = .ok (.iconst 0, 1) := dls_at (q := (539, .iconst 0, 1)) dls_ok_6 (i := 17) rfl
theorem dL_law_540 : decode cL_law 540 = .ok (.laload, 1) := dls_at (q := (540, .laload, 1)) dls_ok_6 (i := 18) rfl
theorem dL_law_541 : decode cL_law 541 = .ok (.iload 6, 2) := dls_at (q := (541, .iload 6, 2)) dls_ok_6 (i := 19) rfl
theorem dL_law_543 : decode cL_law 543 = .ok (.i2l, 1) := dls_at (q := (543, .i2l, 1)) dls_ok_6 (i := 20) rfl
theorem dL_law_544 : decode cL_law 544 = .ok (.lcmp, 1) := dls_at (q := (544, .lcmp, 1)) dls_ok_6 (i := 21) rfl
theorem dL_law_545 : decode cL_law 545 = .ok (.ifCond .eq 5, 3) := dls_at (q := (545, .ifCond .eq 5, 3)) dls_ok_6 (i := 22) rfl
theorem dL_law_548 : decode cL_law 548 = .ok (.iconst 0, 1) := dls_at (q := (548, .iconst 0, 1)) dls_ok_6 (i := 23) rfl
theorem dL_law_549 : decode cL_law 549 = .ok (.ireturn, 1) := dls_at (q := (549, .ireturn, 1)) dls_ok_6 (i := 24) rfl
theorem dL_law_550 : decode cL_law 550 = .ok (.goto 1096, 3) := dls_at (q := (550, .goto 1096, 3)) dls_ok_6 (i := 25) rfl
theorem dL_law_553 : decode cL_law 553 = .ok (.aload_n 1, 1) := dls_at (q := (553, .aload_n 1, 1)) dls_ok_6 (i := 26) rfl
theorem dL_law_554 : decode cL_law 554 = .ok (.aload_n 0, 1) := dls_at (q := (554, .aload_n 0, 1)) dls_ok_6 (i := 27) rfl
theorem dL_law_555 : decode cL_law 555 = .ok (.iload 4, 2) := dls_at (q := (555, .iload 4, 2)) dls_ok_6 (i := 28) rfl
theorem dL_law_557 : decode cL_law 557 = .ok (.iconst 1, 1) := dls_at (q := (557, .iconst 1, 1)) dls_ok_6 (i := 29) rfl
theorem dL_law_558 : decode cL_law 558 = .ok (.iadd, 1) := dls_at (q := (558, .iadd, 1)) dls_ok_6 (i := 30) rfl
theorem dL_law_559 : decode cL_law 559 = .ok (.iaload, 1) := dls_at (q := (559, .iaload, 1)) dls_ok_6 (i := 31) rfl
theorem dL_law_560 : decode cL_law 560 = .ok (.aload_n 3, 1) := dls_at (q := (560, .aload_n 3, 1)) dls_ok_6 (i := 32) rfl
theorem dL_law_561 : decode cL_law 561 = .ok (.invokestatic 125, 3) := dls_at (q := (561, .invokestatic 125, 3)) dls_ok_6 (i := 33) rfl
theorem dL_law_564 : decode cL_law 564 = .ok (.istore 5, 2) := dls_at (q := (564, .istore 5, 2)) dls_ok_6 (i := 34) rfl
theorem dL_law_566 : decode cL_law 566 = .ok (.aload_n 2, 1) := dls_at (q := (566, .aload_n 2, 1)) dls_ok_6 (i := 35) rfl
theorem dL_law_567 : decode cL_law 567 = .ok (.aload_n 0, 1) := dls_at (q := (567, .aload_n 0, 1)) dls_ok_6 (i := 36) rfl
theorem dL_law_568 : decode cL_law 568 = .ok (.iload 4, 2) := dls_at (q := (568, .iload 4, 2)) dls_ok_6 (i := 37) rfl
theorem dL_law_570 : decode cL_law 570 = .ok (.iconst 1, 1) := dls_at (q := (570, .iconst 1, 1)) dls_ok_6 (i := 38) rfl
theorem dL_law_571 : decode cL_law 571 = .ok (.iadd, 1) := dls_at (q := (571, .iadd, 1)) dls_ok_6 (i := 39) rfl
def dls_7 : List (Nat × Instr × Nat) := [(572, .iaload, 1), (573, .invokevirtual 127, 3), (576, .istore 6, 2), (578, .aload_n 2, 1), (579, .invokevirtual 99, 3), (582, .iload 5, 2), (584, .if_icmp .eq 5, 3), (587, .iconst 0, 1), (588, .ireturn, 1), (589, .iload 5, 2), (591, .ifCond .ne 15, 3), (594, .aload_n 3, 1), (595, .iconst 0, 1), (596, .laload, 1), (597, .iload 6, 2), (599, .i2l, 1), (600, .lcmp, 1), (601, .ifCond .eq 5, 3), (604, .iconst 0, 1), (605, .ireturn, 1), (606, .goto 1040, 3), (609, .aload_n 1, 1), (610, .invokevirtual 128, 3), (613, .aload_n 2, 1), (614, .invokevirtual 131, 3), (617, .if_icmp .eq 1029, 3), (620, .iconst 0, 1), (621, .ireturn, 1), (622, .aload_n 1, 1), (623, .aload_n 0, 1), (624, .iload 4, 2), (626, .iconst 1, 1), (627, .iadd, 1), (628, .iaload, 1), (629, .aload_n 3, 1), (630, .invokestatic 132, 3), (633, .istore 5, 2), (635, .aload_n 2, 1), (636, .aload_n 0, 1), (637, .iload 4, 2)]
theorem dls_ok_7 : dls_7.all (fun q => decide (decode cL_law q.1 = .ok (q.2.1, q.2.2))) = true := by decide +kernel
theorem dL_law_572 : decode cL_law 572 = .ok (.iaload, 1) := dls_at (q := (572, .iaload, 1)) dls_ok_7 (i := 0) rfl
theorem dL_law_573 : decode cL_law 573 = .ok (.invokevirtual 127, 3) := dls_at (q := (573, .invokevirtual 127, 3)) dls_ok_7 (i := 1) rfl
theorem dL_law_576 : decode cL_law 576 = .ok (.istore 6, 2) := dls_at (q := (576, .istore 6, 2)) dls_ok_7 (i := 2) rfl
theorem dL_law_578 : decode cL_law 578 = .ok (.aload_n 2, 1) := dls_at (q := (578, .aload_n 2, 1)) dls_ok_7 (i := 3) rfl
theorem dL_law_579 : decode cL_law 579 = .ok (.invokevirtual 99, 3) := dls_at (q := (579, .invokevirtual 99, 3)) dls_ok_7 (i := 4) rfl
theorem dL_law_582 : decode cL_law 582 = .ok (.iload 5, 2) := dls_at (q := (582, .iload 5, 2)) dls_ok_7 (i := 5) rfl
theorem dL_law_584 : decode cL_law 584 = .ok (.if_icmp .eq 5, 3) := dls_at (q := (584, .if_icmp .eq 5, 3)) dls_ok_7 (i := 6) rfl
theorem dL_law_587 : decode cL_law 587 = .ok (.iconst 0, 1) := dls_at (q := (587, .iconst 0, 1)) dls_ok_7 (i := 7) rfl
theorem dL_law_588 : decode cL_law 588 = .ok (.ireturn, 1) := dls_at (q := (588, .ireturn, 1)) dls_ok_7 (i := 8) rfl
theorem dL_law_589 : decode cL_law 589 = .ok (.iload 5, 2) := dls_at (q := (589, .iload 5, 2)) dls_ok_7 (i := 9) rfl
theorem dL_law_591 : decode cL_law 591 = .ok (.ifCond .ne 15, 3) := dls_at (q := (591, .ifCond .ne 15, 3)) dls_ok_7 (i := 10) rfl
theorem dL_law_594 : decode cL_law 594 = .ok (.aload_n 3, 1) := dls_at (q := (594, .aload_n 3, 1)) dls_ok_7 (i := 11) rfl
theorem dL_law_595 : decode cL_law 595 = .ok (.iconst 0, 1) := dls_at (q := (595, .iconst 0, 1)) dls_ok_7 (i := 12) rfl
theorem dL_law_596 : decode cL_law 596 = .ok (.laload, 1) := dls_at (q := (596, .laload, 1)) dls_ok_7 (i := 13) rfl
theorem dL_law_597 : decode cL_law 597 = .ok (.iload 6, 2) := dls_at (q := (597, .iload 6, 2)) dls_ok_7 (i := 14) rfl
theorem dL_law_599 : decode cL_law 599 = .ok (.i2l, 1) := dls_at (q := (599, .i2l, 1)) dls_ok_7 (i := 15) rfl
theorem dL_law_600 : decode cL_law 600 = .ok (.lcmp, 1) := dls_at (q := (600, .lcmp, 1)) dls_ok_7 (i := 16) rfl
theorem dL_law_601 : decode cL_law 601 = .ok (.ifCond .eq 5, 3) := dls_at (q := (601, .ifCond .eq 5, 3)) dls_ok_7 (i := 17) rfl
theorem dL_law_604 : decode cL_law 604 = .ok (.iconst 0, 1) := dls_at (q := (604, .iconst 0, 1)) dls_ok_7 (i := 18) rfl
theorem dL_law_605 : decode cL_law 605 = .ok (.ireturn, 1) := dls_at (q := (605, .ireturn, 1)) dls_ok_7 (i := 19) rfl
theorem dL_law_606 : decode cL_law 606 = .ok (.goto 1040, 3) := dls_at (q := (606, .goto 1040, 3)) dls_ok_7 (i := 20) rfl
theorem dL_law_609 : decode cL_law 609 = .ok (.aload_n 1, 1) := dls_at (q := (609, .aload_n 1, 1)) dls_ok_7 (i := 21) rfl
theorem dL_law_610 : decode cL_law 610 = .ok (.invokevirtual 128, 3) := dls_at (q := (610, .invokevirtual 128, 3)) dls_ok_7 (i := 22) rfl
theorem dL_law_613 : decode cL_law 613 = .ok (.aload_n 2, 1) := dls_at (q := (613, .aload_n 2, 1)) dls_ok_7 (i := 23) rfl
theorem dL_law_614 : decode cL_law 614 = .ok (.invokevirtual 131, 3) := dls_at (q := (614, .invokevirtual 131, 3)) dls_ok_7 (i := 24) rfl
theorem dL_law_617 : decode cL_law 617 = .ok (.if_icmp .eq 1029, 3) := dls_at (q := (617, .if_icmp .eq 1029, 3)) dls_ok_7 (i := 25) rfl
theorem dL_law_620 : decode cL_law 620 = .ok (.iconst 0, 1) := dls_at (q := (620, .iconst 0, 1)) dls_ok_7 (i := 26) rfl
theorem dL_law_621 : decode cL_law 621 = .ok (.ireturn, 1) := dls_at (q := (621, .ireturn, 1)) dls_ok_7 (i := 27) rfl
theorem dL_law_622 : decode cL_law 622 = .ok (.aload_n 1, 1) := dls_at (q := (622, .aload_n 1, 1)) dls_ok_7 (i := 28) rfl
theorem dL_law_623 : decode cL_law 623 = .ok (.aload_n 0, 1) := dls_at (q := (623, .aload_n 0, 1)) dls_ok_7 (i := 29) rfl
theorem dL_law_624 : decode cL_law 624 = .ok (.iload 4, 2) := dls_at (q := (624, .iload 4, 2)) dls_ok_7 (i := 30) rfl
theorem dL_law_626 : decode cL_law 626 = .ok (.iconst 1, 1) := dls_at (q := (626, .iconst 1, 1)) dls_ok_7 (i := 31) rfl
theorem dL_law_627 : decode cL_law 627 = .ok (.iadd, 1) := dls_at (q := (627, .iadd, 1)) dls_ok_7 (i := 32) rfl
theorem dL_law_628 : decode cL_law 628 = .ok (.iaload, 1) := dls_at (q := (628, .iaload, 1)) dls_ok_7 (i := 33) rfl
theorem dL_law_629 : decode cL_law 629 = .ok (.aload_n 3, 1) := dls_at (q := (629, .aload_n 3, 1)) dls_ok_7 (i := 34) rfl
theorem dL_law_630 : decode cL_law 630 = .ok (.invokestatic 132, 3) := dls_at (q := (630, .invokestatic 132, 3)) dls_ok_7 (i := 35) rfl
theorem dL_law_633 : decode cL_law 633 = .ok (.istore 5, 2) := dls_at (q := (633, .istore 5, 2)) dls_ok_7 (i := 36) rfl
theorem dL_law_635 : decode cL_law 635 = .ok (.aload_n 2, 1) := dls_at (q := (635, .aload_n 2, 1)) dls_ok_7 (i := 37) rfl
theorem dL_law_636 : decode cL_law 636 = .ok (.aload_n 0, 1) := dls_at (q := (636, .aload_n 0, 1)) dls_ok_7 (i := 38) rfl
theorem dL_law_637 : decode cL_law 637 = .ok (.iload 4, 2) := dls_at (q := (637, .iload 4, 2)) dls_ok_7 (i := 39) rfl
def dls_8 : List (Nat × Instr × Nat) := [(639, .iconst 1, 1), (640, .iadd, 1), (641, .iaload, 1), (642, .invokevirtual 134, 3), (645, .istore 6, 2), (647, .aload_n 2, 1), (648, .invokevirtual 99, 3), (651, .iload 5, 2), (653, .if_icmp .eq 5, 3), (656, .iconst 0, 1), (657, .ireturn, 1), (658, .iload 5, 2), (660, .ifCond .ne 15, 3), (663, .aload_n 3, 1), (664, .iconst 0, 1), (665, .laload, 1), (666, .iload 6, 2), (668, .i2l, 1), (669, .lcmp, 1), (670, .ifCond .eq 5, 3), (673, .iconst 0, 1), (674, .ireturn, 1), (675, .goto 971, 3), (678, .aload_n 1, 1), (679, .aload_n 0, 1), (680, .iload 4, 2), (682, .iconst 1, 1), (683, .iadd, 1), (684, .iaload, 1), (685, .aload_n 0, 1), (686, .iload 4, 2), (688, .iconst 2, 1), (689, .iadd, 1), (690, .iaload, 1), (691, .aload_n 3, 1), (692, .invokestatic 135, 3), (695, .istore 5, 2), (697, .aload_n 2, 1), (698, .aload_n 0, 1), (699, .iload 4, 2)]
theorem dls_ok_8 : dls_8.all (fun q => decide (decode cL_law q.1 = .ok (q.2.1, q.2.2))) = true := by decide +kernel
theorem dL_law_639 : decode cL_law 639 = .ok (.iconst 1, 1) := dls_at (q := (639, .iconst 1, 1)) dls_ok_8 (i := 0) rfl
theorem dL_law_640 : decode cL_law 640 = .ok (.iadd, 1) := dls_at (q := (640, .iadd, 1)) dls_ok_8 (i := 1) rfl
theorem dL_law_641 : decode cL_law 641 = .ok (.iaload, 1) := dls_at (q := (641, .iaload, 1)) dls_ok_8 (i := 2) rfl
theorem dL_law_642 : decode cL_law 642 = .ok (.invokevirtual 134, 3) := dls_at (q := (642, .invokevirtual 134, 3)) dls_ok_8 (i := 3) rfl
theorem dL_law_645 : decode cL_law 645 = .ok (.istore 6, 2) := dls_at (q := (645, .istore 6, 2)) dls_ok_8 (i := 4) rfl
theorem dL_law_647 : decode cL_law 647 = .ok (.aload_n 2, 1) := dls_at (q := (647, .aload_n 2, 1)) dls_ok_8 (i := 5) rfl
theorem dL_law_648 : decode cL_law 648 = .ok (.invokevirtual 99, 3) := dls_at (q := (648, .invokevirtual 99, 3)) dls_ok_8 (i := 6) rfl
theorem dL_law_651 : decode cL_law 651 = .ok (.iload 5, 2) := dls_at (q := (651, .iload 5, 2)) dls_ok_8 (i := 7) rfl
theorem dL_law_653 : decode cL_law 653 = .ok (.if_icmp .eq 5, 3) := dls_at (q := (653, .if_icmp .eq 5, 3)) dls_ok_8 (i := 8) rfl
theorem dL_law_656 : decode cL_law 656 = .ok (.iconst 0, 1) := dls_at (q := (656, .iconst 0, 1)) dls_ok_8 (i := 9) rfl
theorem dL_law_657 : decode cL_law 657 = .ok (.ireturn, 1) := dls_at (q := (657, .ireturn, 1)) dls_ok_8 (i := 10) rfl
theorem dL_law_658 : decode cL_law 658 = .ok (.iload 5, 2) := dls_at (q := (658, .iload 5, 2)) dls_ok_8 (i := 11) rfl
theorem dL_law_660 : decode cL_law 660 = .ok (.ifCond .ne 15, 3) := dls_at (q := (660, .ifCond .ne 15, 3)) dls_ok_8 (i := 12) rfl
theorem dL_law_663 : decode cL_law 663 = .ok (.aload_n 3, 1) := dls_at (q := (663, .aload_n 3, 1)) dls_ok_8 (i := 13) rfl
theorem dL_law_664 : decode cL_law 664 = .ok (.iconst 0, 1) := dls_at (q := (664, .iconst 0, 1)) dls_ok_8 (i := 14) rfl
theorem dL_law_665 : decode cL_law 665 = .ok (.laload, 1) := dls_at (q := (665, .laload, 1)) dls_ok_8 (i := 15) rfl
theorem dL_law_666 : decode cL_law 666 = .ok (.iload 6, 2) := dls_at (q := (666, .iload 6, 2)) dls_ok_8 (i := 16) rfl
theorem dL_law_668 : decode cL_law 668 = .ok (.i2l, 1) := dls_at (q := (668, .i2l, 1)) dls_ok_8 (i := 17) rfl
theorem dL_law_669 : decode cL_law 669 = .ok (.lcmp, 1) := dls_at (q := (669, .lcmp, 1)) dls_ok_8 (i := 18) rfl
theorem dL_law_670 : decode cL_law 670 = .ok (.ifCond .eq 5, 3) := dls_at (q := (670, .ifCond .eq 5, 3)) dls_ok_8 (i := 19) rfl
theorem dL_law_673 : decode cL_law 673 = .ok (.iconst 0, 1) := dls_at (q := (673, .iconst 0, 1)) dls_ok_8 (i := 20) rfl
theorem dL_law_674 : decode cL_law 674 = .ok (.ireturn, 1) := dls_at (q := (674, .ireturn, 1)) dls_ok_8 (i := 21) rfl
theorem dL_law_675 : decode cL_law 675 = .ok (.goto 971, 3) := dls_at (q := (675, .goto 971, 3)) dls_ok_8 (i := 22) rfl
theorem dL_law_678 : decode cL_law 678 = .ok (.aload_n 1, 1) := dls_at (q := (678, .aload_n 1, 1)) dls_ok_8 (i := 23) rfl
theorem dL_law_679 : decode cL_law 679 = .ok (.aload_n 0, 1) := dls_at (q := (679, .aload_n 0, 1)) dls_ok_8 (i := 24) rfl
theorem dL_law_680 : decode cL_law 680 = .ok (.iload 4, 2) := dls_at (q := (680, .iload 4, 2)) dls_ok_8 (i := 25) rfl
theorem dL_law_682 : decode cL_law 682 = .ok (.iconst 1, 1) := dls_at (q := (682, .iconst 1, 1)) dls_ok_8 (i := 26) rfl
theorem dL_law_683 : decode cL_law 683 = .ok (.iadd, 1) := dls_at (q := (683, .iadd, 1)) dls_ok_8 (i := 27) rfl
theorem dL_law_684 : decode cL_law 684 = .ok (.iaload, 1) := dls_at (q := (684, .iaload, 1)) dls_ok_8 (i := 28) rfl
theorem dL_law_685 : decode cL_law 685 = .ok (.aload_n 0, 1) := dls_at (q := (685, .aload_n 0, 1)) dls_ok_8 (i := 29) rfl
theorem dL_law_686 : decode cL_law 686 = .ok (.iload 4, 2) := dls_at (q := (686, .iload 4, 2)) dls_ok_8 (i := 30) rfl
theorem dL_law_688 : decode cL_law 688 = .ok (.iconst 2, 1) := dls_at (q := (688, .iconst 2, 1)) dls_ok_8 (i := 31) rfl
theorem dL_law_689 : decode cL_law 689 = .ok (.iadd, 1) := dls_at (q := (689, .iadd, 1)) dls_ok_8 (i := 32) rfl
theorem dL_law_690 : decode cL_law 690 = .ok (.iaload, 1) := dls_at (q := (690, .iaload, 1)) dls_ok_8 (i := 33) rfl
theorem dL_law_691 : decode cL_law 691 = .ok (.aload_n 3, 1) := dls_at (q := (691, .aload_n 3, 1)) dls_ok_8 (i := 34) rfl
theorem dL_law_692 : decode cL_law 692 = .ok (.invokestatic 135, 3) := dls_at (q := (692, .invokestatic 135, 3)) dls_ok_8 (i := 35) rfl
theorem dL_law_695 : decode cL_law 695 = .ok (.istore 5, 2) := dls_at (q := (695, .istore 5, 2)) dls_ok_8 (i := 36) rfl
theorem dL_law_697 : decode cL_law 697 = .ok (.aload_n 2, 1) := dls_at (q := (697, .aload_n 2, 1)) dls_ok_8 (i := 37) rfl
theorem dL_law_698 : decode cL_law 698 = .ok (.aload_n 0, 1) := dls_at (q := (698, .aload_n 0, 1)) dls_ok_8 (i := 38) rfl
theorem dL_law_699 : decode cL_law 699 = .ok (.iload 4, 2) := dls_at (q := (699, .iload 4, 2)) dls_ok_8 (i := 39) rfl
def dls_9 : List (Nat × Instr × Nat) := [(701, .iconst 1, 1), (702, .iadd, 1), (703, .iaload, 1), (704, .aload_n 0, 1), (705, .iload 4, 2), (707, .iconst 2, 1), (708, .iadd, 1), (709, .iaload, 1), (710, .invokevirtual 137, 3), (713, .istore 6, 2), (715, .aload_n 2, 1), (716, .invokevirtual 99, 3), (719, .iload 5, 2), (721, .if_icmp .eq 5, 3), (724, .iconst 0, 1), (725, .ireturn, 1), (726, .iload 5, 2), (728, .ifCond .ne 15, 3), (731, .aload_n 3, 1), (732, .iconst 0, 1), (733, .laload, 1), (734, .iload 6, 2), (736, .i2l, 1), (737, .lcmp, 1), (738, .ifCond .eq 5, 3), (741, .iconst 0, 1), (742, .ireturn, 1), (743, .goto 903, 3), (746, .aload_n 1, 1), (747, .aload_n 0, 1), (748, .iload 4, 2), (750, .iconst 1, 1), (751, .iadd, 1), (752, .iaload, 1), (753, .aload_n 0, 1), (754, .iload 4, 2), (756, .iconst 2, 1), (757, .iadd, 1), (758, .iaload, 1), (759, .aload_n 3, 1)]
theorem dls_ok_9 : dls_9.all (fun q => decide (decode cL_law q.1 = .ok (q.2.1, q.2.2))) = true := by decide +kernel
theorem dL_law_701 : decode cL_law 701 = .ok (.iconst 1, 1) := dls_at (q := (701, .iconst 1, 1)) dls_ok_9 (i := 0) rfl
theorem dL_law_702 : decode cL_law 702 = .ok (.iadd, 1) := dls_at (q := (702, .iadd, 1)) dls_ok_9 (i := 1) rfl
theorem dL_law_703 : decode cL_law 703 = .ok (.iaload, 1) := dls_at (q := (703, .iaload, 1)) dls_ok_9 (i := 2) rfl
theorem dL_law_704 : decode cL_law 704 = .ok (.aload_n 0, 1) := dls_at (q := (704, .aload_n 0, 1)) dls_ok_9 (i := 3) rfl
theorem dL_law_705 : decode cL_law 705 = .ok (.iload 4, 2) := dls_at (q := (705, .iload 4, 2)) dls_ok_9 (i := 4) rfl
theorem dL_law_707 : decode cL_law 707 = .ok (.iconst 2, 1) := dls_at (q := (707, .iconst 2, 1)) dls_ok_9 (i := 5) rfl
theorem dL_law_708 : decode cL_law 708 = .ok (.iadd, 1) := dls_at (q := (708, .iadd, 1)) dls_ok_9 (i := 6) rfl
theorem dL_law_709 : decode cL_law 709 = .ok (.iaload, 1) := dls_at (q := (709, .iaload, 1)) dls_ok_9 (i := 7) rfl
theorem dL_law_710 : decode cL_law 710 = .ok (.invokevirtual 137, 3) := dls_at (q := (710, .invokevirtual 137, 3)) dls_ok_9 (i := 8) rfl
theorem dL_law_713 : decode cL_law 713 = .ok (.istore 6, 2) := dls_at (q := (713, .istore 6, 2)) dls_ok_9 (i := 9) rfl
theorem dL_law_715 : decode cL_law 715 = .ok (.aload_n 2, 1) := dls_at (q := (715, .aload_n 2, 1)) dls_ok_9 (i := 10) rfl
theorem dL_law_716 : decode cL_law 716 = .ok (.invokevirtual 99, 3) := dls_at (q := (716, .invokevirtual 99, 3)) dls_ok_9 (i := 11) rfl
theorem dL_law_719 : decode cL_law 719 = .ok (.iload 5, 2) := dls_at (q := (719, .iload 5, 2)) dls_ok_9 (i := 12) rfl
theorem dL_law_721 : decode cL_law 721 = .ok (.if_icmp .eq 5, 3) := dls_at (q := (721, .if_icmp .eq 5, 3)) dls_ok_9 (i := 13) rfl
theorem dL_law_724 : decode cL_law 724 = .ok (.iconst 0, 1) := dls_at (q := (724, .iconst 0, 1)) dls_ok_9 (i := 14) rfl
theorem dL_law_725 : decode cL_law 725 = .ok (.ireturn, 1) := dls_at (q := (725, .ireturn, 1)) dls_ok_9 (i := 15) rfl
theorem dL_law_726 : decode cL_law 726 = .ok (.iload 5, 2) := dls_at (q := (726, .iload 5, 2)) dls_ok_9 (i := 16) rfl
theorem dL_law_728 : decode cL_law 728 = .ok (.ifCond .ne 15, 3) := dls_at (q := (728, .ifCond .ne 15, 3)) dls_ok_9 (i := 17) rfl
theorem dL_law_731 : decode cL_law 731 = .ok (.aload_n 3, 1) := dls_at (q := (731, .aload_n 3, 1)) dls_ok_9 (i := 18) rfl
theorem dL_law_732 : decode cL_law 732 = .ok (.iconst 0, 1) := dls_at (q := (732, .iconst 0, 1)) dls_ok_9 (i := 19) rfl
theorem dL_law_733 : decode cL_law 733 = .ok (.laload, 1) := dls_at (q := (733, .laload, 1)) dls_ok_9 (i := 20) rfl
theorem dL_law_734 : decode cL_law 734 = .ok (.iload 6, 2) := dls_at (q := (734, .iload 6, 2)) dls_ok_9 (i := 21) rfl
theorem dL_law_736 : decode cL_law 736 = .ok (.i2l, 1) := dls_at (q := (736, .i2l, 1)) dls_ok_9 (i := 22) rfl
theorem dL_law_737 : decode cL_law 737 = .ok (.lcmp, 1) := dls_at (q := (737, .lcmp, 1)) dls_ok_9 (i := 23) rfl
theorem dL_law_738 : decode cL_law 738 = .ok (.ifCond .eq 5, 3) := dls_at (q := (738, .ifCond .eq 5, 3)) dls_ok_9 (i := 24) rfl
theorem dL_law_741 : decode cL_law 741 = .ok (.iconst 0, 1) := dls_at (q := (741, .iconst 0, 1)) dls_ok_9 (i := 25) rfl
theorem dL_law_742 : decode cL_law 742 = .ok (.ireturn, 1) := dls_at (q := (742, .ireturn, 1)) dls_ok_9 (i := 26) rfl
theorem dL_law_743 : decode cL_law 743 = .ok (.goto 903, 3) := dls_at (q := (743, .goto 903, 3)) dls_ok_9 (i := 27) rfl
theorem dL_law_746 : decode cL_law 746 = .ok (.aload_n 1, 1) := dls_at (q := (746, .aload_n 1, 1)) dls_ok_9 (i := 28) rfl
theorem dL_law_747 : decode cL_law 747 = .ok (.aload_n 0, 1) := dls_at (q := (747, .aload_n 0, 1)) dls_ok_9 (i := 29) rfl
theorem dL_law_748 : decode cL_law 748 = .ok (.iload 4, 2) := dls_at (q := (748, .iload 4, 2)) dls_ok_9 (i := 30) rfl
theorem dL_law_750 : decode cL_law 750 = .ok (.iconst 1, 1) := dls_at (q := (750, .iconst 1, 1)) dls_ok_9 (i := 31) rfl
theorem dL_law_751 : decode cL_law 751 = .ok (.iadd, 1) := dls_at (q := (751, .iadd, 1)) dls_ok_9 (i := 32) rfl
theorem dL_law_752 : decode cL_law 752 = .ok (.iaload, 1) := dls_at (q := (752, .iaload, 1)) dls_ok_9 (i := 33) rfl
theorem dL_law_753 : decode cL_law 753 = .ok (.aload_n 0, 1) := dls_at (q := (753, .aload_n 0, 1)) dls_ok_9 (i := 34) rfl
theorem dL_law_754 : decode cL_law 754 = .ok (.iload 4, 2) := dls_at (q := (754, .iload 4, 2)) dls_ok_9 (i := 35) rfl
theorem dL_law_756 : decode cL_law 756 = .ok (.iconst 2, 1) := dls_at (q := (756, .iconst 2, 1)) dls_ok_9 (i := 36) rfl
theorem dL_law_757 : decode cL_law 757 = .ok (.iadd, 1) := dls_at (q := (757, .iadd, 1)) dls_ok_9 (i := 37) rfl
theorem dL_law_758 : decode cL_law 758 = .ok (.iaload, 1) := dls_at (q := (758, .iaload, 1)) dls_ok_9 (i := 38) rfl
theorem dL_law_759 : decode cL_law 759 = .ok (.aload_n 3, 1) := dls_at (q := (759, .aload_n 3, 1)) dls_ok_9 (i := 39) rfl
def dls_10 : List (Nat × Instr × Nat) := [(760, .invokestatic 138, 3), (763, .istore 5, 2), (765, .aload_n 2, 1), (766, .aload_n 0, 1), (767, .iload 4, 2), (769, .iconst 1, 1), (770, .iadd, 1), (771, .iaload, 1), (772, .aload_n 0, 1), (773, .iload 4, 2), (775, .iconst 2, 1), (776, .iadd, 1), (777, .iaload, 1), (778, .invokevirtual 140, 3), (781, .istore 6, 2), (783, .aload_n 2, 1), (784, .invokevirtual 99, 3), (787, .iload 5, 2), (789, .if_icmp .eq 5, 3), (792, .iconst 0, 1), (793, .ireturn, 1), (794, .iload 5, 2), (796, .ifCond .ne 15, 3), (799, .aload_n 3, 1), (800, .iconst 0, 1), (801, .laload, 1), (802, .iload 6, 2), (804, .i2l, 1), (805, .lcmp, 1), (806, .ifCond .eq 5, 3), (809, .iconst 0, 1), (810, .ireturn, 1), (811, .goto 835, 3), (814, .aload_n 1, 1), (815, .aload_n 0, 1), (816, .iload 4, 2), (818, .iconst 1, 1), (819, .iadd, 1), (820, .iaload, 1), (821, .aload_n 0, 1)]
theorem dls_ok_10 : dls_10.all (fun q => decide (decode cL_law q.1 = .ok (q.2.1, q.2.2))) = true := by decide +kernel
theorem dL_law_760 : decode cL_law 760 = .ok (.invokestatic 138, 3) := dls_at (q := (760, .invokestatic 138, 3)) dls_ok_10 (i := 0) rfl
theorem dL_law_763 : decode cL_law 763 = .ok (.istore 5, 2) := dls_at (q := (763, .istore 5, 2)) dls_ok_10 (i := 1) rfl
theorem dL_law_765 : decode cL_law 765 = .ok (.aload_n 2, 1) := dls_at (q := (765, .aload_n 2, 1)) dls_ok_10 (i := 2) rfl
theorem dL_law_766 : decode cL_law 766 = .ok (.aload_n 0, 1) := dls_at (q := (766, .aload_n 0, 1)) dls_ok_10 (i := 3) rfl
theorem dL_law_767 : decode cL_law 767 = .ok (.iload 4, 2) := dls_at (q := (767, .iload 4, 2)) dls_ok_10 (i := 4) rfl
theorem dL_law_769 : decode cL_law 769 = .ok (.iconst 1, 1) := dls_at (q := (769, .iconst 1, 1)) dls_ok_10 (i := 5) rfl
theorem dL_law_770 : decode cL_law 770 = .ok (.iadd, 1) := dls_at (q := (770, .iadd, 1)) dls_ok_10 (i := 6) rfl
theorem dL_law_771 : decode cL_law 771 = .ok (.iaload, 1) := dls_at (q := (771, .iaload, 1)) dls_ok_10 (i := 7) rfl
theorem dL_law_772 : decode cL_law 772 = .ok (.aload_n 0, 1) := dls_at (q := (772, .aload_n 0, 1)) dls_ok_10 (i := 8) rfl
theorem dL_law_773 : decode cL_law 773 = .ok (.iload 4, 2) := dls_at (q := (773, .iload 4, 2)) dls_ok_10 (i := 9) rfl
theorem dL_law_775 : decode cL_law 775 = .ok (.iconst 2, 1) := dls_at (q := (775, .iconst 2, 1)) dls_ok_10 (i := 10) rfl
theorem dL_law_776 : decode cL_law 776 = .ok (.iadd, 1) := dls_at (q := (776, .iadd, 1)) dls_ok_10 (i := 11) rfl
theorem dL_law_777 : decode cL_law 777 = .ok (.iaload, 1) := dls_at (q := (777, .iaload, 1)) dls_ok_10 (i := 12) rfl
theorem dL_law_778 : decode cL_law 778 = .ok (.invokevirtual 140, 3) := dls_at (q := (778, .invokevirtual 140, 3)) dls_ok_10 (i := 13) rfl
theorem dL_law_781 : decode cL_law 781 = .ok (.istore 6, 2) := dls_at (q := (781, .istore 6, 2)) dls_ok_10 (i := 14) rfl
theorem dL_law_783 : decode cL_law 783 = .ok (.aload_n 2, 1) := dls_at (q := (783, .aload_n 2, 1)) dls_ok_10 (i := 15) rfl
theorem dL_law_784 : decode cL_law 784 = .ok (.invokevirtual 99, 3) := dls_at (q := (784, .invokevirtual 99, 3)) dls_ok_10 (i := 16) rfl
theorem dL_law_787 : decode cL_law 787 = .ok (.iload 5, 2) := dls_at (q := (787, .iload 5, 2)) dls_ok_10 (i := 17) rfl
theorem dL_law_789 : decode cL_law 789 = .ok (.if_icmp .eq 5, 3) := dls_at (q := (789, .if_icmp .eq 5, 3)) dls_ok_10 (i := 18) rfl
theorem dL_law_792 : decode cL_law 792 = .ok (.iconst 0, 1) := dls_at (q := (792, .iconst 0, 1)) dls_ok_10 (i := 19) rfl
theorem dL_law_793 : decode cL_law 793 = .ok (.ireturn, 1) := dls_at (q := (793, .ireturn, 1)) dls_ok_10 (i := 20) rfl
theorem dL_law_794 : decode cL_law 794 = .ok (.iload 5, 2) := dls_at (q := (794, .iload 5, 2)) dls_ok_10 (i := 21) rfl
theorem dL_law_796 : decode cL_law 796 = .ok (.ifCond .ne 15, 3) := dls_at (q := (796, .ifCond .ne 15, 3)) dls_ok_10 (i := 22) rfl
theorem dL_law_799 : decode cL_law 799 = .ok (.aload_n 3, 1) := dls_at (q := (799, .aload_n 3, 1)) dls_ok_10 (i := 23) rfl
theorem dL_law_800 : decode cL_law 800 = .ok (.iconst 0, 1) := dls_at (q := (800, .iconst 0, 1)) dls_ok_10 (i := 24) rfl
theorem dL_law_801 : decode cL_law 801 = .ok (.laload, 1) := dls_at (q := (801, .laload, 1)) dls_ok_10 (i := 25) rfl
theorem dL_law_802 : decode cL_law 802 = .ok (.iload 6, 2) := dls_at (q := (802, .iload 6, 2)) dls_ok_10 (i := 26) rfl
theorem dL_law_804 : decode cL_law 804 = .ok (.i2l, 1) := dls_at (q := (804, .i2l, 1)) dls_ok_10 (i := 27) rfl
theorem dL_law_805 : decode cL_law 805 = .ok (.lcmp, 1) := dls_at (q := (805, .lcmp, 1)) dls_ok_10 (i := 28) rfl
theorem dL_law_806 : decode cL_law 806 = .ok (.ifCond .eq 5, 3) := dls_at (q := (806, .ifCond .eq 5, 3)) dls_ok_10 (i := 29) rfl
theorem dL_law_809 : decode cL_law 809 = .ok (.iconst 0, 1) := dls_at (q := (809, .iconst 0, 1)) dls_ok_10 (i := 30) rfl
theorem dL_law_810 : decode cL_law 810 = .ok (.ireturn, 1) := dls_at (q := (810, .ireturn, 1)) dls_ok_10 (i := 31) rfl
theorem dL_law_811 : decode cL_law 811 = .ok (.goto 835, 3) := dls_at (q := (811, .goto 835, 3)) dls_ok_10 (i := 32) rfl
theorem dL_law_814 : decode cL_law 814 = .ok (.aload_n 1, 1) := dls_at (q := (814, .aload_n 1, 1)) dls_ok_10 (i := 33) rfl
theorem dL_law_815 : decode cL_law 815 = .ok (.aload_n 0, 1) := dls_at (q := (815, .aload_n 0, 1)) dls_ok_10 (i := 34) rfl
theorem dL_law_816 : decode cL_law 816 = .ok (.iload 4, 2) := dls_at (q := (816, .iload 4, 2)) dls_ok_10 (i := 35) rfl
theorem dL_law_818 : decode cL_law 818 = .ok (.iconst 1, 1) := dls_at (q := (818, .iconst 1, 1)) dls_ok_10 (i := 36) rfl
theorem dL_law_819 : decode cL_law 819 = .ok (.iadd, 1) := dls_at (q := (819, .iadd, 1)) dls_ok_10 (i := 37) rfl
theorem dL_law_820 : decode cL_law 820 = .ok (.iaload, 1) := dls_at (q := (820, .iaload, 1)) dls_ok_10 (i := 38) rfl
theorem dL_law_821 : decode cL_law 821 = .ok (.aload_n 0, 1) := dls_at (q := (821, .aload_n 0, 1)) dls_ok_10 (i := 39) rfl
def dls_11 : List (Nat × Instr × Nat) := [(822, .iload 4, 2), (824, .iconst 2, 1), (825, .iadd, 1), (826, .iaload, 1), (827, .invokestatic 141, 3), (830, .istore 5, 2), (832, .aload_n 2, 1), (833, .aload_n 0, 1), (834, .iload 4, 2), (836, .iconst 1, 1), (837, .iadd, 1), (838, .iaload, 1), (839, .aload_n 0, 1), (840, .iload 4, 2), (842, .iconst 2, 1), (843, .iadd, 1), (844, .iaload, 1), (845, .invokevirtual 144, 3), (848, .aload_n 2, 1), (849, .invokevirtual 99, 3), (852, .iload 5, 2), (854, .if_icmp .eq 5, 3), (857, .iconst 0, 1), (858, .ireturn, 1), (859, .goto 787, 3), (862, .aload_n 1, 1), (863, .aload_n 0, 1), (864, .iload 4, 2), (866, .iconst 1, 1), (867, .iadd, 1), (868, .iaload, 1), (869, .aload_n 0, 1), (870, .iload 4, 2), (872, .iconst 2, 1), (873, .iadd, 1), (874, .iaload, 1), (875, .ifCond .eq 7, 3), (878, .iconst 1, 1), (879, .goto 4, 3), (882, .iconst 0, 1)]
theorem dls_ok_11 : dls_11.all (fun q => decide (decode cL_law q.1 = .ok (q.2.1, q.2.2))) = true := by decide +kernel
theorem dL_law_822 : decode cL_law 822 = .ok (.iload 4, 2) := dls_at (q := (822, .iload 4, 2)) dls_ok_11 (i := 0) rfl
theorem dL_law_824 : decode cL_law 824 = .ok (.iconst 2, 1) := dls_at (q := (824, .iconst 2, 1)) dls_ok_11 (i := 1) rfl
theorem dL_law_825 : decode cL_law 825 = .ok (.iadd, 1) := dls_at (q := (825, .iadd, 1)) dls_ok_11 (i := 2) rfl
theorem dL_law_826 : decode cL_law 826 = .ok (.iaload, 1) := dls_at (q := (826, .iaload, 1)) dls_ok_11 (i := 3) rfl
theorem dL_law_827 : decode cL_law 827 = .ok (.invokestatic 141, 3) := dls_at (q := (827, .invokestatic 141, 3)) dls_ok_11 (i := 4) rfl
theorem dL_law_830 : decode cL_law 830 = .ok (.istore 5, 2) := dls_at (q := (830, .istore 5, 2)) dls_ok_11 (i := 5) rfl
theorem dL_law_832 : decode cL_law 832 = .ok (.aload_n 2, 1) := dls_at (q := (832, .aload_n 2, 1)) dls_ok_11 (i := 6) rfl
theorem dL_law_833 : decode cL_law 833 = .ok (.aload_n 0, 1) := dls_at (q := (833, .aload_n 0, 1)) dls_ok_11 (i := 7) rfl
theorem dL_law_834 : decode cL_law 834 = .ok (.iload 4, 2) := dls_at (q := (834, .iload 4, 2)) dls_ok_11 (i := 8) rfl
theorem dL_law_836 : decode cL_law 836 = .ok (.iconst 1, 1) := dls_at (q := (836, .iconst 1, 1)) dls_ok_11 (i := 9) rfl
theorem dL_law_837 : decode cL_law 837 = .ok (.iadd, 1) := dls_at (q := (837, .iadd, 1)) dls_ok_11 (i := 10) rfl
theorem dL_law_838 : decode cL_law 838 = .ok (.iaload, 1) := dls_at (q := (838, .iaload, 1)) dls_ok_11 (i := 11) rfl
theorem dL_law_839 : decode cL_law 839 = .ok (.aload_n 0, 1) := dls_at (q := (839, .aload_n 0, 1)) dls_ok_11 (i := 12) rfl
theorem dL_law_840 : decode cL_law 840 = .ok (.iload 4, 2) := dls_at (q := (840, .iload 4, 2)) dls_ok_11 (i := 13) rfl
theorem dL_law_842 : decode cL_law 842 = .ok (.iconst 2, 1) := dls_at (q := (842, .iconst 2, 1)) dls_ok_11 (i := 14) rfl
theorem dL_law_843 : decode cL_law 843 = .ok (.iadd, 1) := dls_at (q := (843, .iadd, 1)) dls_ok_11 (i := 15) rfl
theorem dL_law_844 : decode cL_law 844 = .ok (.iaload, 1) := dls_at (q := (844, .iaload, 1)) dls_ok_11 (i := 16) rfl
theorem dL_law_845 : decode cL_law 845 = .ok (.invokevirtual 144, 3) := dls_at (q := (845, .invokevirtual 144, 3)) dls_ok_11 (i := 17) rfl
theorem dL_law_848 : decode cL_law 848 = .ok (.aload_n 2, 1) := dls_at (q := (848, .aload_n 2, 1)) dls_ok_11 (i := 18) rfl
theorem dL_law_849 : decode cL_law 849 = .ok (.invokevirtual 99, 3) := dls_at (q := (849, .invokevirtual 99, 3)) dls_ok_11 (i := 19) rfl
theorem dL_law_852 : decode cL_law 852 = .ok (.iload 5, 2) := dls_at (q := (852, .iload 5, 2)) dls_ok_11 (i := 20) rfl
theorem dL_law_854 : decode cL_law 854 = .ok (.if_icmp .eq 5, 3) := dls_at (q := (854, .if_icmp .eq 5, 3)) dls_ok_11 (i := 21) rfl
theorem dL_law_857 : decode cL_law 857 = .ok (.iconst 0, 1) := dls_at (q := (857, .iconst 0, 1)) dls_ok_11 (i := 22) rfl
theorem dL_law_858 : decode cL_law 858 = .ok (.ireturn, 1) := dls_at (q := (858, .ireturn, 1)) dls_ok_11 (i := 23) rfl
theorem dL_law_859 : decode cL_law 859 = .ok (.goto 787, 3) := dls_at (q := (859, .goto 787, 3)) dls_ok_11 (i := 24) rfl
theorem dL_law_862 : decode cL_law 862 = .ok (.aload_n 1, 1) := dls_at (q := (862, .aload_n 1, 1)) dls_ok_11 (i := 25) rfl
theorem dL_law_863 : decode cL_law 863 = .ok (.aload_n 0, 1) := dls_at (q := (863, .aload_n 0, 1)) dls_ok_11 (i := 26) rfl
theorem dL_law_864 : decode cL_law 864 = .ok (.iload 4, 2) := dls_at (q := (864, .iload 4, 2)) dls_ok_11 (i := 27) rfl
theorem dL_law_866 : decode cL_law 866 = .ok (.iconst 1, 1) := dls_at (q := (866, .iconst 1, 1)) dls_ok_11 (i := 28) rfl
theorem dL_law_867 : decode cL_law 867 = .ok (.iadd, 1) := dls_at (q := (867, .iadd, 1)) dls_ok_11 (i := 29) rfl
theorem dL_law_868 : decode cL_law 868 = .ok (.iaload, 1) := dls_at (q := (868, .iaload, 1)) dls_ok_11 (i := 30) rfl
theorem dL_law_869 : decode cL_law 869 = .ok (.aload_n 0, 1) := dls_at (q := (869, .aload_n 0, 1)) dls_ok_11 (i := 31) rfl
theorem dL_law_870 : decode cL_law 870 = .ok (.iload 4, 2) := dls_at (q := (870, .iload 4, 2)) dls_ok_11 (i := 32) rfl
theorem dL_law_872 : decode cL_law 872 = .ok (.iconst 2, 1) := dls_at (q := (872, .iconst 2, 1)) dls_ok_11 (i := 33) rfl
theorem dL_law_873 : decode cL_law 873 = .ok (.iadd, 1) := dls_at (q := (873, .iadd, 1)) dls_ok_11 (i := 34) rfl
theorem dL_law_874 : decode cL_law 874 = .ok (.iaload, 1) := dls_at (q := (874, .iaload, 1)) dls_ok_11 (i := 35) rfl
theorem dL_law_875 : decode cL_law 875 = .ok (.ifCond .eq 7, 3) := dls_at (q := (875, .ifCond .eq 7, 3)) dls_ok_11 (i := 36) rfl
theorem dL_law_878 : decode cL_law 878 = .ok (.iconst 1, 1) := dls_at (q := (878, .iconst 1, 1)) dls_ok_11 (i := 37) rfl
theorem dL_law_879 : decode cL_law 879 = .ok (.goto 4, 3) := dls_at (q := (879, .goto 4, 3)) dls_ok_11 (i := 38) rfl
theorem dL_law_882 : decode cL_law 882 = .ok (.iconst 0, 1) := dls_at (q := (882, .iconst 0, 1)) dls_ok_11 (i := 39) rfl
def dls_12 : List (Nat × Instr × Nat) := [(883, .aload_n 3, 1), (884, .invokestatic 145, 3), (887, .istore 5, 2), (889, .aload_n 2, 1), (890, .aload_n 0, 1), (891, .iload 4, 2), (893, .iconst 1, 1), (894, .iadd, 1), (895, .iaload, 1), (896, .aload_n 0, 1), (897, .iload 4, 2), (899, .iconst 2, 1), (900, .iadd, 1), (901, .iaload, 1), (902, .ifCond .eq 7, 3), (905, .iconst 1, 1), (906, .goto 4, 3), (909, .iconst 0, 1), (910, .invokevirtual 147, 3), (913, .istore 6, 2), (915, .aload_n 2, 1), (916, .invokevirtual 99, 3), (919, .iload 5, 2), (921, .if_icmp .eq 5, 3), (924, .iconst 0, 1), (925, .ireturn, 1), (926, .iload 5, 2), (928, .ifCond .ne 15, 3), (931, .aload_n 3, 1), (932, .iconst 0, 1), (933, .laload, 1), (934, .iload 6, 2), (936, .i2l, 1), (937, .lcmp, 1), (938, .ifCond .eq 5, 3), (941, .iconst 0, 1), (942, .ireturn, 1), (943, .goto 703, 3), (946, .aload_n 1, 1), (947, .aload_n 0, 1)]
theorem dls_ok_12 : dls_12.all (fun q => decide (decode cL_law q.1 = .ok (q.2.1, q.2.2))) = true := by decide +kernel
theorem dL_law_883 : decode cL_law 883 = .ok (.aload_n 3, 1) := dls_at (q := (883, .aload_n 3, 1)) dls_ok_12 (i := 0) rfl
theorem dL_law_884 : decode cL_law 884 = .ok (.invokestatic 145, 3) := dls_at (q := (884, .invokestatic 145, 3)) dls_ok_12 (i := 1) rfl
theorem dL_law_887 : decode cL_law 887 = .ok (.istore 5, 2) := dls_at (q := (887, .istore 5, 2)) dls_ok_12 (i := 2) rfl
theorem dL_law_889 : decode cL_law 889 = .ok (.aload_n 2, 1) := dls_at (q := (889, .aload_n 2, 1)) dls_ok_12 (i := 3) rfl
theorem dL_law_890 : decode cL_law 890 = .ok (.aload_n 0, 1) := dls_at (q := (890, .aload_n 0, 1)) dls_ok_12 (i := 4) rfl
theorem dL_law_891 : decode cL_law 891 = .ok (.iload 4, 2) := dls_at (q := (891, .iload 4, 2)) dls_ok_12 (i := 5) rfl
theorem dL_law_893 : decode cL_law 893 = .ok (.iconst 1, 1) := dls_at (q := (893, .iconst 1, 1)) dls_ok_12 (i := 6) rfl
theorem dL_law_894 : decode cL_law 894 = .ok (.iadd, 1) := dls_at (q := (894, .iadd, 1)) dls_ok_12 (i := 7) rfl
theorem dL_law_895 : decode cL_law 895 = .ok (.iaload, 1) := dls_at (q := (895, .iaload, 1)) dls_ok_12 (i := 8) rfl
theorem dL_law_896 : decode cL_law 896 = .ok (.aload_n 0, 1) := dls_at (q := (896, .aload_n 0, 1)) dls_ok_12 (i := 9) rfl
theorem dL_law_897 : decode cL_law 897 = .ok (.iload 4, 2) := dls_at (q := (897, .iload 4, 2)) dls_ok_12 (i := 10) rfl
theorem dL_law_899 : decode cL_law 899 = .ok (.iconst 2, 1) := dls_at (q := (899, .iconst 2, 1)) dls_ok_12 (i := 11) rfl
theorem dL_law_900 : decode cL_law 900 = .ok (.iadd, 1) := dls_at (q := (900, .iadd, 1)) dls_ok_12 (i := 12) rfl
theorem dL_law_901 : decode cL_law 901 = .ok (.iaload, 1) := dls_at (q := (901, .iaload, 1)) dls_ok_12 (i := 13) rfl
theorem dL_law_902 : decode cL_law 902 = .ok (.ifCond .eq 7, 3) := dls_at (q := (902, .ifCond .eq 7, 3)) dls_ok_12 (i := 14) rfl
theorem dL_law_905 : decode cL_law 905 = .ok (.iconst 1, 1) := dls_at (q := (905, .iconst 1, 1)) dls_ok_12 (i := 15) rfl
theorem dL_law_906 : decode cL_law 906 = .ok (.goto 4, 3) := dls_at (q := (906, .goto 4, 3)) dls_ok_12 (i := 16) rfl
theorem dL_law_909 : decode cL_law 909 = .ok (.iconst 0, 1) := dls_at (q := (909, .iconst 0, 1)) dls_ok_12 (i := 17) rfl
theorem dL_law_910 : decode cL_law 910 = .ok (.invokevirtual 147, 3) := dls_at (q := (910, .invokevirtual 147, 3)) dls_ok_12 (i := 18) rfl
theorem dL_law_913 : decode cL_law 913 = .ok (.istore 6, 2) := dls_at (q := (913, .istore 6, 2)) dls_ok_12 (i := 19) rfl
theorem dL_law_915 : decode cL_law 915 = .ok (.aload_n 2, 1) := dls_at (q := (915, .aload_n 2, 1)) dls_ok_12 (i := 20) rfl
theorem dL_law_916 : decode cL_law 916 = .ok (.invokevirtual 99, 3) := dls_at (q := (916, .invokevirtual 99, 3)) dls_ok_12 (i := 21) rfl
theorem dL_law_919 : decode cL_law 919 = .ok (.iload 5, 2) := dls_at (q := (919, .iload 5, 2)) dls_ok_12 (i := 22) rfl
theorem dL_law_921 : decode cL_law 921 = .ok (.if_icmp .eq 5, 3) := dls_at (q := (921, .if_icmp .eq 5, 3)) dls_ok_12 (i := 23) rfl
theorem dL_law_924 : decode cL_law 924 = .ok (.iconst 0, 1) := dls_at (q := (924, .iconst 0, 1)) dls_ok_12 (i := 24) rfl
theorem dL_law_925 : decode cL_law 925 = .ok (.ireturn, 1) := dls_at (q := (925, .ireturn, 1)) dls_ok_12 (i := 25) rfl
theorem dL_law_926 : decode cL_law 926 = .ok (.iload 5, 2) := dls_at (q := (926, .iload 5, 2)) dls_ok_12 (i := 26) rfl
theorem dL_law_928 : decode cL_law 928 = .ok (.ifCond .ne 15, 3) := dls_at (q := (928, .ifCond .ne 15, 3)) dls_ok_12 (i := 27) rfl
theorem dL_law_931 : decode cL_law 931 = .ok (.aload_n 3, 1) := dls_at (q := (931, .aload_n 3, 1)) dls_ok_12 (i := 28) rfl
theorem dL_law_932 : decode cL_law 932 = .ok (.iconst 0, 1) := dls_at (q := (932, .iconst 0, 1)) dls_ok_12 (i := 29) rfl
theorem dL_law_933 : decode cL_law 933 = .ok (.laload, 1) := dls_at (q := (933, .laload, 1)) dls_ok_12 (i := 30) rfl
theorem dL_law_934 : decode cL_law 934 = .ok (.iload 6, 2) := dls_at (q := (934, .iload 6, 2)) dls_ok_12 (i := 31) rfl
theorem dL_law_936 : decode cL_law 936 = .ok (.i2l, 1) := dls_at (q := (936, .i2l, 1)) dls_ok_12 (i := 32) rfl
theorem dL_law_937 : decode cL_law 937 = .ok (.lcmp, 1) := dls_at (q := (937, .lcmp, 1)) dls_ok_12 (i := 33) rfl
theorem dL_law_938 : decode cL_law 938 = .ok (.ifCond .eq 5, 3) := dls_at (q := (938, .ifCond .eq 5, 3)) dls_ok_12 (i := 34) rfl
theorem dL_law_941 : decode cL_law 941 = .ok (.iconst 0, 1) := dls_at (q := (941, .iconst 0, 1)) dls_ok_12 (i := 35) rfl
theorem dL_law_942 : decode cL_law 942 = .ok (.ireturn, 1) := dls_at (q := (942, .ireturn, 1)) dls_ok_12 (i := 36) rfl
theorem dL_law_943 : decode cL_law 943 = .ok (.goto 703, 3) := dls_at (q := (943, .goto 703, 3)) dls_ok_12 (i := 37) rfl
theorem dL_law_946 : decode cL_law 946 = .ok (.aload_n 1, 1) := dls_at (q := (946, .aload_n 1, 1)) dls_ok_12 (i := 38) rfl
theorem dL_law_947 : decode cL_law 947 = .ok (.aload_n 0, 1) := dls_at (q := (947, .aload_n 0, 1)) dls_ok_12 (i := 39) rfl
def dls_13 : List (Nat × Instr × Nat) := [(948, .iload 4, 2), (950, .iconst 1, 1), (951, .iadd, 1), (952, .iaload, 1), (953, .aload_n 0, 1), (954, .iload 4, 2), (956, .iconst 2, 1), (957, .iadd, 1), (958, .iaload, 1), (959, .aload_n 3, 1), (960, .invokestatic 148, 3), (963, .istore 5, 2), (965, .aload_n 2, 1), (966, .aload_n 0, 1), (967, .iload 4, 2), (969, .iconst 1, 1), (970, .iadd, 1), (971, .iaload, 1), (972, .aload_n 0, 1), (973, .iload 4, 2), (975, .iconst 2, 1), (976, .iadd, 1), (977, .iaload, 1), (978, .invokevirtual 150, 3), (981, .istore 6, 2), (983, .aload_n 2, 1), (984, .invokevirtual 99, 3), (987, .iload 5, 2), (989, .if_icmp .eq 5, 3), (992, .iconst 0, 1), (993, .ireturn, 1), (994, .iload 5, 2), (996, .ifCond .ne 15, 3), (999, .aload_n 3, 1), (1000, .iconst 0, 1), (1001, .laload, 1), (1002, .iload 6, 2), (1004, .i2l, 1), (1005, .lcmp, 1), (1006, .ifCond .eq 5, 3)]
theorem dls_ok_13 : dls_13.all (fun q => decide (decode cL_law q.1 = .ok (q.2.1, q.2.2))) = true := by decide +kernel
theorem dL_law_948 : decode cL_law 948 = .ok (.iload 4, 2) := dls_at (q := (948, .iload 4, 2)) dls_ok_13 (i := 0) rfl
theorem dL_law_950 : decode cL_law 950 = .ok (.iconst 1, 1) := dls_at (q := (950, .iconst 1, 1)) dls_ok_13 (i := 1) rfl
theorem dL_law_951 : decode cL_law 951 = .ok (.iadd, 1) := dls_at (q := (951, .iadd, 1)) dls_ok_13 (i := 2) rfl
theorem dL_law_952 : decode cL_law 952 = .ok (.iaload, 1) := dls_at (q := (952, .iaload, 1)) dls_ok_13 (i := 3) rfl
theorem dL_law_953 : decode cL_law 953 = .ok (.aload_n 0, 1) := dls_at (q := (953, .aload_n 0, 1)) dls_ok_13 (i := 4) rfl
theorem dL_law_954 : decode cL_law 954 = .ok (.iload 4, 2) := dls_at (q := (954, .iload 4, 2)) dls_ok_13 (i := 5) rfl
theorem dL_law_956 : decode cL_law 956 = .ok (.iconst 2, 1) := dls_at (q := (956, .iconst 2, 1)) dls_ok_13 (i := 6) rfl
theorem dL_law_957 : decode cL_law 957 = .ok (.iadd, 1) := dls_at (q := (957, .iadd, 1)) dls_ok_13 (i := 7) rfl
theorem dL_law_958 : decode cL_law 958 = .ok (.iaload, 1) := dls_at (q := (958, .iaload, 1)) dls_ok_13 (i := 8) rfl
theorem dL_law_959 : decode cL_law 959 = .ok (.aload_n 3, 1) := dls_at (q := (959, .aload_n 3, 1)) dls_ok_13 (i := 9) rfl
theorem dL_law_960 : decode cL_law 960 = .ok (.invokestatic 148, 3) := dls_at (q := (960, .invokestatic 148, 3)) dls_ok_13 (i := 10) rfl
theorem dL_law_963 : decode cL_law 963 = .ok (.istore 5, 2) := dls_at (q := (963, .istore 5, 2)) dls_ok_13 (i := 11) rfl
theorem dL_law_965 : decode cL_law 965 = .ok (.aload_n 2, 1) := dls_at (q := (965, .aload_n 2, 1)) dls_ok_13 (i := 12) rfl
theorem dL_law_966 : decode cL_law 966 = .ok (.aload_n 0, 1) := dls_at (q := (966, .aload_n 0, 1)) dls_ok_13 (i := 13) rfl
theorem dL_law_967 : decode cL_law 967 = .ok (.iload 4, 2) := dls_at (q := (967, .iload 4, 2)) dls_ok_13 (i := 14) rfl
theorem dL_law_969 : decode cL_law 969 = .ok (.iconst 1, 1) := dls_at (q := (969, .iconst 1, 1)) dls_ok_13 (i := 15) rfl
theorem dL_law_970 : decode cL_law 970 = .ok (.iadd, 1) := dls_at (q := (970, .iadd, 1)) dls_ok_13 (i := 16) rfl
theorem dL_law_971 : decode cL_law 971 = .ok (.iaload, 1) := dls_at (q := (971, .iaload, 1)) dls_ok_13 (i := 17) rfl
theorem dL_law_972 : decode cL_law 972 = .ok (.aload_n 0, 1) := dls_at (q := (972, .aload_n 0, 1)) dls_ok_13 (i := 18) rfl
theorem dL_law_973 : decode cL_law 973 = .ok (.iload 4, 2) := dls_at (q := (973, .iload 4, 2)) dls_ok_13 (i := 19) rfl
theorem dL_law_975 : decode cL_law 975 = .ok (.iconst 2, 1) := dls_at (q := (975, .iconst 2, 1)) dls_ok_13 (i := 20) rfl
theorem dL_law_976 : decode cL_law 976 = .ok (.iadd, 1) := dls_at (q := (976, .iadd, 1)) dls_ok_13 (i := 21) rfl
theorem dL_law_977 : decode cL_law 977 = .ok (.iaload, 1) := dls_at (q := (977, .iaload, 1)) dls_ok_13 (i := 22) rfl
theorem dL_law_978 : decode cL_law 978 = .ok (.invokevirtual 150, 3) := dls_at (q := (978, .invokevirtual 150, 3)) dls_ok_13 (i := 23) rfl
theorem dL_law_981 : decode cL_law 981 = .ok (.istore 6, 2) := dls_at (q := (981, .istore 6, 2)) dls_ok_13 (i := 24) rfl
theorem dL_law_983 : decode cL_law 983 = .ok (.aload_n 2, 1) := dls_at (q := (983, .aload_n 2, 1)) dls_ok_13 (i := 25) rfl
theorem dL_law_984 : decode cL_law 984 = .ok (.invokevirtual 99, 3) := dls_at (q := (984, .invokevirtual 99, 3)) dls_ok_13 (i := 26) rfl
theorem dL_law_987 : decode cL_law 987 = .ok (.iload 5, 2) := dls_at (q := (987, .iload 5, 2)) dls_ok_13 (i := 27) rfl
theorem dL_law_989 : decode cL_law 989 = .ok (.if_icmp .eq 5, 3) := dls_at (q := (989, .if_icmp .eq 5, 3)) dls_ok_13 (i := 28) rfl
theorem dL_law_992 : decode cL_law 992 = .ok (.iconst 0, 1) := dls_at (q := (992, .iconst 0, 1)) dls_ok_13 (i := 29) rfl
theorem dL_law_993 : decode cL_law 993 = .ok (.ireturn, 1) := dls_at (q := (993, .ireturn, 1)) dls_ok_13 (i := 30) rfl
theorem dL_law_994 : decode cL_law 994 = .ok (.iload 5, 2) := dls_at (q := (994, .iload 5, 2)) dls_ok_13 (i := 31) rfl
theorem dL_law_996 : decode cL_law 996 = .ok (.ifCond .ne 15, 3) := dls_at (q := (996, .ifCond .ne 15, 3)) dls_ok_13 (i := 32) rfl
theorem dL_law_999 : decode cL_law 999 = .ok (.aload_n 3, 1) := dls_at (q := (999, .aload_n 3, 1)) dls_ok_13 (i := 33) rfl
theorem dL_law_1000 : decode cL_law 1000 = .ok (.iconst 0, 1) := dls_at (q := (1000, .iconst 0, 1)) dls_ok_13 (i := 34) rfl
theorem dL_law_1001 : decode cL_law 1001 = .ok (.laload, 1) := dls_at (q := (1001, .laload, 1)) dls_ok_13 (i := 35) rfl
theorem dL_law_1002 : decode cL_law 1002 = .ok (.iload 6, 2) := dls_at (q := (1002, .iload 6, 2)) dls_ok_13 (i := 36) rfl
theorem dL_law_1004 : decode cL_law 1004 = .ok (.i2l, 1) := dls_at (q := (1004, .i2l, 1)) dls_ok_13 (i := 37) rfl
theorem dL_law_1005 : decode cL_law 1005 = .ok (.lcmp, 1) := dls_at (q := (1005, .lcmp, 1)) dls_ok_13 (i := 38) rfl
theorem dL_law_1006 : decode cL_law 1006 = .ok (.ifCond .eq 5, 3) := dls_at (q := (1006, .ifCond .eq 5, 3)) dls_ok_13 (i := 39) rfl
def dls_14 : List (Nat × Instr × Nat) := [(1009, .iconst 0, 1), (1010, .ireturn, 1), (1011, .goto 635, 3), (1014, .aload_n 1, 1), (1015, .aload_n 0, 1), (1016, .iload 4, 2), (1018, .iconst 1, 1), (1019, .iadd, 1), (1020, .iaload, 1), (1021, .aload_n 0, 1), (1022, .iload 4, 2), (1024, .iconst 2, 1), (1025, .iadd, 1), (1026, .iaload, 1), (1027, .aload_n 3, 1), (1028, .invokestatic 151, 3), (1031, .istore 5, 2), (1033, .aload_n 2, 1), (1034, .aload_n 0, 1), (1035, .iload 4, 2), (1037, .iconst 1, 1), (1038, .iadd, 1), (1039, .iaload, 1), (1040, .aload_n 0, 1), (1041, .iload 4, 2), (1043, .iconst 2, 1), (1044, .iadd, 1), (1045, .iaload, 1), (1046, .invokevirtual 153, 3), (1049, .istore 6, 2), (1051, .aload_n 2, 1), (1052, .invokevirtual 99, 3), (1055, .iload 5, 2), (1057, .if_icmp .eq 5, 3), (1060, .iconst 0, 1), (1061, .ireturn, 1), (1062, .iload 5, 2), (1064, .ifCond .ne 15, 3), (1067, .aload_n 3, 1), (1068, .iconst 0, 1)]
theorem dls_ok_14 : dls_14.all (fun q => decide (decode cL_law q.1 = .ok (q.2.1, q.2.2))) = true := by decide +kernel
theorem dL_law_1009 : decode cL_law 1009 = .ok (.iconst 0, 1) := dls_at (q := (1009, .iconst 0, 1)) dls_ok_14 (i := 0) rfl
theorem dL_law_1010 : decode cL_law 1010 = .ok (.ireturn, 1) := dls_at (q := (1010, .ireturn, 1)) dls_ok_14 (i := 1) rfl
theorem dL_law_1011 : decode cL_law 1011 = .ok (.goto 635, 3) := dls_at (q := (1011, .goto 635, 3)) dls_ok_14 (i := 2) rfl
theorem dL_law_1014 : decode cL_law 1014 = .ok (.aload_n 1, 1) := dls_at (q := (1014, .aload_n 1, 1)) dls_ok_14 (i := 3) rfl
theorem dL_law_1015 : decode cL_law 1015 = .ok (.aload_n 0, 1) := dls_at (q := (1015, .aload_n 0, 1)) dls_ok_14 (i := 4) rfl
theorem dL_law_1016 : decode cL_law 1016 = .ok (.iload 4, 2) := dls_at (q := (1016, .iload 4, 2)) dls_ok_14 (i := 5) rfl
theorem dL_law_1018 : decode cL_law 1018 = .ok (.iconst 1, 1) := dls_at (q := (1018, .iconst 1, 1)) dls_ok_14 (i := 6) rfl
theorem dL_law_1019 : decode cL_law 1019 = .ok (.iadd, 1) := dls_at (q := (1019, .iadd, 1)) dls_ok_14 (i := 7) rfl
theorem dL_law_1020 : decode cL_law 1020 = .ok (.iaload, 1) := dls_at (q := (1020, .iaload, 1)) dls_ok_14 (i := 8) rfl
theorem dL_law_1021 : decode cL_law 1021 = .ok (.aload_n 0, 1) := dls_at (q := (1021, .aload_n 0, 1)) dls_ok_14 (i := 9) rfl
theorem dL_law_1022 : decode cL_law 1022 = .ok (.iload 4, 2) := dls_at (q := (1022, .iload 4, 2)) dls_ok_14 (i := 10) rfl
theorem dL_law_1024 : decode cL_law 1024 = .ok (.iconst 2, 1) := dls_at (q := (1024, .iconst 2, 1)) dls_ok_14 (i := 11) rfl
theorem dL_law_1025 : decode cL_law 1025 = .ok (.iadd, 1) := dls_at (q := (1025, .iadd, 1)) dls_ok_14 (i := 12) rfl
theorem dL_law_1026 : decode cL_law 1026 = .ok (.iaload, 1) := dls_at (q := (1026, .iaload, 1)) dls_ok_14 (i := 13) rfl
theorem dL_law_1027 : decode cL_law 1027 = .ok (.aload_n 3, 1) := dls_at (q := (1027, .aload_n 3, 1)) dls_ok_14 (i := 14) rfl
theorem dL_law_1028 : decode cL_law 1028 = .ok (.invokestatic 151, 3) := dls_at (q := (1028, .invokestatic 151, 3)) dls_ok_14 (i := 15) rfl
theorem dL_law_1031 : decode cL_law 1031 = .ok (.istore 5, 2) := dls_at (q := (1031, .istore 5, 2)) dls_ok_14 (i := 16) rfl
theorem dL_law_1033 : decode cL_law 1033 = .ok (.aload_n 2, 1) := dls_at (q := (1033, .aload_n 2, 1)) dls_ok_14 (i := 17) rfl
theorem dL_law_1034 : decode cL_law 1034 = .ok (.aload_n 0, 1) := dls_at (q := (1034, .aload_n 0, 1)) dls_ok_14 (i := 18) rfl
theorem dL_law_1035 : decode cL_law 1035 = .ok (.iload 4, 2) := dls_at (q := (1035, .iload 4, 2)) dls_ok_14 (i := 19) rfl
theorem dL_law_1037 : decode cL_law 1037 = .ok (.iconst 1, 1) := dls_at (q := (1037, .iconst 1, 1)) dls_ok_14 (i := 20) rfl
theorem dL_law_1038 : decode cL_law 1038 = .ok (.iadd, 1) := dls_at (q := (1038, .iadd, 1)) dls_ok_14 (i := 21) rfl
theorem dL_law_1039 : decode cL_law 1039 = .ok (.iaload, 1) := dls_at (q := (1039, .iaload, 1)) dls_ok_14 (i := 22) rfl
theorem dL_law_1040 : decode cL_law 1040 = .ok (.aload_n 0, 1) := dls_at (q := (1040, .aload_n 0, 1)) dls_ok_14 (i := 23) rfl
theorem dL_law_1041 : decode cL_law 1041 = .ok (.iload 4, 2) := dls_at (q := (1041, .iload 4, 2)) dls_ok_14 (i := 24) rfl
theorem dL_law_1043 : decode cL_law 1043 = .ok (.iconst 2, 1) := dls_at (q := (1043, .iconst 2, 1)) dls_ok_14 (i := 25) rfl
theorem dL_law_1044 : decode cL_law 1044 = .ok (.iadd, 1) := dls_at (q := (1044, .iadd, 1)) dls_ok_14 (i := 26) rfl
theorem dL_law_1045 : decode cL_law 1045 = .ok (.iaload, 1) := dls_at (q := (1045, .iaload, 1)) dls_ok_14 (i := 27) rfl
theorem dL_law_1046 : decode cL_law 1046 = .ok (.invokevirtual 153, 3) := dls_at (q := (1046, .invokevirtual 153, 3)) dls_ok_14 (i := 28) rfl
theorem dL_law_1049 : decode cL_law 1049 = .ok (.istore 6, 2) := dls_at (q := (1049, .istore 6, 2)) dls_ok_14 (i := 29) rfl
theorem dL_law_1051 : decode cL_law 1051 = .ok (.aload_n 2, 1) := dls_at (q := (1051, .aload_n 2, 1)) dls_ok_14 (i := 30) rfl
theorem dL_law_1052 : decode cL_law 1052 = .ok (.invokevirtual 99, 3) := dls_at (q := (1052, .invokevirtual 99, 3)) dls_ok_14 (i := 31) rfl
theorem dL_law_1055 : decode cL_law 1055 = .ok (.iload 5, 2) := dls_at (q := (1055, .iload 5, 2)) dls_ok_14 (i := 32) rfl
theorem dL_law_1057 : decode cL_law 1057 = .ok (.if_icmp .eq 5, 3) := dls_at (q := (1057, .if_icmp .eq 5, 3)) dls_ok_14 (i := 33) rfl
theorem dL_law_1060 : decode cL_law 1060 = .ok (.iconst 0, 1) := dls_at (q := (1060, .iconst 0, 1)) dls_ok_14 (i := 34) rfl
theorem dL_law_1061 : decode cL_law 1061 = .ok (.ireturn, 1) := dls_at (q := (1061, .ireturn, 1)) dls_ok_14 (i := 35) rfl
theorem dL_law_1062 : decode cL_law 1062 = .ok (.iload 5, 2) := dls_at (q := (1062, .iload 5, 2)) dls_ok_14 (i := 36) rfl
theorem dL_law_1064 : decode cL_law 1064 = .ok (.ifCond .ne 15, 3) := dls_at (q := (1064, .ifCond .ne 15, 3)) dls_ok_14 (i := 37) rfl
theorem dL_law_1067 : decode cL_law 1067 = .ok (.aload_n 3, 1) := dls_at (q := (1067, .aload_n 3, 1)) dls_ok_14 (i := 38) rfl
theorem dL_law_1068 : decode cL_law 1068 = .ok (.iconst 0, 1) := dls_at (q := (1068, .iconst 0, 1)) dls_ok_14 (i := 39) rfl
def dls_15 : List (Nat × Instr × Nat) := [(1069, .laload, 1), (1070, .iload 6, 2), (1072, .i2l, 1), (1073, .lcmp, 1), (1074, .ifCond .eq 5, 3), (1077, .iconst 0, 1), (1078, .ireturn, 1), (1079, .goto 567, 3), (1082, .aload_n 1, 1), (1083, .aload_n 0, 1), (1084, .iload 4, 2), (1086, .iconst 1, 1), (1087, .iadd, 1), (1088, .iaload, 1), (1089, .aload_n 0, 1), (1090, .iload 4, 2), (1092, .iconst 2, 1), (1093, .iadd, 1), (1094, .iaload, 1), (1095, .aload_n 3, 1), (1096, .invokestatic 154, 3), (1099, .istore 5, 2), (1101, .aload_n 2, 1), (1102, .aload_n 0, 1), (1103, .iload 4, 2), (1105, .iconst 1, 1), (1106, .iadd, 1), (1107, .iaload, 1), (1108, .aload_n 0, 1), (1109, .iload 4, 2), (1111, .iconst 2, 1), (1112, .iadd, 1), (1113, .iaload, 1), (1114, .invokevirtual 156, 3), (1117, .istore 6, 2), (1119, .aload_n 2, 1), (1120, .invokevirtual 99, 3), (1123, .iload 5, 2), (1125, .if_icmp .eq 5, 3), (1128, .iconst 0, 1)]
theorem dls_ok_15 : dls_15.all (fun q => decide (decode cL_law q.1 = .ok (q.2.1, q.2.2))) = true := by decide +kernel
theorem dL_law_1069 : decode cL_law 1069 = .ok (.laload, 1) := dls_at (q := (1069, .laload, 1)) dls_ok_15 (i := 0) rfl
theorem dL_law_1070 : decode cL_law 1070 = .ok (.iload 6, 2) := dls_at (q := (1070, .iload 6, 2)) dls_ok_15 (i := 1) rfl
theorem dL_law_1072 : decode cL_law 1072 = .ok (.i2l, 1) := dls_at (q := (1072, .i2l, 1)) dls_ok_15 (i := 2) rfl
theorem dL_law_1073 : decode cL_law 1073 = .ok (.lcmp, 1) := dls_at (q := (1073, .lcmp, 1)) dls_ok_15 (i := 3) rfl
theorem dL_law_1074 : decode cL_law 1074 = .ok (.ifCond .eq 5, 3) := dls_at (q := (1074, .ifCond .eq 5, 3)) dls_ok_15 (i := 4) rfl
theorem dL_law_1077 : decode cL_law 1077 = .ok (.iconst 0, 1) := dls_at (q := (1077, .iconst 0, 1)) dls_ok_15 (i := 5) rfl
theorem dL_law_1078 : decode cL_law 1078 = .ok (.ireturn, 1) := dls_at (q := (1078, .ireturn, 1)) dls_ok_15 (i := 6) rfl
theorem dL_law_1079 : decode cL_law 1079 = .ok (.goto 567, 3) := dls_at (q := (1079, .goto 567, 3)) dls_ok_15 (i := 7) rfl
theorem dL_law_1082 : decode cL_law 1082 = .ok (.aload_n 1, 1) := dls_at (q := (1082, .aload_n 1, 1)) dls_ok_15 (i := 8) rfl
theorem dL_law_1083 : decode cL_law 1083 = .ok (.aload_n 0, 1) := dls_at (q := (1083, .aload_n 0, 1)) dls_ok_15 (i := 9) rfl
theorem dL_law_1084 : decode cL_law 1084 = .ok (.iload 4, 2) := dls_at (q := (1084, .iload 4, 2)) dls_ok_15 (i := 10) rfl
theorem dL_law_1086 : decode cL_law 1086 = .ok (.iconst 1, 1) := dls_at (q := (1086, .iconst 1, 1)) dls_ok_15 (i := 11) rfl
theorem dL_law_1087 : decode cL_law 1087 = .ok (.iadd, 1) := dls_at (q := (1087, .iadd, 1)) dls_ok_15 (i := 12) rfl
theorem dL_law_1088 : decode cL_law 1088 = .ok (.iaload, 1) := dls_at (q := (1088, .iaload, 1)) dls_ok_15 (i := 13) rfl
theorem dL_law_1089 : decode cL_law 1089 = .ok (.aload_n 0, 1) := dls_at (q := (1089, .aload_n 0, 1)) dls_ok_15 (i := 14) rfl
theorem dL_law_1090 : decode cL_law 1090 = .ok (.iload 4, 2) := dls_at (q := (1090, .iload 4, 2)) dls_ok_15 (i := 15) rfl
theorem dL_law_1092 : decode cL_law 1092 = .ok (.iconst 2, 1) := dls_at (q := (1092, .iconst 2, 1)) dls_ok_15 (i := 16) rfl
theorem dL_law_1093 : decode cL_law 1093 = .ok (.iadd, 1) := dls_at (q := (1093, .iadd, 1)) dls_ok_15 (i := 17) rfl
theorem dL_law_1094 : decode cL_law 1094 = .ok (.iaload, 1) := dls_at (q := (1094, .iaload, 1)) dls_ok_15 (i := 18) rfl
theorem dL_law_1095 : decode cL_law 1095 = .ok (.aload_n 3, 1) := dls_at (q := (1095, .aload_n 3, 1)) dls_ok_15 (i := 19) rfl
theorem dL_law_1096 : decode cL_law 1096 = .ok (.invokestatic 154, 3) := dls_at (q := (1096, .invokestatic 154, 3)) dls_ok_15 (i := 20) rfl
theorem dL_law_1099 : decode cL_law 1099 = .ok (.istore 5, 2) := dls_at (q := (1099, .istore 5, 2)) dls_ok_15 (i := 21) rfl
theorem dL_law_1101 : decode cL_law 1101 = .ok (.aload_n 2, 1) := dls_at (q := (1101, .aload_n 2, 1)) dls_ok_15 (i := 22) rfl
theorem dL_law_1102 : decode cL_law 1102 = .ok (.aload_n 0, 1) := dls_at (q := (1102, .aload_n 0, 1)) dls_ok_15 (i := 23) rfl
theorem dL_law_1103 : decode cL_law 1103 = .ok (.iload 4, 2) := dls_at (q := (1103, .iload 4, 2)) dls_ok_15 (i := 24) rfl
theorem dL_law_1105 : decode cL_law 1105 = .ok (.iconst 1, 1) := dls_at (q := (1105, .iconst 1, 1)) dls_ok_15 (i := 25) rfl
theorem dL_law_1106 : decode cL_law 1106 = .ok (.iadd, 1) := dls_at (q := (1106, .iadd, 1)) dls_ok_15 (i := 26) rfl
theorem dL_law_1107 : decode cL_law 1107 = .ok (.iaload, 1) := dls_at (q := (1107, .iaload, 1)) dls_ok_15 (i := 27) rfl
theorem dL_law_1108 : decode cL_law 1108 = .ok (.aload_n 0, 1) := dls_at (q := (1108, .aload_n 0, 1)) dls_ok_15 (i := 28) rfl
theorem dL_law_1109 : decode cL_law 1109 = .ok (.iload 4, 2) := dls_at (q := (1109, .iload 4, 2)) dls_ok_15 (i := 29) rfl
theorem dL_law_1111 : decode cL_law 1111 = .ok (.iconst 2, 1) := dls_at (q := (1111, .iconst 2, 1)) dls_ok_15 (i := 30) rfl
theorem dL_law_1112 : decode cL_law 1112 = .ok (.iadd, 1) := dls_at (q := (1112, .iadd, 1)) dls_ok_15 (i := 31) rfl
theorem dL_law_1113 : decode cL_law 1113 = .ok (.iaload, 1) := dls_at (q := (1113, .iaload, 1)) dls_ok_15 (i := 32) rfl
theorem dL_law_1114 : decode cL_law 1114 = .ok (.invokevirtual 156, 3) := dls_at (q := (1114, .invokevirtual 156, 3)) dls_ok_15 (i := 33) rfl
theorem dL_law_1117 : decode cL_law 1117 = .ok (.istore 6, 2) := dls_at (q := (1117, .istore 6, 2)) dls_ok_15 (i := 34) rfl
theorem dL_law_1119 : decode cL_law 1119 = .ok (.aload_n 2, 1) := dls_at (q := (1119, .aload_n 2, 1)) dls_ok_15 (i := 35) rfl
theorem dL_law_1120 : decode cL_law 1120 = .ok (.invokevirtual 99, 3) := dls_at (q := (1120, .invokevirtual 99, 3)) dls_ok_15 (i := 36) rfl
theorem dL_law_1123 : decode cL_law 1123 = .ok (.iload 5, 2) := dls_at (q := (1123, .iload 5, 2)) dls_ok_15 (i := 37) rfl
theorem dL_law_1125 : decode cL_law 1125 = .ok (.if_icmp .eq 5, 3) := dls_at (q := (1125, .if_icmp .eq 5, 3)) dls_ok_15 (i := 38) rfl
theorem dL_law_1128 : decode cL_law 1128 = .ok (.iconst 0, 1) := dls_at (q := (1128, .iconst 0, 1)) dls_ok_15 (i := 39) rfl
def dls_16 : List (Nat × Instr × Nat) := [(1129, .ireturn, 1), (1130, .iload 5, 2), (1132, .ifCond .ne 15, 3), (1135, .aload_n 3, 1), (1136, .iconst 0, 1), (1137, .laload, 1), (1138, .iload 6, 2), (1140, .i2l, 1), (1141, .lcmp, 1), (1142, .ifCond .eq 5, 3), (1145, .iconst 0, 1), (1146, .ireturn, 1), (1147, .goto 499, 3), (1150, .aload_n 1, 1), (1151, .aload_n 0, 1), (1152, .iload 4, 2), (1154, .iconst 1, 1), (1155, .iadd, 1), (1156, .iaload, 1), (1157, .aload_n 0, 1), (1158, .iload 4, 2), (1160, .iconst 2, 1), (1161, .iadd, 1), (1162, .iaload, 1), (1163, .aload_n 3, 1), (1164, .invokestatic 157, 3), (1167, .istore 5, 2), (1169, .aload_n 2, 1), (1170, .aload_n 0, 1), (1171, .iload 4, 2), (1173, .iconst 1, 1), (1174, .iadd, 1), (1175, .iaload, 1), (1176, .aload_n 0, 1), (1177, .iload 4, 2), (1179, .iconst 2, 1), (1180, .iadd, 1), (1181, .iaload, 1), (1182, .invokevirtual 159, 3), (1185, .lstore 6, 2)]
theorem dls_ok_16 : dls_16.all (fun q => decide (decode cL_law q.1 = .ok (q.2.1, q.2.2))) = true := by decide +kernel
theorem dL_law_1129 : decode cL_law 1129 = .ok (.ireturn, 1) := dls_at (q := (1129, .ireturn, 1)) dls_ok_16 (i := 0) rfl
theorem dL_law_1130 : decode cL_law 1130 = .ok (.iload 5, 2) := dls_at (q := (1130, .iload 5, 2)) dls_ok_16 (i := 1) rfl
theorem dL_law_1132 : decode cL_law 1132 = .ok (.ifCond .ne 15, 3) := dls_at (q := (1132, .ifCond .ne 15, 3)) dls_ok_16 (i := 2) rfl
theorem dL_law_1135 : decode cL_law 1135 = .ok (.aload_n 3, 1) := dls_at (q := (1135, .aload_n 3, 1)) dls_ok_16 (i := 3) rfl
theorem dL_law_1136 : decode cL_law 1136 = .ok (.iconst 0, 1) := dls_at (q := (1136, .iconst 0, 1)) dls_ok_16 (i := 4) rfl
theorem dL_law_1137 : decode cL_law 1137 = .ok (.laload, 1) := dls_at (q := (1137, .laload, 1)) dls_ok_16 (i := 5) rfl
theorem dL_law_1138 : decode cL_law 1138 = .ok (.iload 6, 2) := dls_at (q := (1138, .iload 6, 2)) dls_ok_16 (i := 6) rfl
theorem dL_law_1140 : decode cL_law 1140 = .ok (.i2l, 1) := dls_at (q := (1140, .i2l, 1)) dls_ok_16 (i := 7) rfl
theorem dL_law_1141 : decode cL_law 1141 = .ok (.lcmp, 1) := dls_at (q := (1141, .lcmp, 1)) dls_ok_16 (i := 8) rfl
theorem dL_law_1142 : decode cL_law 1142 = .ok (.ifCond .eq 5, 3) := dls_at (q := (1142, .ifCond .eq 5, 3)) dls_ok_16 (i := 9) rfl
theorem dL_law_1145 : decode cL_law 1145 = .ok (.iconst 0, 1) := dls_at (q := (1145, .iconst 0, 1)) dls_ok_16 (i := 10) rfl
theorem dL_law_1146 : decode cL_law 1146 = .ok (.ireturn, 1) := dls_at (q := (1146, .ireturn, 1)) dls_ok_16 (i := 11) rfl
theorem dL_law_1147 : decode cL_law 1147 = .ok (.goto 499, 3) := dls_at (q := (1147, .goto 499, 3)) dls_ok_16 (i := 12) rfl
theorem dL_law_1150 : decode cL_law 1150 = .ok (.aload_n 1, 1) := dls_at (q := (1150, .aload_n 1, 1)) dls_ok_16 (i := 13) rfl
theorem dL_law_1151 : decode cL_law 1151 = .ok (.aload_n 0, 1) := dls_at (q := (1151, .aload_n 0, 1)) dls_ok_16 (i := 14) rfl
theorem dL_law_1152 : decode cL_law 1152 = .ok (.iload 4, 2) := dls_at (q := (1152, .iload 4, 2)) dls_ok_16 (i := 15) rfl
theorem dL_law_1154 : decode cL_law 1154 = .ok (.iconst 1, 1) := dls_at (q := (1154, .iconst 1, 1)) dls_ok_16 (i := 16) rfl
theorem dL_law_1155 : decode cL_law 1155 = .ok (.iadd, 1) := dls_at (q := (1155, .iadd, 1)) dls_ok_16 (i := 17) rfl
theorem dL_law_1156 : decode cL_law 1156 = .ok (.iaload, 1) := dls_at (q := (1156, .iaload, 1)) dls_ok_16 (i := 18) rfl
theorem dL_law_1157 : decode cL_law 1157 = .ok (.aload_n 0, 1) := dls_at (q := (1157, .aload_n 0, 1)) dls_ok_16 (i := 19) rfl
theorem dL_law_1158 : decode cL_law 1158 = .ok (.iload 4, 2) := dls_at (q := (1158, .iload 4, 2)) dls_ok_16 (i := 20) rfl
theorem dL_law_1160 : decode cL_law 1160 = .ok (.iconst 2, 1) := dls_at (q := (1160, .iconst 2, 1)) dls_ok_16 (i := 21) rfl
theorem dL_law_1161 : decode cL_law 1161 = .ok (.iadd, 1) := dls_at (q := (1161, .iadd, 1)) dls_ok_16 (i := 22) rfl
theorem dL_law_1162 : decode cL_law 1162 = .ok (.iaload, 1) := dls_at (q := (1162, .iaload, 1)) dls_ok_16 (i := 23) rfl
theorem dL_law_1163 : decode cL_law 1163 = .ok (.aload_n 3, 1) := dls_at (q := (1163, .aload_n 3, 1)) dls_ok_16 (i := 24) rfl
theorem dL_law_1164 : decode cL_law 1164 = .ok (.invokestatic 157, 3) := dls_at (q := (1164, .invokestatic 157, 3)) dls_ok_16 (i := 25) rfl
theorem dL_law_1167 : decode cL_law 1167 = .ok (.istore 5, 2) := dls_at (q := (1167, .istore 5, 2)) dls_ok_16 (i := 26) rfl
theorem dL_law_1169 : decode cL_law 1169 = .ok (.aload_n 2, 1) := dls_at (q := (1169, .aload_n 2, 1)) dls_ok_16 (i := 27) rfl
theorem dL_law_1170 : decode cL_law 1170 = .ok (.aload_n 0, 1) := dls_at (q := (1170, .aload_n 0, 1)) dls_ok_16 (i := 28) rfl
theorem dL_law_1171 : decode cL_law 1171 = .ok (.iload 4, 2) := dls_at (q := (1171, .iload 4, 2)) dls_ok_16 (i := 29) rfl
theorem dL_law_1173 : decode cL_law 1173 = .ok (.iconst 1, 1) := dls_at (q := (1173, .iconst 1, 1)) dls_ok_16 (i := 30) rfl
theorem dL_law_1174 : decode cL_law 1174 = .ok (.iadd, 1) := dls_at (q := (1174, .iadd, 1)) dls_ok_16 (i := 31) rfl
theorem dL_law_1175 : decode cL_law 1175 = .ok (.iaload, 1) := dls_at (q := (1175, .iaload, 1)) dls_ok_16 (i := 32) rfl
theorem dL_law_1176 : decode cL_law 1176 = .ok (.aload_n 0, 1) := dls_at (q := (1176, .aload_n 0, 1)) dls_ok_16 (i := 33) rfl
theorem dL_law_1177 : decode cL_law 1177 = .ok (.iload 4, 2) := dls_at (q := (1177, .iload 4, 2)) dls_ok_16 (i := 34) rfl
theorem dL_law_1179 : decode cL_law 1179 = .ok (.iconst 2, 1) := dls_at (q := (1179, .iconst 2, 1)) dls_ok_16 (i := 35) rfl
theorem dL_law_1180 : decode cL_law 1180 = .ok (.iadd, 1) := dls_at (q := (1180, .iadd, 1)) dls_ok_16 (i := 36) rfl
theorem dL_law_1181 : decode cL_law 1181 = .ok (.iaload, 1) := dls_at (q := (1181, .iaload, 1)) dls_ok_16 (i := 37) rfl
theorem dL_law_1182 : decode cL_law 1182 = .ok (.invokevirtual 159, 3) := dls_at (q := (1182, .invokevirtual 159, 3)) dls_ok_16 (i := 38) rfl
theorem dL_law_1185 : decode cL_law 1185 = .ok (.lstore 6, 2) := dls_at (q := (1185, .lstore 6, 2)) dls_ok_16 (i := 39) rfl
def dls_17 : List (Nat × Instr × Nat) := [(1187, .aload_n 2, 1), (1188, .invokevirtual 99, 3), (1191, .iload 5, 2), (1193, .if_icmp .eq 5, 3), (1196, .iconst 0, 1), (1197, .ireturn, 1), (1198, .iload 5, 2), (1200, .ifCond .ne 14, 3), (1203, .aload_n 3, 1), (1204, .iconst 0, 1), (1205, .laload, 1), (1206, .lload 6, 2), (1208, .lcmp, 1), (1209, .ifCond .eq 5, 3), (1212, .iconst 0, 1), (1213, .ireturn, 1), (1214, .goto 432, 3), (1217, .aload_n 1, 1), (1218, .aload_n 0, 1), (1219, .iload 4, 2), (1221, .iconst 1, 1), (1222, .iadd, 1), (1223, .iaload, 1), (1224, .aload_n 0, 1), (1225, .iload 4, 2), (1227, .iconst 2, 1), (1228, .iadd, 1), (1229, .iaload, 1), (1230, .aload_n 3, 1), (1231, .invokestatic 160, 3), (1234, .istore 5, 2), (1236, .aload_n 2, 1), (1237, .aload_n 0, 1), (1238, .iload 4, 2), (1240, .iconst 1, 1), (1241, .iadd, 1), (1242, .iaload, 1), (1243, .aload_n 0, 1), (1244, .iload 4, 2), (1246, .iconst 2, 1)]
theorem dls_ok_17 : dls_17.all (fun q => decide (decode cL_law q.1 = .ok (q.2.1, q.2.2))) = true := by decide +kernel
theorem dL_law_1187 : decode cL_law 1187 = .ok (.aload_n 2, 1) := dls_at (q := (1187, .aload_n 2, 1)) dls_ok_17 (i := 0) rfl
theorem dL_law_1188 : decode cL_law 1188 = .ok (.invokevirtual 99, 3) := dls_at (q := (1188, .invokevirtual 99, 3)) dls_ok_17 (i := 1) rfl
theorem dL_law_1191 : decode cL_law 1191 = .ok (.iload 5, 2) := dls_at (q := (1191, .iload 5, 2)) dls_ok_17 (i := 2) rfl
theorem dL_law_1193 : decode cL_law 1193 = .ok (.if_icmp .eq 5, 3) := dls_at (q := (1193, .if_icmp .eq 5, 3)) dls_ok_17 (i := 3) rfl
theorem dL_law_1196 : decode cL_law 1196 = .ok (.iconst 0, 1) := dls_at (q := (1196, .iconst 0, 1)) dls_ok_17 (i := 4) rfl
theorem dL_law_1197 : decode cL_law 1197 = .ok (.ireturn, 1) := dls_at (q := (1197, .ireturn, 1)) dls_ok_17 (i := 5) rfl
theorem dL_law_1198 : decode cL_law 1198 = .ok (.iload 5, 2) := dls_at (q := (1198, .iload 5, 2)) dls_ok_17 (i := 6) rfl
theorem dL_law_1200 : decode cL_law 1200 = .ok (.ifCond .ne 14, 3) := dls_at (q := (1200, .ifCond .ne 14, 3)) dls_ok_17 (i := 7) rfl
theorem dL_law_1203 : decode cL_law 1203 = .ok (.aload_n 3, 1) := dls_at (q := (1203, .aload_n 3, 1)) dls_ok_17 (i := 8) rfl
theorem dL_law_1204 : decode cL_law 1204 = .ok (.iconst 0, 1) := dls_at (q := (1204, .iconst 0, 1)) dls_ok_17 (i := 9) rfl
theorem dL_law_1205 : decode cL_law 1205 = .ok (.laload, 1) := dls_at (q := (1205, .laload, 1)) dls_ok_17 (i := 10) rfl
theorem dL_law_1206 : decode cL_law 1206 = .ok (.lload 6, 2) := dls_at (q := (1206, .lload 6, 2)) dls_ok_17 (i := 11) rfl
theorem dL_law_1208 : decode cL_law 1208 = .ok (.lcmp, 1) := dls_at (q := (1208, .lcmp, 1)) dls_ok_17 (i := 12) rfl
theorem dL_law_1209 : decode cL_law 1209 = .ok (.ifCond .eq 5, 3) := dls_at (q := (1209, .ifCond .eq 5, 3)) dls_ok_17 (i := 13) rfl
theorem dL_law_1212 : decode cL_law 1212 = .ok (.iconst 0, 1) := dls_at (q := (1212, .iconst 0, 1)) dls_ok_17 (i := 14) rfl
theorem dL_law_1213 : decode cL_law 1213 = .ok (.ireturn, 1) := dls_at (q := (1213, .ireturn, 1)) dls_ok_17 (i := 15) rfl
theorem dL_law_1214 : decode cL_law 1214 = .ok (.goto 432, 3) := dls_at (q := (1214, .goto 432, 3)) dls_ok_17 (i := 16) rfl
theorem dL_law_1217 : decode cL_law 1217 = .ok (.aload_n 1, 1) := dls_at (q := (1217, .aload_n 1, 1)) dls_ok_17 (i := 17) rfl
theorem dL_law_1218 : decode cL_law 1218 = .ok (.aload_n 0, 1) := dls_at (q := (1218, .aload_n 0, 1)) dls_ok_17 (i := 18) rfl
theorem dL_law_1219 : decode cL_law 1219 = .ok (.iload 4, 2) := dls_at (q := (1219, .iload 4, 2)) dls_ok_17 (i := 19) rfl
theorem dL_law_1221 : decode cL_law 1221 = .ok (.iconst 1, 1) := dls_at (q := (1221, .iconst 1, 1)) dls_ok_17 (i := 20) rfl
theorem dL_law_1222 : decode cL_law 1222 = .ok (.iadd, 1) := dls_at (q := (1222, .iadd, 1)) dls_ok_17 (i := 21) rfl
theorem dL_law_1223 : decode cL_law 1223 = .ok (.iaload, 1) := dls_at (q := (1223, .iaload, 1)) dls_ok_17 (i := 22) rfl
theorem dL_law_1224 : decode cL_law 1224 = .ok (.aload_n 0, 1) := dls_at (q := (1224, .aload_n 0, 1)) dls_ok_17 (i := 23) rfl
theorem dL_law_1225 : decode cL_law 1225 = .ok (.iload 4, 2) := dls_at (q := (1225, .iload 4, 2)) dls_ok_17 (i := 24) rfl
theorem dL_law_1227 : decode cL_law 1227 = .ok (.iconst 2, 1) := dls_at (q := (1227, .iconst 2, 1)) dls_ok_17 (i := 25) rfl
theorem dL_law_1228 : decode cL_law 1228 = .ok (.iadd, 1) := dls_at (q := (1228, .iadd, 1)) dls_ok_17 (i := 26) rfl
theorem dL_law_1229 : decode cL_law 1229 = .ok (.iaload, 1) := dls_at (q := (1229, .iaload, 1)) dls_ok_17 (i := 27) rfl
theorem dL_law_1230 : decode cL_law 1230 = .ok (.aload_n 3, 1) := dls_at (q := (1230, .aload_n 3, 1)) dls_ok_17 (i := 28) rfl
theorem dL_law_1231 : decode cL_law 1231 = .ok (.invokestatic 160, 3) := dls_at (q := (1231, .invokestatic 160, 3)) dls_ok_17 (i := 29) rfl
theorem dL_law_1234 : decode cL_law 1234 = .ok (.istore 5, 2) := dls_at (q := (1234, .istore 5, 2)) dls_ok_17 (i := 30) rfl
theorem dL_law_1236 : decode cL_law 1236 = .ok (.aload_n 2, 1) := dls_at (q := (1236, .aload_n 2, 1)) dls_ok_17 (i := 31) rfl
theorem dL_law_1237 : decode cL_law 1237 = .ok (.aload_n 0, 1) := dls_at (q := (1237, .aload_n 0, 1)) dls_ok_17 (i := 32) rfl
theorem dL_law_1238 : decode cL_law 1238 = .ok (.iload 4, 2) := dls_at (q := (1238, .iload 4, 2)) dls_ok_17 (i := 33) rfl
theorem dL_law_1240 : decode cL_law 1240 = .ok (.iconst 1, 1) := dls_at (q := (1240, .iconst 1, 1)) dls_ok_17 (i := 34) rfl
theorem dL_law_1241 : decode cL_law 1241 = .ok (.iadd, 1) := dls_at (q := (1241, .iadd, 1)) dls_ok_17 (i := 35) rfl
theorem dL_law_1242 : decode cL_law 1242 = .ok (.iaload, 1) := dls_at (q := (1242, .iaload, 1)) dls_ok_17 (i := 36) rfl
theorem dL_law_1243 : decode cL_law 1243 = .ok (.aload_n 0, 1) := dls_at (q := (1243, .aload_n 0, 1)) dls_ok_17 (i := 37) rfl
theorem dL_law_1244 : decode cL_law 1244 = .ok (.iload 4, 2) := dls_at (q := (1244, .iload 4, 2)) dls_ok_17 (i := 38) rfl
theorem dL_law_1246 : decode cL_law 1246 = .ok (.iconst 2, 1) := dls_at (q := (1246, .iconst 2, 1)) dls_ok_17 (i := 39) rfl
def dls_18 : List (Nat × Instr × Nat) := [(1247, .iadd, 1), (1248, .iaload, 1), (1249, .invokevirtual 162, 3), (1252, .istore 6, 2), (1254, .aload_n 2, 1), (1255, .invokevirtual 99, 3), (1258, .iload 5, 2), (1260, .if_icmp .eq 5, 3), (1263, .iconst 0, 1), (1264, .ireturn, 1), (1265, .iload 5, 2), (1267, .ifCond .ne 15, 3), (1270, .aload_n 3, 1), (1271, .iconst 0, 1), (1272, .laload, 1), (1273, .iload 6, 2), (1275, .i2l, 1), (1276, .lcmp, 1), (1277, .ifCond .eq 5, 3), (1280, .iconst 0, 1), (1281, .ireturn, 1), (1282, .goto 364, 3), (1285, .aload_n 1, 1), (1286, .aload_n 0, 1), (1287, .iload 4, 2), (1289, .iconst 1, 1), (1290, .iadd, 1), (1291, .iaload, 1), (1292, .aload_n 0, 1), (1293, .iload 4, 2), (1295, .iconst 2, 1), (1296, .iadd, 1), (1297, .iaload, 1), (1298, .aload_n 3, 1), (1299, .invokestatic 163, 3), (1302, .istore 5, 2), (1304, .aload_n 2, 1), (1305, .aload_n 0, 1), (1306, .iload 4, 2), (1308, .iconst 1, 1)]
theorem dls_ok_18 : dls_18.all (fun q => decide (decode cL_law q.1 = .ok (q.2.1, q.2.2))) = true := by decide +kernel
theorem dL_law_1247 : decode cL_law 1247 = .ok (.iadd, 1) := dls_at (q := (1247, .iadd, 1)) dls_ok_18 (i := 0) rfl
theorem dL_law_1248 : decode cL_law 1248 = .ok (.iaload, 1) := dls_at (q := (1248, .iaload, 1)) dls_ok_18 (i := 1) rfl
theorem dL_law_1249 : decode cL_law 1249 = .ok (.invokevirtual 162, 3) := dls_at (q := (1249, .invokevirtual 162, 3)) dls_ok_18 (i := 2) rfl
theorem dL_law_1252 : decode cL_law 1252 = .ok (.istore 6, 2) := dls_at (q := (1252, .istore 6, 2)) dls_ok_18 (i := 3) rfl
theorem dL_law_1254 : decode cL_law 1254 = .ok (.aload_n 2, 1) := dls_at (q := (1254, .aload_n 2, 1)) dls_ok_18 (i := 4) rfl
theorem dL_law_1255 : decode cL_law 1255 = .ok (.invokevirtual 99, 3) := dls_at (q := (1255, .invokevirtual 99, 3)) dls_ok_18 (i := 5) rfl
theorem dL_law_1258 : decode cL_law 1258 = .ok (.iload 5, 2) := dls_at (q := (1258, .iload 5, 2)) dls_ok_18 (i := 6) rfl
theorem dL_law_1260 : decode cL_law 1260 = .ok (.if_icmp .eq 5, 3) := dls_at (q := (1260, .if_icmp .eq 5, 3)) dls_ok_18 (i := 7) rfl
theorem dL_law_1263 : decode cL_law 1263 = .ok (.iconst 0, 1) := dls_at (q := (1263, .iconst 0, 1)) dls_ok_18 (i := 8) rfl
theorem dL_law_1264 : decode cL_law 1264 = .ok (.ireturn, 1) := dls_at (q := (1264, .ireturn, 1)) dls_ok_18 (i := 9) rfl
theorem dL_law_1265 : decode cL_law 1265 = .ok (.iload 5, 2) := dls_at (q := (1265, .iload 5, 2)) dls_ok_18 (i := 10) rfl
theorem dL_law_1267 : decode cL_law 1267 = .ok (.ifCond .ne 15, 3) := dls_at (q := (1267, .ifCond .ne 15, 3)) dls_ok_18 (i := 11) rfl
theorem dL_law_1270 : decode cL_law 1270 = .ok (.aload_n 3, 1) := dls_at (q := (1270, .aload_n 3, 1)) dls_ok_18 (i := 12) rfl
theorem dL_law_1271 : decode cL_law 1271 = .ok (.iconst 0, 1) := dls_at (q := (1271, .iconst 0, 1)) dls_ok_18 (i := 13) rfl
theorem dL_law_1272 : decode cL_law 1272 = .ok (.laload, 1) := dls_at (q := (1272, .laload, 1)) dls_ok_18 (i := 14) rfl
theorem dL_law_1273 : decode cL_law 1273 = .ok (.iload 6, 2) := dls_at (q := (1273, .iload 6, 2)) dls_ok_18 (i := 15) rfl
theorem dL_law_1275 : decode cL_law 1275 = .ok (.i2l, 1) := dls_at (q := (1275, .i2l, 1)) dls_ok_18 (i := 16) rfl
theorem dL_law_1276 : decode cL_law 1276 = .ok (.lcmp, 1) := dls_at (q := (1276, .lcmp, 1)) dls_ok_18 (i := 17) rfl
theorem dL_law_1277 : decode cL_law 1277 = .ok (.ifCond .eq 5, 3) := dls_at (q := (1277, .ifCond .eq 5, 3)) dls_ok_18 (i := 18) rfl
theorem dL_law_1280 : decode cL_law 1280 = .ok (.iconst 0, 1) := dls_at (q := (1280, .iconst 0, 1)) dls_ok_18 (i := 19) rfl
theorem dL_law_1281 : decode cL_law 1281 = .ok (.ireturn, 1) := dls_at (q := (1281, .ireturn, 1)) dls_ok_18 (i := 20) rfl
theorem dL_law_1282 : decode cL_law 1282 = .ok (.goto 364, 3) := dls_at (q := (1282, .goto 364, 3)) dls_ok_18 (i := 21) rfl
theorem dL_law_1285 : decode cL_law 1285 = .ok (.aload_n 1, 1) := dls_at (q := (1285, .aload_n 1, 1)) dls_ok_18 (i := 22) rfl
theorem dL_law_1286 : decode cL_law 1286 = .ok (.aload_n 0, 1) := dls_at (q := (1286, .aload_n 0, 1)) dls_ok_18 (i := 23) rfl
theorem dL_law_1287 : decode cL_law 1287 = .ok (.iload 4, 2) := dls_at (q := (1287, .iload 4, 2)) dls_ok_18 (i := 24) rfl
theorem dL_law_1289 : decode cL_law 1289 = .ok (.iconst 1, 1) := dls_at (q := (1289, .iconst 1, 1)) dls_ok_18 (i := 25) rfl
theorem dL_law_1290 : decode cL_law 1290 = .ok (.iadd, 1) := dls_at (q := (1290, .iadd, 1)) dls_ok_18 (i := 26) rfl
theorem dL_law_1291 : decode cL_law 1291 = .ok (.iaload, 1) := dls_at (q := (1291, .iaload, 1)) dls_ok_18 (i := 27) rfl
theorem dL_law_1292 : decode cL_law 1292 = .ok (.aload_n 0, 1) := dls_at (q := (1292, .aload_n 0, 1)) dls_ok_18 (i := 28) rfl
theorem dL_law_1293 : decode cL_law 1293 = .ok (.iload 4, 2) := dls_at (q := (1293, .iload 4, 2)) dls_ok_18 (i := 29) rfl
theorem dL_law_1295 : decode cL_law 1295 = .ok (.iconst 2, 1) := dls_at (q := (1295, .iconst 2, 1)) dls_ok_18 (i := 30) rfl
theorem dL_law_1296 : decode cL_law 1296 = .ok (.iadd, 1) := dls_at (q := (1296, .iadd, 1)) dls_ok_18 (i := 31) rfl
theorem dL_law_1297 : decode cL_law 1297 = .ok (.iaload, 1) := dls_at (q := (1297, .iaload, 1)) dls_ok_18 (i := 32) rfl
theorem dL_law_1298 : decode cL_law 1298 = .ok (.aload_n 3, 1) := dls_at (q := (1298, .aload_n 3, 1)) dls_ok_18 (i := 33) rfl
theorem dL_law_1299 : decode cL_law 1299 = .ok (.invokestatic 163, 3) := dls_at (q := (1299, .invokestatic 163, 3)) dls_ok_18 (i := 34) rfl
theorem dL_law_1302 : decode cL_law 1302 = .ok (.istore 5, 2) := dls_at (q := (1302, .istore 5, 2)) dls_ok_18 (i := 35) rfl
theorem dL_law_1304 : decode cL_law 1304 = .ok (.aload_n 2, 1) := dls_at (q := (1304, .aload_n 2, 1)) dls_ok_18 (i := 36) rfl
theorem dL_law_1305 : decode cL_law 1305 = .ok (.aload_n 0, 1) := dls_at (q := (1305, .aload_n 0, 1)) dls_ok_18 (i := 37) rfl
theorem dL_law_1306 : decode cL_law 1306 = .ok (.iload 4, 2) := dls_at (q := (1306, .iload 4, 2)) dls_ok_18 (i := 38) rfl
theorem dL_law_1308 : decode cL_law 1308 = .ok (.iconst 1, 1) := dls_at (q := (1308, .iconst 1, 1)) dls_ok_18 (i := 39) rfl
def dls_19 : List (Nat × Instr × Nat) := [(1309, .iadd, 1), (1310, .iaload, 1), (1311, .aload_n 0, 1), (1312, .iload 4, 2), (1314, .iconst 2, 1), (1315, .iadd, 1), (1316, .iaload, 1), (1317, .invokevirtual 165, 3), (1320, .istore 6, 2), (1322, .aload_n 2, 1), (1323, .invokevirtual 99, 3), (1326, .iload 5, 2), (1328, .if_icmp .eq 5, 3), (1331, .iconst 0, 1), (1332, .ireturn, 1), (1333, .iload 5, 2), (1335, .ifCond .ne 15, 3), (1338, .aload_n 3, 1), (1339, .iconst 0, 1), (1340, .laload, 1), (1341, .iload 6, 2), (1343, .i2l, 1), (1344, .lcmp, 1), (1345, .ifCond .eq 5, 3), (1348, .iconst 0, 1), (1349, .ireturn, 1), (1350, .goto 296, 3), (1353, .aload_n 1, 1), (1354, .aload_n 0, 1), (1355, .iload 4, 2), (1357, .iconst 1, 1), (1358, .iadd, 1), (1359, .iaload, 1), (1360, .ifCond .eq 7, 3), (1363, .iconst 1, 1), (1364, .goto 4, 3), (1367, .iconst 0, 1), (1368, .aload_n 3, 1), (1369, .invokestatic 166, 3), (1372, .istore 5, 2)]
theorem dls_ok_19 : dls_19.all (fun q => decide (decode cL_law q.1 = .ok (q.2.1, q.2.2))) = true := by decide +kernel
theorem dL_law_1309 : decode cL_law 1309 = .ok (.iadd, 1) := dls_at (q := (1309, .iadd, 1)) dls_ok_19 (i := 0) rfl
theorem dL_law_1310 : decode cL_law 1310 = .ok (.iaload, 1) := dls_at (q := (1310, .iaload, 1)) dls_ok_19 (i := 1) rfl
theorem dL_law_1311 : decode cL_law 1311 = .ok (.aload_n 0, 1) := dls_at (q := (1311, .aload_n 0, 1)) dls_ok_19 (i := 2) rfl
theorem dL_law_1312 : decode cL_law 1312 = .ok (.iload 4, 2) := dls_at (q := (1312, .iload 4, 2)) dls_ok_19 (i := 3) rfl
theorem dL_law_1314 : decode cL_law 1314 = .ok (.iconst 2, 1) := dls_at (q := (1314, .iconst 2, 1)) dls_ok_19 (i := 4) rfl
theorem dL_law_1315 : decode cL_law 1315 = .ok (.iadd, 1) := dls_at (q := (1315, .iadd, 1)) dls_ok_19 (i := 5) rfl
theorem dL_law_1316 : decode cL_law 1316 = .ok (.iaload, 1) := dls_at (q := (1316, .iaload, 1)) dls_ok_19 (i := 6) rfl
theorem dL_law_1317 : decode cL_law 1317 = .ok (.invokevirtual 165, 3) := dls_at (q := (1317, .invokevirtual 165, 3)) dls_ok_19 (i := 7) rfl
theorem dL_law_1320 : decode cL_law 1320 = .ok (.istore 6, 2) := dls_at (q := (1320, .istore 6, 2)) dls_ok_19 (i := 8) rfl
theorem dL_law_1322 : decode cL_law 1322 = .ok (.aload_n 2, 1) := dls_at (q := (1322, .aload_n 2, 1)) dls_ok_19 (i := 9) rfl
theorem dL_law_1323 : decode cL_law 1323 = .ok (.invokevirtual 99, 3) := dls_at (q := (1323, .invokevirtual 99, 3)) dls_ok_19 (i := 10) rfl
theorem dL_law_1326 : decode cL_law 1326 = .ok (.iload 5, 2) := dls_at (q := (1326, .iload 5, 2)) dls_ok_19 (i := 11) rfl
theorem dL_law_1328 : decode cL_law 1328 = .ok (.if_icmp .eq 5, 3) := dls_at (q := (1328, .if_icmp .eq 5, 3)) dls_ok_19 (i := 12) rfl
theorem dL_law_1331 : decode cL_law 1331 = .ok (.iconst 0, 1) := dls_at (q := (1331, .iconst 0, 1)) dls_ok_19 (i := 13) rfl
theorem dL_law_1332 : decode cL_law 1332 = .ok (.ireturn, 1) := dls_at (q := (1332, .ireturn, 1)) dls_ok_19 (i := 14) rfl
theorem dL_law_1333 : decode cL_law 1333 = .ok (.iload 5, 2) := dls_at (q := (1333, .iload 5, 2)) dls_ok_19 (i := 15) rfl
theorem dL_law_1335 : decode cL_law 1335 = .ok (.ifCond .ne 15, 3) := dls_at (q := (1335, .ifCond .ne 15, 3)) dls_ok_19 (i := 16) rfl
theorem dL_law_1338 : decode cL_law 1338 = .ok (.aload_n 3, 1) := dls_at (q := (1338, .aload_n 3, 1)) dls_ok_19 (i := 17) rfl
theorem dL_law_1339 : decode cL_law 1339 = .ok (.iconst 0, 1) := dls_at (q := (1339, .iconst 0, 1)) dls_ok_19 (i := 18) rfl
theorem dL_law_1340 : decode cL_law 1340 = .ok (.laload, 1) := dls_at (q := (1340, .laload, 1)) dls_ok_19 (i := 19) rfl
theorem dL_law_1341 : decode cL_law 1341 = .ok (.iload 6, 2) := dls_at (q := (1341, .iload 6, 2)) dls_ok_19 (i := 20) rfl
theorem dL_law_1343 : decode cL_law 1343 = .ok (.i2l, 1) := dls_at (q := (1343, .i2l, 1)) dls_ok_19 (i := 21) rfl
theorem dL_law_1344 : decode cL_law 1344 = .ok (.lcmp, 1) := dls_at (q := (1344, .lcmp, 1)) dls_ok_19 (i := 22) rfl
theorem dL_law_1345 : decode cL_law 1345 = .ok (.ifCond .eq 5, 3) := dls_at (q := (1345, .ifCond .eq 5, 3)) dls_ok_19 (i := 23) rfl
theorem dL_law_1348 : decode cL_law 1348 = .ok (.iconst 0, 1) := dls_at (q := (1348, .iconst 0, 1)) dls_ok_19 (i := 24) rfl
theorem dL_law_1349 : decode cL_law 1349 = .ok (.ireturn, 1) := dls_at (q := (1349, .ireturn, 1)) dls_ok_19 (i := 25) rfl
theorem dL_law_1350 : decode cL_law 1350 = .ok (.goto 296, 3) := dls_at (q := (1350, .goto 296, 3)) dls_ok_19 (i := 26) rfl
theorem dL_law_1353 : decode cL_law 1353 = .ok (.aload_n 1, 1) := dls_at (q := (1353, .aload_n 1, 1)) dls_ok_19 (i := 27) rfl
theorem dL_law_1354 : decode cL_law 1354 = .ok (.aload_n 0, 1) := dls_at (q := (1354, .aload_n 0, 1)) dls_ok_19 (i := 28) rfl
theorem dL_law_1355 : decode cL_law 1355 = .ok (.iload 4, 2) := dls_at (q := (1355, .iload 4, 2)) dls_ok_19 (i := 29) rfl
theorem dL_law_1357 : decode cL_law 1357 = .ok (.iconst 1, 1) := dls_at (q := (1357, .iconst 1, 1)) dls_ok_19 (i := 30) rfl
theorem dL_law_1358 : decode cL_law 1358 = .ok (.iadd, 1) := dls_at (q := (1358, .iadd, 1)) dls_ok_19 (i := 31) rfl
theorem dL_law_1359 : decode cL_law 1359 = .ok (.iaload, 1) := dls_at (q := (1359, .iaload, 1)) dls_ok_19 (i := 32) rfl
theorem dL_law_1360 : decode cL_law 1360 = .ok (.ifCond .eq 7, 3) := dls_at (q := (1360, .ifCond .eq 7, 3)) dls_ok_19 (i := 33) rfl
theorem dL_law_1363 : decode cL_law 1363 = .ok (.iconst 1, 1) := dls_at (q := (1363, .iconst 1, 1)) dls_ok_19 (i := 34) rfl
theorem dL_law_1364 : decode cL_law 1364 = .ok (.goto 4, 3) := dls_at (q := (1364, .goto 4, 3)) dls_ok_19 (i := 35) rfl
theorem dL_law_1367 : decode cL_law 1367 = .ok (.iconst 0, 1) := dls_at (q := (1367, .iconst 0, 1)) dls_ok_19 (i := 36) rfl
theorem dL_law_1368 : decode cL_law 1368 = .ok (.aload_n 3, 1) := dls_at (q := (1368, .aload_n 3, 1)) dls_ok_19 (i := 37) rfl
theorem dL_law_1369 : decode cL_law 1369 = .ok (.invokestatic 166, 3) := dls_at (q := (1369, .invokestatic 166, 3)) dls_ok_19 (i := 38) rfl
theorem dL_law_1372 : decode cL_law 1372 = .ok (.istore 5, 2) := dls_at (q := (1372, .istore 5, 2)) dls_ok_19 (i := 39) rfl
def dls_20 : List (Nat × Instr × Nat) := [(1374, .aload_n 2, 1), (1375, .aload_n 0, 1), (1376, .iload 4, 2), (1378, .iconst 1, 1), (1379, .iadd, 1), (1380, .iaload, 1), (1381, .ifCond .eq 7, 3), (1384, .iconst 1, 1), (1385, .goto 4, 3), (1388, .iconst 0, 1), (1389, .invokevirtual 169, 3), (1392, .istore 6, 2), (1394, .aload_n 2, 1), (1395, .invokevirtual 99, 3), (1398, .iload 5, 2), (1400, .if_icmp .eq 5, 3), (1403, .iconst 0, 1), (1404, .ireturn, 1), (1405, .iload 5, 2), (1407, .ifCond .ne 15, 3), (1410, .aload_n 3, 1), (1411, .iconst 0, 1), (1412, .laload, 1), (1413, .iload 6, 2), (1415, .i2l, 1), (1416, .lcmp, 1), (1417, .ifCond .eq 5, 3), (1420, .iconst 0, 1), (1421, .ireturn, 1), (1422, .goto 224, 3), (1425, .aload_n 1, 1), (1426, .aload_n 0, 1), (1427, .iload 4, 2), (1429, .iconst 1, 1), (1430, .iadd, 1), (1431, .iaload, 1), (1432, .aload_n 3, 1), (1433, .invokestatic 170, 3), (1436, .istore 5, 2), (1438, .aload_n 2, 1)]
theorem dls_ok_20 : dls_20.all (fun q => decide (decode cL_law q.1 = .ok (q.2.1, q.2.2))) = true := by decide +kernel
theorem dL_law_1374 : decode cL_law 1374 = .ok (.aload_n 2, 1) := dls_at (q := (1374, .aload_n 2, 1)) dls_ok_20 (i := 0) rfl
theorem dL_law_1375 : decode cL_law 1375 = .ok (.aload_n 0, 1) := dls_at (q := (1375, .aload_n 0, 1)) dls_ok_20 (i := 1) rfl
theorem dL_law_1376 : decode cL_law 1376 = .ok (.iload 4, 2) := dls_at (q := (1376, .iload 4, 2)) dls_ok_20 (i := 2) rfl
theorem dL_law_1378 : decode cL_law 1378 = .ok (.iconst 1, 1) := dls_at (q := (1378, .iconst 1, 1)) dls_ok_20 (i := 3) rfl
theorem dL_law_1379 : decode cL_law 1379 = .ok (.iadd, 1) := dls_at (q := (1379, .iadd, 1)) dls_ok_20 (i := 4) rfl
theorem dL_law_1380 : decode cL_law 1380 = .ok (.iaload, 1) := dls_at (q := (1380, .iaload, 1)) dls_ok_20 (i := 5) rfl
theorem dL_law_1381 : decode cL_law 1381 = .ok (.ifCond .eq 7, 3) := dls_at (q := (1381, .ifCond .eq 7, 3)) dls_ok_20 (i := 6) rfl
theorem dL_law_1384 : decode cL_law 1384 = .ok (.iconst 1, 1) := dls_at (q := (1384, .iconst 1, 1)) dls_ok_20 (i := 7) rfl
theorem dL_law_1385 : decode cL_law 1385 = .ok (.goto 4, 3) := dls_at (q := (1385, .goto 4, 3)) dls_ok_20 (i := 8) rfl
theorem dL_law_1388 : decode cL_law 1388 = .ok (.iconst 0, 1) := dls_at (q := (1388, .iconst 0, 1)) dls_ok_20 (i := 9) rfl
theorem dL_law_1389 : decode cL_law 1389 = .ok (.invokevirtual 169, 3) := dls_at (q := (1389, .invokevirtual 169, 3)) dls_ok_20 (i := 10) rfl
theorem dL_law_1392 : decode cL_law 1392 = .ok (.istore 6, 2) := dls_at (q := (1392, .istore 6, 2)) dls_ok_20 (i := 11) rfl
theorem dL_law_1394 : decode cL_law 1394 = .ok (.aload_n 2, 1) := dls_at (q := (1394, .aload_n 2, 1)) dls_ok_20 (i := 12) rfl
theorem dL_law_1395 : decode cL_law 1395 = .ok (.invokevirtual 99, 3) := dls_at (q := (1395, .invokevirtual 99, 3)) dls_ok_20 (i := 13) rfl
theorem dL_law_1398 : decode cL_law 1398 = .ok (.iload 5, 2) := dls_at (q := (1398, .iload 5, 2)) dls_ok_20 (i := 14) rfl
theorem dL_law_1400 : decode cL_law 1400 = .ok (.if_icmp .eq 5, 3) := dls_at (q := (1400, .if_icmp .eq 5, 3)) dls_ok_20 (i := 15) rfl
theorem dL_law_1403 : decode cL_law 1403 = .ok (.iconst 0, 1) := dls_at (q := (1403, .iconst 0, 1)) dls_ok_20 (i := 16) rfl
theorem dL_law_1404 : decode cL_law 1404 = .ok (.ireturn, 1) := dls_at (q := (1404, .ireturn, 1)) dls_ok_20 (i := 17) rfl
theorem dL_law_1405 : decode cL_law 1405 = .ok (.iload 5, 2) := dls_at (q := (1405, .iload 5, 2)) dls_ok_20 (i := 18) rfl
theorem dL_law_1407 : decode cL_law 1407 = .ok (.ifCond .ne 15, 3) := dls_at (q := (1407, .ifCond .ne 15, 3)) dls_ok_20 (i := 19) rfl
theorem dL_law_1410 : decode cL_law 1410 = .ok (.aload_n 3, 1) := dls_at (q := (1410, .aload_n 3, 1)) dls_ok_20 (i := 20) rfl
theorem dL_law_1411 : decode cL_law 1411 = .ok (.iconst 0, 1) := dls_at (q := (1411, .iconst 0, 1)) dls_ok_20 (i := 21) rfl
theorem dL_law_1412 : decode cL_law 1412 = .ok (.laload, 1) := dls_at (q := (1412, .laload, 1)) dls_ok_20 (i := 22) rfl
theorem dL_law_1413 : decode cL_law 1413 = .ok (.iload 6, 2) := dls_at (q := (1413, .iload 6, 2)) dls_ok_20 (i := 23) rfl
theorem dL_law_1415 : decode cL_law 1415 = .ok (.i2l, 1) := dls_at (q := (1415, .i2l, 1)) dls_ok_20 (i := 24) rfl
theorem dL_law_1416 : decode cL_law 1416 = .ok (.lcmp, 1) := dls_at (q := (1416, .lcmp, 1)) dls_ok_20 (i := 25) rfl
theorem dL_law_1417 : decode cL_law 1417 = .ok (.ifCond .eq 5, 3) := dls_at (q := (1417, .ifCond .eq 5, 3)) dls_ok_20 (i := 26) rfl
theorem dL_law_1420 : decode cL_law 1420 = .ok (.iconst 0, 1) := dls_at (q := (1420, .iconst 0, 1)) dls_ok_20 (i := 27) rfl
theorem dL_law_1421 : decode cL_law 1421 = .ok (.ireturn, 1) := dls_at (q := (1421, .ireturn, 1)) dls_ok_20 (i := 28) rfl
theorem dL_law_1422 : decode cL_law 1422 = .ok (.goto 224, 3) := dls_at (q := (1422, .goto 224, 3)) dls_ok_20 (i := 29) rfl
theorem dL_law_1425 : decode cL_law 1425 = .ok (.aload_n 1, 1) := dls_at (q := (1425, .aload_n 1, 1)) dls_ok_20 (i := 30) rfl
theorem dL_law_1426 : decode cL_law 1426 = .ok (.aload_n 0, 1) := dls_at (q := (1426, .aload_n 0, 1)) dls_ok_20 (i := 31) rfl
theorem dL_law_1427 : decode cL_law 1427 = .ok (.iload 4, 2) := dls_at (q := (1427, .iload 4, 2)) dls_ok_20 (i := 32) rfl
theorem dL_law_1429 : decode cL_law 1429 = .ok (.iconst 1, 1) := dls_at (q := (1429, .iconst 1, 1)) dls_ok_20 (i := 33) rfl
theorem dL_law_1430 : decode cL_law 1430 = .ok (.iadd, 1) := dls_at (q := (1430, .iadd, 1)) dls_ok_20 (i := 34) rfl
theorem dL_law_1431 : decode cL_law 1431 = .ok (.iaload, 1) := dls_at (q := (1431, .iaload, 1)) dls_ok_20 (i := 35) rfl
theorem dL_law_1432 : decode cL_law 1432 = .ok (.aload_n 3, 1) := dls_at (q := (1432, .aload_n 3, 1)) dls_ok_20 (i := 36) rfl
theorem dL_law_1433 : decode cL_law 1433 = .ok (.invokestatic 170, 3) := dls_at (q := (1433, .invokestatic 170, 3)) dls_ok_20 (i := 37) rfl
theorem dL_law_1436 : decode cL_law 1436 = .ok (.istore 5, 2) := dls_at (q := (1436, .istore 5, 2)) dls_ok_20 (i := 38) rfl
theorem dL_law_1438 : decode cL_law 1438 = .ok (.aload_n 2, 1) := dls_at (q := (1438, .aload_n 2, 1)) dls_ok_20 (i := 39) rfl
def dls_21 : List (Nat × Instr × Nat) := [(1439, .aload_n 0, 1), (1440, .iload 4, 2), (1442, .iconst 1, 1), (1443, .iadd, 1), (1444, .iaload, 1), (1445, .invokevirtual 172, 3), (1448, .istore 6, 2), (1450, .aload_n 2, 1), (1451, .invokevirtual 99, 3), (1454, .iload 5, 2), (1456, .if_icmp .eq 5, 3), (1459, .iconst 0, 1), (1460, .ireturn, 1), (1461, .iload 5, 2), (1463, .ifCond .ne 15, 3), (1466, .aload_n 3, 1), (1467, .iconst 0, 1), (1468, .laload, 1), (1469, .iload 6, 2), (1471, .i2l, 1), (1472, .lcmp, 1), (1473, .ifCond .eq 5, 3), (1476, .iconst 0, 1), (1477, .ireturn, 1), (1478, .goto 168, 3), (1481, .aload_n 1, 1), (1482, .aload_n 0, 1), (1483, .iload 4, 2), (1485, .iconst 1, 1), (1486, .iadd, 1), (1487, .iaload, 1), (1488, .i2b, 1), (1489, .invokevirtual 173, 3), (1492, .aload_n 2, 1), (1493, .aload_n 0, 1), (1494, .iload 4, 2), (1496, .iconst 1, 1), (1497, .iadd, 1), (1498, .iaload, 1), (1499, .i2b, 1)]
theorem dls_ok_21 : dls_21.all (fun q => decide (decode cL_law q.1 = .ok (q.2.1, q.2.2))) = true := by decide +kernel
theorem dL_law_1439 : decode cL_law 1439 = .ok (.aload_n 0, 1) := dls_at (q := (1439, .aload_n 0, 1)) dls_ok_21 (i := 0) rfl
theorem dL_law_1440 : decode cL_law 1440 = .ok (.iload 4, 2) := dls_at (q := (1440, .iload 4, 2)) dls_ok_21 (i := 1) rfl
theorem dL_law_1442 : decode cL_law 1442 = .ok (.iconst 1, 1) := dls_at (q := (1442, .iconst 1, 1)) dls_ok_21 (i := 2) rfl
theorem dL_law_1443 : decode cL_law 1443 = .ok (.iadd, 1) := dls_at (q := (1443, .iadd, 1)) dls_ok_21 (i := 3) rfl
theorem dL_law_1444 : decode cL_law 1444 = .ok (.iaload, 1) := dls_at (q := (1444, .iaload, 1)) dls_ok_21 (i := 4) rfl
theorem dL_law_1445 : decode cL_law 1445 = .ok (.invokevirtual 172, 3) := dls_at (q := (1445, .invokevirtual 172, 3)) dls_ok_21 (i := 5) rfl
theorem dL_law_1448 : decode cL_law 1448 = .ok (.istore 6, 2) := dls_at (q := (1448, .istore 6, 2)) dls_ok_21 (i := 6) rfl
theorem dL_law_1450 : decode cL_law 1450 = .ok (.aload_n 2, 1) := dls_at (q := (1450, .aload_n 2, 1)) dls_ok_21 (i := 7) rfl
theorem dL_law_1451 : decode cL_law 1451 = .ok (.invokevirtual 99, 3) := dls_at (q := (1451, .invokevirtual 99, 3)) dls_ok_21 (i := 8) rfl
theorem dL_law_1454 : decode cL_law 1454 = .ok (.iload 5, 2) := dls_at (q := (1454, .iload 5, 2)) dls_ok_21 (i := 9) rfl
theorem dL_law_1456 : decode cL_law 1456 = .ok (.if_icmp .eq 5, 3) := dls_at (q := (1456, .if_icmp .eq 5, 3)) dls_ok_21 (i := 10) rfl
theorem dL_law_1459 : decode cL_law 1459 = .ok (.iconst 0, 1) := dls_at (q := (1459, .iconst 0, 1)) dls_ok_21 (i := 11) rfl
theorem dL_law_1460 : decode cL_law 1460 = .ok (.ireturn, 1) := dls_at (q := (1460, .ireturn, 1)) dls_ok_21 (i := 12) rfl
theorem dL_law_1461 : decode cL_law 1461 = .ok (.iload 5, 2) := dls_at (q := (1461, .iload 5, 2)) dls_ok_21 (i := 13) rfl
theorem dL_law_1463 : decode cL_law 1463 = .ok (.ifCond .ne 15, 3) := dls_at (q := (1463, .ifCond .ne 15, 3)) dls_ok_21 (i := 14) rfl
theorem dL_law_1466 : decode cL_law 1466 = .ok (.aload_n 3, 1) := dls_at (q := (1466, .aload_n 3, 1)) dls_ok_21 (i := 15) rfl
theorem dL_law_1467 : decode cL_law 1467 = .ok (.iconst 0, 1) := dls_at (q := (1467, .iconst 0, 1)) dls_ok_21 (i := 16) rfl
theorem dL_law_1468 : decode cL_law 1468 = .ok (.laload, 1) := dls_at (q := (1468, .laload, 1)) dls_ok_21 (i := 17) rfl
theorem dL_law_1469 : decode cL_law 1469 = .ok (.iload 6, 2) := dls_at (q := (1469, .iload 6, 2)) dls_ok_21 (i := 18) rfl
theorem dL_law_1471 : decode cL_law 1471 = .ok (.i2l, 1) := dls_at (q := (1471, .i2l, 1)) dls_ok_21 (i := 19) rfl
theorem dL_law_1472 : decode cL_law 1472 = .ok (.lcmp, 1) := dls_at (q := (1472, .lcmp, 1)) dls_ok_21 (i := 20) rfl
theorem dL_law_1473 : decode cL_law 1473 = .ok (.ifCond .eq 5, 3) := dls_at (q := (1473, .ifCond .eq 5, 3)) dls_ok_21 (i := 21) rfl
theorem dL_law_1476 : decode cL_law 1476 = .ok (.iconst 0, 1) := dls_at (q := (1476, .iconst 0, 1)) dls_ok_21 (i := 22) rfl
theorem dL_law_1477 : decode cL_law 1477 = .ok (.ireturn, 1) := dls_at (q := (1477, .ireturn, 1)) dls_ok_21 (i := 23) rfl
theorem dL_law_1478 : decode cL_law 1478 = .ok (.goto 168, 3) := dls_at (q := (1478, .goto 168, 3)) dls_ok_21 (i := 24) rfl
theorem dL_law_1481 : decode cL_law 1481 = .ok (.aload_n 1, 1) := dls_at (q := (1481, .aload_n 1, 1)) dls_ok_21 (i := 25) rfl
theorem dL_law_1482 : decode cL_law 1482 = .ok (.aload_n 0, 1) := dls_at (q := (1482, .aload_n 0, 1)) dls_ok_21 (i := 26) rfl
theorem dL_law_1483 : decode cL_law 1483 = .ok (.iload 4, 2) := dls_at (q := (1483, .iload 4, 2)) dls_ok_21 (i := 27) rfl
theorem dL_law_1485 : decode cL_law 1485 = .ok (.iconst 1, 1) := dls_at (q := (1485, .iconst 1, 1)) dls_ok_21 (i := 28) rfl
theorem dL_law_1486 : decode cL_law 1486 = .ok (.iadd, 1) := dls_at (q := (1486, .iadd, 1)) dls_ok_21 (i := 29) rfl
theorem dL_law_1487 : decode cL_law 1487 = .ok (.iaload, 1) := dls_at (q := (1487, .iaload, 1)) dls_ok_21 (i := 30) rfl
theorem dL_law_1488 : decode cL_law 1488 = .ok (.i2b, 1) := dls_at (q := (1488, .i2b, 1)) dls_ok_21 (i := 31) rfl
theorem dL_law_1489 : decode cL_law 1489 = .ok (.invokevirtual 173, 3) := dls_at (q := (1489, .invokevirtual 173, 3)) dls_ok_21 (i := 32) rfl
theorem dL_law_1492 : decode cL_law 1492 = .ok (.aload_n 2, 1) := dls_at (q := (1492, .aload_n 2, 1)) dls_ok_21 (i := 33) rfl
theorem dL_law_1493 : decode cL_law 1493 = .ok (.aload_n 0, 1) := dls_at (q := (1493, .aload_n 0, 1)) dls_ok_21 (i := 34) rfl
theorem dL_law_1494 : decode cL_law 1494 = .ok (.iload 4, 2) := dls_at (q := (1494, .iload 4, 2)) dls_ok_21 (i := 35) rfl
theorem dL_law_1496 : decode cL_law 1496 = .ok (.iconst 1, 1) := dls_at (q := (1496, .iconst 1, 1)) dls_ok_21 (i := 36) rfl
theorem dL_law_1497 : decode cL_law 1497 = .ok (.iadd, 1) := dls_at (q := (1497, .iadd, 1)) dls_ok_21 (i := 37) rfl
theorem dL_law_1498 : decode cL_law 1498 = .ok (.iaload, 1) := dls_at (q := (1498, .iaload, 1)) dls_ok_21 (i := 38) rfl
theorem dL_law_1499 : decode cL_law 1499 = .ok (.i2b, 1) := dls_at (q := (1499, .i2b, 1)) dls_ok_21 (i := 39) rfl
def dls_22 : List (Nat × Instr × Nat) := [(1500, .invokevirtual 177, 3), (1503, .if_icmp .eq 143, 3), (1506, .iconst 0, 1), (1507, .ireturn, 1), (1508, .aload_n 1, 1), (1509, .aload_n 0, 1), (1510, .iload 4, 2), (1512, .iconst 1, 1), (1513, .iadd, 1), (1514, .iaload, 1), (1515, .aload_n 3, 1), (1516, .invokestatic 178, 3), (1519, .istore 5, 2), (1521, .aload_n 2, 1), (1522, .aload_n 0, 1), (1523, .iload 4, 2), (1525, .iconst 1, 1), (1526, .iadd, 1), (1527, .iaload, 1), (1528, .invokevirtual 180, 3), (1531, .istore 6, 2), (1533, .aload_n 2, 1), (1534, .invokevirtual 99, 3), (1537, .iload 5, 2), (1539, .if_icmp .eq 5, 3), (1542, .iconst 0, 1), (1543, .ireturn, 1), (1544, .iload 5, 2), (1546, .ifCond .ne 15, 3), (1549, .aload_n 3, 1), (1550, .iconst 0, 1), (1551, .laload, 1), (1552, .iload 6, 2), (1554, .i2l, 1), (1555, .lcmp, 1), (1556, .ifCond .eq 5, 3), (1559, .iconst 0, 1), (1560, .ireturn, 1), (1561, .goto 85, 3), (1564, .aload_n 1, 1)]
theorem dls_ok_22 : dls_22.all (fun q => decide (decode cL_law q.1 = .ok (q.2.1, q.2.2))) = true := by decide +kernel
theorem dL_law_1500 : decode cL_law 1500 = .ok (.invokevirtual 177, 3) := dls_at (q := (1500, .invokevirtual 177, 3)) dls_ok_22 (i := 0) rfl
theorem dL_law_1503 : decode cL_law 1503 = .ok (.if_icmp .eq 143, 3) := dls_at (q := (1503, .if_icmp .eq 143, 3)) dls_ok_22 (i := 1) rfl
theorem dL_law_1506 : decode cL_law 1506 = .ok (.iconst 0, 1) := dls_at (q := (1506, .iconst 0, 1)) dls_ok_22 (i := 2) rfl
theorem dL_law_1507 : decode cL_law 1507 = .ok (.ireturn, 1) := dls_at (q := (1507, .ireturn, 1)) dls_ok_22 (i := 3) rfl
theorem dL_law_1508 : decode cL_law 1508 = .ok (.aload_n 1, 1) := dls_at (q := (1508, .aload_n 1, 1)) dls_ok_22 (i := 4) rfl
theorem dL_law_1509 : decode cL_law 1509 = .ok (.aload_n 0, 1) := dls_at (q := (1509, .aload_n 0, 1)) dls_ok_22 (i := 5) rfl
theorem dL_law_1510 : decode cL_law 1510 = .ok (.iload 4, 2) := dls_at (q := (1510, .iload 4, 2)) dls_ok_22 (i := 6) rfl
theorem dL_law_1512 : decode cL_law 1512 = .ok (.iconst 1, 1) := dls_at (q := (1512, .iconst 1, 1)) dls_ok_22 (i := 7) rfl
theorem dL_law_1513 : decode cL_law 1513 = .ok (.iadd, 1) := dls_at (q := (1513, .iadd, 1)) dls_ok_22 (i := 8) rfl
theorem dL_law_1514 : decode cL_law 1514 = .ok (.iaload, 1) := dls_at (q := (1514, .iaload, 1)) dls_ok_22 (i := 9) rfl
theorem dL_law_1515 : decode cL_law 1515 = .ok (.aload_n 3, 1) := dls_at (q := (1515, .aload_n 3, 1)) dls_ok_22 (i := 10) rfl
theorem dL_law_1516 : decode cL_law 1516 = .ok (.invokestatic 178, 3) := dls_at (q := (1516, .invokestatic 178, 3)) dls_ok_22 (i := 11) rfl
theorem dL_law_1519 : decode cL_law 1519 = .ok (.istore 5, 2) := dls_at (q := (1519, .istore 5, 2)) dls_ok_22 (i := 12) rfl
theorem dL_law_1521 : decode cL_law 1521 = .ok (.aload_n 2, 1) := dls_at (q := (1521, .aload_n 2, 1)) dls_ok_22 (i := 13) rfl
theorem dL_law_1522 : decode cL_law 1522 = .ok (.aload_n 0, 1) := dls_at (q := (1522, .aload_n 0, 1)) dls_ok_22 (i := 14) rfl
theorem dL_law_1523 : decode cL_law 1523 = .ok (.iload 4, 2) := dls_at (q := (1523, .iload 4, 2)) dls_ok_22 (i := 15) rfl
theorem dL_law_1525 : decode cL_law 1525 = .ok (.iconst 1, 1) := dls_at (q := (1525, .iconst 1, 1)) dls_ok_22 (i := 16) rfl
theorem dL_law_1526 : decode cL_law 1526 = .ok (.iadd, 1) := dls_at (q := (1526, .iadd, 1)) dls_ok_22 (i := 17) rfl
theorem dL_law_1527 : decode cL_law 1527 = .ok (.iaload, 1) := dls_at (q := (1527, .iaload, 1)) dls_ok_22 (i := 18) rfl
theorem dL_law_1528 : decode cL_law 1528 = .ok (.invokevirtual 180, 3) := dls_at (q := (1528, .invokevirtual 180, 3)) dls_ok_22 (i := 19) rfl
theorem dL_law_1531 : decode cL_law 1531 = .ok (.istore 6, 2) := dls_at (q := (1531, .istore 6, 2)) dls_ok_22 (i := 20) rfl
theorem dL_law_1533 : decode cL_law 1533 = .ok (.aload_n 2, 1) := dls_at (q := (1533, .aload_n 2, 1)) dls_ok_22 (i := 21) rfl
theorem dL_law_1534 : decode cL_law 1534 = .ok (.invokevirtual 99, 3) := dls_at (q := (1534, .invokevirtual 99, 3)) dls_ok_22 (i := 22) rfl
theorem dL_law_1537 : decode cL_law 1537 = .ok (.iload 5, 2) := dls_at (q := (1537, .iload 5, 2)) dls_ok_22 (i := 23) rfl
theorem dL_law_1539 : decode cL_law 1539 = .ok (.if_icmp .eq 5, 3) := dls_at (q := (1539, .if_icmp .eq 5, 3)) dls_ok_22 (i := 24) rfl
theorem dL_law_1542 : decode cL_law 1542 = .ok (.iconst 0, 1) := dls_at (q := (1542, .iconst 0, 1)) dls_ok_22 (i := 25) rfl
theorem dL_law_1543 : decode cL_law 1543 = .ok (.ireturn, 1) := dls_at (q := (1543, .ireturn, 1)) dls_ok_22 (i := 26) rfl
theorem dL_law_1544 : decode cL_law 1544 = .ok (.iload 5, 2) := dls_at (q := (1544, .iload 5, 2)) dls_ok_22 (i := 27) rfl
theorem dL_law_1546 : decode cL_law 1546 = .ok (.ifCond .ne 15, 3) := dls_at (q := (1546, .ifCond .ne 15, 3)) dls_ok_22 (i := 28) rfl
theorem dL_law_1549 : decode cL_law 1549 = .ok (.aload_n 3, 1) := dls_at (q := (1549, .aload_n 3, 1)) dls_ok_22 (i := 29) rfl
theorem dL_law_1550 : decode cL_law 1550 = .ok (.iconst 0, 1) := dls_at (q := (1550, .iconst 0, 1)) dls_ok_22 (i := 30) rfl
theorem dL_law_1551 : decode cL_law 1551 = .ok (.laload, 1) := dls_at (q := (1551, .laload, 1)) dls_ok_22 (i := 31) rfl
theorem dL_law_1552 : decode cL_law 1552 = .ok (.iload 6, 2) := dls_at (q := (1552, .iload 6, 2)) dls_ok_22 (i := 32) rfl
theorem dL_law_1554 : decode cL_law 1554 = .ok (.i2l, 1) := dls_at (q := (1554, .i2l, 1)) dls_ok_22 (i := 33) rfl
theorem dL_law_1555 : decode cL_law 1555 = .ok (.lcmp, 1) := dls_at (q := (1555, .lcmp, 1)) dls_ok_22 (i := 34) rfl
theorem dL_law_1556 : decode cL_law 1556 = .ok (.ifCond .eq 5, 3) := dls_at (q := (1556, .ifCond .eq 5, 3)) dls_ok_22 (i := 35) rfl
theorem dL_law_1559 : decode cL_law 1559 = .ok (.iconst 0, 1) := dls_at (q := (1559, .iconst 0, 1)) dls_ok_22 (i := 36) rfl
theorem dL_law_1560 : decode cL_law 1560 = .ok (.ireturn, 1) := dls_at (q := (1560, .ireturn, 1)) dls_ok_22 (i := 37) rfl
theorem dL_law_1561 : decode cL_law 1561 = .ok (.goto 85, 3) := dls_at (q := (1561, .goto 85, 3)) dls_ok_22 (i := 38) rfl
theorem dL_law_1564 : decode cL_law 1564 = .ok (.aload_n 1, 1) := dls_at (q := (1564, .aload_n 1, 1)) dls_ok_22 (i := 39) rfl
def dls_23 : List (Nat × Instr × Nat) := [(1565, .invokevirtual 181, 3), (1568, .aload_n 2, 1), (1569, .invokevirtual 184, 3), (1572, .if_icmp .eq 74, 3), (1575, .iconst 0, 1), (1576, .ireturn, 1), (1577, .aload_n 1, 1), (1578, .aload_n 0, 1), (1579, .iload 4, 2), (1581, .iconst 1, 1), (1582, .iadd, 1), (1583, .iaload, 1), (1584, .aload_n 3, 1), (1585, .invokestatic 185, 3), (1588, .istore 5, 2), (1590, .aload_n 2, 1), (1591, .aload_n 0, 1), (1592, .iload 4, 2), (1594, .iconst 1, 1), (1595, .iadd, 1), (1596, .iaload, 1), (1597, .invokevirtual 187, 3), (1600, .istore 6, 2), (1602, .aload_n 2, 1), (1603, .invokevirtual 99, 3), (1606, .iload 5, 2), (1608, .if_icmp .eq 5, 3), (1611, .iconst 0, 1), (1612, .ireturn, 1), (1613, .iload 5, 2), (1615, .ifCond .ne 15, 3), (1618, .aload_n 3, 1), (1619, .iconst 0, 1), (1620, .laload, 1), (1621, .iload 6, 2), (1623, .i2l, 1), (1624, .lcmp, 1), (1625, .ifCond .eq 5, 3), (1628, .iconst 0, 1), (1629, .ireturn, 1)]
theorem dls_ok_23 : dls_23.all (fun q => decide (decode cL_law q.1 = .ok (q.2.1, q.2.2))) = true := by decide +kernel
theorem dL_law_1565 : decode cL_law 1565 = .ok (.invokevirtual 181, 3) := dls_at (q := (1565, .invokevirtual 181, 3)) dls_ok_23 (i := 0) rfl
theorem dL_law_1568 : decode cL_law 1568 = .ok (.aload_n 2, 1) := dls_at (q := (1568, .aload_n 2, 1)) dls_ok_23 (i := 1) rfl
theorem dL_law_1569 : decode cL_law 1569 = .ok (.invokevirtual 184, 3) := dls_at (q := (1569, .invokevirtual 184, 3)) dls_ok_23 (i := 2) rfl
theorem dL_law_1572 : decode cL_law 1572 = .ok (.if_icmp .eq 74, 3) := dls_at (q := (1572, .if_icmp .eq 74, 3)) dls_ok_23 (i := 3) rfl
theorem dL_law_1575 : decode cL_law 1575 = .ok (.iconst 0, 1) := dls_at (q := (1575, .iconst 0, 1)) dls_ok_23 (i := 4) rfl
theorem dL_law_1576 : decode cL_law 1576 = .ok (.ireturn, 1) := dls_at (q := (1576, .ireturn, 1)) dls_ok_23 (i := 5) rfl
theorem dL_law_1577 : decode cL_law 1577 = .ok (.aload_n 1, 1) := dls_at (q := (1577, .aload_n 1, 1)) dls_ok_23 (i := 6) rfl
theorem dL_law_1578 : decode cL_law 1578 = .ok (.aload_n 0, 1) := dls_at (q := (1578, .aload_n 0, 1)) dls_ok_23 (i := 7) rfl
theorem dL_law_1579 : decode cL_law 1579 = .ok (.iload 4, 2) := dls_at (q := (1579, .iload 4, 2)) dls_ok_23 (i := 8) rfl
theorem dL_law_1581 : decode cL_law 1581 = .ok (.iconst 1, 1) := dls_at (q := (1581, .iconst 1, 1)) dls_ok_23 (i := 9) rfl
theorem dL_law_1582 : decode cL_law 1582 = .ok (.iadd, 1) := dls_at (q := (1582, .iadd, 1)) dls_ok_23 (i := 10) rfl
theorem dL_law_1583 : decode cL_law 1583 = .ok (.iaload, 1) := dls_at (q := (1583, .iaload, 1)) dls_ok_23 (i := 11) rfl
theorem dL_law_1584 : decode cL_law 1584 = .ok (.aload_n 3, 1) := dls_at (q := (1584, .aload_n 3, 1)) dls_ok_23 (i := 12) rfl
theorem dL_law_1585 : decode cL_law 1585 = .ok (.invokestatic 185, 3) := dls_at (q := (1585, .invokestatic 185, 3)) dls_ok_23 (i := 13) rfl
theorem dL_law_1588 : decode cL_law 1588 = .ok (.istore 5, 2) := dls_at (q := (1588, .istore 5, 2)) dls_ok_23 (i := 14) rfl
theorem dL_law_1590 : decode cL_law 1590 = .ok (.aload_n 2, 1) := dls_at (q := (1590, .aload_n 2, 1)) dls_ok_23 (i := 15) rfl
theorem dL_law_1591 : decode cL_law 1591 = .ok (.aload_n 0, 1) := dls_at (q := (1591, .aload_n 0, 1)) dls_ok_23 (i := 16) rfl
theorem dL_law_1592 : decode cL_law 1592 = .ok (.iload 4, 2) := dls_at (q := (1592, .iload 4, 2)) dls_ok_23 (i := 17) rfl
theorem dL_law_1594 : decode cL_law 1594 = .ok (.iconst 1, 1) := dls_at (q := (1594, .iconst 1, 1)) dls_ok_23 (i := 18) rfl
theorem dL_law_1595 : decode cL_law 1595 = .ok (.iadd, 1) := dls_at (q := (1595, .iadd, 1)) dls_ok_23 (i := 19) rfl
theorem dL_law_1596 : decode cL_law 1596 = .ok (.iaload, 1) := dls_at (q := (1596, .iaload, 1)) dls_ok_23 (i := 20) rfl
theorem dL_law_1597 : decode cL_law 1597 = .ok (.invokevirtual 187, 3) := dls_at (q := (1597, .invokevirtual 187, 3)) dls_ok_23 (i := 21) rfl
theorem dL_law_1600 : decode cL_law 1600 = .ok (.istore 6, 2) := dls_at (q := (1600, .istore 6, 2)) dls_ok_23 (i := 22) rfl
theorem dL_law_1602 : decode cL_law 1602 = .ok (.aload_n 2, 1) := dls_at (q := (1602, .aload_n 2, 1)) dls_ok_23 (i := 23) rfl
theorem dL_law_1603 : decode cL_law 1603 = .ok (.invokevirtual 99, 3) := dls_at (q := (1603, .invokevirtual 99, 3)) dls_ok_23 (i := 24) rfl
theorem dL_law_1606 : decode cL_law 1606 = .ok (.iload 5, 2) := dls_at (q := (1606, .iload 5, 2)) dls_ok_23 (i := 25) rfl
theorem dL_law_1608 : decode cL_law 1608 = .ok (.if_icmp .eq 5, 3) := dls_at (q := (1608, .if_icmp .eq 5, 3)) dls_ok_23 (i := 26) rfl
theorem dL_law_1611 : decode cL_law 1611 = .ok (.iconst 0, 1) := dls_at (q := (1611, .iconst 0, 1)) dls_ok_23 (i := 27) rfl
theorem dL_law_1612 : decode cL_law 1612 = .ok (.ireturn, 1) := dls_at (q := (1612, .ireturn, 1)) dls_ok_23 (i := 28) rfl
theorem dL_law_1613 : decode cL_law 1613 = .ok (.iload 5, 2) := dls_at (q := (1613, .iload 5, 2)) dls_ok_23 (i := 29) rfl
theorem dL_law_1615 : decode cL_law 1615 = .ok (.ifCond .ne 15, 3) := dls_at (q := (1615, .ifCond .ne 15, 3)) dls_ok_23 (i := 30) rfl
theorem dL_law_1618 : decode cL_law 1618 = .ok (.aload_n 3, 1) := dls_at (q := (1618, .aload_n 3, 1)) dls_ok_23 (i := 31) rfl
theorem dL_law_1619 : decode cL_law 1619 = .ok (.iconst 0, 1) := dls_at (q := (1619, .iconst 0, 1)) dls_ok_23 (i := 32) rfl
theorem dL_law_1620 : decode cL_law 1620 = .ok (.laload, 1) := dls_at (q := (1620, .laload, 1)) dls_ok_23 (i := 33) rfl
theorem dL_law_1621 : decode cL_law 1621 = .ok (.iload 6, 2) := dls_at (q := (1621, .iload 6, 2)) dls_ok_23 (i := 34) rfl
theorem dL_law_1623 : decode cL_law 1623 = .ok (.i2l, 1) := dls_at (q := (1623, .i2l, 1)) dls_ok_23 (i := 35) rfl
theorem dL_law_1624 : decode cL_law 1624 = .ok (.lcmp, 1) := dls_at (q := (1624, .lcmp, 1)) dls_ok_23 (i := 36) rfl
theorem dL_law_1625 : decode cL_law 1625 = .ok (.ifCond .eq 5, 3) := dls_at (q := (1625, .ifCond .eq 5, 3)) dls_ok_23 (i := 37) rfl
theorem dL_law_1628 : decode cL_law 1628 = .ok (.iconst 0, 1) := dls_at (q := (1628, .iconst 0, 1)) dls_ok_23 (i := 38) rfl
theorem dL_law_1629 : decode cL_law 1629 = .ok (.ireturn, 1) := dls_at (q := (1629, .ireturn, 1)) dls_ok_23 (i := 39) rfl
def dls_24 : List (Nat × Instr × Nat) := [(1630, .goto 16, 3), (1633, .aload_n 1, 1), (1634, .invokevirtual 188, 3), (1637, .aload_n 2, 1), (1638, .invokevirtual 191, 3), (1641, .if_icmp .eq 5, 3), (1644, .iconst 0, 1), (1645, .ireturn, 1), (1646, .iinc 4 5, 3), (1649, .goto (-1626), 3), (1652, .iconst 1, 1), (1653, .ireturn, 1)]
theorem dls_ok_24 : dls_24.all (fun q => decide (decode cL_law q.1 = .ok (q.2.1, q.2.2))) = true := by decide +kernel
theorem dL_law_1630 : decode cL_law 1630 = .ok (.goto 16, 3) := dls_at (q := (1630, .goto 16, 3)) dls_ok_24 (i := 0) rfl
theorem dL_law_1633 : decode cL_law 1633 = .ok (.aload_n 1, 1) := dls_at (q := (1633, .aload_n 1, 1)) dls_ok_24 (i := 1) rfl
theorem dL_law_1634 : decode cL_law 1634 = .ok (.invokevirtual 188, 3) := dls_at (q := (1634, .invokevirtual 188, 3)) dls_ok_24 (i := 2) rfl
theorem dL_law_1637 : decode cL_law 1637 = .ok (.aload_n 2, 1) := dls_at (q := (1637, .aload_n 2, 1)) dls_ok_24 (i := 3) rfl
theorem dL_law_1638 : decode cL_law 1638 = .ok (.invokevirtual 191, 3) := dls_at (q := (1638, .invokevirtual 191, 3)) dls_ok_24 (i := 4) rfl
theorem dL_law_1641 : decode cL_law 1641 = .ok (.if_icmp .eq 5, 3) := dls_at (q := (1641, .if_icmp .eq 5, 3)) dls_ok_24 (i := 5) rfl
theorem dL_law_1644 : decode cL_law 1644 = .ok (.iconst 0, 1) := dls_at (q := (1644, .iconst 0, 1)) dls_ok_24 (i := 6) rfl
theorem dL_law_1645 : decode cL_law 1645 = .ok (.ireturn, 1) := dls_at (q := (1645, .ireturn, 1)) dls_ok_24 (i := 7) rfl
theorem dL_law_1646 : decode cL_law 1646 = .ok (.iinc 4 5, 3) := dls_at (q := (1646, .iinc 4 5, 3)) dls_ok_24 (i := 8) rfl
theorem dL_law_1649 : decode cL_law 1649 = .ok (.goto (-1626), 3) := dls_at (q := (1649, .goto (-1626), 3)) dls_ok_24 (i := 9) rfl
theorem dL_law_1652 : decode cL_law 1652 = .ok (.iconst 1, 1) := dls_at (q := (1652, .iconst 1, 1)) dls_ok_24 (i := 10) rfl
theorem dL_law_1653 : decode cL_law 1653 = .ok (.ireturn, 1) := dls_at (q := (1653, .ireturn, 1)) dls_ok_24 (i := 11) rfl
