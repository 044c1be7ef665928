abbrev cL_law : ByteArray := code
theorem zdL_law_0 : dchk cL_law [(0, .new 7, 3), (3, .dup, 1), (4, .invokespecial 9, 3), (7, .astore_n 1, 1), (8, .new 10, 3), (11, .dup, 1), (12, .invokespecial 12, 3), (15, .astore_n 2, 1), (16, .iconst 0, 1), (17, .istore_n 3, 1), (18, .iload_n 3, 1), (19, .aload_n 0, 1), (20, .arraylength, 1), (21, .bipush 6, 2), (23, .isub, 1), (24, .if_icmp .gt 1016, 3), (27, .aload_n 0, 1), (28, .iload_n 3, 1), (29, .iaload, 1), (30, .bipush 31, 2), (32, .iand, 1), (33, .tableswitch 1001 0 27 #[127, 150, 163, 176, 189, 222, 265, 328, 351, 404, 437, 470, 493, 506, 529, 562, 605, 658, 681, 724, 767, 780, 803, 846, 909, 952, 965, 978], 127), (160, .aload_n 1, 1), (161, .aload_n 0, 1), (162, .iload_n 3, 1), (163, .iconst 1, 1), (164, .iadd, 1), (165, .iaload, 1), (166, .invokevirtual 13, 3), (169, .pop, 1), (170, .aload_n 2, 1), (171, .aload_n 0, 1), (172, .iload_n 3, 1), (173, .iconst 1, 1), (174, .iadd, 1), (175, .iaload, 1), (176, .invokevirtual 17, 3), (179, .pop, 1), (180, .goto 854, 3), (183, .aload_n 1, 1), (184, .invokevirtual 18, 3), (187, .pop, 1), (188, .aload_n 2, 1), (189, .invokevirtual 22, 3), (192, .pop, 1), (193, .goto 841, 3), (196, .aload_n 1, 1), (197, .invokevirtual 23, 3), (200, .pop, 1), (201, .aload_n 2, 1), (202, .invokevirtual 26, 3), (205, .pop, 1), (206, .goto 828, 3), (209, .aload_n 1, 1), (210, .invokevirtual 27, 3), (213, .pop, 1), (214, .aload_n 2, 1), (215, .invokevirtual 30, 3), (218, .pop, 1), (219, .goto 815, 3), (222, .aload_n 1, 1), (223, .aload_n 0, 1), (224, .iload_n 3, 1), (225, .iconst 1, 1), (226, .iadd, 1), (227, .iaload, 1), (228, .aload_n 0, 1), (229, .iload_n 3, 1), (230, .iconst 2, 1), (231, .iadd, 1), (232, .iaload, 1), (233, .invokevirtual 31, 3), (236, .pop, 1), (237, .aload_n 2, 1), (238, .aload_n 0, 1), (239, .iload_n 3, 1), (240, .iconst 1, 1), (241, .iadd, 1), (242, .iaload, 1), (243, .aload_n 0, 1), (244, .iload_n 3, 1), (245, .iconst 2, 1), (246, .iadd, 1), (247, .iaload, 1), (248, .invokevirtual 35, 3), (251, .pop, 1), (252, .goto 782, 3), (255, .aload_n 1, 1), (256, .aload_n 0, 1), (257, .iload_n 3, 1), (258, .iconst 1, 1), (259, .iadd, 1), (260, .iaload, 1), (261, .aload_n 0, 1), (262, .iload_n 3, 1), (263, .iconst 2, 1), (264, .iadd, 1), (265, .iaload, 1), (266, .aload_n 0, 1), (267, .iload_n 3, 1), (268, .iconst 3, 1), (269, .iadd, 1), (270, .iaload, 1), (271, .invokevirtual 36, 3), (274, .pop, 1), (275, .aload_n 2, 1), (276, .aload_n 0, 1), (277, .iload_n 3, 1), (278, .iconst 1, 1), (279, .iadd, 1), (280, .iaload, 1), (281, .aload_n 0, 1), (282, .iload_n 3, 1), (283, .iconst 2, 1), (284, .iadd, 1), (285, .iaload, 1), (286, .aload_n 0, 1), (287, .iload_n 3, 1), (288, .iconst 3, 1), (289, .iadd, 1)] = true := by decide +kernel
theorem dL_law_0 : decode cL_law 0 = .ok (.new 7, 3) := dget zdL_law_0 0 rfl
theorem dL_law_3 : decode cL_law 3 = .ok (.dup, 1) := dget zdL_law_0 1 rfl
theorem dL_law_4 : decode cL_law 4 = .ok (.invokespecial 9, 3) := dget zdL_law_0 2 rfl
theorem dL_law_7 : decode cL_law 7 = .ok (.astore_n 1, 1) := dget zdL_law_0 3 rfl
theorem dL_law_8 : decode cL_law 8 = .ok (.new 10, 3) := dget zdL_law_0 4 rfl
theorem dL_law_11 : decode cL_law 11 = .ok (.dup, 1) := dget zdL_law_0 5 rfl
theorem dL_law_12 : decode cL_law 12 = .ok (.invokespecial 12, 3) := dget zdL_law_0 6 rfl
theorem dL_law_15 : decode cL_law 15 = .ok (.astore_n 2, 1) := dget zdL_law_0 7 rfl
theorem dL_law_16 : decode cL_law 16 = .ok (.iconst 0, 1) := dget zdL_law_0 8 rfl
theorem dL_law_17 : decode cL_law 17 = .ok (.istore_n 3, 1) := dget zdL_law_0 9 rfl
theorem dL_law_18 : decode cL_law 18 = .ok (.iload_n 3, 1) := dget zdL_law_0 10 rfl
theorem dL_law_19 : decode cL_law 19 = .ok (.aload_n 0, 1) := dget zdL_law_0 11 rfl
theorem dL_law_20 : decode cL_law 20 = .ok (.arraylength, 1) := dget zdL_law_0 12 rfl
theorem dL_law_21 : decode cL_law 21 = .ok (.bipush 6, 2) := dget zdL_law_0 13 rfl
theorem dL_law_23 : decode cL_law 23 = .ok (.isub, 1) := dget zdL_law_0 14 rfl
theorem dL_law_24 : decode cL_law 24 = .ok (.if_icmp .gt 1016, 3) := dget zdL_law_0 15 rfl
theorem dL_law_27 : decode cL_law 27 = .ok (.aload_n 0, 1) := dget zdL_law_0 16 rfl
theorem dL_law_28 : decode cL_law 28 = .ok (.iload_n 3, 1) := dget zdL_law_0 17 rfl
theorem dL_law_29 : decode cL_law 29 = .ok (.iaload, 1) := dget zdL_law_0 18 rfl
theorem dL_law_30 : decode cL_law 30 = .ok (.bipush 31, 2) := dget zdL_law_0 19 rfl
theorem dL_law_32 : decode cL_law 32 = .ok (.iand, 1) := dget zdL_law_0 20 rfl
theorem dL_law_33 : decode cL_law 33 = .ok (.tableswitch 1001 0 27 #[127, 150, 163, 176, 189, 222, 265, 328, 351, 404, 437, 470, 493, 506, 529, 562, 605, 658, 681, 724, 767, 780, 803, 846, 909, 952, 965, 978], 127) := dget zdL_law_0 21 rfl
theorem dL_law_160 : decode cL_law 160 = .ok (.aload_n 1, 1) := dget zdL_law_0 22 rfl
theorem dL_law_161 : decode cL_law 161 = .ok (.aload_n 0, 1) := dget zdL_law_0 23 rfl
theorem dL_law_162 : decode cL_law 162 = .ok (.iload_n 3, 1) := dget zdL_law_0 24 rfl
theorem dL_law_163 : decode cL_law 163 = .ok (.iconst 1, 1) := dget zdL_law_0 25 rfl
theorem dL_law_164 : decode cL_law 164 = .ok (.iadd, 1) := dget zdL_law_0 26 rfl
theorem dL_law_165 : decode cL_law 165 = .ok (.iaload, 1) := dget zdL_law_0 27 rfl
theorem dL_law_166 : decode cL_law 166 = .ok (.invokevirtual 13, 3) := dget zdL_law_0 28 rfl
theorem dL_law_169 : decode cL_law 169 = .ok (.pop, 1) := dget zdL_law_0 29 rfl
theorem dL_law_170 : decode cL_law 170 = .ok (.aload_n 2, 1) := dget zdL_law_0 30 rfl
theorem dL_law_171 : decode cL_law 171 = .ok (.aload_n 0, 1) := dget zdL_law_0 31 rfl
theorem dL_law_172 : decode cL_law 172 = .ok (.iload_n 3, 1) := dget zdL_law_0 32 rfl
theorem dL_law_173 : decode cL_law 173 = .ok (.iconst 1, 1) := dget zdL_law_0 33 rfl
theorem dL_law_174 : decode cL_law 174 = .ok (.iadd, 1) := dget zdL_law_0 34 rfl
theorem dL_law_175 : decode cL_law 175 = .ok (.iaload, 1) := dget zdL_law_0 35 rfl
theorem dL_law_176 : decode cL_law 176 = .ok (.invokevirtual 17, 3) := dget zdL_law_0 36 rfl
theorem dL_law_179 : decode cL_law 179 = .ok (.pop, 1) := dget zdL_law_0 37 rfl
theorem dL_law_180 : decode cL_law 180 = .ok (.goto 854, 3) := dget zdL_law_0 38 rfl
theorem dL_law_183 : decode cL_law 183 = .ok (.aload_n 1, 1) := dget zdL_law_0 39 rfl
theorem dL_law_184 : decode cL_law 184 = .ok (.invokevirtual 18, 3) := dget zdL_law_0 40 rfl
theorem dL_law_187 : decode cL_law 187 = .ok (.pop, 1) := dget zdL_law_0 41 rfl
theorem dL_law_188 : decode cL_law 188 = .ok (.aload_n 2, 1) := dget zdL_law_0 42 rfl
theorem dL_law_189 : decode cL_law 189 = .ok (.invokevirtual 22, 3) := dget zdL_law_0 43 rfl
theorem dL_law_192 : decode cL_law 192 = .ok (.pop, 1) := dget zdL_law_0 44 rfl
theorem dL_law_193 : decode cL_law 193 = .ok (.goto 841, 3) := dget zdL_law_0 45 rfl
theorem dL_law_196 : decode cL_law 196 = .ok (.aload_n 1, 1) := dget zdL_law_0 46 rfl
theorem dL_law_197 : decode cL_law 197 = .ok (.invokevirtual 23, 3) := dget zdL_law_0 47 rfl
theorem dL_law_200 : decode cL_law 200 = .ok (.pop, 1) := dget zdL_law_0 48 rfl
theorem dL_law_201 : decode cL_law 201 = .ok (.aload_n 2, 1) := dget zdL_law_0 49 rfl
theorem dL_law_202 : decode cL_law 202 = .ok (.invokevirtual 26, 3) := dget zdL_law_0 50 rfl
theorem dL_law_205 : decode cL_law 205 = .ok (.pop, 1) := dget zdL_law_0 51 rfl
theorem dL_law_206 : decode cL_law 206 = .ok (.goto 828, 3) := dget zdL_law_0 52 rfl
theorem dL_law_209 : decode cL_law 209 = .ok (.aload_n 1, 1) := dget zdL_law_0 53 rfl
theorem dL_law_210 : decode cL_law 210 = .ok (.invokevirtual 27, 3) := dget zdL_law_0 54 rfl
theorem dL_law_213 : decode cL_law 213 = .ok (.pop, 1) := dget zdL_law_0 55 rfl
theorem dL_law_214 : decode cL_law 214 = .ok (.aload_n 2, 1) := dget zdL_law_0 56 rfl
theorem dL_law_215 : decode cL_law 215 = .ok (.invokevirtual 30, 3) := dget zdL_law_0 57 rfl
theorem dL_law_218 : decode cL_law 218 = .ok (.pop, 1) := dget zdL_law_0 58 rfl
theorem dL_law_219 : decode cL_law 219 = .ok (.goto 815, 3) := dget zdL_law_0 59 rfl
theorem dL_law_222 : decode cL_law 222 = .ok (.aload_n 1, 1) := dget zdL_law_0 60 rfl
theorem dL_law_223 : decode cL_law 223 = .ok (.aload_n 0, 1) := dget zdL_law_0 61 rfl
theorem dL_law_224 : decode cL_law 224 = .ok (.iload_n 3, 1) := dget zdL_law_0 62 rfl
theorem dL_law_225 : decode cL_law 225 = .ok (.iconst 1, 1) := dget zdL_law_0 63 rfl
theorem dL_law_226 : decode cL_law 226 = .ok (.iadd, 1) := dget zdL_law_0 64 rfl
theorem dL_law_227 : decode cL_law 227 = .ok (.iaload, 1) := dget zdL_law_0 65 rfl
theorem dL_law_228 : decode cL_law 228 = .ok (.aload_n 0, 1) := dget zdL_law_0 66 rfl
theorem dL_law_229 : decode cL_law 229 = .ok (.iload_n 3, 1) := dget zdL_law_0 67 rfl
theorem dL_law_230 : decode cL_law 230 = .ok (.iconst 2, 1) := dget zdL_law_0 68 rfl
theorem dL_law_231 : decode cL_law 231 = .ok (.iadd, 1) := dget zdL_law_0 69 rfl
theorem dL_law_232 : decode cL_law 232 = .ok (.iaload, 1) := dget zdL_law_0 70 rfl
theorem dL_law_233 : decode cL_law 233 = .ok (.invokevirtual 31, 3) := dget zdL_law_0 71 rfl
theorem dL_law_236 : decode cL_law 236 = .ok (.pop, 1) := dget zdL_law_0 72 rfl
theorem dL_law_237 : decode cL_law 237 = .ok (.aload_n 2, 1) := dget zdL_law_0 73 rfl
theorem dL_law_238 : decode cL_law 238 = .ok (.aload_n 0, 1) := dget zdL_law_0 74 rfl
theorem dL_law_239 : decode cL_law 239 = .ok (.iload_n 3, 1) := dget zdL_law_0 75 rfl
theorem dL_law_240 : decode cL_law 240 = .ok (.iconst 1, 1) := dget zdL_law_0 76 rfl
theorem dL_law_241 : decode cL_law 241 = .ok (.iadd, 1) := dget zdL_law_0 77 rfl
theorem dL_law_242 : decode cL_law 242 = .ok (.iaload, 1) := dget zdL_law_0 78 rfl
theorem dL_law_243 : decode cL_law 243 = .ok (.aload_n 0, 1) := dget zdL_law_0 79 rfl
theorem dL_law_244 : decode cL_law 244 = .ok (.iload_n 3, 1) := dget zdL_law_0 80 rfl
theorem dL_law_245 : decode cL_law 245 = .ok (.iconst 2, 1) := dget zdL_law_0 81 rfl
theorem dL_law_246 : decode cL_law 246 = .ok (.iadd, 1) := dget zdL_law_0 82 rfl
theorem dL_law_247 : decode cL_law 247 = .ok (.iaload, 1) := dget zdL_law_0 83 rfl
theorem dL_law_248 : decode cL_law 248 = .ok (.invokevirtual 35, 3) := dget zdL_law_0 84 rfl
theorem dL_law_251 : decode cL_law 251 = .ok (.pop, 1) := dget zdL_law_0 85 rfl
theorem dL_law_252 : decode cL_law 252 = .ok (.goto 782, 3) := dget zdL_law_0 86 rfl
theorem dL_law_255 : decode cL_law 255 = .ok (.aload_n 1, 1) := dget zdL_law_0 87 rfl
theorem dL_law_256 : decode cL_law 256 = .ok (.aload_n 0, 1) := dget zdL_law_0 88 rfl
theorem dL_law_257 : decode cL_law 257 = .ok (.iload_n 3, 1) := dget zdL_law_0 89 rfl
theorem dL_law_258 : decode cL_law 258 = .ok (.iconst 1, 1) := dget zdL_law_0 90 rfl
theorem dL_law_259 : decode cL_law 259 = .ok (.iadd, 1) := dget zdL_law_0 91 rfl
theorem dL_law_260 : decode cL_law 260 = .ok (.iaload, 1) := dget zdL_law_0 92 rfl
theorem dL_law_261 : decode cL_law 261 = .ok (.aload_n 0, 1) := dget zdL_law_0 93 rfl
theorem dL_law_262 : decode cL_law 262 = .ok (.iload_n 3, 1) := dget zdL_law_0 94 rfl
theorem dL_law_263 : decode cL_law 263 = .ok (.iconst 2, 1) := dget zdL_law_0 95 rfl
theorem dL_law_264 : decode cL_law 264 = .ok (.iadd, 1) := dget zdL_law_0 96 rfl
theorem dL_law_265 : decode cL_law 265 = .ok (.iaload, 1) := dget zdL_law_0 97 rfl
theorem dL_law_266 : decode cL_law 266 = .ok (.aload_n 0, 1) := dget zdL_law_0 98 rfl
theorem dL_law_267 : decode cL_law 267 = .ok (.iload_n 3, 1) := dget zdL_law_0 99 rfl
theorem dL_law_268 : decode cL_law 268 = .ok (.iconst 3, 1) := dget zdL_law_0 100 rfl
theorem dL_law_269 : decode cL_law 269 = .ok (.iadd, 1) := dget zdL_law_0 101 rfl
theorem dL_law_270 : decode cL_law 270 = .ok (.iaload, 1) := dget zdL_law_0 102 rfl
theorem dL_law_271 : decode cL_law 271 = .ok (.invokevirtual 36, 3) := dget zdL_law_0 103 rfl
theorem dL_law_274 : decode cL_law 274 = .ok (.pop, 1) := dget zdL_law_0 104 rfl
theorem dL_law_275 : decode cL_law 275 = .ok (.aload_n 2, 1) := dget zdL_law_0 105 rfl
theorem dL_law_276 : decode cL_law 276 = .ok (.aload_n 0, 1) := dget zdL_law_0 106 rfl
theorem dL_law_277 : decode cL_law 277 = .ok (.iload_n 3, 1) := dget zdL_law_0 107 rfl
theorem dL_law_278 : decode cL_law 278 = .ok (.iconst 1, 1) := dget zdL_law_0 108 rfl
theorem dL_law_279 : decode cL_law 279 = .ok (.iadd, 1) := dget zdL_law_0 109 rfl
theorem dL_law_280 : decode cL_law 280 = .ok (.iaload, 1) := dget zdL_law_0 110 rfl
theorem dL_law_281 : decode cL_law 281 = .ok (.aload_n 0, 1) := dget zdL_law_0 111 rfl
theorem dL_law_282 : decode cL_law 282 = .ok (.iload_n 3, 1) := dget zdL_law_0 112 rfl
theorem dL_law_283 : decode cL_law 283 = .ok (.iconst 2, 1) := dget zdL_law_0 113 rfl
theorem dL_law_284 : decode cL_law 284 = .ok (.iadd, 1) := dget zdL_law_0 114 rfl
theorem dL_law_285 : decode cL_law 285 = .ok (.iaload, 1) := dget zdL_law_0 115 rfl
theorem dL_law_286 : decode cL_law 286 = .ok (.aload_n 0, 1) := dget zdL_law_0 116 rfl
theorem dL_law_287 : decode cL_law 287 = .ok (.iload_n 3, 1) := dget zdL_law_0 117 rfl
theorem dL_law_288 : decode cL_law 288 = .ok (.iconst 3, 1) := dget zdL_law_0 118 rfl
theorem dL_law_289 : decode cL_law 289 = .ok (.iadd, 1) := dget zdL_law_0 119 rfl
theorem zdL_law_120 : dchk cL_law [(290, .iaload, 1), (291, .invokevirtual 40, 3), (294, .pop, 1), (295, .goto 739, 3), (298, .aload_n 1, 1), (299, .aload_n 0, 1), (300, .iload_n 3, 1), (301, .iconst 1, 1), (302, .iadd, 1), (303, .iaload, 1), (304, .aload_n 0, 1), (305, .iload_n 3, 1), (306, .iconst 2, 1), (307, .iadd, 1), (308, .iaload, 1), (309, .aload_n 0, 1), (310, .iload_n 3, 1), (311, .iconst 3, 1), (312, .iadd, 1), (313, .iaload, 1), (314, .aload_n 0, 1), (315, .iload_n 3, 1), (316, .iconst 4, 1), (317, .iadd, 1), (318, .iaload, 1), (319, .aload_n 0, 1), (320, .iload_n 3, 1), (321, .iconst 5, 1), (322, .iadd, 1), (323, .iaload, 1), (324, .invokevirtual 41, 3), (327, .pop, 1), (328, .aload_n 2, 1), (329, .aload_n 0, 1), (330, .iload_n 3, 1), (331, .iconst 1, 1), (332, .iadd, 1), (333, .iaload, 1), (334, .aload_n 0, 1), (335, .iload_n 3, 1), (336, .iconst 2, 1), (337, .iadd, 1), (338, .iaload, 1), (339, .aload_n 0, 1), (340, .iload_n 3, 1), (341, .iconst 3, 1), (342, .iadd, 1), (343, .iaload, 1), (344, .aload_n 0, 1), (345, .iload_n 3, 1), (346, .iconst 4, 1), (347, .iadd, 1), (348, .iaload, 1), (349, .aload_n 0, 1), (350, .iload_n 3, 1), (351, .iconst 5, 1), (352, .iadd, 1), (353, .iaload, 1), (354, .invokevirtual 45, 3), (357, .pop, 1), (358, .goto 676, 3), (361, .aload_n 1, 1), (362, .aload_n 0, 1), (363, .iload_n 3, 1), (364, .iconst 1, 1), (365, .iadd, 1), (366, .iaload, 1), (367, .invokevirtual 46, 3), (370, .pop, 1), (371, .aload_n 2, 1), (372, .aload_n 0, 1), (373, .iload_n 3, 1), (374, .iconst 1, 1), (375, .iadd, 1), (376, .iaload, 1), (377, .invokevirtual 49, 3), (380, .pop, 1), (381, .goto 653, 3), (384, .aload_n 1, 1), (385, .aload_n 0, 1), (386, .iload_n 3, 1), (387, .iconst 1, 1), (388, .iadd, 1), (389, .iaload, 1), (390, .aload_n 0, 1), (391, .iload_n 3, 1), (392, .iconst 2, 1), (393, .iadd, 1), (394, .iaload, 1), (395, .aload_n 0, 1), (396, .iload_n 3, 1), (397, .iconst 3, 1), (398, .iadd, 1), (399, .iaload, 1), (400, .aload_n 0, 1), (401, .iload_n 3, 1), (402, .iconst 4, 1), (403, .iadd, 1), (404, .iaload, 1), (405, .invokevirtual 50, 3), (408, .pop, 1), (409, .aload_n 2, 1), (410, .aload_n 0, 1), (411, .iload_n 3, 1), (412, .iconst 1, 1), (413, .iadd, 1), (414, .iaload, 1), (415, .aload_n 0, 1), (416, .iload_n 3, 1), (417, .iconst 2, 1), (418, .iadd, 1), (419, .iaload, 1), (420, .aload_n 0, 1), (421, .iload_n 3, 1), (422, .iconst 3, 1), (423, .iadd, 1), (424, .iaload, 1), (425, .aload_n 0, 1), (426, .iload_n 3, 1), (427, .iconst 4, 1)] = true := by decide +kernel
theorem dL_law_290 : decode cL_law 290 = .ok (.iaload, 1) := dget zdL_law_120 0 rfl
theorem dL_law_291 : decode cL_law 291 = .ok (.invokevirtual 40, 3) := dget zdL_law_120 1 rfl
theorem dL_law_294 : decode cL_law 294 = .ok (.pop, 1) := dget zdL_law_120 2 rfl
theorem dL_law_295 : decode cL_law 295 = .ok (.goto 739, 3) := dget zdL_law_120 3 rfl
theorem dL_law_298 : decode cL_law 298 = .ok (.aload_n 1, 1) := dget zdL_law_120 4 rfl
theorem dL_law_299 : decode cL_law 299 = .ok (.aload_n 0, 1) := dget zdL_law_120 5 rfl
theorem dL_law_300 : decode cL_law 300 = .ok (.iload_n 3, 1) := dget zdL_law_120 6 rfl
theorem dL_law_301 : decode cL_law 301 = .ok (.iconst 1, 1) := dget zdL_law_120 7 rfl
theorem dL_law_302 : decode cL_law 302 = .ok (.iadd, 1) := dget zdL_law_120 8 rfl
theorem dL_law_303 : decode cL_law 303 = .ok (.iaload, 1) := dget zdL_law_120 9 rfl
theorem dL_law_304 : decode cL_law 304 = .ok (.aload_n 0, 1) := dget zdL_law_120 10 rfl
theorem dL_law_305 : decode cL_law 305 = .ok (.iload_n 3, 1) := dget zdL_law_120 11 rfl
theorem dL_law_306 : decode cL_law 306 = .ok (.iconst 2, 1) := dget zdL_law_120 12 rfl
theorem dL_law_307 : decode cL_law 307 = .ok (.iadd, 1) := dget zdL_law_120 13 rfl
theorem dL_law_308 : decode cL_law 308 = .ok (.iaload, 1) := dget zdL_law_120 14 rfl
theorem dL_law_309 : decode cL_law 309 = .ok (.aload_n 0, 1) := dget zdL_law_120 15 rfl
theorem dL_law_310 : decode cL_law 310 = .ok (.iload_n 3, 1) := dget zdL_law_120 16 rfl
theorem dL_law_311 : decode cL_law 311 = .ok (.iconst 3, 1) := dget zdL_law_120 17 rfl
theorem dL_law_312 : decode cL_law 312 = .ok (.iadd, 1) := dget zdL_law_120 18 rfl
theorem dL_law_313 : decode cL_law 313 = .ok (.iaload, 1) := dget zdL_law_120 19 rfl
theorem dL_law_314 : decode cL_law 314 = .ok (.aload_n 0, 1) := dget zdL_law_120 20 rfl
theorem dL_law_315 : decode cL_law 315 = .ok (.iload_n 3, 1) := dget zdL_law_120 21 rfl
theorem dL_law_316 : decode cL_law 316 = .ok (.iconst 4, 1) := dget zdL_law_120 22 rfl
theorem dL_law_317 : decode cL_law 317 = .ok (.iadd, 1) := dget zdL_law_120 23 rfl
theorem dL_law_318 : decode cL_law 318 = .ok (.iaload, 1) := dget zdL_law_120 24 rfl
theorem dL_law_319 : decode cL_law 319 = .ok (.aload_n 0, 1) := dget zdL_law_120 25 rfl
theorem dL_law_320 : decode cL_law 320 = .ok (.iload_n 3, 1) := dget zdL_law_120 26 rfl
theorem dL_law_321 : decode cL_law 321 = .ok (.iconst 5, 1) := dget zdL_law_120 27 rfl
theorem dL_law_322 : decode cL_law 322 = .ok (.iadd, 1) := dget zdL_law_120 28 rfl
theorem dL_law_323 : decode cL_law 323 = .ok (.iaload, 1) := dget zdL_law_120 29 rfl
theorem dL_law_324 : decode cL_law 324 = .ok (.invokevirtual 41, 3) := dget zdL_law_120 30 rfl
theorem dL_law_327 : decode cL_law 327 = .ok (.pop, 1) := dget zdL_law_120 31 rfl
theorem dL_law_328 : decode cL_law 328 = .ok (.aload_n 2, 1) := dget zdL_law_120 32 rfl
theorem dL_law_329 : decode cL_law 329 = .ok (.aload_n 0, 1) := dget zdL_law_120 33 rfl
theorem dL_law_330 : decode cL_law 330 = .ok (.iload_n 3, 1) := dget zdL_law_120 34 rfl
theorem dL_law_331 : decode cL_law 331 = .ok (.iconst 1, 1) := dget zdL_law_120 35 rfl
theorem dL_law_332 : decode cL_law 332 = .ok (.iadd, 1) := dget zdL_law_120 36 rfl
theorem dL_law_333 : decode cL_law 333 = .ok (.iaload, 1) := dget zdL_law_120 37 rfl
theorem dL_law_334 : decode cL_law 334 = .ok (.aload_n 0, 1) := dget zdL_law_120 38 rfl
theorem dL_law_335 : decode cL_law 335 = .ok (.iload_n 3, 1) := dget zdL_law_120 39 rfl
theorem dL_law_336 : decode cL_law 336 = .ok (.iconst 2, 1) := dget zdL_law_120 40 rfl
theorem dL_law_337 : decode cL_law 337 = .ok (.iadd, 1) := dget zdL_law_120 41 rfl
theorem dL_law_338 : decode cL_law 338 = .ok (.iaload, 1) := dget zdL_law_120 42 rfl
theorem dL_law_339 : decode cL_law 339 = .ok (.aload_n 0, 1) := dget zdL_law_120 43 rfl
theorem dL_law_340 : decode cL_law 340 = .ok (.iload_n 3, 1) := dget zdL_law_120 44 rfl
theorem dL_law_341 : decode cL_law 341 = .ok (.iconst 3, 1) := dget zdL_law_120 45 rfl
theorem dL_law_342 : decode cL_law 342 = .ok (.iadd, 1) := dget zdL_law_120 46 rfl
theorem dL_law_343 : decode cL_law 343 = .ok (.iaload, 1) := dget zdL_law_120 47 rfl
theorem dL_law_344 : decode cL_law 344 = .ok (.aload_n 0, 1) := dget zdL_law_120 48 rfl
theorem dL_law_345 : decode cL_law 345 = .ok (.iload_n 3, 1) := dget zdL_law_120 49 rfl
theorem dL_law_346 : decode cL_law 346 = .ok (.iconst 4, 1) := dget zdL_law_120 50 rfl
theorem dL_law_347 : decode cL_law 347 = .ok (.iadd, 1) := dget zdL_law_120 51 rfl
theorem dL_law_348 : decode cL_law 348 = .ok (.iaload, 1) := dget zdL_law_120 52 rfl
theorem dL_law_349 : decode cL_law 349 = .ok (.aload_n 0, 1) := dget zdL_law_120 53 rfl
theorem dL_law_350 : decode cL_law 350 = .ok (.iload_n 3, 1) := dget zdL_law_120 54 rfl
theorem dL_law_351 : decode cL_law 351 = .ok (.iconst 5, 1) := dget zdL_law_120 55 rfl
theorem dL_law_352 : decode cL_law 352 = .ok (.iadd, 1) := dget zdL_law_120 56 rfl
theorem dL_law_353 : decode cL_law 353 = .ok (.iaload, 1) := dget zdL_law_120 57 rfl
theorem dL_law_354 : decode cL_law 354 = .ok (.invokevirtual 45, 3) := dget zdL_law_120 58 rfl
theorem dL_law_357 : decode cL_law 357 = .ok (.pop, 1) := dget zdL_law_120 59 rfl
theorem dL_law_358 : decode cL_law 358 = .ok (.goto 676, 3) := dget zdL_law_120 60 rfl
theorem dL_law_361 : decode cL_law 361 = .ok (.aload_n 1, 1) := dget zdL_law_120 61 rfl
theorem dL_law_362 : decode cL_law 362 = .ok (.aload_n 0, 1) := dget zdL_law_120 62 rfl
theorem dL_law_363 : decode cL_law 363 = .ok (.iload_n 3, 1) := dget zdL_law_120 63 rfl
theorem dL_law_364 : decode cL_law 364 = .ok (.iconst 1, 1) := dget zdL_law_120 64 rfl
theorem dL_law_365 : decode cL_law 365 = .ok (.iadd, 1) := dget zdL_law_120 65 rfl
theorem dL_law_366 : decode cL_law 366 = .ok (.iaload, 1) := dget zdL_law_120 66 rfl
theorem dL_law_367 : decode cL_law 367 = .ok (.invokevirtual 46, 3) := dget zdL_law_120 67 rfl
theorem dL_law_370 : decode cL_law 370 = .ok (.pop, 1) := dget zdL_law_120 68 rfl
theorem dL_law_371 : decode cL_law 371 = .ok (.aload_n 2, 1) := dget zdL_law_120 69 rfl
theorem dL_law_372 : decode cL_law 372 = .ok (.aload_n 0, 1) := dget zdL_law_120 70 rfl
theorem dL_law_373 : decode cL_law 373 = .ok (.iload_n 3, 1) := dget zdL_law_120 71 rfl
theorem dL_law_374 : decode cL_law 374 = .ok (.iconst 1, 1) := dget zdL_law_120 72 rfl
theorem dL_law_375 : decode cL_law 375 = .ok (.iadd, 1) := dget zdL_law_120 73 rfl
theorem dL_law_376 : decode cL_law 376 = .ok (.iaload, 1) := dget zdL_law_120 74 rfl
theorem dL_law_377 : decode cL_law 377 = .ok (.invokevirtual 49, 3) := dget zdL_law_120 75 rfl
theorem dL_law_380 : decode cL_law 380 = .ok (.pop, 1) := dget zdL_law_120 76 rfl
theorem dL_law_381 : decode cL_law 381 = .ok (.goto 653, 3) := dget zdL_law_120 77 rfl
theorem dL_law_384 : decode cL_law 384 = .ok (.aload_n 1, 1) := dget zdL_law_120 78 rfl
theorem dL_law_385 : decode cL_law 385 = .ok (.aload_n 0, 1) := dget zdL_law_120 79 rfl
theorem dL_law_386 : decode cL_law 386 = .ok (.iload_n 3, 1) := dget zdL_law_120 80 rfl
theorem dL_law_387 : decode cL_law 387 = .ok (.iconst 1, 1) := dget zdL_law_120 81 rfl
theorem dL_law_388 : decode cL_law 388 = .ok (.iadd, 1) := dget zdL_law_120 82 rfl
theorem dL_law_389 : decode cL_law 389 = .ok (.iaload, 1) := dget zdL_law_120 83 rfl
theorem dL_law_390 : decode cL_law 390 = .ok (.aload_n 0, 1) := dget zdL_law_120 84 rfl
theorem dL_law_391 : decode cL_law 391 = .ok (.iload_n 3, 1) := dget zdL_law_120 85 rfl
theorem dL_law_392 : decode cL_law 392 = .ok (.iconst 2, 1) := dget zdL_law_120 86 rfl
theorem dL_law_393 : decode cL_law 393 = .ok (.iadd, 1) := dget zdL_law_120 87 rfl
theorem dL_law_394 : decode cL_law 394 = .ok (.iaload, 1) := dget zdL_law_120 88 rfl
theorem dL_law_395 : decode cL_law 395 = .ok (.aload_n 0, 1) := dget zdL_law_120 89 rfl
theorem dL_law_396 : decode cL_law 396 = .ok (.iload_n 3, 1) := dget zdL_law_120 90 rfl
theorem dL_law_397 : decode cL_law 397 = .ok (.iconst 3, 1) := dget zdL_law_120 91 rfl
theorem dL_law_398 : decode cL_law 398 = .ok (.iadd, 1) := dget zdL_law_120 92 rfl
theorem dL_law_399 : decode cL_law 399 = .ok (.iaload, 1) := dget zdL_law_120 93 rfl
theorem dL_law_400 : decode cL_law 400 = .ok (.aload_n 0, 1) := dget zdL_law_120 94 rfl
theorem dL_law_401 : decode cL_law 401 = .ok (.iload_n 3, 1) := dget zdL_law_120 95 rfl
theorem dL_law_402 : decode cL_law 402 = .ok (.iconst 4, 1) := dget zdL_law_120 96 rfl
theorem dL_law_403 : decode cL_law 403 = .ok (.iadd, 1) := dget zdL_law_120 97 rfl
theorem dL_law_404 : decode cL_law 404 = .ok (.iaload, 1) := dget zdL_law_120 98 rfl
theorem dL_law_405 : decode cL_law 405 = .ok (.invokevirtual 50, 3) := dget zdL_law_120 99 rfl
theorem dL_law_408 : decode cL_law 408 = .ok (.pop, 1) := dget zdL_law_120 100 rfl
theorem dL_law_409 : decode cL_law 409 = .ok (.aload_n 2, 1) := dget zdL_law_120 101 rfl
theorem dL_law_410 : decode cL_law 410 = .ok (.aload_n 0, 1) := dget zdL_law_120 102 rfl
theorem dL_law_411 : decode cL_law 411 = .ok (.iload_n 3, 1) := dget zdL_law_120 103 rfl
theorem dL_law_412 : decode cL_law 412 = .ok (.iconst 1, 1) := dget zdL_law_120 104 rfl
theorem dL_law_413 : decode cL_law 413 = .ok (.iadd, 1) := dget zdL_law_120 105 rfl
theorem dL_law_414 : decode cL_law 414 = .ok (.iaload, 1) := dget zdL_law_120 106 rfl
theorem dL_law_415 : decode cL_law 415 = .ok (.aload_n 0, 1) := dget zdL_law_120 107 rfl
theorem dL_law_416 : decode cL_law 416 = .ok (.iload_n 3, 1) := dget zdL_law_120 108 rfl
theorem dL_law_417 : decode cL_law 417 = .ok (.iconst 2, 1) := dget zdL_law_120 109 rfl
theorem dL_law_418 : decode cL_law 418 = .ok (.iadd, 1) := dget zdL_law_120 110 rfl
theorem dL_law_419 : decode cL_law 419 = .ok (.iaload, 1) := dget zdL_law_120 111 rfl
theorem dL_law_420 : decode cL_law 420 = .ok (.aload_n 0, 1) := dget zdL_law_120 112 rfl
theorem dL_law_421 : decode cL_law 421 = .ok (.iload_n 3, 1) := dget zdL_law_120 113 rfl
theorem dL_law_422 : decode cL_law 422 = .ok (.iconst 3, 1) := dget zdL_law_120 114 rfl
theorem dL_law_423 : decode cL_law 423 = .ok (.iadd, 1) := dget zdL_law_120 115 rfl
theorem dL_law_424 : decode cL_law 424 = .ok (.iaload, 1) := dget zdL_law_120 116 rfl
theorem dL_law_425 : decode cL_law 425 = .ok (.aload_n 0, 1) := dget zdL_law_120 117 rfl
theorem dL_law_426 : decode cL_law 426 = .ok (.iload_n 3, 1) := dget zdL_law_120 118 rfl
theorem dL_law_427 : decode cL_law 427 = .ok (.iconst 4, 1) := dget zdL_law_120 119 rfl
theorem zdL_law_240 : dchk cL_law [(428, .iadd, 1), (429, .iaload, 1), (430, .invokevirtual 54, 3), (433, .pop, 1), (434, .goto 600, 3), (437, .aload_n 1, 1), (438, .aload_n 0, 1), (439, .iload_n 3, 1), (440, .iconst 1, 1), (441, .iadd, 1), (442, .iaload, 1), (443, .aload_n 0, 1), (444, .iload_n 3, 1), (445, .iconst 2, 1), (446, .iadd, 1), (447, .iaload, 1), (448, .invokevirtual 55, 3), (451, .pop, 1), (452, .aload_n 2, 1), (453, .aload_n 0, 1), (454, .iload_n 3, 1), (455, .iconst 1, 1), (456, .iadd, 1), (457, .iaload, 1), (458, .aload_n 0, 1), (459, .iload_n 3, 1), (460, .iconst 2, 1), (461, .iadd, 1), (462, .iaload, 1), (463, .invokevirtual 58, 3), (466, .pop, 1), (467, .goto 567, 3), (470, .aload_n 1, 1), (471, .aload_n 0, 1), (472, .iload_n 3, 1), (473, .iconst 1, 1), (474, .iadd, 1), (475, .iaload, 1), (476, .aload_n 0, 1), (477, .iload_n 3, 1), (478, .iconst 2, 1), (479, .iadd, 1), (480, .iaload, 1), (481, .invokevirtual 59, 3), (484, .pop, 1), (485, .aload_n 2, 1), (486, .aload_n 0, 1), (487, .iload_n 3, 1), (488, .iconst 1, 1), (489, .iadd, 1), (490, .iaload, 1), (491, .aload_n 0, 1), (492, .iload_n 3, 1), (493, .iconst 2, 1), (494, .iadd, 1), (495, .iaload, 1), (496, .invokevirtual 62, 3), (499, .pop, 1), (500, .goto 534, 3), (503, .aload_n 1, 1), (504, .aload_n 0, 1), (505, .iload_n 3, 1), (506, .iconst 1, 1), (507, .iadd, 1), (508, .iaload, 1), (509, .invokevirtual 63, 3), (512, .pop, 1), (513, .aload_n 2, 1), (514, .aload_n 0, 1), (515, .iload_n 3, 1), (516, .iconst 1, 1), (517, .iadd, 1), (518, .iaload, 1), (519, .invokevirtual 66, 3), (522, .pop, 1), (523, .goto 511, 3), (526, .aload_n 1, 1), (527, .invokevirtual 67, 3), (530, .pop, 1), (531, .aload_n 2, 1), (532, .invokevirtual 70, 3), (535, .pop, 1), (536, .goto 498, 3), (539, .aload_n 1, 1), (540, .aload_n 0, 1), (541, .iload_n 3, 1), (542, .iconst 1, 1), (543, .iadd, 1), (544, .iaload, 1), (545, .invokevirtual 71, 3), (548, .pop, 1), (549, .aload_n 2, 1), (550, .aload_n 0, 1), (551, .iload_n 3, 1), (552, .iconst 1, 1), (553, .iadd, 1), (554, .iaload, 1), (555, .invokevirtual 74, 3), (558, .pop, 1), (559, .goto 475, 3), (562, .aload_n 1, 1), (563, .aload_n 0, 1), (564, .iload_n 3, 1), (565, .iconst 1, 1), (566, .iadd, 1), (567, .iaload, 1), (568, .aload_n 0, 1), (569, .iload_n 3, 1), (570, .iconst 2, 1), (571, .iadd, 1), (572, .iaload, 1), (573, .invokevirtual 75, 3), (576, .pop, 1), (577, .aload_n 2, 1), (578, .aload_n 0, 1), (579, .iload_n 3, 1), (580, .iconst 1, 1), (581, .iadd, 1), (582, .iaload, 1), (583, .aload_n 0, 1)] = true := by decide +kernel
theorem dL_law_428 : decode cL_law 428 = .ok (.iadd, 1) := dget zdL_law_240 0 rfl
theorem dL_law_429 : decode cL_law 429 = .ok (.iaload, 1) := dget zdL_law_240 1 rfl
theorem dL_law_430 : decode cL_law 430 = .ok (.invokevirtual 54, 3) := dget zdL_law_240 2 rfl
theorem dL_law_433 : decode cL_law 433 = .ok (.pop, 1) := dget zdL_law_240 3 rfl
theorem dL_law_434 : decode cL_law 434 = .ok (.goto 600, 3) := dget zdL_law_240 4 rfl
theorem dL_law_437 : decode cL_law 437 = .ok (.aload_n 1, 1) := dget zdL_law_240 5 rfl
theorem dL_law_438 : decode cL_law 438 = .ok (.aload_n 0, 1) := dget zdL_law_240 6 rfl
theorem dL_law_439 : decode cL_law 439 = .ok (.iload_n 3, 1) := dget zdL_law_240 7 rfl
theorem dL_law_440 : decode cL_law 440 = .ok (.iconst 1, 1) := dget zdL_law_240 8 rfl
theorem dL_law_441 : decode cL_law 441 = .ok (.iadd, 1) := dget zdL_law_240 9 rfl
theorem dL_law_442 : decode cL_law 442 = .ok (.iaload, 1) := dget zdL_law_240 10 rfl
theorem dL_law_443 : decode cL_law 443 = .ok (.aload_n 0, 1) := dget zdL_law_240 11 rfl
theorem dL_law_444 : decode cL_law 444 = .ok (.iload_n 3, 1) := dget zdL_law_240 12 rfl
theorem dL_law_445 : decode cL_law 445 = .ok (.iconst 2, 1) := dget zdL_law_240 13 rfl
theorem dL_law_446 : decode cL_law 446 = .ok (.iadd, 1) := dget zdL_law_240 14 rfl
theorem dL_law_447 : decode cL_law 447 = .ok (.iaload, 1) := dget zdL_law_240 15 rfl
theorem dL_law_448 : decode cL_law 448 = .ok (.invokevirtual 55, 3) := dget zdL_law_240 16 rfl
theorem dL_law_451 : decode cL_law 451 = .ok (.pop, 1) := dget zdL_law_240 17 rfl
theorem dL_law_452 : decode cL_law 452 = .ok (.aload_n 2, 1) := dget zdL_law_240 18 rfl
theorem dL_law_453 : decode cL_law 453 = .ok (.aload_n 0, 1) := dget zdL_law_240 19 rfl
theorem dL_law_454 : decode cL_law 454 = .ok (.iload_n 3, 1) := dget zdL_law_240 20 rfl
theorem dL_law_455 : decode cL_law 455 = .ok (.iconst 1, 1) := dget zdL_law_240 21 rfl
theorem dL_law_456 : decode cL_law 456 = .ok (.iadd, 1) := dget zdL_law_240 22 rfl
theorem dL_law_457 : decode cL_law 457 = .ok (.iaload, 1) := dget zdL_law_240 23 rfl
theorem dL_law_458 : decode cL_law 458 = .ok (.aload_n 0, 1) := dget zdL_law_240 24 rfl
theorem dL_law_459 : decode cL_law 459 = .ok (.iload_n 3, 1) := dget zdL_law_240 25 rfl
theorem dL_law_460 : decode cL_law 460 = .ok (.iconst 2, 1) := dget zdL_law_240 26 rfl
theorem dL_law_461 : decode cL_law 461 = .ok (.iadd, 1) := dget zdL_law_240 27 rfl
theorem dL_law_462 : decode cL_law 462 = .ok (.iaload, 1) := dget zdL_law_240 28 rfl
theorem dL_law_463 : decode cL_law 463 = .ok (.invokevirtual 58, 3) := dget zdL_law_240 29 rfl
theorem dL_law_466 : decode cL_law 466 = .ok (.pop, 1) := dget zdL_law_240 30 rfl
theorem dL_law_467 : decode cL_law 467 = .ok (.goto 567, 3) := dget zdL_law_240 31 rfl
theorem dL_law_470 : decode cL_law 470 = .ok (.aload_n 1, 1) := dget zdL_law_240 32 rfl
theorem dL_law_471 : decode cL_law 471 = .ok (.aload_n 0, 1) := dget zdL_law_240 33 rfl
theorem dL_law_472 : decode cL_law 472 = .ok (.iload_n 3, 1) := dget zdL_law_240 34 rfl
theorem dL_law_473 : decode cL_law 473 = .ok (.iconst 1, 1) := dget zdL_law_240 35 rfl
theorem dL_law_474 : decode cL_law 474 = .ok (.iadd, 1) := dget zdL_law_240 36 rfl
theorem dL_law_475 : decode cL_law 475 = .ok (.iaload, 1) := dget zdL_law_240 37 rfl
theorem dL_law_476 : decode cL_law 476 = .ok (.aload_n 0, 1) := dget zdL_law_240 38 rfl
theorem dL_law_477 : decode cL_law 477 = .ok (.iload_n 3, 1) := dget zdL_law_240 39 rfl
theorem dL_law_478 : decode cL_law 478 = .ok (.iconst 2, 1) := dget zdL_law_240 40 rfl
theorem dL_law_479 : decode cL_law 479 = .ok (.iadd, 1) := dget zdL_law_240 41 rfl
theorem dL_law_480 : decode cL_law 480 = .ok (.iaload, 1) := dget zdL_law_240 42 rfl
theorem dL_law_481 : decode cL_law 481 = .ok (.invokevirtual 59, 3) := dget zdL_law_240 43 rfl
theorem dL_law_484 : decode cL_law 484 = .ok (.pop, 1) := dget zdL_law_240 44 rfl
theorem dL_law_485 : decode cL_law 485 = .ok (.aload_n 2, 1) := dget zdL_law_240 45 rfl
theorem dL_law_486 : decode cL_law 486 = .ok (.aload_n 0, 1) := dget zdL_law_240 46 rfl
theorem dL_law_487 : decode cL_law 487 = .ok (.iload_n 3, 1) := dget zdL_law_240 47 rfl
theorem dL_law_488 : decode cL_law 488 = .ok (.iconst 1, 1) := dget zdL_law_240 48 rfl
theorem dL_law_489 : decode cL_law 489 = .ok (.iadd, 1) := dget zdL_law_240 49 rfl
theorem dL_law_490 : decode cL_law 490 = .ok (.iaload, 1) := dget zdL_law_240 50 rfl
theorem dL_law_491 : decode cL_law 491 = .ok (.aload_n 0, 1) := dget zdL_law_240 51 rfl
theorem dL_law_492 : decode cL_law 492 = .ok (.iload_n 3, 1) := dget zdL_law_240 52 rfl
theorem dL_law_493 : decode cL_law 493 = .ok (.iconst 2, 1) := dget zdL_law_240 53 rfl
theorem dL_law_494 : decode cL_law 494 = .ok (.iadd, 1) := dget zdL_law_240 54 rfl
theorem dL_law_495 : decode cL_law 495 = .ok (.iaload, 1) := dget zdL_law_240 55 rfl
theorem dL_law_496 : decode cL_law 496 = .ok (.invokevirtual 62, 3) := dget zdL_law_240 56 rfl
theorem dL_law_499 : decode cL_law 499 = .ok (.pop, 1) := dget zdL_law_240 57 rfl
theorem dL_law_500 : decode cL_law 500 = .ok (.goto 534, 3) := dget zdL_law_240 58 rfl
theorem dL_law_503 : decode cL_law 503 = .ok (.aload_n 1, 1) := dget zdL_law_240 59 rfl
theorem dL_law_504 : decode cL_law 504 = .ok (.aload_n 0, 1) := dget zdL_law_240 60 rfl
theorem dL_law_505 : decode cL_law 505 = .ok (.iload_n 3, 1) := dget zdL_law_240 61 rfl
theorem dL_law_506 : decode cL_law 506 = .ok (.iconst 1, 1) := dget zdL_law_240 62 rfl
theorem dL_law_507 : decode cL_law 507 = .ok (.iadd, 1) := dget zdL_law_240 63 rfl
theorem dL_law_508 : decode cL_law 508 = .ok (.iaload, 1) := dget zdL_law_240 64 rfl
theorem dL_law_509 : decode cL_law 509 = .ok (.invokevirtual 63, 3) := dget zdL_law_240 65 rfl
theorem dL_law_512 : decode cL_law 512 = .ok (.pop, 1) := dget zdL_law_240 66 rfl
theorem dL_law_513 : decode cL_law 513 = .ok (.aload_n 2, 1) := dget zdL_law_240 67 rfl
theorem dL_law_514 : decode cL_law 514 = .ok (.aload_n 0, 1) := dget zdL_law_240 68 rfl
theorem dL_law_515 : decode cL_law 515 = .ok (.iload_n 3, 1) := dget zdL_law_240 69 rfl
theorem dL_law_516 : decode cL_law 516 = .ok (.iconst 1, 1) := dget zdL_law_240 70 rfl
theorem dL_law_517 : decode cL_law 517 = .ok (.iadd, 1) := dget zdL_law_240 71 rfl
theorem dL_law_518 : decode cL_law 518 = .ok (.iaload, 1) := dget zdL_law_240 72 rfl
theorem dL_law_519 : decode cL_law 519 = .ok (.invokevirtual 66, 3) := dget zdL_law_240 73 rfl
theorem dL_law_522 : decode cL_law 522 = .ok (.pop, 1) := dget zdL_law_240 74 rfl
theorem dL_law_523 : decode cL_law 523 = .ok (.goto 511, 3) := dget zdL_law_240 75 rfl
theorem dL_law_526 : decode cL_law 526 = .ok (.aload_n 1, 1) := dget zdL_law_240 76 rfl
theorem dL_law_527 : decode cL_law 527 = .ok (.invokevirtual 67, 3) := dget zdL_law_240 77 rfl
theorem dL_law_530 : decode cL_law 530 = .ok (.pop, 1) := dget zdL_law_240 78 rfl
theorem dL_law_531 : decode cL_law 531 = .ok (.aload_n 2, 1) := dget zdL_law_240 79 rfl
theorem dL_law_532 : decode cL_law 532 = .ok (.invokevirtual 70, 3) := dget zdL_law_240 80 rfl
theorem dL_law_535 : decode cL_law 535 = .ok (.pop, 1) := dget zdL_law_240 81 rfl
theorem dL_law_536 : decode cL_law 536 = .ok (.goto 498, 3) := dget zdL_law_240 82 rfl
theorem dL_law_539 : decode cL_law 539 = .ok (.aload_n 1, 1) := dget zdL_law_240 83 rfl
theorem dL_law_540 : decode cL_law 540 = .ok (.aload_n 0, 1) := dget zdL_law_240 84 rfl
theorem dL_law_541 : decode cL_law 541 = .ok (.iload_n 3, 1) := dget zdL_law_240 85 rfl
theorem dL_law_542 : decode cL_law 542 = .ok (.iconst 1, 1) := dget zdL_law_240 86 rfl
theorem dL_law_543 : decode cL_law 543 = .ok (.iadd, 1) := dget zdL_law_240 87 rfl
theorem dL_law_544 : decode cL_law 544 = .ok (.iaload, 1) := dget zdL_law_240 88 rfl
theorem dL_law_545 : decode cL_law 545 = .ok (.invokevirtual 71, 3) := dget zdL_law_240 89 rfl
theorem dL_law_548 : decode cL_law 548 = .ok (.pop, 1) := dget zdL_law_240 90 rfl
theorem dL_law_549 : decode cL_law 549 = .ok (.aload_n 2, 1) := dget zdL_law_240 91 rfl
theorem dL_law_550 : decode cL_law 550 = .ok (.aload_n 0, 1) := dget zdL_law_240 92 rfl
theorem dL_law_551 : decode cL_law 551 = .ok (.iload_n 3, 1) := dget zdL_law_240 93 rfl
theorem dL_law_552 : decode cL_law 552 = .ok (.iconst 1, 1) := dget zdL_law_240 94 rfl
theorem dL_law_553 : decode cL_law 553 = .ok (.iadd, 1) := dget zdL_law_240 95 rfl
theorem dL_law_554 : decode cL_law 554 = .ok (.iaload, 1) := dget zdL_law_240 96 rfl
theorem dL_law_555 : decode cL_law 555 = .ok (.invokevirtual 74, 3) := dget zdL_law_240 97 rfl
theorem dL_law_558 : decode cL_law 558 = .ok (.pop, 1) := dget zdL_law_240 98 rfl
theorem dL_law_559 : decode cL_law 559 = .ok (.goto 475, 3) := dget zdL_law_240 99 rfl
theorem dL_law_562 : decode cL_law 562 = .ok (.aload_n 1, 1) := dget zdL_law_240 100 rfl
theorem dL_law_563 : decode cL_law 563 = .ok (.aload_n 0, 1) := dget zdL_law_240 101 rfl
theorem dL_law_564 : decode cL_law 564 = .ok (.iload_n 3, 1) := dget zdL_law_240 102 rfl
theorem dL_law_565 : decode cL_law 565 = .ok (.iconst 1, 1) := dget zdL_law_240 103 rfl
theorem dL_law_566 : decode cL_law 566 = .ok (.iadd, 1) := dget zdL_law_240 104 rfl
theorem dL_law_567 : decode cL_law 567 = .ok (.iaload, 1) := dget zdL_law_240 105 rfl
theorem dL_law_568 : decode cL_law 568 = .ok (.aload_n 0, 1) := dget zdL_law_240 106 rfl
theorem dL_law_569 : decode cL_law 569 = .ok (.iload_n 3, 1) := dget zdL_law_240 107 rfl
theorem dL_law_570 : decode cL_law 570 = .ok (.iconst 2, 1) := dget zdL_law_240 108 rfl
theorem dL_law_571 : decode cL_law 571 = .ok (.iadd, 1) := dget zdL_law_240 109 rfl
theorem dL_law_572 : decode cL_law 572 = .ok (.iaload, 1) := dget zdL_law_240 110 rfl
theorem dL_law_573 : decode cL_law 573 = .ok (.invokevirtual 75, 3) := dget zdL_law_240 111 rfl
theorem dL_law_576 : decode cL_law 576 = .ok (.pop, 1) := dget zdL_law_240 112 rfl
theorem dL_law_577 : decode cL_law 577 = .ok (.aload_n 2, 1) := dget zdL_law_240 113 rfl
theorem dL_law_578 : decode cL_law 578 = .ok (.aload_n 0, 1) := dget zdL_law_240 114 rfl
theorem dL_law_579 : decode cL_law 579 = .ok (.iload_n 3, 1) := dget zdL_law_240 115 rfl
theorem dL_law_580 : decode cL_law 580 = .ok (.iconst 1, 1) := dget zdL_law_240 116 rfl
theorem dL_law_581 : decode cL_law 581 = .ok (.iadd, 1) := dget zdL_law_240 117 rfl
theorem dL_law_582 : decode cL_law 582 = .ok (.iaload, 1) := dget zdL_law_240 118 rfl
theorem dL_law_583 : decode cL_law 583 = .ok (.aload_n 0, 1) := dget zdL_law_240 119 rfl
theorem zdL_law_360 : dchk cL_law [(584, .iload_n 3, 1), (585, .iconst 2, 1), (586, .iadd, 1), (587, .iaload, 1), (588, .invokevirtual 78, 3), (591, .pop, 1), (592, .goto 442, 3), (595, .aload_n 1, 1), (596, .aload_n 0, 1), (597, .iload_n 3, 1), (598, .iconst 1, 1), (599, .iadd, 1), (600, .iaload, 1), (601, .aload_n 0, 1), (602, .iload_n 3, 1), (603, .iconst 2, 1), (604, .iadd, 1), (605, .iaload, 1), (606, .aload_n 0, 1), (607, .iload_n 3, 1), (608, .iconst 3, 1), (609, .iadd, 1), (610, .iaload, 1), (611, .invokevirtual 79, 3), (614, .pop, 1), (615, .aload_n 2, 1), (616, .aload_n 0, 1), (617, .iload_n 3, 1), (618, .iconst 1, 1), (619, .iadd, 1), (620, .iaload, 1), (621, .aload_n 0, 1), (622, .iload_n 3, 1), (623, .iconst 2, 1), (624, .iadd, 1), (625, .iaload, 1), (626, .aload_n 0, 1), (627, .iload_n 3, 1), (628, .iconst 3, 1), (629, .iadd, 1), (630, .iaload, 1), (631, .invokevirtual 82, 3), (634, .pop, 1), (635, .goto 399, 3), (638, .aload_n 1, 1), (639, .aload_n 0, 1), (640, .iload_n 3, 1), (641, .iconst 1, 1), (642, .iadd, 1), (643, .iaload, 1), (644, .aload_n 0, 1), (645, .iload_n 3, 1), (646, .iconst 2, 1), (647, .iadd, 1), (648, .iaload, 1), (649, .aload_n 0, 1), (650, .iload_n 3, 1), (651, .iconst 3, 1), (652, .iadd, 1), (653, .iaload, 1), (654, .aload_n 0, 1), (655, .iload_n 3, 1), (656, .iconst 4, 1), (657, .iadd, 1), (658, .iaload, 1), (659, .invokevirtual 83, 3), (662, .pop, 1), (663, .aload_n 2, 1), (664, .aload_n 0, 1), (665, .iload_n 3, 1), (666, .iconst 1, 1), (667, .iadd, 1), (668, .iaload, 1), (669, .aload_n 0, 1), (670, .iload_n 3, 1), (671, .iconst 2, 1), (672, .iadd, 1), (673, .iaload, 1), (674, .aload_n 0, 1), (675, .iload_n 3, 1), (676, .iconst 3, 1), (677, .iadd, 1), (678, .iaload, 1), (679, .aload_n 0, 1), (680, .iload_n 3, 1), (681, .iconst 4, 1), (682, .iadd, 1), (683, .iaload, 1), (684, .invokevirtual 86, 3), (687, .pop, 1), (688, .goto 346, 3), (691, .aload_n 1, 1), (692, .aload_n 0, 1), (693, .iload_n 3, 1), (694, .iconst 1, 1), (695, .iadd, 1), (696, .iaload, 1), (697, .invokevirtual 87, 3), (700, .pop, 1), (701, .aload_n 2, 1), (702, .aload_n 0, 1), (703, .iload_n 3, 1), (704, .iconst 1, 1), (705, .iadd, 1), (706, .iaload, 1), (707, .invokevirtual 90, 3), (710, .pop, 1), (711, .goto 323, 3), (714, .aload_n 1, 1), (715, .aload_n 0, 1), (716, .iload_n 3, 1), (717, .iconst 1, 1), (718, .iadd, 1), (719, .iaload, 1), (720, .aload_n 0, 1), (721, .iload_n 3, 1), (722, .iconst 2, 1), (723, .iadd, 1), (724, .iaload, 1), (725, .aload_n 0, 1)] = true := by decide +kernel
theorem dL_law_584 : decode cL_law 584 = .ok (.iload_n 3, 1) := dget zdL_law_360 0 rfl
theorem dL_law_585 : decode cL_law 585 = .ok (.iconst 2, 1) := dget zdL_law_360 1 rfl
theorem dL_law_586 : decode cL_law 586 = .ok (.iadd, 1) := dget zdL_law_360 2 rfl
theorem dL_law_587 : decode cL_law 587 = .ok (.iaload, 1) := dget zdL_law_360 3 rfl
theorem dL_law_588 : decode cL_law 588 = .ok (.invokevirtual 78, 3) := dget zdL_law_360 4 rfl
theorem dL_law_591 : decode cL_law 591 = .ok (.pop, 1) := dget zdL_law_360 5 rfl
theorem dL_law_592 : decode cL_law 592 = .ok (.goto 442, 3) := dget zdL_law_360 6 rfl
theorem dL_law_595 : decode cL_law 595 = .ok (.aload_n 1, 1) := dget zdL_law_360 7 rfl
theorem dL_law_596 : decode cL_law 596 = .ok (.aload_n 0, 1) := dget zdL_law_360 8 rfl
theorem dL_law_597 : decode cL_law 597 = .ok (.iload_n 3, 1) := dget zdL_law_360 9 rfl
theorem dL_law_598 : decode cL_law 598 = .ok (.iconst 1, 1) := dget zdL_law_360 10 rfl
theorem dL_law_599 : decode cL_law 599 = .ok (.iadd, 1) := dget zdL_law_360 11 rfl
theorem dL_law_600 : decode cL_law 600 = .ok (.iaload, 1) := dget zdL_law_360 12 rfl
theorem dL_law_601 : decode cL_law 601 = .ok (.aload_n 0, 1) := dget zdL_law_360 13 rfl
theorem dL_law_602 : decode cL_law 602 = .ok (.iload_n 3, 1) := dget zdL_law_360 14 rfl
theorem dL_law_603 : decode cL_law 603 = .ok (.iconst 2, 1) := dget zdL_law_360 15 rfl
theorem dL_law_604 : decode cL_law 604 = .ok (.iadd, 1) := dget zdL_law_360 16 rfl
theorem dL_law_605 : decode cL_law 605 = .ok (.iaload, 1) := dget zdL_law_360 17 rfl
theorem dL_law_606 : decode cL_law 606 = .ok (.aload_n 0, 1) := dget zdL_law_360 18 rfl
theorem dL_law_607 : decode cL_law 607 = .ok (.iload_n 3, 1) := dget zdL_law_360 19 rfl
theorem dL_law_608 : decode cL_law 608 = .ok (.iconst 3, 1) := dget zdL_law_360 20 rfl
theorem dL_law_609 : decode cL_law 609 = .ok (.iadd, 1) := dget zdL_law_360 21 rfl
theorem dL_law_610 : decode cL_law 610 = .ok (.iaload, 1) := dget zdL_law_360 22 rfl
theorem dL_law_611 : decode cL_law 611 = .ok (.invokevirtual 79, 3) := dget zdL_law_360 23 rfl
theorem dL_law_614 : decode cL_law 614 = .ok (.pop, 1) := dget zdL_law_360 24 rfl
theorem dL_law_615 : decode cL_law 615 = .ok (.aload_n 2, 1) := dget zdL_law_360 25 rfl
theorem dL_law_616 : decode cL_law 616 = .ok (.aload_n 0, 1) := dget zdL_law_360 26 rfl
theorem dL_law_617 : decode cL_law 617 = .ok (.iload_n 3, 1) := dget zdL_law_360 27 rfl
theorem dL_law_618 : decode cL_law 618 = .ok (.iconst 1, 1) := dget zdL_law_360 28 rfl
theorem dL_law_619 : decode cL_law 619 = .ok (.iadd, 1) := dget zdL_law_360 29 rfl
theorem dL_law_620 : decode cL_law 620 = .ok (.iaload, 1) := dget zdL_law_360 30 rfl
theorem dL_law_621 : decode cL_law 621 = .ok (.aload_n 0, 1) := dget zdL_law_360 31 rfl
theorem dL_law_622 : decode cL_law 622 = .ok (.iload_n 3, 1) := dget zdL_law_360 32 rfl
theorem dL_law_623 : decode cL_law 623 = .ok (.iconst 2, 1) := dget zdL_law_360 33 rfl
theorem dL_law_624 : decode cL_law 624 = .ok (.iadd, 1) := dget zdL_law_360 34 rfl
theorem dL_law_625 : decode cL_law 625 = .ok (.iaload, 1) := dget zdL_law_360 35 rfl
theorem dL_law_626 : decode cL_law 626 = .ok (.aload_n 0, 1) := dget zdL_law_360 36 rfl
theorem dL_law_627 : decode cL_law 627 = .ok (.iload_n 3, 1) := dget zdL_law_360 37 rfl
theorem dL_law_628 : decode cL_law 628 = .ok (.iconst 3, 1) := dget zdL_law_360 38 rfl
theorem dL_law_629 : decode cL_law 629 = .ok (.iadd, 1) := dget zdL_law_360 39 rfl
theorem dL_law_630 : decode cL_law 630 = .ok (.iaload, 1) := dget zdL_law_360 40 rfl
theorem dL_law_631 : decode cL_law 631 = .ok (.invokevirtual 82, 3) := dget zdL_law_360 41 rfl
theorem dL_law_634 : decode cL_law 634 = .ok (.pop, 1) := dget zdL_law_360 42 rfl
theorem dL_law_635 : decode cL_law 635 = .ok (.goto 399, 3) := dget zdL_law_360 43 rfl
theorem dL_law_638 : decode cL_law 638 = .ok (.aload_n 1, 1) := dget zdL_law_360 44 rfl
theorem dL_law_639 : decode cL_law 639 = .ok (.aload_n 0, 1) := dget zdL_law_360 45 rfl
theorem dL_law_640 : decode cL_law 640 = .ok (.iload_n 3, 1) := dget zdL_law_360 46 rfl
theorem dL_law_641 : decode cL_law 641 = .ok (.iconst 1, 1) := dget zdL_law_360 47 rfl
theorem dL_law_642 : decode cL_law 642 = .ok (.iadd, 1) := dget zdL_law_360 48 rfl
theorem dL_law_643 : decode cL_law 643 = .ok (.iaload, 1) := dget zdL_law_360 49 rfl
theorem dL_law_644 : decode cL_law 644 = .ok (.aload_n 0, 1) := dget zdL_law_360 50 rfl
theorem dL_law_645 : decode cL_law 645 = .ok (.iload_n 3, 1) := dget zdL_law_360 51 rfl
theorem dL_law_646 : decode cL_law 646 = .ok (.iconst 2, 1) := dget zdL_law_360 52 rfl
theorem dL_law_647 : decode cL_law 647 = .ok (.iadd, 1) := dget zdL_law_360 53 rfl
theorem dL_law_648 : decode cL_law 648 = .ok (.iaload, 1) := dget zdL_law_360 54 rfl
theorem dL_law_649 : decode cL_law 649 = .ok (.aload_n 0, 1) := dget zdL_law_360 55 rfl
theorem dL_law_650 : decode cL_law 650 = .ok (.iload_n 3, 1) := dget zdL_law_360 56 rfl
theorem dL_law_651 : decode cL_law 651 = .ok (.iconst 3, 1) := dget zdL_law_360 57 rfl
theorem dL_law_652 : decode cL_law 652 = .ok (.iadd, 1) := dget zdL_law_360 58 rfl
theorem dL_law_653 : decode cL_law 653 = .ok (.iaload, 1) := dget zdL_law_360 59 rfl
theorem dL_law_654 : decode cL_law 654 = .ok (.aload_n 0, 1) := dget zdL_law_360 60 rfl
theorem dL_law_655 : decode cL_law 655 = .ok (.iload_n 3, 1) := dget zdL_law_360 61 rfl
theorem dL_law_656 : decode cL_law 656 = .ok (.iconst 4, 1) := dget zdL_law_360 62 rfl
theorem dL_law_657 : decode cL_law 657 = .ok (.iadd, 1) := dget zdL_law_360 63 rfl
theorem dL_law_658 : decode cL_law 658 = .ok (.iaload, 1) := dget zdL_law_360 64 rfl
theorem dL_law_659 : decode cL_law 659 = .ok (.invokevirtual 83, 3) := dget zdL_law_360 65 rfl
theorem dL_law_662 : decode cL_law 662 = .ok (.pop, 1) := dget zdL_law_360 66 rfl
theorem dL_law_663 : decode cL_law 663 = .ok (.aload_n 2, 1) := dget zdL_law_360 67 rfl
theorem dL_law_664 : decode cL_law 664 = .ok (.aload_n 0, 1) := dget zdL_law_360 68 rfl
theorem dL_law_665 : decode cL_law 665 = .ok (.iload_n 3, 1) := dget zdL_law_360 69 rfl
theorem dL_law_666 : decode cL_law 666 = .ok (.iconst 1, 1) := dget zdL_law_360 70 rfl
theorem dL_law_667 : decode cL_law 667 = .ok (.iadd, 1) := dget zdL_law_360 71 rfl
theorem dL_law_668 : decode cL_law 668 = .ok (.iaload, 1) := dget zdL_law_360 72 rfl
theorem dL_law_669 : decode cL_law 669 = .ok (.aload_n 0, 1) := dget zdL_law_360 73 rfl
theorem dL_law_670 : decode cL_law 670 = .ok (.iload_n 3, 1) := dget zdL_law_360 74 rfl
theorem dL_law_671 : decode cL_law 671 = .ok (.iconst 2, 1) := dget zdL_law_360 75 rfl
theorem dL_law_672 : decode cL_law 672 = .ok (.iadd, 1) := dget zdL_law_360 76 rfl
theorem dL_law_673 : decode cL_law 673 = .ok (.iaload, 1) := dget zdL_law_360 77 rfl
theorem dL_law_674 : decode cL_law 674 = .ok (.aload_n 0, 1) := dget zdL_law_360 78 rfl
theorem dL_law_675 : decode cL_law 675 = .ok (.iload_n 3, 1) := dget zdL_law_360 79 rfl
theorem dL_law_676 : decode cL_law 676 = .ok (.iconst 3, 1) := dget zdL_law_360 80 rfl
theorem dL_law_677 : decode cL_law 677 = .ok (.iadd, 1) := dget zdL_law_360 81 rfl
theorem dL_law_678 : decode cL_law 678 = .ok (.iaload, 1) := dget zdL_law_360 82 rfl
theorem dL_law_679 : decode cL_law 679 = .ok (.aload_n 0, 1) := dget zdL_law_360 83 rfl
theorem dL_law_680 : decode cL_law 680 = .ok (.iload_n 3, 1) := dget zdL_law_360 84 rfl
theorem dL_law_681 : decode cL_law 681 = .ok (.iconst 4, 1) := dget zdL_law_360 85 rfl
theorem dL_law_682 : decode cL_law 682 = .ok (.iadd, 1) := dget zdL_law_360 86 rfl
theorem dL_law_683 : decode cL_law 683 = .ok (.iaload, 1) := dget zdL_law_360 87 rfl
theorem dL_law_684 : decode cL_law 684 = .ok (.invokevirtual 86, 3) := dget zdL_law_360 88 rfl
theorem dL_law_687 : decode cL_law 687 = .ok (.pop, 1) := dget zdL_law_360 89 rfl
theorem dL_law_688 : decode cL_law 688 = .ok (.goto 346, 3) := dget zdL_law_360 90 rfl
theorem dL_law_691 : decode cL_law 691 = .ok (.aload_n 1, 1) := dget zdL_law_360 91 rfl
theorem dL_law_692 : decode cL_law 692 = .ok (.aload_n 0, 1) := dget zdL_law_360 92 rfl
theorem dL_law_693 : decode cL_law 693 = .ok (.iload_n 3, 1) := dget zdL_law_360 93 rfl
theorem dL_law_694 : decode cL_law 694 = .ok (.iconst 1, 1) := dget zdL_law_360 94 rfl
theorem dL_law_695 : decode cL_law 695 = .ok (.iadd, 1) := dget zdL_law_360 95 rfl
theorem dL_law_696 : decode cL_law 696 = .ok (.iaload, 1) := dget zdL_law_360 96 rfl
theorem dL_law_697 : decode cL_law 697 = .ok (.invokevirtual 87, 3) := dget zdL_law_360 97 rfl
theorem dL_law_700 : decode cL_law 700 = .ok (.pop, 1) := dget zdL_law_360 98 rfl
theorem dL_law_701 : decode cL_law 701 = .ok (.aload_n 2, 1) := dget zdL_law_360 99 rfl
theorem dL_law_702 : decode cL_law 702 = .ok (.aload_n 0, 1) := dget zdL_law_360 100 rfl
theorem dL_law_703 : decode cL_law 703 = .ok (.iload_n 3, 1) := dget zdL_law_360 101 rfl
theorem dL_law_704 : decode cL_law 704 = .ok (.iconst 1, 1) := dget zdL_law_360 102 rfl
theorem dL_law_705 : decode cL_law 705 = .ok (.iadd, 1) := dget zdL_law_360 103 rfl
theorem dL_law_706 : decode cL_law 706 = .ok (.iaload, 1) := dget zdL_law_360 104 rfl
theorem dL_law_707 : decode cL_law 707 = .ok (.invokevirtual 90, 3) := dget zdL_law_360 105 rfl
theorem dL_law_710 : decode cL_law 710 = .ok (.pop, 1) := dget zdL_law_360 106 rfl
theorem dL_law_711 : decode cL_law 711 = .ok (.goto 323, 3) := dget zdL_law_360 107 rfl
theorem dL_law_714 : decode cL_law 714 = .ok (.aload_n 1, 1) := dget zdL_law_360 108 rfl
theorem dL_law_715 : decode cL_law 715 = .ok (.aload_n 0, 1) := dget zdL_law_360 109 rfl
theorem dL_law_716 : decode cL_law 716 = .ok (.iload_n 3, 1) := dget zdL_law_360 110 rfl
theorem dL_law_717 : decode cL_law 717 = .ok (.iconst 1, 1) := dget zdL_law_360 111 rfl
theorem dL_law_718 : decode cL_law 718 = .ok (.iadd, 1) := dget zdL_law_360 112 rfl
theorem dL_law_719 : decode cL_law 719 = .ok (.iaload, 1) := dget zdL_law_360 113 rfl
theorem dL_law_720 : decode cL_law 720 = .ok (.aload_n 0, 1) := dget zdL_law_360 114 rfl
theorem dL_law_721 : decode cL_law 721 = .ok (.iload_n 3, 1) := dget zdL_law_360 115 rfl
theorem dL_law_722 : decode cL_law 722 = .ok (.iconst 2, 1) := dget zdL_law_360 116 rfl
theorem dL_law_723 : decode cL_law 723 = .ok (.iadd, 1) := dget zdL_law_360 117 rfl
theorem dL_law_724 : decode cL_law 724 = .ok (.iaload, 1) := dget zdL_law_360 118 rfl
theorem dL_law_725 : decode cL_law 725 = .ok (.aload_n 0, 1) := dget zdL_law_360 119 rfl
theorem zdL_law_480 : dchk cL_law [(726, .iload_n 3, 1), (727, .iconst 3, 1), (728, .iadd, 1), (729, .iaload, 1), (730, .invokevirtual 91, 3), (733, .pop, 1), (734, .aload_n 2, 1), (735, .aload_n 0, 1), (736, .iload_n 3, 1), (737, .iconst 1, 1), (738, .iadd, 1), (739, .iaload, 1), (740, .aload_n 0, 1), (741, .iload_n 3, 1), (742, .iconst 2, 1), (743, .iadd, 1), (744, .iaload, 1), (745, .aload_n 0, 1), (746, .iload_n 3, 1), (747, .iconst 3, 1), (748, .iadd, 1), (749, .iaload, 1), (750, .invokevirtual 94, 3), (753, .pop, 1), (754, .goto 280, 3), (757, .aload_n 1, 1), (758, .aload_n 0, 1), (759, .iload_n 3, 1), (760, .iconst 1, 1), (761, .iadd, 1), (762, .iaload, 1), (763, .aload_n 0, 1), (764, .iload_n 3, 1), (765, .iconst 2, 1), (766, .iadd, 1), (767, .iaload, 1), (768, .aload_n 0, 1), (769, .iload_n 3, 1), (770, .iconst 3, 1), (771, .iadd, 1), (772, .iaload, 1), (773, .invokevirtual 95, 3), (776, .pop, 1), (777, .aload_n 2, 1), (778, .aload_n 0, 1), (779, .iload_n 3, 1), (780, .iconst 1, 1), (781, .iadd, 1), (782, .iaload, 1), (783, .aload_n 0, 1), (784, .iload_n 3, 1), (785, .iconst 2, 1), (786, .iadd, 1), (787, .iaload, 1), (788, .aload_n 0, 1), (789, .iload_n 3, 1), (790, .iconst 3, 1), (791, .iadd, 1), (792, .iaload, 1), (793, .invokevirtual 98, 3), (796, .pop, 1), (797, .goto 237, 3), (800, .aload_n 1, 1), (801, .invokevirtual 99, 3), (804, .pop, 1), (805, .aload_n 2, 1), (806, .invokevirtual 102, 3), (809, .pop, 1), (810, .goto 224, 3), (813, .aload_n 1, 1), (814, .aload_n 0, 1), (815, .iload_n 3, 1), (816, .iconst 1, 1), (817, .iadd, 1), (818, .iaload, 1), (819, .invokevirtual 103, 3), (822, .pop, 1), (823, .aload_n 2, 1), (824, .aload_n 0, 1), (825, .iload_n 3, 1), (826, .iconst 1, 1), (827, .iadd, 1), (828, .iaload, 1), (829, .invokevirtual 106, 3), (832, .pop, 1), (833, .goto 201, 3), (836, .aload_n 1, 1), (837, .aload_n 0, 1), (838, .iload_n 3, 1), (839, .iconst 1, 1), (840, .iadd, 1), (841, .iaload, 1), (842, .aload_n 0, 1), (843, .iload_n 3, 1), (844, .iconst 2, 1), (845, .iadd, 1), (846, .iaload, 1), (847, .aload_n 0, 1), (848, .iload_n 3, 1), (849, .iconst 3, 1), (850, .iadd, 1), (851, .iaload, 1), (852, .invokevirtual 107, 3), (855, .pop, 1), (856, .aload_n 2, 1), (857, .aload_n 0, 1), (858, .iload_n 3, 1), (859, .iconst 1, 1), (860, .iadd, 1), (861, .iaload, 1), (862, .aload_n 0, 1), (863, .iload_n 3, 1), (864, .iconst 2, 1), (865, .iadd, 1), (866, .iaload, 1), (867, .aload_n 0, 1), (868, .iload_n 3, 1), (869, .iconst 3, 1), (870, .iadd, 1), (871, .iaload, 1)] = true := by decide +kernel
theorem dL_law_726 : decode cL_law 726 = .ok (.iload_n 3, 1) := dget zdL_law_480 0 rfl
theorem dL_law_727 : decode cL_law 727 = .ok (.iconst 3, 1) := dget zdL_law_480 1 rfl
theorem dL_law_728 : decode cL_law 728 = .ok (.iadd, 1) := dget zdL_law_480 2 rfl
theorem dL_law_729 : decode cL_law 729 = .ok (.iaload, 1) := dget zdL_law_480 3 rfl
theorem dL_law_730 : decode cL_law 730 = .ok (.invokevirtual 91, 3) := dget zdL_law_480 4 rfl
theorem dL_law_733 : decode cL_law 733 = .ok (.pop, 1) := dget zdL_law_480 5 rfl
theorem dL_law_734 : decode cL_law 734 = .ok (.aload_n 2, 1) := dget zdL_law_480 6 rfl
theorem dL_law_735 : decode cL_law 735 = .ok (.aload_n 0, 1) := dget zdL_law_480 7 rfl
theorem dL_law_736 : decode cL_law 736 = .ok (.iload_n 3, 1) := dget zdL_law_480 8 rfl
theorem dL_law_737 : decode cL_law 737 = .ok (.iconst 1, 1) := dget zdL_law_480 9 rfl
theorem dL_law_738 : decode cL_law 738 = .ok (.iadd, 1) := dget zdL_law_480 10 rfl
theorem dL_law_739 : decode cL_law 739 = .ok (.iaload, 1) := dget zdL_law_480 11 rfl
theorem dL_law_740 : decode cL_law 740 = .ok (.aload_n 0, 1) := dget zdL_law_480 12 rfl
theorem dL_law_741 : decode cL_law 741 = .ok (.iload_n 3, 1) := dget zdL_law_480 13 rfl
theorem dL_law_742 : decode cL_law 742 = .ok (.iconst 2, 1) := dget zdL_law_480 14 rfl
theorem dL_law_743 : decode cL_law 743 = .ok (.iadd, 1) := dget zdL_law_480 15 rfl
theorem dL_law_744 : decode cL_law 744 = .ok (.iaload, 1) := dget zdL_law_480 16 rfl
theorem dL_law_745 : decode cL_law 745 = .ok (.aload_n 0, 1) := dget zdL_law_480 17 rfl
theorem dL_law_746 : decode cL_law 746 = .ok (.iload_n 3, 1) := dget zdL_law_480 18 rfl
theorem dL_law_747 : decode cL_law 747 = .ok (.iconst 3, 1) := dget zdL_law_480 19 rfl
theorem dL_law_748 : decode cL_law 748 = .ok (.iadd, 1) := dget zdL_law_480 20 rfl
theorem dL_law_749 : decode cL_law 749 = .ok (.iaload, 1) := dget zdL_law_480 21 rfl
theorem dL_law_750 : decode cL_law 750 = .ok (.invokevirtual 94, 3) := dget zdL_law_480 22 rfl
theorem dL_law_753 : decode cL_law 753 = .ok (.pop, 1) := dget zdL_law_480 23 rfl
theorem dL_law_754 : decode cL_law 754 = .ok (.goto 280, 3) := dget zdL_law_480 24 rfl
theorem dL_law_757 : decode cL_law 757 = .ok (.aload_n 1, 1) := dget zdL_law_480 25 rfl
theorem dL_law_758 : decode cL_law 758 = .ok (.aload_n 0, 1) := dget zdL_law_480 26 rfl
theorem dL_law_759 : decode cL_law 759 = .ok (.iload_n 3, 1) := dget zdL_law_480 27 rfl
theorem dL_law_760 : decode cL_law 760 = .ok (.iconst 1, 1) := dget zdL_law_480 28 rfl
theorem dL_law_761 : decode cL_law 761 = .ok (.iadd, 1) := dget zdL_law_480 29 rfl
theorem dL_law_762 : decode cL_law 762 = .ok (.iaload, 1) := dget zdL_law_480 30 rfl
theorem dL_law_763 : decode cL_law 763 = .ok (.aload_n 0, 1) := dget zdL_law_480 31 rfl
theorem dL_law_764 : decode cL_law 764 = .ok (.iload_n 3, 1) := dget zdL_law_480 32 rfl
theorem dL_law_765 : decode cL_law 765 = .ok (.iconst 2, 1) := dget zdL_law_480 33 rfl
theorem dL_law_766 : decode cL_law 766 = .ok (.iadd, 1) := dget zdL_law_480 34 rfl
theorem dL_law_767 : decode cL_law 767 = .ok (.iaload, 1) := dget zdL_law_480 35 rfl
theorem dL_law_768 : decode cL_law 768 = .ok (.aload_n 0, 1) := dget zdL_law_480 36 rfl
theorem dL_law_769 : decode cL_law 769 = .ok (.iload_n 3, 1) := dget zdL_law_480 37 rfl
theorem dL_law_770 : decode cL_law 770 = .ok (.iconst 3, 1) := dget zdL_law_480 38 rfl
theorem dL_law_771 : decode cL_law 771 = .ok (.iadd, 1) := dget zdL_law_480 39 rfl
theorem dL_law_772 : decode cL_law 772 = .ok (.iaload, 1) := dget zdL_law_480 40 rfl
theorem dL_law_773 : decode cL_law 773 = .ok (.invokevirtual 95, 3) := dget zdL_law_480 41 rfl
theorem dL_law_776 : decode cL_law 776 = .ok (.pop, 1) := dget zdL_law_480 42 rfl
theorem dL_law_777 : decode cL_law 777 = .ok (.aload_n 2, 1) := dget zdL_law_480 43 rfl
theorem dL_law_778 : decode cL_law 778 = .ok (.aload_n 0, 1) := dget zdL_law_480 44 rfl
theorem dL_law_779 : decode cL_law 779 = .ok (.iload_n 3, 1) := dget zdL_law_480 45 rfl
theorem dL_law_780 : decode cL_law 780 = .ok (.iconst 1, 1) := dget zdL_law_480 46 rfl
theorem dL_law_781 : decode cL_law 781 = .ok (.iadd, 1) := dget zdL_law_480 47 rfl
theorem dL_law_782 : decode cL_law 782 = .ok (.iaload, 1) := dget zdL_law_480 48 rfl
theorem dL_law_783 : decode cL_law 783 = .ok (.aload_n 0, 1) := dget zdL_law_480 49 rfl
theorem dL_law_784 : decode cL_law 784 = .ok (.iload_n 3, 1) := dget zdL_law_480 50 rfl
theorem dL_law_785 : decode cL_law 785 = .ok (.iconst 2, 1) := dget zdL_law_480 51 rfl
theorem dL_law_786 : decode cL_law 786 = .ok (.iadd, 1) := dget zdL_law_480 52 rfl
theorem dL_law_787 : decode cL_law 787 = .ok (.iaload, 1) := dget zdL_law_480 53 rfl
theorem dL_law_788 : decode cL_law 788 = .ok (.aload_n 0, 1) := dget zdL_law_480 54 rfl
theorem dL_law_789 : decode cL_law 789 = .ok (.iload_n 3, 1) := dget zdL_law_480 55 rfl
theorem dL_law_790 : decode cL_law 790 = .ok (.iconst 3, 1) := dget zdL_law_480 56 rfl
theorem dL_law_791 : decode cL_law 791 = .ok (.iadd, 1) := dget zdL_law_480 57 rfl
theorem dL_law_792 : decode cL_law 792 = .ok (.iaload, 1) := dget zdL_law_480 58 rfl
theorem dL_law_793 : decode cL_law 793 = .ok (.invokevirtual 98, 3) := dget zdL_law_480 59 rfl
theorem dL_law_796 : decode cL_law 796 = .ok (.pop, 1) := dget zdL_law_480 60 rfl
theorem dL_law_797 : decode cL_law 797 = .ok (.goto 237, 3) := dget zdL_law_480 61 rfl
theorem dL_law_800 : decode cL_law 800 = .ok (.aload_n 1, 1) := dget zdL_law_480 62 rfl
theorem dL_law_801 : decode cL_law 801 = .ok (.invokevirtual 99, 3) := dget zdL_law_480 63 rfl
theorem dL_law_804 : decode cL_law 804 = .ok (.pop, 1) := dget zdL_law_480 64 rfl
theorem dL_law_805 : decode cL_law 805 = .ok (.aload_n 2, 1) := dget zdL_law_480 65 rfl
theorem dL_law_806 : decode cL_law 806 = .ok (.invokevirtual 102, 3) := dget zdL_law_480 66 rfl
theorem dL_law_809 : decode cL_law 809 = .ok (.pop, 1) := dget zdL_law_480 67 rfl
theorem dL_law_810 : decode cL_law 810 = .ok (.goto 224, 3) := dget zdL_law_480 68 rfl
theorem dL_law_813 : decode cL_law 813 = .ok (.aload_n 1, 1) := dget zdL_law_480 69 rfl
theorem dL_law_814 : decode cL_law 814 = .ok (.aload_n 0, 1) := dget zdL_law_480 70 rfl
theorem dL_law_815 : decode cL_law 815 = .ok (.iload_n 3, 1) := dget zdL_law_480 71 rfl
theorem dL_law_816 : decode cL_law 816 = .ok (.iconst 1, 1) := dget zdL_law_480 72 rfl
theorem dL_law_817 : decode cL_law 817 = .ok (.iadd, 1) := dget zdL_law_480 73 rfl
theorem dL_law_818 : decode cL_law 818 = .ok (.iaload, 1) := dget zdL_law_480 74 rfl
theorem dL_law_819 : decode cL_law 819 = .ok (.invokevirtual 103, 3) := dget zdL_law_480 75 rfl
theorem dL_law_822 : decode cL_law 822 = .ok (.pop, 1) := dget zdL_law_480 76 rfl
theorem dL_law_823 : decode cL_law 823 = .ok (.aload_n 2, 1) := dget zdL_law_480 77 rfl
theorem dL_law_824 : decode cL_law 824 = .ok (.aload_n 0, 1) := dget zdL_law_480 78 rfl
theorem dL_law_825 : decode cL_law 825 = .ok (.iload_n 3, 1) := dget zdL_law_480 79 rfl
theorem dL_law_826 : decode cL_law 826 = .ok (.iconst 1, 1) := dget zdL_law_480 80 rfl
theorem dL_law_827 : decode cL_law 827 = .ok (.iadd, 1) := dget zdL_law_480 81 rfl
theorem dL_law_828 : decode cL_law 828 = .ok (.iaload, 1) := dget zdL_law_480 82 rfl
theorem dL_law_829 : decode cL_law 829 = .ok (.invokevirtual 106, 3) := dget zdL_law_480 83 rfl
theorem dL_law_832 : decode cL_law 832 = .ok (.pop, 1) := dget zdL_law_480 84 rfl
theorem dL_law_833 : decode cL_law 833 = .ok (.goto 201, 3) := dget zdL_law_480 85 rfl
theorem dL_law_836 : decode cL_law 836 = .ok (.aload_n 1, 1) := dget zdL_law_480 86 rfl
theorem dL_law_837 : decode cL_law 837 = .ok (.aload_n 0, 1) := dget zdL_law_480 87 rfl
theorem dL_law_838 : decode cL_law 838 = .ok (.iload_n 3, 1) := dget zdL_law_480 88 rfl
theorem dL_law_839 : decode cL_law 839 = .ok (.iconst 1, 1) := dget zdL_law_480 89 rfl
theorem dL_law_840 : decode cL_law 840 = .ok (.iadd, 1) := dget zdL_law_480 90 rfl
theorem dL_law_841 : decode cL_law 841 = .ok (.iaload, 1) := dget zdL_law_480 91 rfl
theorem dL_law_842 : decode cL_law 842 = .ok (.aload_n 0, 1) := dget zdL_law_480 92 rfl
theorem dL_law_843 : decode cL_law 843 = .ok (.iload_n 3, 1) := dget zdL_law_480 93 rfl
theorem dL_law_844 : decode cL_law 844 = .ok (.iconst 2, 1) := dget zdL_law_480 94 rfl
theorem dL_law_845 : decode cL_law 845 = .ok (.iadd, 1) := dget zdL_law_480 95 rfl
theorem dL_law_846 : decode cL_law 846 = .ok (.iaload, 1) := dget zdL_law_480 96 rfl
theorem dL_law_847 : decode cL_law 847 = .ok (.aload_n 0, 1) := dget zdL_law_480 97 rfl
theorem dL_law_848 : decode cL_law 848 = .ok (.iload_n 3, 1) := dget zdL_law_480 98 rfl
theorem dL_law_849 : decode cL_law 849 = .ok (.iconst 3, 1) := dget zdL_law_480 99 rfl
theorem dL_law_850 : decode cL_law 850 = .ok (.iadd, 1) := dget zdL_law_480 100 rfl
theorem dL_law_851 : decode cL_law 851 = .ok (.iaload, 1) := dget zdL_law_480 101 rfl
theorem dL_law_852 : decode cL_law 852 = .ok (.invokevirtual 107, 3) := dget zdL_law_480 102 rfl
theorem dL_law_855 : decode cL_law 855 = .ok (.pop, 1) := dget zdL_law_480 103 rfl
theorem dL_law_856 : decode cL_law 856 = .ok (.aload_n 2, 1) := dget zdL_law_480 104 rfl
theorem dL_law_857 : decode cL_law 857 = .ok (.aload_n 0, 1) := dget zdL_law_480 105 rfl
theorem dL_law_858 : decode cL_law 858 = .ok (.iload_n 3, 1) := dget zdL_law_480 106 rfl
theorem dL_law_859 : decode cL_law 859 = .ok (.iconst 1, 1) := dget zdL_law_480 107 rfl
theorem dL_law_860 : decode cL_law 860 = .ok (.iadd, 1) := dget zdL_law_480 108 rfl
theorem dL_law_861 : decode cL_law 861 = .ok (.iaload, 1) := dget zdL_law_480 109 rfl
theorem dL_law_862 : decode cL_law 862 = .ok (.aload_n 0, 1) := dget zdL_law_480 110 rfl
theorem dL_law_863 : decode cL_law 863 = .ok (.iload_n 3, 1) := dget zdL_law_480 111 rfl
theorem dL_law_864 : decode cL_law 864 = .ok (.iconst 2, 1) := dget zdL_law_480 112 rfl
theorem dL_law_865 : decode cL_law 865 = .ok (.iadd, 1) := dget zdL_law_480 113 rfl
theorem dL_law_866 : decode cL_law 866 = .ok (.iaload, 1) := dget zdL_law_480 114 rfl
theorem dL_law_867 : decode cL_law 867 = .ok (.aload_n 0, 1) := dget zdL_law_480 115 rfl
theorem dL_law_868 : decode cL_law 868 = .ok (.iload_n 3, 1) := dget zdL_law_480 116 rfl
theorem dL_law_869 : decode cL_law 869 = .ok (.iconst 3, 1) := dget zdL_law_480 117 rfl
theorem dL_law_870 : decode cL_law 870 = .ok (.iadd, 1) := dget zdL_law_480 118 rfl
theorem dL_law_871 : decode cL_law 871 = .ok (.iaload, 1) := dget zdL_law_480 119 rfl
theorem zdL_law_600 : dchk cL_law [(872, .invokevirtual 110, 3), (875, .pop, 1), (876, .goto 158, 3), (879, .aload_n 1, 1), (880, .aload_n 0, 1), (881, .iload_n 3, 1), (882, .iconst 1, 1), (883, .iadd, 1), (884, .iaload, 1), (885, .aload_n 0, 1), (886, .iload_n 3, 1), (887, .iconst 2, 1), (888, .iadd, 1), (889, .iaload, 1), (890, .aload_n 0, 1), (891, .iload_n 3, 1), (892, .iconst 3, 1), (893, .iadd, 1), (894, .iaload, 1), (895, .aload_n 0, 1), (896, .iload_n 3, 1), (897, .iconst 4, 1), (898, .iadd, 1), (899, .iaload, 1), (900, .aload_n 0, 1), (901, .iload_n 3, 1), (902, .iconst 5, 1), (903, .iadd, 1), (904, .iaload, 1), (905, .invokevirtual 111, 3), (908, .pop, 1), (909, .aload_n 2, 1), (910, .aload_n 0, 1), (911, .iload_n 3, 1), (912, .iconst 1, 1), (913, .iadd, 1), (914, .iaload, 1), (915, .aload_n 0, 1), (916, .iload_n 3, 1), (917, .iconst 2, 1), (918, .iadd, 1), (919, .iaload, 1), (920, .aload_n 0, 1), (921, .iload_n 3, 1), (922, .iconst 3, 1), (923, .iadd, 1), (924, .iaload, 1), (925, .aload_n 0, 1), (926, .iload_n 3, 1), (927, .iconst 4, 1), (928, .iadd, 1), (929, .iaload, 1), (930, .aload_n 0, 1), (931, .iload_n 3, 1), (932, .iconst 5, 1), (933, .iadd, 1), (934, .iaload, 1), (935, .invokevirtual 114, 3), (938, .pop, 1), (939, .goto 95, 3), (942, .aload_n 1, 1), (943, .aload_n 0, 1), (944, .iload_n 3, 1), (945, .iconst 1, 1), (946, .iadd, 1), (947, .iaload, 1), (948, .aload_n 0, 1), (949, .iload_n 3, 1), (950, .iconst 2, 1), (951, .iadd, 1), (952, .iaload, 1), (953, .aload_n 0, 1), (954, .iload_n 3, 1), (955, .iconst 3, 1), (956, .iadd, 1), (957, .iaload, 1), (958, .invokevirtual 115, 3), (961, .pop, 1), (962, .aload_n 2, 1), (963, .aload_n 0, 1), (964, .iload_n 3, 1), (965, .iconst 1, 1), (966, .iadd, 1), (967, .iaload, 1), (968, .aload_n 0, 1), (969, .iload_n 3, 1), (970, .iconst 2, 1), (971, .iadd, 1), (972, .iaload, 1), (973, .aload_n 0, 1), (974, .iload_n 3, 1), (975, .iconst 3, 1), (976, .iadd, 1), (977, .iaload, 1), (978, .invokevirtual 118, 3), (981, .pop, 1), (982, .goto 52, 3), (985, .aload_n 1, 1), (986, .invokevirtual 119, 3), (989, .pop, 1), (990, .aload_n 2, 1), (991, .invokevirtual 122, 3), (994, .pop, 1), (995, .goto 39, 3), (998, .aload_n 1, 1), (999, .invokevirtual 123, 3), (1002, .aload_n 2, 1), (1003, .invokevirtual 126, 3), (1006, .if_icmp .eq 28, 3), (1009, .iconst 0, 1), (1010, .ireturn, 1), (1011, .aload_n 1, 1), (1012, .aload_n 0, 1), (1013, .iload_n 3, 1), (1014, .iconst 1, 1), (1015, .iadd, 1), (1016, .iaload, 1), (1017, .invokevirtual 127, 3), (1020, .pop, 1), (1021, .aload_n 2, 1)] = true := by decide +kernel
theorem dL_law_872 : decode cL_law 872 = .ok (.invokevirtual 110, 3) := dget zdL_law_600 0 rfl
theorem dL_law_875 : decode cL_law 875 = .ok (.pop, 1) := dget zdL_law_600 1 rfl
theorem dL_law_876 : decode cL_law 876 = .ok (.goto 158, 3) := dget zdL_law_600 2 rfl
theorem dL_law_879 : decode cL_law 879 = .ok (.aload_n 1, 1) := dget zdL_law_600 3 rfl
theorem dL_law_880 : decode cL_law 880 = .ok (.aload_n 0, 1) := dget zdL_law_600 4 rfl
theorem dL_law_881 : decode cL_law 881 = .ok (.iload_n 3, 1) := dget zdL_law_600 5 rfl
theorem dL_law_882 : decode cL_law 882 = .ok (.iconst 1, 1) := dget zdL_law_600 6 rfl
theorem dL_law_883 : decode cL_law 883 = .ok (.iadd, 1) := dget zdL_law_600 7 rfl
theorem dL_law_884 : decode cL_law 884 = .ok (.iaload, 1) := dget zdL_law_600 8 rfl
theorem dL_law_885 : decode cL_law 885 = .ok (.aload_n 0, 1) := dget zdL_law_600 9 rfl
theorem dL_law_886 : decode cL_law 886 = .ok (.iload_n 3, 1) := dget zdL_law_600 10 rfl
theorem dL_law_887 : decode cL_law 887 = .ok (.iconst 2, 1) := dget zdL_law_600 11 rfl
theorem dL_law_888 : decode cL_law 888 = .ok (.iadd, 1) := dget zdL_law_600 12 rfl
theorem dL_law_889 : decode cL_law 889 = .ok (.iaload, 1) := dget zdL_law_600 13 rfl
theorem dL_law_890 : decode cL_law 890 = .ok (.aload_n 0, 1) := dget zdL_law_600 14 rfl
theorem dL_law_891 : decode cL_law 891 = .ok (.iload_n 3, 1) := dget zdL_law_600 15 rfl
theorem dL_law_892 : decode cL_law 892 = .ok (.iconst 3, 1) := dget zdL_law_600 16 rfl
theorem dL_law_893 : decode cL_law 893 = .ok (.iadd, 1) := dget zdL_law_600 17 rfl
theorem dL_law_894 : decode cL_law 894 = .ok (.iaload, 1) := dget zdL_law_600 18 rfl
theorem dL_law_895 : decode cL_law 895 = .ok (.aload_n 0, 1) := dget zdL_law_600 19 rfl
theorem dL_law_896 : decode cL_law 896 = .ok (.iload_n 3, 1) := dget zdL_law_600 20 rfl
theorem dL_law_897 : decode cL_law 897 = .ok (.iconst 4, 1) := dget zdL_law_600 21 rfl
theorem dL_law_898 : decode cL_law 898 = .ok (.iadd, 1) := dget zdL_law_600 22 rfl
theorem dL_law_899 : decode cL_law 899 = .ok (.iaload, 1) := dget zdL_law_600 23 rfl
theorem dL_law_900 : decode cL_law 900 = .ok (.aload_n 0, 1) := dget zdL_law_600 24 rfl
theorem dL_law_901 : decode cL_law 901 = .ok (.iload_n 3, 1) := dget zdL_law_600 25 rfl
theorem dL_law_902 : decode cL_law 902 = .ok (.iconst 5, 1) := dget zdL_law_600 26 rfl
theorem dL_law_903 : decode cL_law 903 = .ok (.iadd, 1) := dget zdL_law_600 27 rfl
theorem dL_law_904 : decode cL_law 904 = .ok (.iaload, 1) := dget zdL_law_600 28 rfl
theorem dL_law_905 : decode cL_law 905 = .ok (.invokevirtual 111, 3) := dget zdL_law_600 29 rfl
theorem dL_law_908 : decode cL_law 908 = .ok (.pop, 1) := dget zdL_law_600 30 rfl
theorem dL_law_909 : decode cL_law 909 = .ok (.aload_n 2, 1) := dget zdL_law_600 31 rfl
theorem dL_law_910 : decode cL_law 910 = .ok (.aload_n 0, 1) := dget zdL_law_600 32 rfl
theorem dL_law_911 : decode cL_law 911 = .ok (.iload_n 3, 1) := dget zdL_law_600 33 rfl
theorem dL_law_912 : decode cL_law 912 = .ok (.iconst 1, 1) := dget zdL_law_600 34 rfl
theorem dL_law_913 : decode cL_law 913 = .ok (.iadd, 1) := dget zdL_law_600 35 rfl
theorem dL_law_914 : decode cL_law 914 = .ok (.iaload, 1) := dget zdL_law_600 36 rfl
theorem dL_law_915 : decode cL_law 915 = .ok (.aload_n 0, 1) := dget zdL_law_600 37 rfl
theorem dL_law_916 : decode cL_law 916 = .ok (.iload_n 3, 1) := dget zdL_law_600 38 rfl
theorem dL_law_917 : decode cL_law 917 = .ok (.iconst 2, 1) := dget zdL_law_600 39 rfl
theorem dL_law_918 : decode cL_law 918 = .ok (.iadd, 1) := dget zdL_law_600 40 rfl
theorem dL_law_919 : decode cL_law 919 = .ok (.iaload, 1) := dget zdL_law_600 41 rfl
theorem dL_law_920 : decode cL_law 920 = .ok (.aload_n 0, 1) := dget zdL_law_600 42 rfl
theorem dL_law_921 : decode cL_law 921 = .ok (.iload_n 3, 1) := dget zdL_law_600 43 rfl
theorem dL_law_922 : decode cL_law 922 = .ok (.iconst 3, 1) := dget zdL_law_600 44 rfl
theorem dL_law_923 : decode cL_law 923 = .ok (.iadd, 1) := dget zdL_law_600 45 rfl
theorem dL_law_924 : decode cL_law 924 = .ok (.iaload, 1) := dget zdL_law_600 46 rfl
theorem dL_law_925 : decode cL_law 925 = .ok (.aload_n 0, 1) := dget zdL_law_600 47 rfl
theorem dL_law_926 : decode cL_law 926 = .ok (.iload_n 3, 1) := dget zdL_law_600 48 rfl
theorem dL_law_927 : decode cL_law 927 = .ok (.iconst 4, 1) := dget zdL_law_600 49 rfl
theorem dL_law_928 : decode cL_law 928 = .ok (.iadd, 1) := dget zdL_law_600 50 rfl
theorem dL_law_929 : decode cL_law 929 = .ok (.iaload, 1) := dget zdL_law_600 51 rfl
theorem dL_law_930 : decode cL_law 930 = .ok (.aload_n 0, 1) := dget zdL_law_600 52 rfl
theorem dL_law_931 : decode cL_law 931 = .ok (.iload_n 3, 1) := dget zdL_law_600 53 rfl
theorem dL_law_932 : decode cL_law 932 = .ok (.iconst 5, 1) := dget zdL_law_600 54 rfl
theorem dL_law_933 : decode cL_law 933 = .ok (.iadd, 1) := dget zdL_law_600 55 rfl
theorem dL_law_934 : decode cL_law 934 = .ok (.iaload, 1) := dget zdL_law_600 56 rfl
theorem dL_law_935 : decode cL_law 935 = .ok (.invokevirtual 114, 3) := dget zdL_law_600 57 rfl
theorem dL_law_938 : decode cL_law 938 = .ok (.pop, 1) := dget zdL_law_600 58 rfl
theorem dL_law_939 : decode cL_law 939 = .ok (.goto 95, 3) := dget zdL_law_600 59 rfl
theorem dL_law_942 : decode cL_law 942 = .ok (.aload_n 1, 1) := dget zdL_law_600 60 rfl
theorem dL_law_943 : decode cL_law 943 = .ok (.aload_n 0, 1) := dget zdL_law_600 61 rfl
theorem dL_law_944 : decode cL_law 944 = .ok (.iload_n 3, 1) := dget zdL_law_600 62 rfl
theorem dL_law_945 : decode cL_law 945 = .ok (.iconst 1, 1) := dget zdL_law_600 63 rfl
theorem dL_law_946 : decode cL_law 946 = .ok (.iadd, 1) := dget zdL_law_600 64 rfl
theorem dL_law_947 : decode cL_law 947 = .ok (.iaload, 1) := dget zdL_law_600 65 rfl
theorem dL_law_948 : decode cL_law 948 = .ok (.aload_n 0, 1) := dget zdL_law_600 66 rfl
theorem dL_law_949 : decode cL_law 949 = .ok (.iload_n 3, 1) := dget zdL_law_600 67 rfl
theorem dL_law_950 : decode cL_law 950 = .ok (.iconst 2, 1) := dget zdL_law_600 68 rfl
theorem dL_law_951 : decode cL_law 951 = .ok (.iadd, 1) := dget zdL_law_600 69 rfl
theorem dL_law_952 : decode cL_law 952 = .ok (.iaload, 1) := dget zdL_law_600 70 rfl
theorem dL_law_953 : decode cL_law 953 = .ok (.aload_n 0, 1) := dget zdL_law_600 71 rfl
theorem dL_law_954 : decode cL_law 954 = .ok (.iload_n 3, 1) := dget zdL_law_600 72 rfl
theorem dL_law_955 : decode cL_law 955 = .ok (.iconst 3, 1) := dget zdL_law_600 73 rfl
theorem dL_law_956 : decode cL_law 956 = .ok (.iadd, 1) := dget zdL_law_600 74 rfl
theorem dL_law_957 : decode cL_law 957 = .ok (.iaload, 1) := dget zdL_law_600 75 rfl
theorem dL_law_958 : decode cL_law 958 = .ok (.invokevirtual 115, 3) := dget zdL_law_600 76 rfl
theorem dL_law_961 : decode cL_law 961 = .ok (.pop, 1) := dget zdL_law_600 77 rfl
theorem dL_law_962 : decode cL_law 962 = .ok (.aload_n 2, 1) := dget zdL_law_600 78 rfl
theorem dL_law_963 : decode cL_law 963 = .ok (.aload_n 0, 1) := dget zdL_law_600 79 rfl
theorem dL_law_964 : decode cL_law 964 = .ok (.iload_n 3, 1) := dget zdL_law_600 80 rfl
theorem dL_law_965 : decode cL_law 965 = .ok (.iconst 1, 1) := dget zdL_law_600 81 rfl
theorem dL_law_966 : decode cL_law 966 = .ok (.iadd, 1) := dget zdL_law_600 82 rfl
theorem dL_law_967 : decode cL_law 967 = .ok (.iaload, 1) := dget zdL_law_600 83 rfl
theorem dL_law_968 : decode cL_law 968 = .ok (.aload_n 0, 1) := dget zdL_law_600 84 rfl
theorem dL_law_969 : decode cL_law 969 = .ok (.iload_n 3, 1) := dget zdL_law_600 85 rfl
theorem dL_law_970 : decode cL_law 970 = .ok (.iconst 2, 1) := dget zdL_law_600 86 rfl
theorem dL_law_971 : decode cL_law 971 = .ok (.iadd, 1) := dget zdL_law_600 87 rfl
theorem dL_law_972 : decode cL_law 972 = .ok (.iaload, 1) := dget zdL_law_600 88 rfl
theorem dL_law_973 : decode cL_law 973 = .ok (.aload_n 0, 1) := dget zdL_law_600 89 rfl
theorem dL_law_974 : decode cL_law 974 = .ok (.iload_n 3, 1) := dget zdL_law_600 90 rfl
theorem dL_law_975 : decode cL_law 975 = .ok (.iconst 3, 1) := dget zdL_law_600 91 rfl
theorem dL_law_976 : decode cL_law 976 = .ok (.iadd, 1) := dget zdL_law_600 92 rfl
theorem dL_law_977 : decode cL_law 977 = .ok (.iaload, 1) := dget zdL_law_600 93 rfl
theorem dL_law_978 : decode cL_law 978 = .ok (.invokevirtual 118, 3) := dget zdL_law_600 94 rfl
theorem dL_law_981 : decode cL_law 981 = .ok (.pop, 1) := dget zdL_law_600 95 rfl
theorem dL_law_982 : decode cL_law 982 = .ok (.goto 52, 3) := dget zdL_law_600 96 rfl
theorem dL_law_985 : decode cL_law 985 = .ok (.aload_n 1, 1) := dget zdL_law_600 97 rfl
theorem dL_law_986 : decode cL_law 986 = .ok (.invokevirtual 119, 3) := dget zdL_law_600 98 rfl
theorem dL_law_989 : decode cL_law 989 = .ok (.pop, 1) := dget zdL_law_600 99 rfl
theorem dL_law_990 : decode cL_law 990 = .ok (.aload_n 2, 1) := dget zdL_law_600 100 rfl
theorem dL_law_991 : decode cL_law 991 = .ok (.invokevirtual 122, 3) := dget zdL_law_600 101 rfl
theorem dL_law_994 : decode cL_law 994 = .ok (.pop, 1) := dget zdL_law_600 102 rfl
theorem dL_law_995 : decode cL_law 995 = .ok (.goto 39, 3) := dget zdL_law_600 103 rfl
theorem dL_law_998 : decode cL_law 998 = .ok (.aload_n 1, 1) := dget zdL_law_600 104 rfl
theorem dL_law_999 : decode cL_law 999 = .ok (.invokevirtual 123, 3) := dget zdL_law_600 105 rfl
theorem dL_law_1002 : decode cL_law 1002 = .ok (.aload_n 2, 1) := dget zdL_law_600 106 rfl
theorem dL_law_1003 : decode cL_law 1003 = .ok (.invokevirtual 126, 3) := dget zdL_law_600 107 rfl
theorem dL_law_1006 : decode cL_law 1006 = .ok (.if_icmp .eq 28, 3) := dget zdL_law_600 108 rfl
theorem dL_law_1009 : decode cL_law 1009 = .ok (.iconst 0, 1) := dget zdL_law_600 109 rfl
theorem dL_law_1010 : decode cL_law 1010 = .ok (.ireturn, 1) := dget zdL_law_600 110 rfl
theorem dL_law_1011 : decode cL_law 1011 = .ok (.aload_n 1, 1) := dget zdL_law_600 111 rfl
theorem dL_law_1012 : decode cL_law 1012 = .ok (.aload_n 0, 1) := dget zdL_law_600 112 rfl
theorem dL_law_1013 : decode cL_law 1013 = .ok (.iload_n 3, 1) := dget zdL_law_600 113 rfl
theorem dL_law_1014 : decode cL_law 1014 = .ok (.iconst 1, 1) := dget zdL_law_600 114 rfl
theorem dL_law_1015 : decode cL_law 1015 = .ok (.iadd, 1) := dget zdL_law_600 115 rfl
theorem dL_law_1016 : decode cL_law 1016 = .ok (.iaload, 1) := dget zdL_law_600 116 rfl
theorem dL_law_1017 : decode cL_law 1017 = .ok (.invokevirtual 127, 3) := dget zdL_law_600 117 rfl
theorem dL_law_1020 : decode cL_law 1020 = .ok (.pop, 1) := dget zdL_law_600 118 rfl
theorem dL_law_1021 : decode cL_law 1021 = .ok (.aload_n 2, 1) := dget zdL_law_600 119 rfl
theorem zdL_law_720 : dchk cL_law [(1022, .aload_n 0, 1), (1023, .iload_n 3, 1), (1024, .iconst 1, 1), (1025, .iadd, 1), (1026, .iaload, 1), (1027, .invokevirtual 130, 3), (1030, .pop, 1), (1031, .goto 3, 3), (1034, .iinc 3 6, 3), (1037, .goto (-1019), 3), (1040, .iconst 1, 1), (1041, .ireturn, 1)] = true := by decide +kernel
theorem dL_law_1022 : decode cL_law 1022 = .ok (.aload_n 0, 1) := dget zdL_law_720 0 rfl
theorem dL_law_1023 : decode cL_law 1023 = .ok (.iload_n 3, 1) := dget zdL_law_720 1 rfl
theorem dL_law_1024 : decode cL_law 1024 = .ok (.iconst 1, 1) := dget zdL_law_720 2 rfl
theorem dL_law_1025 : decode cL_law 1025 = .ok (.iadd, 1) := dget zdL_law_720 3 rfl
theorem dL_law_1026 : decode cL_law 1026 = .ok (.iaload, 1) := dget zdL_law_720 4 rfl
theorem dL_law_1027 : decode cL_law 1027 = .ok (.invokevirtual 130, 3) := dget zdL_law_720 5 rfl
theorem dL_law_1030 : decode cL_law 1030 = .ok (.pop, 1) := dget zdL_law_720 6 rfl
theorem dL_law_1031 : decode cL_law 1031 = .ok (.goto 3, 3) := dget zdL_law_720 7 rfl
theorem dL_law_1034 : decode cL_law 1034 = .ok (.iinc 3 6, 3) := dget zdL_law_720 8 rfl
theorem dL_law_1037 : decode cL_law 1037 = .ok (.goto (-1019), 3) := dget zdL_law_720 9 rfl
theorem dL_law_1040 : decode cL_law 1040 = .ok (.iconst 1, 1) := dget zdL_law_720 10 rfl
theorem dL_law_1041 : decode cL_law 1041 = .ok (.ireturn, 1) := dget zdL_law_720 11 rfl
theorem nw_ao : Cond.arrayOver (.object RX0) ∈ lw_tbl := lw_in1 _ (List.mem_of_getElem? (i := 79) rfl)
theorem nw_sr : Cond.stringRef RX8 73 tx0 ∈ lw_tbl := lw_in1 _ (List.mem_of_getElem? (i := 187) rfl)
theorem nw_lc : Cond.laysStatic RJ0 "COMPACT_STRINGS" "Z" ∈ lw_tbl := lw_in1 _ (List.mem_of_getElem? (i := 197) rfl)
theorem nw_lf : Cond.laysStatic RJ3 "SIOOBE_FORMATTER" "Ljava/util/function/BiFunction;" ∈ lw_tbl := lw_in1 _ (List.mem_of_getElem? (i := 213) rfl)
