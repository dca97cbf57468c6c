/-! THE CODE, printed by a program out of the decoded instructions (wip/gen/resolve.py): a row an instruction. -/
def mJm_floorDiv : Nat := 0
noncomputable def tJm_floorDiv : List (Nat × zA) := [
  (0, aLJ 1 0), (1, aLJ 2 2), (2, aJz 3 (fun x y => x / y)), (3, aSJ 5 4), (5, aLJ 6 0), (6, aLJ 7 2), (7, aJ 8 (fun x y => x ^^^ y)), (8, aCJ 9 0), 
  (9, aLcmp 10), (10, aIf 13 (fun x => z_le 0 x) 27), (13, aLJ 15 4), (15, aLJ 16 2), (16, aJ 17 (fun x y => x * y)), (17, aLJ 18 0), (18, aLcmp 19), 
  (19, aIf 22 (fun x => z_eq x 0) 27), (22, aLJ 24 4), (24, aCJ 25 1), (25, aJ 26 (fun x y => x - y)), (26, aRJ), (27, aLJ 29 4), (29, aRJ)]
def mJm_floorMod : Nat := 1
noncomputable def tJm_floorMod : List (Nat × zA) := [
  (0, aLI 1 0), (1, aLI 2 1), (2, aBz 3 (fun x y => x - x / y * y)), (3, aSI 4 2), (4, aLI 5 0), (5, aLI 6 1), (6, aB 7 (fun x y => x ^^^ y)), 
  (7, aIf 10 (fun x => z_le 0 x) 18), (10, aLI 11 2), (11, aIf 14 (fun x => z_eq x 0) 18), (14, aLI 15 2), (15, aLI 16 1), 
  (16, aB 17 (fun x y => x + y)), (17, aRI), (18, aLI 19 2), (19, aRI)]
def mJm_max : Nat := 2
noncomputable def tJm_max : List (Nat × zA) := [
  (0, aLI 1 0), (1, aLI 2 1), (2, aCmp 5 (fun x y => z_lt x y) 9), (5, aLI 6 0), (6, aGo 10), (9, aLI 10 1), (10, aRI)]
def mJm_min : Nat := 3
noncomputable def tJm_min : List (Nat × zA) := [
  (0, aLI 1 0), (1, aLI 2 1), (2, aCmp 5 (fun x y => z_lt y x) 9), (5, aLI 6 0), (6, aGo 10), (9, aLI 10 1), (10, aRI)]
def mJd_isNaN : Nat := 4
noncomputable def tJd_isNaN : List (Nat × zA) := [
  (0, aLD 1 0), (1, aLD 2 0), (2, aDcmp 3 .l), (3, aIf 6 (fun x => z_eq x 0) 10), (6, aCI 7 1), (7, aGo 11), (10, aCI 11 0), (11, aRZ)]
def mJd_doubleToLongBits : Nat := 5
noncomputable def tJd_doubleToLongBits : List (Nat × zA) := [
  (0, aLD 1 0), (1, aCall 4 1 4 1), (4, aIf 7 (fun x => z_ne x 0) 12), (7, aLD 8 0), (8, aRaw 11), (11, aRJ), (12, aCJ 15 9221120237041090560), 
  (15, aRJ)]
def mJi_bitCount : Nat := 6
noncomputable def tJi_bitCount : List (Nat × zA) := [
  (0, aLI 1 0), (1, aLI 2 0), (2, aCI 3 1), (3, aB 4 (fun x y => (x.toUInt32 >>> (y.toUInt32 &&& Int32.toUInt32 31)).toInt32)), (4, aCI 7 1431655765), 
  (7, aB 8 (fun x y => x &&& y)), (8, aB 9 (fun x y => x - y)), (9, aSI 10 0), (10, aLI 11 0), (11, aCI 14 858993459), 
  (14, aB 15 (fun x y => x &&& y)), (15, aLI 16 0), (16, aCI 17 2), 
  (17, aB 18 (fun x y => (x.toUInt32 >>> (y.toUInt32 &&& Int32.toUInt32 31)).toInt32)), (18, aCI 21 858993459), (21, aB 22 (fun x y => x &&& y)), 
  (22, aB 23 (fun x y => x + y)), (23, aSI 24 0), (24, aLI 25 0), (25, aLI 26 0), (26, aCI 27 4), 
  (27, aB 28 (fun x y => (x.toUInt32 >>> (y.toUInt32 &&& Int32.toUInt32 31)).toInt32)), (28, aB 29 (fun x y => x + y)), (29, aCI 32 252645135), 
  (32, aB 33 (fun x y => x &&& y)), (33, aSI 34 0), (34, aLI 35 0), (35, aLI 36 0), (36, aCI 38 8), 
  (38, aB 39 (fun x y => (x.toUInt32 >>> (y.toUInt32 &&& Int32.toUInt32 31)).toInt32)), (39, aB 40 (fun x y => x + y)), (40, aSI 41 0), (41, aLI 42 0), 
  (42, aLI 43 0), (43, aCI 45 16), (45, aB 46 (fun x y => (x.toUInt32 >>> (y.toUInt32 &&& Int32.toUInt32 31)).toInt32)), 
  (46, aB 47 (fun x y => x + y)), (47, aSI 48 0), (48, aLI 49 0), (49, aCI 51 63), (51, aB 52 (fun x y => x &&& y)), (52, aRI)]
def mQ_init : Nat := 7
noncomputable def tQ_init : List (Nat × zA) := [
  (0, aLR 1 0), (1, aObj 4), (4, aLR 5 0), (5, aCI 7 20), (7, aNewA 9 14), (9, aPR 12 2 [11]), (12, aLR 13 0), (13, aCI 16 8000), (16, aNewA 18 14), 
  (18, aPR 21 3 [11]), (21, aLR 22 0), (22, aCI 25 400), (25, aNewA 27 14), (27, aPR 30 5 [11]), (30, aLR 31 0), (31, aCI 34 400), (34, aNewA 36 14), 
  (36, aPR 39 6 [11]), (39, aLR 40 0), (40, aCI 43 400), (43, aNewA 45 14), (45, aPR 48 7 [11]), (48, aLR 49 0), (49, aCI 52 400), (52, aNewA 54 15), 
  (54, aPR 57 8 [11]), (57, aLR 58 0), (58, aCI 61 400), (61, aNewA 63 14), (63, aPR 66 9 [11]), (66, aLR 67 0), (67, aCI 70 3600), (70, aNewA 72 14), 
  (72, aPR 75 10 [11]), (75, aLR 76 0), (76, aCI 79 400), (79, aNewA 81 14), (81, aPR 84 11 [11]), (84, aLR 85 0), (85, aCI 87 102400), 
  (87, aNewA 89 14), (89, aPR 92 12 [11]), (92, aLR 93 0), (93, aCI 95 60), (95, aNewA 97 14), (97, aPR 100 15 [11]), (100, aLR 101 0), 
  (101, aCI 103 60), (103, aNewA 105 14), (105, aPR 108 16 [11]), (108, aLR 109 0), (109, aCI 112 480), (112, aNewA 114 14), (114, aPR 117 17 [11]), 
  (117, aLR 118 0), (118, aCI 120 60), (120, aNewA 122 14), (122, aPR 125 18 [11]), (125, aLR 126 0), (126, aCI 128 60), (128, aNewA 130 14), 
  (130, aPR 133 19 [11]), (133, aLR 134 0), (134, aCI 136 60), (136, aNewA 138 15), (138, aPR 141 20 [11]), (141, aLR 142 0), (142, aCI 144 60), 
  (144, aNewA 146 13), (146, aPR 149 21 [11]), (149, aLR 150 0), (150, aCI 152 16), (152, aNewA 154 14), (154, aPR 157 24 [11]), (157, aLR 158 0), 
  (158, aCI 160 16), (160, aNewA 162 14), (162, aPR 165 25 [11]), (165, aLR 166 0), (166, aCI 168 16), (168, aNewA 170 14), (170, aPR 173 26 [11]), 
  (173, aLR 174 0), (174, aCI 177 200), (177, aNewA 179 14), (179, aPR 182 28 [11]), (182, aLR 183 0), (183, aCI 185 8), (185, aNewA 187 14), 
  (187, aPR 190 29 [11]), (190, aLR 191 0), (191, aCI 193 8), (193, aNewA 195 14), (195, aPR 198 30 [11]), (198, aLR 199 0), (199, aCI 201 17), 
  (201, aNewA 203 14), (203, aPR 206 31 [11]), (206, aLR 207 0), (207, aCI 209 80), (209, aNewA 211 14), (211, aPR 214 32 [11]), (214, aLR 215 0), 
  (215, aCI 217 80), (217, aNewA 219 14), (219, aPR 222 33 [11]), (222, aLR 223 0), (223, aCI 225 60), (225, aNewA 227 15), (227, aPR 230 34 [11]), 
  (230, aLR 231 0), (231, aCI 233 8), (233, aNewA 235 15), (235, aPR 238 38 [11]), (238, aLR 239 0), (239, aCI 241 8), (241, aNewA 243 14), 
  (243, aPR 246 39 [11]), (246, aLR 247 0), (247, aCI 249 16), (249, aNewA 251 15), (251, aPR 254 40 [11]), (254, aLR 255 0), (255, aCI 258 340), 
  (258, aNewA 260 14), (260, aPR 263 53 [11]), (263, aLR 264 0), (264, aCI 267 340), (267, aNewA 269 14), (269, aPR 272 54 [11]), (272, aLR 273 0), 
  (273, aCI 276 340), (276, aNewA 278 14), (278, aPR 281 55 [11]), (281, aLR 282 0), (282, aCI 284 60), (284, aNewA 286 14), (286, aPR 289 56 [11]), 
  (289, aLR 290 0), (290, aCI 292 60), (292, aNewA 294 14), (294, aPR 297 57 [11]), (297, aLR 298 0), (298, aCI 301 6000), (301, aNewA 303 14), 
  (303, aPR 306 59 [11]), (306, aLR 307 0), (307, aCI 309 606210), (309, aNewA 311 14), (311, aPR 314 61 [11]), (314, aLR 315 0), (315, aCI 318 256), 
  (318, aNewA 320 14), (320, aPR 323 64 [11]), (323, aLR 324 0), (324, aCI 327 1800), (327, aNewA 329 14), (329, aPR 332 66 [11]), (332, aLR 333 0), 
  (333, aCI 336 1800), (336, aNewA 338 14), (338, aPR 341 67 [11]), (341, aLR 342 0), (342, aCD 345 4646448178051153920), (345, aPD 348 22 [11]), 
  (348, aLR 349 0), (349, aCI 351 (-4)), (351, aPI 354 49 [11]), (354, aRV)]
def mQ_within : Nat := 8
noncomputable def tQ_within : List (Nat × zA) := [
  (0, aLI 1 0), (1, aLI 2 1), (2, aCmp 5 (fun x y => z_lt x y) 14), (5, aLI 6 0), (6, aLI 7 2), (7, aCmp 10 (fun x y => z_lt y x) 14), (10, aCI 11 1), 
  (11, aGo 15), (14, aCI 15 0), (15, aRZ)]
def mQ_no : Nat := 9
noncomputable def tQ_no : List (Nat × zA) := [
  (0, aLR 1 0), (1, aLI 2 1), (2, aPI 5 0 [11]), (5, aLI 6 1), (6, aRI)]
def mQ_finds : Nat := 10
noncomputable def tQ_finds : List (Nat × zA) := [
  (0, aLR 1 0), (1, aLI 2 1), (2, aPI 5 0 [11]), (5, aCI 7 (-10)), (7, aLI 8 1), (8, aB 9 (fun x y => x - y)), (9, aRI)]
def mQ_well : Nat := 11
noncomputable def tQ_well : List (Nat × zA) := [
  (0, aLR 1 0), (1, aCI 2 0), (2, aPI 5 0 [11]), (5, aLI 6 1), (6, aRI)]
def mQ_isRoll : Nat := 12
noncomputable def tQ_isRoll : List (Nat × zA) := [
  (0, aLI 1 1), (1, aCI 2 0), (2, aLR 3 0), (3, aGI 6 1 [11]), (6, aCI 7 1), (7, aB 8 (fun x y => x - y)), (8, aCall 11 1 8 3), (11, aRZ)]
def mQ_isStrip : Nat := 13
noncomputable def tQ_isStrip : List (Nat × zA) := [
  (0, aLR 1 0), (1, aLI 2 1), (2, aCallV 5 1 12 2 [11]), (5, aIf 8 (fun x => z_eq x 0) 28), (8, aLI 9 2), (9, aCI 10 0), (10, aLR 11 0), 
  (11, aGR 14 2 [11]), (14, aLI 15 1), (15, aXI 16 14), (16, aCI 17 1), (17, aB 18 (fun x y => x - y)), (18, aCall 21 1 8 3), 
  (21, aIf 24 (fun x => z_eq x 0) 28), (24, aCI 25 1), (25, aGo 29), (28, aCI 29 0), (29, aRZ)]
def mQ_poolOf : Nat := 14
noncomputable def tQ_poolOf : List (Nat × zA) := [
  (0, aLR 1 0), (1, aGR 4 3 [11]), (4, aCI 7 400), (7, aLI 8 1), (8, aB 9 (fun x y => x * y)), (9, aLI 10 2), (10, aB 11 (fun x y => x + y)), 
  (11, aXI 12 14), (12, aRI)]
def mQ_width : Nat := 15
noncomputable def tQ_width : List (Nat × zA) := [
  (0, aLI 1 0), (1, aIf 4 (fun x => z_ne x 0) 8), (4, aCI 5 1), (5, aGo 18), (8, aLI 9 0), (9, aCI 10 3), (10, aCmp 13 (fun x y => z_ne x y) 17), 
  (13, aCI 14 4), (14, aGo 18), (17, aCI 18 2), (18, aRI)]
def mQ_low : Nat := 16
noncomputable def tQ_low : List (Nat × zA) := [
  (0, aLI 1 0), (1, aIf 4 (fun x => z_ne x 0) 9), (4, aLI 5 1), (5, aII 6 (fun x => x.toInt8.toInt32)), (6, aGo 32), (9, aLI 10 0), (10, aCI 11 1), 
  (11, aCmp 14 (fun x y => z_ne x y) 19), (14, aLI 15 1), (15, aII 16 (fun x => x.toInt16.toInt32)), (16, aGo 32), (19, aLI 20 0), (20, aCI 21 2), 
  (21, aCmp 24 (fun x y => z_ne x y) 31), (24, aLI 25 1), (25, aCI 27 65535), (27, aB 28 (fun x y => x &&& y)), (28, aGo 32), (31, aLI 32 1), 
  (32, aRI)]
def mQ_bytesOf : Nat := 17
noncomputable def tQ_bytesOf : List (Nat × zA) := [
  (0, aLR 1 0), (1, aGR 4 9 [11]), (4, aLI 5 1), (5, aXI 6 14), (6, aLR 7 0), (7, aGR 10 11 [11]), (10, aLI 11 1), (11, aXI 12 14), (12, aLR 13 0), 
  (13, aGR 16 5 [11]), (16, aLI 17 1), (17, aXI 18 14), (18, aCall 21 1 15 1), (21, aB 22 (fun x y => x * y)), (22, aB 23 (fun x y => x + y)), 
  (23, aRI)]
def mQ_byteAt : Nat := 18
noncomputable def tQ_byteAt : List (Nat × zA) := [
  (0, aLI 1 2), (1, aCI 3 9), (3, aCmp 6 (fun x y => z_le y x) 18), (6, aLR 7 0), (7, aGR 10 10 [11]), (10, aCI 12 9), (12, aLI 13 1), 
  (13, aB 14 (fun x y => x * y)), (14, aLI 15 2), (15, aB 16 (fun x y => x + y)), (16, aXI 17 14), (17, aRI), (18, aLR 19 0), (19, aGR 22 5 [11]), 
  (22, aLI 23 1), (23, aXI 24 14), (24, aCall 27 1 15 1), (27, aSI 28 3), (28, aLR 29 0), (29, aGR 32 12 [11]), (32, aCI 35 256), (35, aLI 36 1), 
  (36, aB 37 (fun x y => x * y)), (37, aLI 38 2), (38, aCI 40 9), (40, aB 41 (fun x y => x - y)), (41, aLI 42 3), (42, aBz 43 (fun x y => x / y)), 
  (43, aB 44 (fun x y => x + y)), (44, aXI 45 14), (45, aCI 47 8), (47, aLI 48 3), (48, aCI 49 1), (49, aB 50 (fun x y => x - y)), (50, aLI 51 2), 
  (51, aCI 53 9), (53, aB 54 (fun x y => x - y)), (54, aLI 55 3), (55, aBz 56 (fun x y => x - x / y * y)), (56, aB 57 (fun x y => x - y)), 
  (57, aB 58 (fun x y => x * y)), (58, aB 59 (fun x y => x >>> (y &&& 31))), (59, aII 60 (fun x => x.toInt8.toInt32)), (60, aRI)]
def mQ_sumOf : Nat := 19
noncomputable def tQ_sumOf : List (Nat × zA) := [
  (0, aCI 1 1), (1, aSI 2 2), (2, aCI 3 0), (3, aSI 4 3), (4, aLI 5 3), (5, aCI 6 5), (6, aCmp 9 (fun x y => z_le y x) 32), (9, aLI 10 2), 
  (10, aCI 12 31), (12, aB 13 (fun x y => x * y)), (13, aLR 14 0), (14, aGR 17 10 [11]), (17, aCI 19 9), (19, aLI 20 1), 
  (20, aB 21 (fun x y => x * y)), (21, aLI 22 3), (22, aB 23 (fun x y => x + y)), (23, aXI 24 14), (24, aB 25 (fun x y => x + y)), (25, aSI 26 2), 
  (26, aInc 29 3 1), (29, aGo 4), (32, aLR 33 0), (33, aGR 36 5 [11]), (36, aLI 37 1), (37, aXI 38 14), (38, aCall 41 1 15 1), (41, aSI 42 3), 
  (42, aCI 44 9), (44, aSI 46 4), (46, aLI 48 4), (48, aCI 50 9), (50, aLR 51 0), (51, aGR 54 11 [11]), (54, aLI 55 1), (55, aXI 56 14), 
  (56, aLI 57 3), (57, aB 58 (fun x y => x * y)), (58, aB 59 (fun x y => x + y)), (59, aCmp 62 (fun x y => z_le y x) 81), (62, aLI 63 2), 
  (63, aCI 65 31), (65, aB 66 (fun x y => x * y)), (66, aLR 67 0), (67, aLI 68 1), (68, aLI 70 4), (70, aCallV 73 1 18 3 [11]), 
  (73, aB 74 (fun x y => x + y)), (74, aSI 75 2), (75, aInc 78 4 1), (78, aGo 46), (81, aLI 82 2), (82, aRI)]
def mQ_headShort : Nat := 20
noncomputable def tQ_headShort : List (Nat × zA) := [
  (0, aLR 1 0), (1, aGR 4 10 [11]), (4, aCI 6 9), (6, aLI 7 1), (7, aB 8 (fun x y => x * y)), (8, aLI 9 2), (9, aB 10 (fun x y => x + y)), 
  (10, aXI 11 14), (11, aCI 13 8), (13, aB 14 (fun x y => x <<< (y &&& 31))), (14, aLR 15 0), (15, aGR 18 10 [11]), (18, aCI 20 9), (20, aLI 21 1), 
  (21, aB 22 (fun x y => x * y)), (22, aLI 23 2), (23, aB 24 (fun x y => x + y)), (24, aCI 25 1), (25, aB 26 (fun x y => x + y)), (26, aXI 27 14), 
  (27, aCI 30 255), (30, aB 31 (fun x y => x &&& y)), (31, aB 32 (fun x y => x ||| y)), (32, aII 33 (fun x => x.toInt16.toInt32)), (33, aRI)]
def mQ_headSum : Nat := 21
noncomputable def tQ_headSum : List (Nat × zA) := [
  (0, aLR 1 0), (1, aGR 4 10 [11]), (4, aCI 6 9), (6, aLI 7 1), (7, aB 8 (fun x y => x * y)), (8, aCI 9 5), (9, aB 10 (fun x y => x + y)), 
  (10, aXI 11 14), (11, aCI 13 24), (13, aB 14 (fun x y => x <<< (y &&& 31))), (14, aLR 15 0), (15, aGR 18 10 [11]), (18, aCI 20 9), (20, aLI 21 1), 
  (21, aB 22 (fun x y => x * y)), (22, aCI 24 6), (24, aB 25 (fun x y => x + y)), (25, aXI 26 14), (26, aCI 29 255), (29, aB 30 (fun x y => x &&& y)), 
  (30, aCI 32 16), (32, aB 33 (fun x y => x <<< (y &&& 31))), (33, aB 34 (fun x y => x ||| y)), (34, aLR 35 0), (35, aGR 38 10 [11]), (38, aCI 40 9), 
  (40, aLI 41 1), (41, aB 42 (fun x y => x * y)), (42, aCI 44 7), (44, aB 45 (fun x y => x + y)), (45, aXI 46 14), (46, aCI 49 255), 
  (49, aB 50 (fun x y => x &&& y)), (50, aCI 52 8), (52, aB 53 (fun x y => x <<< (y &&& 31))), (53, aB 54 (fun x y => x ||| y)), (54, aLR 55 0), 
  (55, aGR 58 10 [11]), (58, aCI 60 9), (60, aLI 61 1), (61, aB 62 (fun x y => x * y)), (62, aCI 64 8), (64, aB 65 (fun x y => x + y)), 
  (65, aXI 66 14), (66, aCI 69 255), (69, aB 70 (fun x y => x &&& y)), (70, aB 71 (fun x y => x ||| y)), (71, aRI)]
def mQ_sealIt : Nat := 22
noncomputable def tQ_sealIt : List (Nat × zA) := [
  (0, aLR 1 0), (1, aGR 4 9 [11]), (4, aLI 5 1), (5, aCI 7 9), (7, aYI 8), (8, aLR 9 0), (9, aGR 12 10 [11]), (12, aCI 14 9), (14, aLI 15 1), 
  (15, aB 16 (fun x y => x * y)), (16, aLR 17 0), (17, aGR 20 5 [11]), (20, aLI 21 1), (21, aXI 22 14), (22, aII 23 (fun x => x.toInt8.toInt32)), 
  (23, aYI 24), (24, aLR 25 0), (25, aGR 28 10 [11]), (28, aCI 30 9), (30, aLI 31 1), (31, aB 32 (fun x y => x * y)), (32, aCI 33 1), 
  (33, aB 34 (fun x y => x + y)), (34, aLR 35 0), (35, aGR 38 6 [11]), (38, aLI 39 1), (39, aXI 40 14), (40, aCI 42 8), 
  (42, aB 43 (fun x y => x >>> (y &&& 31))), (43, aII 44 (fun x => x.toInt8.toInt32)), (44, aYI 45), (45, aLR 46 0), (46, aGR 49 10 [11]), 
  (49, aCI 51 9), (51, aLI 52 1), (52, aB 53 (fun x y => x * y)), (53, aCI 54 2), (54, aB 55 (fun x y => x + y)), (55, aLR 56 0), (56, aGR 59 6 [11]), 
  (59, aLI 60 1), (60, aXI 61 14), (61, aII 62 (fun x => x.toInt8.toInt32)), (62, aYI 63), (63, aLR 64 0), (64, aGR 67 10 [11]), (67, aCI 69 9), 
  (69, aLI 70 1), (70, aB 71 (fun x y => x * y)), (71, aCI 72 3), (72, aB 73 (fun x y => x + y)), (73, aLR 74 0), (74, aGR 77 11 [11]), (77, aLI 78 1), 
  (78, aXI 79 14), (79, aCI 81 8), (81, aB 82 (fun x y => x >>> (y &&& 31))), (82, aII 83 (fun x => x.toInt8.toInt32)), (83, aYI 84), (84, aLR 85 0), 
  (85, aGR 88 10 [11]), (88, aCI 90 9), (90, aLI 91 1), (91, aB 92 (fun x y => x * y)), (92, aCI 93 4), (93, aB 94 (fun x y => x + y)), (94, aLR 95 0), 
  (95, aGR 98 11 [11]), (98, aLI 99 1), (99, aXI 100 14), (100, aII 101 (fun x => x.toInt8.toInt32)), (101, aYI 102), (102, aLR 103 0), 
  (103, aLI 104 1), (104, aCallV 107 1 19 2 [11]), (107, aSI 108 2), (108, aCI 109 0), (109, aSI 110 3), (110, aLI 111 3), (111, aCI 112 4), 
  (112, aCmp 115 (fun x y => z_le y x) 144), (115, aLR 116 0), (116, aGR 119 10 [11]), (119, aCI 121 9), (121, aLI 122 1), 
  (122, aB 123 (fun x y => x * y)), (123, aCI 124 5), (124, aB 125 (fun x y => x + y)), (125, aLI 126 3), (126, aB 127 (fun x y => x + y)), 
  (127, aLI 128 2), (128, aCI 130 24), (130, aCI 132 8), (132, aLI 133 3), (133, aB 134 (fun x y => x * y)), (134, aB 135 (fun x y => x - y)), 
  (135, aB 136 (fun x y => x >>> (y &&& 31))), (136, aII 137 (fun x => x.toInt8.toInt32)), (137, aYI 138), (138, aInc 141 3 1), (141, aGo 110), 
  (144, aRV)]
def mQ_findingOf : Nat := 23
noncomputable def tQ_findingOf : List (Nat × zA) := [
  (0, aLR 1 0), (1, aGR 4 8 [11]), (4, aLI 5 1), (5, aXI 6 15), (6, aIf 9 (fun x => z_eq x 0) 11), (9, aCI 10 1), (10, aRI), (11, aLR 12 0), 
  (12, aGR 15 9 [11]), (15, aLI 16 1), (16, aXI 17 14), (17, aCI 19 9), (19, aCmp 22 (fun x y => z_le y x) 24), (22, aCI 23 2), (23, aRI), 
  (24, aLR 25 0), (25, aGR 28 10 [11]), (28, aCI 30 9), (30, aLI 31 1), (31, aB 32 (fun x y => x * y)), (32, aXI 33 14), (33, aLR 34 0), 
  (34, aGR 37 5 [11]), (37, aLI 38 1), (38, aXI 39 14), (39, aCmp 42 (fun x y => z_eq x y) 44), (42, aCI 43 5), (43, aRI), (44, aLR 45 0), 
  (45, aLI 46 1), (46, aCI 47 3), (47, aCallV 50 1 20 3 [11]), (50, aSI 51 2), (51, aLI 52 2), (52, aLR 53 0), (53, aGR 56 11 [11]), (56, aLI 57 1), 
  (57, aXI 58 14), (58, aCmp 61 (fun x y => z_eq x y) 87), (61, aLI 62 2), (62, aLR 63 0), (63, aGR 66 11 [11]), (66, aLI 67 1), (67, aXI 68 14), 
  (68, aCmp 71 (fun x y => z_le x y) 76), (71, aCI 73 7), (73, aGo 86), (76, aLI 77 2), (77, aIf 80 (fun x => z_le 0 x) 84), (80, aCI 81 3), 
  (81, aGo 86), (84, aCI 86 8), (86, aRI), (87, aLR 88 0), (88, aLI 89 1), (89, aCallV 92 1 21 2 [11]), (92, aLR 93 0), (93, aLI 94 1), 
  (94, aCallV 97 1 19 2 [11]), (97, aCmp 100 (fun x y => z_ne x y) 104), (100, aCI 101 0), (101, aGo 106), (104, aCI 106 9), (106, aRI)]
def mQ_roll : Nat := 24
noncomputable def tQ_roll : List (Nat × zA) := [
  (0, aLR 1 0), (1, aGI 4 36 [11]), (4, aIf 7 (fun x => z_eq x 0) 14), (7, aLR 8 0), (8, aCI 10 (-3)), (10, aCallV 13 1 9 2 [11]), (13, aRI), 
  (14, aLR 15 0), (15, aGI 18 1 [11]), (18, aCI 20 20), (20, aCmp 23 (fun x y => z_ne x y) 30), (23, aLR 24 0), (24, aCI 26 (-2)), 
  (26, aCallV 29 1 9 2 [11]), (29, aRI), (30, aLR 31 0), (31, aDup 32), (32, aGI 35 1 [11]), (35, aCI 36 1), (36, aB 37 (fun x y => x + y)), 
  (37, aPI 40 1 [11]), (40, aLR 41 0), (41, aLR 42 0), (42, aGI 45 1 [11]), (45, aCI 46 1), (46, aB 47 (fun x y => x - y)), 
  (47, aCallV 50 1 11 2 [11]), (50, aRI)]
def mQ_strip : Nat := 25
noncomputable def tQ_strip : List (Nat × zA) := [
  (0, aLR 1 0), (1, aLI 2 1), (2, aCallV 5 1 12 2 [11]), (5, aIf 8 (fun x => z_eq x 0) 48), (8, aLI 9 2), (9, aCI 10 0), (10, aCI 11 3), 
  (11, aCall 14 1 8 3), (14, aIf 17 (fun x => z_eq x 0) 48), (17, aLI 18 3), (18, aCI 19 0), (19, aCI 22 30000), (22, aCall 25 1 8 3), 
  (25, aIf 28 (fun x => z_eq x 0) 48), (28, aLI 30 4), (30, aCI 33 256), (33, aCmp 36 (fun x y => z_lt y x) 48), (36, aLI 38 5), (38, aCI 39 0), 
  (39, aCI 42 256), (42, aCall 45 1 8 3), (45, aIf 48 (fun x => z_ne x 0) 54), (48, aLR 49 0), (49, aCI 50 (-1)), (50, aCallV 53 1 9 2 [11]), 
  (53, aRI), (54, aLR 55 0), (55, aGI 58 36 [11]), (58, aIf 61 (fun x => z_eq x 0) 68), (61, aLR 62 0), (62, aCI 64 (-3)), (64, aCallV 67 1 9 2 [11]), 
  (67, aRI), (68, aLR 69 0), (69, aGI 72 4 [11]), (72, aCI 75 400), (75, aCmp 78 (fun x y => z_eq x y) 91), (78, aLR 79 0), (79, aGI 82 13 [11]), 
  (82, aLI 84 4), (84, aB 85 (fun x y => x + y)), (85, aCI 88 8000), (88, aCmp 91 (fun x y => z_le x y) 98), (91, aLR 92 0), (92, aCI 94 (-2)), 
  (94, aCallV 97 1 9 2 [11]), (97, aRI), (98, aLI 100 4), (100, aIf 103 (fun x => z_le 0 x) 109), (103, aLR 104 0), (104, aCI 105 3), 
  (105, aCallV 108 1 10 2 [11]), (108, aRI), (109, aLR 110 0), (110, aGR 113 5 [11]), (113, aLR 114 0), (114, aGI 117 4 [11]), (117, aLI 118 2), 
  (118, aYI 119), (119, aLR 120 0), (120, aGR 123 6 [11]), (123, aLR 124 0), (124, aGI 127 4 [11]), (127, aLI 128 3), (128, aYI 129), (129, aLR 130 0), 
  (130, aGR 133 7 [11]), (133, aLR 134 0), (134, aGI 137 4 [11]), (137, aLI 139 5), (139, aYI 140), (140, aLR 141 0), (141, aGR 144 11 [11]), 
  (144, aLR 145 0), (145, aGI 148 4 [11]), (148, aLI 150 4), (150, aYI 151), (151, aLR 152 0), (152, aDup 153), (153, aGI 156 13 [11]), 
  (156, aLI 158 4), (158, aB 159 (fun x y => x + y)), (159, aPI 162 13 [11]), (162, aLR 163 0), (163, aLR 164 0), (164, aGI 167 4 [11]), 
  (167, aCallV 170 0 22 2 [11]), (170, aLR 171 0), (171, aGR 174 3 [11]), (174, aCI 177 400), (177, aLI 178 1), (178, aB 179 (fun x y => x * y)), 
  (179, aLR 180 0), (180, aGR 183 2 [11]), (183, aLI 184 1), (184, aXI 185 14), (185, aB 186 (fun x y => x + y)), (186, aLR 187 0), 
  (187, aGI 190 4 [11]), (190, aYI 191), (191, aLR 192 0), (192, aDup 193), (193, aGI 196 4 [11]), (196, aCI 197 1), (197, aB 198 (fun x y => x + y)), 
  (198, aPI 201 4 [11]), (201, aLR 202 0), (202, aGR 205 2 [11]), (205, aLI 206 1), (206, aDup2 207), (207, aXI 208 14), (208, aCI 209 1), 
  (209, aB 210 (fun x y => x + y)), (210, aYI 211), (211, aLR 212 0), (212, aLR 213 0), (213, aGR 216 2 [11]), (216, aLI 217 1), (217, aXI 218 14), 
  (218, aCI 219 1), (219, aB 220 (fun x y => x - y)), (220, aCallV 223 1 11 2 [11]), (223, aRI)]
def mQ_bars : Nat := 26
noncomputable def tQ_bars : List (Nat × zA) := [
  (0, aLR 1 0), (1, aLI 2 1), (2, aLI 3 2), (3, aCallV 6 1 13 3 [11]), (6, aIf 9 (fun x => z_ne x 0) 15), (9, aLR 10 0), (10, aCI 11 (-1)), 
  (11, aCallV 14 1 9 2 [11]), (14, aRI), (15, aLR 16 0), (16, aGI 19 36 [11]), (19, aIf 22 (fun x => z_eq x 0) 29), (22, aLR 23 0), (23, aCI 25 (-3)), 
  (25, aCallV 28 1 9 2 [11]), (28, aRI), (29, aLR 30 0), (30, aGR 33 8 [11]), (33, aLR 34 0), (34, aLI 35 1), (35, aLI 36 2), 
  (36, aCallV 39 1 14 3 [11]), (39, aXI 40 15), (40, aIf 43 (fun x => z_eq x 0) 51), (43, aLR 44 0), (44, aCI 45 1), (45, aCallV 48 1 10 2 [11]), 
  (48, aGo 56), (51, aLR 52 0), (52, aCI 53 0), (53, aCallV 56 1 11 2 [11]), (56, aRI)]
def mQ_punch : Nat := 27
noncomputable def tQ_punch : List (Nat × zA) := [
  (0, aLR 1 0), (1, aLI 2 1), (2, aLI 3 2), (3, aCallV 6 1 26 3 [11]), (6, aSI 8 5), (8, aLI 10 5), (10, aIf 13 (fun x => z_le 0 x) 16), 
  (13, aLI 15 5), (15, aRI), (16, aLR 17 0), (17, aLI 18 1), (18, aLI 19 2), (19, aCallV 22 1 14 3 [11]), (22, aSI 24 6), (24, aLI 25 3), 
  (25, aCI 26 0), (26, aLR 27 0), (27, aGR 30 11 [11]), (30, aLI 32 6), (32, aXI 33 14), (33, aCI 34 1), (34, aB 35 (fun x y => x - y)), 
  (35, aCall 38 1 8 3), (38, aIf 41 (fun x => z_ne x 0) 47), (41, aLR 42 0), (42, aCI 43 2), (43, aCallV 46 1 10 2 [11]), (46, aRI), (47, aLR 48 0), 
  (48, aLI 50 6), (50, aCallV 53 1 23 2 [11]), (53, aIf 56 (fun x => z_ne x 0) 60), (56, aCI 57 1), (57, aGo 61), (60, aCI 61 0), (61, aSI 63 7), 
  (63, aLR 64 0), (64, aGR 67 12 [11]), (67, aCI 70 256), (70, aLI 72 6), (72, aB 73 (fun x y => x * y)), (73, aLI 74 3), 
  (74, aB 75 (fun x y => x + y)), (75, aLR 76 0), (76, aGR 79 5 [11]), (79, aLI 81 6), (81, aXI 82 14), (82, aLI 84 4), (84, aCall 87 1 16 2), 
  (87, aYI 88), (88, aLI 90 7), (90, aIf 93 (fun x => z_eq x 0) 99), (93, aLR 94 0), (94, aLI 96 6), (96, aCallV 99 0 22 2 [11]), (99, aLR 100 0), 
  (100, aCI 101 1), (101, aCallV 104 1 11 2 [11]), (104, aRI)]
def mQ_seal : Nat := 28
noncomputable def tQ_seal : List (Nat × zA) := [
  (0, aLR 1 0), (1, aLI 2 1), (2, aLI 3 2), (3, aCallV 6 1 26 3 [11]), (6, aSI 7 3), (7, aLI 8 3), (8, aIf 11 (fun x => z_le 0 x) 13), (11, aLI 12 3), 
  (12, aRI), (13, aLR 14 0), (14, aLR 15 0), (15, aLI 16 1), (16, aLI 17 2), (17, aCallV 20 1 14 3 [11]), (20, aCallV 23 0 22 2 [11]), (23, aLR 24 0), 
  (24, aLR 25 0), (25, aGR 28 11 [11]), (28, aLR 29 0), (29, aLI 30 1), (30, aLI 31 2), (31, aCallV 34 1 14 3 [11]), (34, aXI 35 14), 
  (35, aCallV 38 1 11 2 [11]), (38, aRI)]
def mQ_empty : Nat := 29
noncomputable def tQ_empty : List (Nat × zA) := [
  (0, aLR 1 0), (1, aDup 2), (2, aGI 5 13 [11]), (5, aLR 6 0), (6, aGR 9 11 [11]), (9, aLI 10 1), (10, aXI 11 14), (11, aB 12 (fun x y => x - y)), 
  (12, aPI 15 13 [11]), (15, aLR 16 0), (16, aGR 19 11 [11]), (19, aLI 20 1), (20, aCI 21 0), (21, aYI 22), (22, aLR 23 0), (23, aGR 26 9 [11]), 
  (26, aLI 27 1), (27, aCI 28 0), (28, aYI 29), (29, aRV)]
def mQ_lose : Nat := 30
noncomputable def tQ_lose : List (Nat × zA) := [
  (0, aLR 1 0), (1, aLI 2 1), (2, aLI 3 2), (3, aCallV 6 1 13 3 [11]), (6, aIf 9 (fun x => z_ne x 0) 15), (9, aLR 10 0), (10, aCI 11 (-1)), 
  (11, aCallV 14 1 9 2 [11]), (14, aRI), (15, aLR 16 0), (16, aGI 19 36 [11]), (19, aIf 22 (fun x => z_eq x 0) 29), (22, aLR 23 0), (23, aCI 25 (-3)), 
  (25, aCallV 28 1 9 2 [11]), (28, aRI), (29, aLR 30 0), (30, aLI 31 1), (31, aLI 32 2), (32, aCallV 35 1 14 3 [11]), (35, aSI 36 3), (36, aLR 37 0), 
  (37, aGR 40 8 [11]), (40, aLI 41 3), (41, aXI 42 15), (42, aIf 45 (fun x => z_eq x 0) 51), (45, aLR 46 0), (46, aCI 47 0), 
  (47, aCallV 50 1 11 2 [11]), (50, aRI), (51, aLR 52 0), (52, aLI 53 3), (53, aCallV 56 0 29 2 [11]), (56, aLR 57 0), (57, aGR 60 8 [11]), 
  (60, aLI 61 3), (61, aCI 62 1), (62, aYZ 63), (63, aLR 64 0), (64, aCI 65 1), (65, aCallV 68 1 11 2 [11]), (68, aRI)]
def mQ_tear : Nat := 31
noncomputable def tQ_tear : List (Nat × zA) := [
  (0, aLR 1 0), (1, aLI 2 1), (2, aLI 3 2), (3, aCallV 6 1 13 3 [11]), (6, aIf 9 (fun x => z_eq x 0) 13), (9, aLI 10 3), 
  (10, aIf 13 (fun x => z_le 0 x) 19), (13, aLR 14 0), (14, aCI 15 (-1)), (15, aCallV 18 1 9 2 [11]), (18, aRI), (19, aLR 20 0), (20, aLI 21 1), 
  (21, aLI 22 2), (22, aCallV 25 1 26 3 [11]), (25, aSI 27 4), (27, aLI 29 4), (29, aIf 32 (fun x => z_le 0 x) 35), (32, aLI 34 4), (34, aRI), 
  (35, aLR 36 0), (36, aLI 37 1), (37, aLI 38 2), (38, aCallV 41 1 14 3 [11]), (41, aSI 43 5), (43, aLR 44 0), (44, aGR 47 9 [11]), (47, aLI 49 5), 
  (49, aLI 50 3), (50, aLR 51 0), (51, aGR 54 9 [11]), (54, aLI 56 5), (56, aXI 57 14), (57, aCmp 60 (fun x y => z_le y x) 64), (60, aLI 61 3), 
  (61, aGo 71), (64, aLR 65 0), (65, aGR 68 9 [11]), (68, aLI 70 5), (70, aXI 71 14), (71, aYI 72), (72, aLI 73 3), (73, aCI 75 9), 
  (75, aCmp 78 (fun x y => z_le y x) 82), (78, aCI 79 0), (79, aGo 97), (82, aLI 83 3), (83, aCI 85 9), (85, aB 86 (fun x y => x - y)), (86, aLR 87 0), 
  (87, aGR 90 5 [11]), (90, aLI 92 5), (92, aXI 93 14), (93, aCall 96 1 15 1), (96, aBz 97 (fun x y => x / y)), (97, aSI 99 6), (99, aLR 100 0), 
  (100, aGR 103 11 [11]), (103, aLI 105 5), (105, aXI 106 14), (106, aLI 108 6), (108, aCmp 111 (fun x y => z_le y x) 121), (111, aLR 112 0), 
  (112, aGR 115 11 [11]), (115, aLI 117 5), (117, aXI 118 14), (118, aGo 123), (121, aLI 123 6), (123, aSI 125 7), (125, aLR 126 0), (126, aDup 127), 
  (127, aGI 130 13 [11]), (130, aLR 131 0), (131, aGR 134 11 [11]), (134, aLI 136 5), (136, aXI 137 14), (137, aLI 139 7), 
  (139, aB 140 (fun x y => x - y)), (140, aB 141 (fun x y => x - y)), (141, aPI 144 13 [11]), (144, aLR 145 0), (145, aGR 148 11 [11]), 
  (148, aLI 150 5), (150, aLI 152 7), (152, aYI 153), (153, aLR 154 0), (154, aLI 156 7), (156, aCallV 159 1 11 2 [11]), (159, aRI)]
def mQ_damage : Nat := 32
noncomputable def tQ_damage : List (Nat × zA) := [
  (0, aLR 1 0), (1, aLI 2 1), (2, aLI 3 2), (3, aCallV 6 1 26 3 [11]), (6, aSI 8 5), (8, aLI 10 5), (10, aIf 13 (fun x => z_le 0 x) 16), 
  (13, aLI 15 5), (15, aRI), (16, aLR 17 0), (17, aLI 18 1), (18, aLI 19 2), (19, aCallV 22 1 14 3 [11]), (22, aSI 24 6), (24, aLI 25 3), 
  (25, aCI 26 0), (26, aLR 27 0), (27, aLI 29 6), (29, aCallV 32 1 17 2 [11]), (32, aCI 33 1), (33, aB 34 (fun x y => x - y)), (34, aCall 37 1 8 3), 
  (37, aIf 40 (fun x => z_ne x 0) 46), (40, aLR 41 0), (41, aCI 42 2), (42, aCallV 45 1 10 2 [11]), (45, aRI), (46, aLI 47 3), (47, aCI 49 9), 
  (49, aCmp 52 (fun x y => z_le y x) 83), (52, aLR 53 0), (53, aGR 56 10 [11]), (56, aCI 58 9), (58, aLI 60 6), (60, aB 61 (fun x y => x * y)), 
  (61, aLI 62 3), (62, aB 63 (fun x y => x + y)), (63, aLR 64 0), (64, aGR 67 10 [11]), (67, aCI 69 9), (69, aLI 71 6), (71, aB 72 (fun x y => x * y)), 
  (72, aLI 73 3), (73, aB 74 (fun x y => x + y)), (74, aXI 75 14), (75, aLI 77 4), (77, aB 78 (fun x y => x ^^^ y)), 
  (78, aII 79 (fun x => x.toInt8.toInt32)), (79, aYI 80), (80, aGo 158), (83, aLR 84 0), (84, aGR 87 5 [11]), (87, aLI 89 6), (89, aXI 90 14), 
  (90, aCall 93 1 15 1), (93, aSI 95 7), (95, aCI 98 256), (98, aLI 100 6), (100, aB 101 (fun x y => x * y)), (101, aLI 102 3), (102, aCI 104 9), 
  (104, aB 105 (fun x y => x - y)), (105, aLI 107 7), (107, aBz 108 (fun x y => x / y)), (108, aB 109 (fun x y => x + y)), (109, aSI 111 8), 
  (111, aLR 112 0), (112, aGR 115 12 [11]), (115, aLI 117 8), (117, aLR 118 0), (118, aGR 121 5 [11]), (121, aLI 123 6), (123, aXI 124 14), 
  (124, aLR 125 0), (125, aGR 128 12 [11]), (128, aLI 130 8), (130, aXI 131 14), (131, aLI 133 4), (133, aCI 136 255), 
  (136, aB 137 (fun x y => x &&& y)), (137, aCI 139 8), (139, aLI 141 7), (141, aCI 142 1), (142, aB 143 (fun x y => x - y)), (143, aLI 144 3), 
  (144, aCI 146 9), (146, aB 147 (fun x y => x - y)), (147, aLI 149 7), (149, aBz 150 (fun x y => x - x / y * y)), (150, aB 151 (fun x y => x - y)), 
  (151, aB 152 (fun x y => x * y)), (152, aB 153 (fun x y => x <<< (y &&& 31))), (153, aB 154 (fun x y => x ^^^ y)), (154, aCall 157 1 16 2), 
  (157, aYI 158), (158, aLR 159 0), (159, aLR 160 0), (160, aLI 162 6), (162, aLI 163 3), (163, aCallV 166 1 18 3 [11]), (166, aCI 169 255), 
  (169, aB 170 (fun x y => x &&& y)), (170, aCallV 173 1 11 2 [11]), (173, aRI)]
def mQ_asks : Nat := 33
noncomputable def tQ_asks : List (Nat × zA) := [
  (0, aLR 1 0), (1, aLI 2 1), (2, aLI 3 2), (3, aCallV 6 1 13 3 [11]), (6, aIf 9 (fun x => z_ne x 0) 17), (9, aLR 10 0), (10, aCI 11 (-1)), 
  (11, aCallV 14 1 9 2 [11]), (14, aGo 44), (17, aLR 18 0), (18, aGR 21 8 [11]), (21, aLR 22 0), (22, aLI 23 1), (23, aLI 24 2), 
  (24, aCallV 27 1 14 3 [11]), (27, aXI 28 15), (28, aIf 31 (fun x => z_eq x 0) 39), (31, aLR 32 0), (32, aCI 33 1), (33, aCallV 36 1 10 2 [11]), 
  (36, aGo 44), (39, aLR 40 0), (40, aCI 41 0), (41, aCallV 44 1 11 2 [11]), (44, aRI)]
def mQ_byteOf : Nat := 34
noncomputable def tQ_byteOf : List (Nat × zA) := [
  (0, aLR 1 0), (1, aLI 2 1), (2, aLI 3 2), (3, aCallV 6 1 33 3 [11]), (6, aSI 8 4), (8, aLI 10 4), (10, aIf 13 (fun x => z_le 0 x) 16), 
  (13, aLI 15 4), (15, aRI), (16, aLR 17 0), (17, aLI 18 1), (18, aLI 19 2), (19, aCallV 22 1 14 3 [11]), (22, aSI 24 5), (24, aLI 25 3), 
  (25, aCI 26 0), (26, aLR 27 0), (27, aLI 29 5), (29, aCallV 32 1 17 2 [11]), (32, aCI 33 1), (33, aB 34 (fun x y => x - y)), (34, aCall 37 1 8 3), 
  (37, aIf 40 (fun x => z_eq x 0) 58), (40, aLR 41 0), (41, aLR 42 0), (42, aLI 44 5), (44, aLI 45 3), (45, aCallV 48 1 18 3 [11]), (48, aCI 51 255), 
  (51, aB 52 (fun x y => x &&& y)), (52, aCallV 55 1 11 2 [11]), (55, aGo 63), (58, aLR 59 0), (59, aCI 60 2), (60, aCallV 63 1 10 2 [11]), (63, aRI)]
def mQ_head : Nat := 35
noncomputable def tQ_head : List (Nat × zA) := [
  (0, aLI 1 3), (1, aCI 2 0), (2, aCI 3 3), (3, aCall 6 1 8 3), (6, aIf 9 (fun x => z_ne x 0) 17), (9, aLR 10 0), (10, aCI 11 (-1)), 
  (11, aCallV 14 1 9 2 [11]), (14, aPop 15), (15, aCJ 16 0), (16, aRJ), (17, aLR 18 0), (18, aLI 19 1), (19, aLI 20 2), (20, aCallV 23 1 33 3 [11]), 
  (23, aIf 26 (fun x => z_le 0 x) 28), (26, aCJ 27 0), (27, aRJ), (28, aLR 29 0), (29, aLI 30 1), (30, aLI 31 2), (31, aCallV 34 1 14 3 [11]), 
  (34, aSI 36 4), (36, aLI 37 3), (37, aIf 40 (fun x => z_ne x 0) 44), (40, aCI 41 1), (41, aGo 64), (44, aLI 45 3), (45, aCI 46 1), 
  (46, aCmp 49 (fun x y => z_ne x y) 53), (49, aCI 50 3), (50, aGo 64), (53, aLI 54 3), (54, aCI 55 2), (55, aCmp 58 (fun x y => z_ne x y) 62), 
  (58, aCI 59 5), (59, aGo 64), (62, aCI 64 9), (64, aSI 66 5), (66, aLR 67 0), (67, aGR 70 9 [11]), (70, aLI 72 4), (72, aXI 73 14), (73, aLI 75 5), 
  (75, aCmp 78 (fun x y => z_le y x) 86), (78, aLR 79 0), (79, aCI 80 2), (80, aCallV 83 1 10 2 [11]), (83, aPop 84), (84, aCJ 85 0), (85, aRJ), 
  (86, aLI 87 3), (87, aIf 90 (fun x => z_ne x 0) 104), (90, aLR 91 0), (91, aGR 94 10 [11]), (94, aCI 96 9), (96, aLI 98 4), 
  (98, aB 99 (fun x y => x * y)), (99, aXI 100 14), (100, aI2J 101), (101, aGo 131), (104, aLI 105 3), (105, aCI 106 3), 
  (106, aCmp 109 (fun x y => z_le y x) 124), (109, aLR 110 0), (110, aLI 112 4), (112, aCI 113 2), (113, aLI 114 3), (114, aB 115 (fun x y => x * y)), 
  (115, aCI 116 1), (116, aB 117 (fun x y => x - y)), (117, aCallV 120 1 20 3 [11]), (120, aI2J 121), (121, aGo 131), (124, aLR 125 0), 
  (125, aLI 127 4), (127, aCallV 130 1 21 2 [11]), (130, aI2J 131), (131, aRJ)]
def mQ_sum : Nat := 36
noncomputable def tQ_sum : List (Nat × zA) := [
  (0, aLR 1 0), (1, aLI 2 1), (2, aLI 3 2), (3, aCallV 6 1 33 3 [11]), (6, aIf 9 (fun x => z_le 0 x) 11), (9, aCJ 10 0), (10, aRJ), (11, aLR 12 0), 
  (12, aLI 13 1), (13, aLI 14 2), (14, aCallV 17 1 14 3 [11]), (17, aSI 18 3), (18, aLR 19 0), (19, aGR 22 9 [11]), (22, aLI 23 3), (23, aXI 24 14), 
  (24, aCI 25 5), (25, aCmp 28 (fun x y => z_le y x) 36), (28, aLR 29 0), (29, aCI 30 2), (30, aCallV 33 1 10 2 [11]), (33, aPop 34), (34, aCJ 35 0), 
  (35, aRJ), (36, aLR 37 0), (37, aLI 38 3), (38, aCallV 41 1 19 2 [11]), (41, aI2J 42), (42, aRJ)]
def mQ_read : Nat := 37
noncomputable def tQ_read : List (Nat × zA) := [
  (0, aLR 1 0), (1, aLI 2 1), (2, aLI 3 2), (3, aCallV 6 1 13 3 [11]), (6, aIf 9 (fun x => z_ne x 0) 15), (9, aLR 10 0), (10, aCI 11 (-1)), 
  (11, aCallV 14 1 9 2 [11]), (14, aRI), (15, aLR 16 0), (16, aLR 17 0), (17, aLI 18 1), (18, aLI 19 2), (19, aCallV 22 1 14 3 [11]), 
  (22, aCallV 25 1 23 2 [11]), (25, aSI 26 3), (26, aLI 27 3), (27, aIf 30 (fun x => z_le x 0) 38), (30, aLR 31 0), (31, aLI 32 3), 
  (32, aCallV 35 1 10 2 [11]), (35, aGo 53), (38, aLR 39 0), (39, aLR 40 0), (40, aGR 43 11 [11]), (43, aLR 44 0), (44, aLI 45 1), (45, aLI 46 2), 
  (46, aCallV 49 1 14 3 [11]), (49, aXI 50 14), (50, aCallV 53 1 11 2 [11]), (53, aRI)]
def mQ_whole : Nat := 38
noncomputable def tQ_whole : List (Nat × zA) := [
  (0, aLR 1 0), (1, aLI 2 1), (2, aCallV 5 1 12 2 [11]), (5, aIf 8 (fun x => z_ne x 0) 14), (8, aLR 9 0), (9, aCI 10 (-1)), (10, aCallV 13 1 9 2 [11]), 
  (13, aRI), (14, aCI 15 0), (15, aSI 16 2), (16, aCI 17 0), (17, aSI 18 3), (18, aLI 19 3), (19, aLR 20 0), (20, aGR 23 2 [11]), (23, aLI 24 1), 
  (24, aXI 25 14), (25, aCmp 28 (fun x y => z_le y x) 55), (28, aLI 29 2), (29, aLR 30 0), (30, aLR 31 0), (31, aLI 32 1), (32, aLI 33 3), 
  (33, aCallV 36 1 14 3 [11]), (36, aCallV 39 1 23 2 [11]), (39, aIf 42 (fun x => z_ne x 0) 46), (42, aCI 43 1), (43, aGo 47), (46, aCI 47 0), 
  (47, aB 48 (fun x y => x + y)), (48, aSI 49 2), (49, aInc 52 3 1), (52, aGo 18), (55, aLR 56 0), (56, aLI 57 2), (57, aCallV 60 1 11 2 [11]), 
  (60, aRI)]
def mQ_finding : Nat := 39
noncomputable def tQ_finding : List (Nat × zA) := [
  (0, aLR 1 0), (1, aLI 2 1), (2, aCallV 5 1 12 2 [11]), (5, aIf 8 (fun x => z_eq x 0) 12), (8, aLI 9 2), (9, aIf 12 (fun x => z_le 0 x) 18), 
  (12, aLR 13 0), (13, aCI 14 (-1)), (14, aCallV 17 1 9 2 [11]), (17, aRI), (18, aLI 19 2), (19, aSI 20 3), (20, aCI 21 0), (21, aSI 23 4), 
  (23, aLI 25 4), (25, aLR 26 0), (26, aGR 29 2 [11]), (29, aLI 30 1), (30, aXI 31 14), (31, aCmp 34 (fun x y => z_le y x) 68), (34, aLR 35 0), 
  (35, aLR 36 0), (36, aLI 37 1), (37, aLI 39 4), (39, aCallV 42 1 14 3 [11]), (42, aCallV 45 1 23 2 [11]), (45, aIf 48 (fun x => z_le x 0) 62), 
  (48, aLI 49 3), (49, aIf 52 (fun x => z_ne x 0) 59), (52, aLR 53 0), (53, aLI 55 4), (55, aCallV 58 1 11 2 [11]), (58, aRI), (59, aInc 62 3 (-1)), 
  (62, aInc 65 4 1), (65, aGo 23), (68, aLR 69 0), (69, aCI 71 (-4)), (71, aCallV 74 1 11 2 [11]), (74, aRI)]
def mQ_told : Nat := 40
noncomputable def tQ_told : List (Nat × zA) := [
  (0, aLR 1 0), (1, aLI 2 1), (2, aLI 3 2), (3, aCallV 6 1 13 3 [11]), (6, aIf 9 (fun x => z_eq x 0) 18), (9, aLI 10 3), (10, aCI 11 0), 
  (11, aCI 12 3), (12, aCall 15 1 8 3), (15, aIf 18 (fun x => z_ne x 0) 24), (18, aLR 19 0), (19, aCI 20 (-1)), (20, aCallV 23 1 9 2 [11]), (23, aRI), 
  (24, aLR 25 0), (25, aLI 26 1), (26, aLI 27 2), (27, aCallV 30 1 14 3 [11]), (30, aSI 32 4), (32, aLR 33 0), (33, aLI 34 3), 
  (34, aIf 37 (fun x => z_ne x 0) 47), (37, aLR 38 0), (38, aGR 41 5 [11]), (41, aLI 43 4), (43, aXI 44 14), (44, aGo 84), (47, aLI 48 3), 
  (48, aCI 49 1), (49, aCmp 52 (fun x y => z_ne x y) 62), (52, aLR 53 0), (53, aGR 56 6 [11]), (56, aLI 58 4), (58, aXI 59 14), (59, aGo 84), 
  (62, aLI 63 3), (63, aCI 64 2), (64, aCmp 67 (fun x y => z_ne x y) 77), (67, aLR 68 0), (68, aGR 71 7 [11]), (71, aLI 73 4), (73, aXI 74 14), 
  (74, aGo 84), (77, aLR 78 0), (78, aGR 81 11 [11]), (81, aLI 83 4), (83, aXI 84 14), (84, aCallV 87 1 11 2 [11]), (87, aRI)]
def mQ_isInstrument : Nat := 41
noncomputable def tQ_isInstrument : List (Nat × zA) := [
  (0, aLI 1 1), (1, aCI 2 0), (2, aLR 3 0), (3, aGI 6 14 [11]), (6, aCI 7 1), (7, aB 8 (fun x y => x - y)), (8, aCall 11 1 8 3), (11, aRZ)]
def mQ_instrument : Nat := 42
noncomputable def tQ_instrument : List (Nat × zA) := [
  (0, aLI 1 1), (1, aCI 2 0), (2, aCI 4 6), (4, aCall 7 1 8 3), (7, aIf 10 (fun x => z_ne x 0) 16), (10, aLR 11 0), (11, aCI 12 (-1)), 
  (12, aCallV 15 1 9 2 [11]), (15, aRI), (16, aLR 17 0), (17, aGI 20 36 [11]), (20, aIf 23 (fun x => z_eq x 0) 30), (23, aLR 24 0), (24, aCI 26 (-3)), 
  (26, aCallV 29 1 9 2 [11]), (29, aRI), (30, aLR 31 0), (31, aGI 34 14 [11]), (34, aCI 36 60), (36, aCmp 39 (fun x y => z_ne x y) 46), (39, aLR 40 0), 
  (40, aCI 42 (-2)), (42, aCallV 45 1 9 2 [11]), (45, aRI), (46, aLR 47 0), (47, aGR 50 15 [11]), (50, aLR 51 0), (51, aGI 54 14 [11]), (54, aLI 55 1), 
  (55, aYI 56), (56, aLR 57 0), (57, aGR 60 21 [11]), (60, aLR 61 0), (61, aGI 64 14 [11]), (64, aCD 65 4607182418800017408), (65, aYD 66), 
  (66, aLR 67 0), (67, aGR 70 18 [11]), (70, aLR 71 0), (71, aGI 74 14 [11]), (74, aCI 75 1), (75, aYI 76), (76, aLR 77 0), (77, aDup 78), 
  (78, aGI 81 14 [11]), (81, aCI 82 1), (82, aB 83 (fun x y => x + y)), (83, aPI 86 14 [11]), (86, aLR 87 0), (87, aLR 88 0), (88, aGI 91 14 [11]), 
  (91, aCI 92 1), (92, aB 93 (fun x y => x - y)), (93, aCallV 96 1 11 2 [11]), (96, aRI)]
def mQ_reaches : Nat := 43
noncomputable def tQ_reaches : List (Nat × zA) := [
  (0, aCI 1 0), (1, aSI 2 3), (2, aLI 3 3), (3, aLR 4 0), (4, aGI 7 14 [11]), (7, aCmp 10 (fun x y => z_le y x) 32), (10, aLR 11 0), 
  (11, aGR 14 34 [11]), (14, aLI 15 3), (15, aLI 16 3), (16, aLI 17 2), (17, aCmp 20 (fun x y => z_ne x y) 24), (20, aCI 21 1), (21, aGo 25), 
  (24, aCI 25 0), (25, aYZ 26), (26, aInc 29 3 1), (29, aGo 2), (32, aCI 33 1), (33, aSI 34 3), (34, aLI 35 3), (35, aIf 38 (fun x => z_eq x 0) 137), 
  (38, aCI 39 0), (39, aSI 40 3), (40, aCI 41 0), (41, aSI 43 4), (43, aLI 45 4), (45, aLR 46 0), (46, aGI 49 14 [11]), 
  (49, aCmp 52 (fun x y => z_le y x) 134), (52, aCI 53 0), (53, aSI 55 5), (55, aLI 57 5), (57, aLR 58 0), (58, aGR 61 16 [11]), (61, aLI 63 4), 
  (63, aXI 64 14), (64, aCmp 67 (fun x y => z_le y x) 128), (67, aLR 68 0), (68, aGR 71 34 [11]), (71, aLI 73 4), (73, aXI 74 15), 
  (74, aIf 77 (fun x => z_ne x 0) 128), (77, aLR 78 0), (78, aGR 81 34 [11]), (81, aLI 83 4), (83, aLR 84 0), (84, aGR 87 34 [11]), (87, aLR 88 0), 
  (88, aGR 91 17 [11]), (91, aCI 93 8), (93, aLI 95 4), (95, aB 96 (fun x y => x * y)), (96, aLI 98 5), (98, aB 99 (fun x y => x + y)), 
  (99, aXI 100 14), (100, aXI 101 15), (101, aYZ 102), (102, aLI 103 3), (103, aIf 106 (fun x => z_ne x 0) 116), (106, aLR 107 0), 
  (107, aGR 110 34 [11]), (110, aLI 112 4), (112, aXI 113 15), (113, aIf 116 (fun x => z_eq x 0) 120), (116, aCI 117 1), (117, aGo 121), 
  (120, aCI 121 0), (121, aSI 122 3), (122, aInc 125 5 1), (125, aGo 55), (128, aInc 131 4 1), (131, aGo 43), (134, aGo 34), (137, aLR 138 0), 
  (138, aGR 141 34 [11]), (141, aLI 142 1), (142, aXI 143 15), (143, aRZ)]
def mQ_reckon : Nat := 44
noncomputable def tQ_reckon : List (Nat × zA) := [
  (0, aCI 1 0), (1, aSI 2 1), (2, aLI 3 1), (3, aLR 4 0), (4, aGI 7 14 [11]), (7, aCmp 10 (fun x y => z_le y x) 23), (10, aLR 11 0), 
  (11, aGR 14 18 [11]), (14, aLI 15 1), (15, aCI 16 1), (16, aYI 17), (17, aInc 20 1 1), (20, aGo 2), (23, aCI 24 1), (24, aSI 25 1), (25, aCI 26 0), 
  (26, aSI 27 2), (27, aLI 28 2), (28, aLR 29 0), (29, aGI 32 14 [11]), (32, aCmp 35 (fun x y => z_lt y x) 139), (35, aCI 36 0), (36, aSI 37 3), 
  (37, aLI 38 3), (38, aLR 39 0), (39, aGI 42 14 [11]), (42, aCmp 45 (fun x y => z_le y x) 133), (45, aCI 46 1), (46, aSI 48 4), (48, aCI 49 0), 
  (49, aSI 51 5), (51, aLI 53 5), (53, aLR 54 0), (54, aGR 57 16 [11]), (57, aLI 58 3), (58, aXI 59 14), (59, aCmp 62 (fun x y => z_le y x) 90), 
  (62, aLI 64 4), (64, aLR 65 0), (65, aGR 68 18 [11]), (68, aLR 69 0), (69, aGR 72 17 [11]), (72, aCI 74 8), (74, aLI 75 3), 
  (75, aB 76 (fun x y => x * y)), (76, aLI 78 5), (78, aB 79 (fun x y => x + y)), (79, aXI 80 14), (80, aXI 81 14), (81, aB 82 (fun x y => x + y)), 
  (82, aSI 84 4), (84, aInc 87 5 1), (87, aGo 51), (90, aLR 91 0), (91, aGR 94 18 [11]), (94, aLI 95 3), (95, aLI 97 4), (97, aCI 99 40), 
  (99, aCmp 102 (fun x y => z_le x y) 107), (102, aCI 104 41), (104, aGo 109), (107, aLI 109 4), (109, aYI 110), (110, aLI 111 1), 
  (111, aIf 114 (fun x => z_eq x 0) 125), (114, aLI 116 4), (116, aCI 118 40), (118, aCmp 121 (fun x y => z_lt y x) 125), (121, aCI 122 1), 
  (122, aGo 126), (125, aCI 126 0), (126, aSI 127 1), (127, aInc 130 3 1), (130, aGo 37), (133, aInc 136 2 1), (136, aGo 27), (139, aLI 140 1), 
  (140, aRZ)]
def mQ_couple : Nat := 45
noncomputable def tQ_couple : List (Nat × zA) := [
  (0, aLR 1 0), (1, aLI 2 1), (2, aCallV 5 1 41 2 [11]), (5, aIf 8 (fun x => z_eq x 0) 25), (8, aLR 9 0), (9, aLI 10 2), (10, aCallV 13 1 41 2 [11]), 
  (13, aIf 16 (fun x => z_eq x 0) 25), (16, aLR 17 0), (17, aLI 18 2), (18, aLI 19 1), (19, aCallV 22 1 43 3 [11]), 
  (22, aIf 25 (fun x => z_eq x 0) 31), (25, aLR 26 0), (26, aCI 27 (-1)), (27, aCallV 30 1 9 2 [11]), (30, aRI), (31, aLR 32 0), (32, aGI 35 36 [11]), 
  (35, aIf 38 (fun x => z_eq x 0) 45), (38, aLR 39 0), (39, aCI 41 (-3)), (41, aCallV 44 1 9 2 [11]), (44, aRI), (45, aLR 46 0), (46, aGR 49 15 [11]), 
  (49, aLI 50 1), (50, aXI 51 14), (51, aCI 53 6), (53, aCmp 56 (fun x y => z_eq x y) 62), (56, aLR 57 0), (57, aCI 58 5), (58, aCallV 61 1 10 2 [11]), 
  (61, aRI), (62, aLR 63 0), (63, aGR 66 16 [11]), (66, aLI 67 1), (67, aXI 68 14), (68, aCI 70 8), (70, aCmp 73 (fun x y => z_ne x y) 80), 
  (73, aLR 74 0), (74, aCI 76 (-2)), (76, aCallV 79 1 9 2 [11]), (79, aRI), (80, aLR 81 0), (81, aGR 84 17 [11]), (84, aCI 86 8), (86, aLI 87 1), 
  (87, aB 88 (fun x y => x * y)), (88, aLR 89 0), (89, aGR 92 16 [11]), (92, aLI 93 1), (93, aXI 94 14), (94, aB 95 (fun x y => x + y)), 
  (95, aLI 96 2), (96, aYI 97), (97, aLR 98 0), (98, aGR 101 16 [11]), (101, aLI 102 1), (102, aDup2 103), (103, aXI 104 14), (104, aCI 105 1), 
  (105, aB 106 (fun x y => x + y)), (106, aYI 107), (107, aLR 108 0), (108, aCallV 111 1 44 1 [11]), (111, aIf 114 (fun x => z_ne x 0) 136), 
  (114, aLR 115 0), (115, aGR 118 16 [11]), (118, aLI 119 1), (119, aDup2 120), (120, aXI 121 14), (121, aCI 122 1), (122, aB 123 (fun x y => x - y)), 
  (123, aYI 124), (124, aLR 125 0), (125, aCallV 128 1 44 1 [11]), (128, aSI 129 3), (129, aLR 130 0), (130, aCI 132 (-2)), 
  (132, aCallV 135 1 9 2 [11]), (135, aRI), (136, aLR 137 0), (137, aLR 138 0), (138, aGR 141 16 [11]), (141, aLI 142 1), (142, aXI 143 14), 
  (143, aCallV 146 1 11 2 [11]), (146, aRI)]
def mQ_chest : Nat := 46
noncomputable def tQ_chest : List (Nat × zA) := [
  (0, aLI 1 1), (1, aCI 2 0), (2, aCI 4 7), (4, aCall 7 1 8 3), (7, aIf 10 (fun x => z_ne x 0) 16), (10, aLR 11 0), (11, aCI 12 (-1)), 
  (12, aCallV 15 1 9 2 [11]), (15, aRI), (16, aLR 17 0), (17, aGI 20 36 [11]), (20, aIf 23 (fun x => z_eq x 0) 30), (23, aLR 24 0), (24, aCI 26 (-3)), 
  (26, aCallV 29 1 9 2 [11]), (29, aRI), (30, aLR 31 0), (31, aGI 34 23 [11]), (34, aCI 36 16), (36, aCmp 39 (fun x y => z_eq x y) 51), (39, aLI 40 2), 
  (40, aCI 43 200), (43, aLR 44 0), (44, aGI 47 27 [11]), (47, aB 48 (fun x y => x - y)), (48, aCmp 51 (fun x y => z_le x y) 58), (51, aLR 52 0), 
  (52, aCI 54 (-2)), (54, aCallV 57 1 9 2 [11]), (57, aRI), (58, aLI 59 2), (59, aIf 62 (fun x => z_le 0 x) 68), (62, aLR 63 0), (63, aCI 64 3), 
  (64, aCallV 67 1 10 2 [11]), (67, aRI), (68, aLR 69 0), (69, aGR 72 24 [11]), (72, aLR 73 0), (73, aGI 76 23 [11]), (76, aLI 77 1), (77, aYI 78), 
  (78, aLR 79 0), (79, aGR 82 25 [11]), (82, aLR 83 0), (83, aGI 86 23 [11]), (86, aLI 87 2), (87, aYI 88), (88, aLR 89 0), (89, aGR 92 26 [11]), 
  (92, aLR 93 0), (93, aGI 96 23 [11]), (96, aLR 97 0), (97, aGI 100 27 [11]), (100, aYI 101), (101, aCI 102 0), (102, aSI 103 3), (103, aLI 104 3), 
  (104, aLI 105 2), (105, aCmp 108 (fun x y => z_le y x) 127), (108, aLR 109 0), (109, aGR 112 28 [11]), (112, aLR 113 0), (113, aGI 116 27 [11]), 
  (116, aLI 117 3), (117, aB 118 (fun x y => x + y)), (118, aCI 120 (-4)), (120, aYI 121), (121, aInc 124 3 1), (124, aGo 103), (127, aLR 128 0), 
  (128, aDup 129), (129, aGI 132 27 [11]), (132, aLI 133 2), (133, aB 134 (fun x y => x + y)), (134, aPI 137 27 [11]), (137, aLR 138 0), 
  (138, aDup 139), (139, aGI 142 23 [11]), (142, aCI 143 1), (143, aB 144 (fun x y => x + y)), (144, aPI 147 23 [11]), (147, aLR 148 0), 
  (148, aLR 149 0), (149, aGI 152 23 [11]), (152, aCI 153 1), (153, aB 154 (fun x y => x - y)), (154, aCallV 157 1 11 2 [11]), (157, aRI)]
def mQ_takes : Nat := 47
noncomputable def tQ_takes : List (Nat × zA) := [
  (0, aLI 1 0), (1, aCI 3 7), (3, aCmp 6 (fun x y => z_eq x y) 40), (6, aLI 7 0), (7, aLI 8 1), (8, aCmp 11 (fun x y => z_eq x y) 40), (11, aLI 12 0), 
  (12, aIf 15 (fun x => z_ne x 0) 20), (15, aLI 16 1), (16, aCI 17 3), (17, aCmp 20 (fun x y => z_lt x y) 40), (20, aLI 21 0), (21, aCI 22 1), 
  (22, aCmp 25 (fun x y => z_ne x y) 30), (25, aLI 26 1), (26, aCI 27 2), (27, aCmp 30 (fun x y => z_eq x y) 40), (30, aLI 31 0), (31, aCI 32 4), 
  (32, aCmp 35 (fun x y => z_ne x y) 44), (35, aLI 36 1), (36, aCI 37 5), (37, aCmp 40 (fun x y => z_ne x y) 44), (40, aCI 41 1), (41, aGo 45), 
  (44, aCI 45 0), (45, aRZ)]
def mQ_place : Nat := 48
noncomputable def tQ_place : List (Nat × zA) := [
  (0, aLI 1 1), (1, aCI 2 0), (2, aLR 3 0), (3, aGI 6 23 [11]), (6, aCI 7 1), (7, aB 8 (fun x y => x - y)), (8, aCall 11 1 8 3), 
  (11, aIf 14 (fun x => z_eq x 0) 27), (14, aLI 15 3), (15, aCI 16 (-1)), (16, aCmp 19 (fun x y => z_eq x y) 33), (19, aLR 20 0), (20, aLI 21 3), 
  (21, aCallV 24 1 41 2 [11]), (24, aIf 27 (fun x => z_ne x 0) 33), (27, aLR 28 0), (28, aCI 29 (-1)), (29, aCallV 32 1 9 2 [11]), (32, aRI), 
  (33, aLR 34 0), (34, aGI 37 36 [11]), (37, aIf 40 (fun x => z_eq x 0) 47), (40, aLR 41 0), (41, aCI 43 (-3)), (43, aCallV 46 1 9 2 [11]), (46, aRI), 
  (47, aLI 48 2), (48, aCI 49 0), (49, aLR 50 0), (50, aGR 53 25 [11]), (53, aLI 54 1), (54, aXI 55 14), (55, aCI 56 1), 
  (56, aB 57 (fun x y => x - y)), (57, aCall 60 1 8 3), (60, aIf 63 (fun x => z_ne x 0) 69), (63, aLR 64 0), (64, aCI 65 2), 
  (65, aCallV 68 1 10 2 [11]), (68, aRI), (69, aLI 70 3), (70, aCI 71 (-1)), (71, aCmp 74 (fun x y => z_eq x y) 99), (74, aLR 75 0), 
  (75, aGR 78 24 [11]), (78, aLI 79 1), (79, aXI 80 14), (80, aLR 81 0), (81, aGR 84 15 [11]), (84, aLI 85 3), (85, aXI 86 14), (86, aCall 89 1 47 2), 
  (89, aIf 92 (fun x => z_ne x 0) 99), (92, aLR 93 0), (93, aCI 95 6), (95, aCallV 98 1 10 2 [11]), (98, aRI), (99, aLR 100 0), (100, aGR 103 28 [11]), 
  (103, aLR 104 0), (104, aGR 107 26 [11]), (107, aLI 108 1), (108, aXI 109 14), (109, aLI 110 2), (110, aB 111 (fun x y => x + y)), (111, aLI 112 3), 
  (112, aCI 113 (-1)), (113, aCmp 116 (fun x y => z_ne x y) 121), (116, aCI 118 (-4)), (118, aGo 122), (121, aLI 122 3), (122, aYI 123), 
  (123, aLR 124 0), (124, aCI 125 1), (125, aCallV 128 1 11 2 [11]), (128, aRI)]
def mQ_wire : Nat := 49
noncomputable def tQ_wire : List (Nat × zA) := [
  (0, aLI 1 1), (1, aCI 2 0), (2, aCI 4 7), (4, aCall 7 1 8 3), (7, aIf 10 (fun x => z_eq x 0) 24), (10, aLI 11 2), (11, aCI 12 (-1)), (12, aLR 13 0), 
  (13, aGI 16 23 [11]), (16, aCI 17 1), (17, aB 18 (fun x y => x - y)), (18, aCall 21 1 8 3), (21, aIf 24 (fun x => z_ne x 0) 30), (24, aLR 25 0), 
  (25, aCI 26 (-1)), (26, aCallV 29 1 9 2 [11]), (29, aRI), (30, aLR 31 0), (31, aGI 34 36 [11]), (34, aIf 37 (fun x => z_eq x 0) 44), (37, aLR 38 0), 
  (38, aCI 40 (-3)), (40, aCallV 43 1 9 2 [11]), (43, aRI), (44, aLR 45 0), (45, aGR 48 29 [11]), (48, aLI 49 1), (49, aLI 50 2), (50, aCI 51 1), 
  (51, aB 52 (fun x y => x + y)), (52, aYI 53), (53, aLR 54 0), (54, aGR 57 30 [11]), (57, aLI 58 1), (58, aLI 59 3), (59, aYI 60), (60, aLR 61 0), 
  (61, aCI 62 1), (62, aCallV 65 1 11 2 [11]), (65, aRI)]
def mQ_spoil : Nat := 50
noncomputable def tQ_spoil : List (Nat × zA) := [
  (0, aLR 1 0), (1, aLI 2 1), (2, aCallV 5 1 41 2 [11]), (5, aIf 8 (fun x => z_eq x 0) 19), (8, aLI 9 2), (9, aCI 10 0), (10, aCI 13 1000), 
  (13, aCall 16 1 8 3), (16, aIf 19 (fun x => z_ne x 0) 25), (19, aLR 20 0), (20, aCI 21 (-1)), (21, aCallV 24 1 9 2 [11]), (24, aRI), (25, aLR 26 0), 
  (26, aGI 29 36 [11]), (29, aIf 32 (fun x => z_eq x 0) 39), (32, aLR 33 0), (33, aCI 35 (-3)), (35, aCallV 38 1 9 2 [11]), (38, aRI), (39, aLR 40 0), 
  (40, aGR 43 19 [11]), (43, aLI 44 1), (44, aXI 45 14), (45, aSI 46 3), (46, aLR 47 0), (47, aGR 50 19 [11]), (50, aLI 51 1), (51, aLI 52 2), 
  (52, aYI 53), (53, aLR 54 0), (54, aLI 55 3), (55, aCallV 58 1 11 2 [11]), (58, aRI)]
def mQ_tune : Nat := 51
noncomputable def tQ_tune : List (Nat × zA) := [
  (0, aLR 1 0), (1, aLI 2 1), (2, aCallV 5 1 41 2 [11]), (5, aIf 8 (fun x => z_eq x 0) 38), (8, aLI 9 2), (9, aCI 10 0), (10, aCI 13 1000), 
  (13, aCall 16 1 8 3), (16, aIf 19 (fun x => z_eq x 0) 38), (19, aLI 20 3), (20, aCI 21 0), (21, aCI 24 1000), (24, aCall 27 1 8 3), 
  (27, aIf 30 (fun x => z_eq x 0) 38), (30, aLI 31 3), (31, aIf 34 (fun x => z_ne x 0) 44), (34, aLI 35 2), (35, aIf 38 (fun x => z_eq x 0) 44), 
  (38, aLR 39 0), (39, aCI 40 (-1)), (40, aCallV 43 1 9 2 [11]), (43, aRI), (44, aLR 45 0), (45, aGI 48 36 [11]), (48, aIf 51 (fun x => z_eq x 0) 58), 
  (51, aLR 52 0), (52, aCI 54 (-3)), (54, aCallV 57 1 9 2 [11]), (57, aRI), (58, aLR 59 0), (59, aGR 62 15 [11]), (62, aLI 63 1), (63, aXI 64 14), 
  (64, aCI 65 3), (65, aCmp 68 (fun x y => z_eq x y) 79), (68, aLR 69 0), (69, aGR 72 15 [11]), (72, aLI 73 1), (73, aXI 74 14), (74, aCI 76 6), 
  (76, aCmp 79 (fun x y => z_ne x y) 85), (79, aLR 80 0), (80, aCI 81 5), (81, aCallV 84 1 10 2 [11]), (84, aRI), (85, aLR 86 0), (86, aGR 89 20 [11]), 
  (89, aLI 90 1), (90, aLI 91 3), (91, aIf 94 (fun x => z_ne x 0) 98), (94, aCI 95 1), (95, aGo 99), (98, aCI 99 0), (99, aYZ 100), (100, aLR 101 0), 
  (101, aGR 104 21 [11]), (104, aLI 105 1), (105, aLI 106 3), (106, aIf 109 (fun x => z_ne x 0) 113), (109, aCD 110 0), (110, aGo 118), 
  (113, aLI 114 2), (114, aI2D 115), (115, aLI 116 3), (116, aI2D 117), (117, aDD 118 zf_div.1), (118, aYD 119), (119, aLR 120 0), (120, aLI 121 3), 
  (121, aIf 124 (fun x => z_ne x 0) 128), (124, aCI 125 0), (125, aGo 129), (128, aCI 129 1), (129, aCallV 132 1 11 2 [11]), (132, aRI)]
def mQ_base : Nat := 52
noncomputable def tQ_base : List (Nat × zA) := [
  (0, aLI 1 1), (1, aCI 2 1), (2, aCI 5 32000), (5, aCall 8 1 8 3), (8, aIf 11 (fun x => z_ne x 0) 17), (11, aLR 12 0), (12, aCI 13 (-1)), 
  (13, aCallV 16 1 9 2 [11]), (16, aRI), (17, aLR 18 0), (18, aGI 21 36 [11]), (21, aIf 24 (fun x => z_eq x 0) 31), (24, aLR 25 0), (25, aCI 27 (-3)), 
  (27, aCallV 30 1 9 2 [11]), (30, aRI), (31, aLR 32 0), (32, aLI 33 1), (33, aI2D 34), (34, aCD 37 4625196817309499392), (37, aDD 38 zf_div.1), 
  (38, aPD 41 22 [11]), (41, aLR 42 0), (42, aCI 43 1), (43, aCallV 46 1 11 2 [11]), (46, aRI)]
def mQ_floor : Nat := 53
noncomputable def tQ_floor : List (Nat × zA) := [
  (0, aLD 1 0), (1, aD2J 2), (2, aJ2D 3), (3, aRD)]
def mQ_nearest : Nat := 54
noncomputable def tQ_nearest : List (Nat × zA) := [
  (0, aLD 1 0), (1, aCall 4 3 53 1), (4, aSD 5 2), (5, aLD 6 0), (6, aLD 7 2), (7, aDD 8 zf_sub.1), (8, aSD 10 4), (10, aLD 11 2), (11, aD2J 12), 
  (12, aCJ 15 2), (15, aJz 16 (fun x y => x - x / y * y)), (16, aCJ 17 1), (17, aLcmp 18), (18, aIf 21 (fun x => z_ne x 0) 25), (21, aCI 22 1), 
  (22, aGo 26), (25, aCI 26 0), (26, aSI 28 6), (28, aLD 30 4), (30, aCD 33 4602678819172646912), (33, aDcmp 34 .l), 
  (34, aIf 37 (fun x => z_lt 0 x) 51), (37, aLD 39 4), (39, aCD 42 4602678819172646912), (42, aDcmp 43 .l), (43, aIf 46 (fun x => z_ne x 0) 57), 
  (46, aLI 48 6), (48, aIf 51 (fun x => z_eq x 0) 57), (51, aLD 52 2), (52, aCD 53 4607182418800017408), (53, aDD 54 zf_add.1), (54, aGo 58), 
  (57, aLD 58 2), (58, aRD)]
def mQ_plainOf : Nat := 55
noncomputable def tQ_plainOf : List (Nat × zA) := [
  (0, aLR 1 0), (1, aGR 4 20 [11]), (4, aLI 5 1), (5, aXI 6 15), (6, aIf 9 (fun x => z_eq x 0) 13), (9, aCD 10 0), (10, aGo 24), (13, aLR 14 0), 
  (14, aGD 17 22 [11]), (17, aLR 18 0), (18, aGR 21 21 [11]), (21, aLI 22 1), (22, aXD 23), (23, aDD 24 zf_mul.1), (24, aSD 25 2), (25, aLR 26 0), 
  (26, aGR 29 15 [11]), (29, aLI 30 1), (30, aXI 31 14), (31, aSw 179 [(0, 64), (1, 77), (2, 105), (3, 179), (4, 155)]), (64, aLR 65 0), 
  (65, aGR 68 31 [11]), (68, aCI 70 8), (70, aDup2 71), (71, aXI 72 14), (72, aCI 73 1), (73, aB 74 (fun x y => x + y)), (74, aYI 75), (75, aLD 76 2), 
  (76, aRD), (77, aLR 78 0), (78, aGR 81 31 [11]), (81, aCI 83 9), (83, aDup2 84), (84, aXI 85 14), (85, aCI 86 1), (86, aB 87 (fun x y => x + y)), 
  (87, aYI 88), (88, aLR 89 0), (89, aGR 92 31 [11]), (92, aCI 94 8), (94, aDup2 95), (95, aXI 96 14), (96, aCI 97 1), (97, aB 98 (fun x y => x + y)), 
  (98, aYI 99), (99, aLD 100 2), (100, aCD 103 4611686018427387904), (103, aDD 104 zf_div.1), (104, aRD), (105, aLR 106 0), (106, aGR 109 31 [11]), 
  (109, aCI 111 10), (111, aDup2 112), (112, aXI 113 14), (113, aCI 114 1), (114, aB 115 (fun x y => x + y)), (115, aYI 116), (116, aLR 117 0), 
  (117, aGR 120 31 [11]), (120, aCI 122 9), (122, aDup2 123), (123, aXI 124 14), (124, aCI 125 1), (125, aB 126 (fun x y => x + y)), (126, aYI 127), 
  (127, aLR 128 0), (128, aGR 131 31 [11]), (131, aCI 133 8), (133, aDup2 134), (134, aXI 135 14), (135, aCI 136 1), (136, aB 137 (fun x y => x + y)), 
  (137, aYI 138), (138, aLD 139 2), (139, aCD 142 4611686018427387904), (142, aDD 143 zf_div.1), (143, aCD 146 4616189618054758400), 
  (146, aDD 147 zf_mul.1), (147, aCall 150 3 53 1), (150, aCD 153 4616189618054758400), (153, aDD 154 zf_div.1), (154, aRD), (155, aLR 156 0), 
  (156, aGR 159 31 [11]), (159, aCI 161 11), (161, aDup2 162), (162, aXI 163 14), (163, aCI 164 1), (164, aB 165 (fun x y => x + y)), (165, aYI 166), 
  (166, aLD 167 2), (167, aCD 170 4620693217682128896), (170, aDD 171 zf_mul.1), (171, aCall 174 3 54 1), (174, aCD 177 4620693217682128896), 
  (177, aDD 178 zf_div.1), (178, aRD), (179, aLR 180 0), (180, aGR 183 31 [11]), (183, aCI 185 12), (185, aDup2 186), (186, aXI 187 14), 
  (187, aCI 188 1), (188, aB 189 (fun x y => x + y)), (189, aYI 190), (190, aLR 191 0), (191, aGR 194 31 [11]), (194, aCI 196 11), (196, aDup2 197), 
  (197, aXI 198 14), (198, aCI 199 1), (199, aB 200 (fun x y => x + y)), (200, aYI 201), (201, aLD 202 2), (202, aCD 205 4620693217682128896), 
  (205, aDD 206 zf_mul.1), (206, aCall 209 3 54 1), (209, aCD 212 4620693217682128896), (212, aDD 213 zf_div.1), (213, aCall 216 3 53 1), 
  (216, aCD 219 4598175219545276416), (219, aDD 220 zf_add.1), (220, aRD)]
def mQ_frequencyOf : Nat := 56
noncomputable def tQ_frequencyOf : List (Nat × zA) := [
  (0, aLR 1 0), (1, aCI 2 1), (2, aPZ 5 35 [11]), (5, aCD 6 0), (6, aSD 7 2), (7, aLR 8 0), (8, aGR 11 32 [11]), (11, aCI 12 0), (12, aLI 13 1), 
  (13, aYI 14), (14, aCI 15 1), (15, aSI 17 4), (17, aLI 19 4), (19, aIf 22 (fun x => z_le x 0) 163), (22, aInc 25 4 (-1)), (25, aLR 26 0), 
  (26, aGR 29 32 [11]), (29, aLI 31 4), (31, aXI 32 14), (32, aSI 34 5), (34, aLR 35 0), (35, aGR 38 15 [11]), (38, aLI 40 5), (40, aXI 41 14), 
  (41, aCI 43 6), (43, aCmp 46 (fun x y => z_ne x y) 105), (46, aLR 47 0), (47, aGR 50 31 [11]), (50, aCI 52 13), (52, aDup2 53), (53, aXI 54 14), 
  (54, aCI 55 1), (55, aB 56 (fun x y => x + y)), (56, aYI 57), (57, aLR 58 0), (58, aGR 61 16 [11]), (61, aLI 63 5), (63, aXI 64 14), (64, aCI 65 1), 
  (65, aB 66 (fun x y => x - y)), (66, aSI 68 6), (68, aLI 70 6), (70, aIf 73 (fun x => z_lt x 0) 102), (73, aLR 74 0), (74, aGR 77 32 [11]), 
  (77, aLI 79 4), (79, aLR 80 0), (80, aGR 83 17 [11]), (83, aCI 85 8), (85, aLI 87 5), (87, aB 88 (fun x y => x * y)), (88, aLI 90 6), 
  (90, aB 91 (fun x y => x + y)), (91, aXI 92 14), (92, aYI 93), (93, aInc 96 4 1), (96, aInc 99 6 (-1)), (99, aGo 68), (102, aGo 160), 
  (105, aLR 106 0), (106, aGR 109 15 [11]), (109, aLI 111 5), (111, aXI 112 14), (112, aCI 113 3), (113, aCmp 116 (fun x y => z_eq x y) 160), 
  (116, aLR 117 0), (117, aLI 119 5), (119, aCallV 122 3 55 2 [11]), (122, aSD 124 6), (124, aLR 125 0), (125, aGR 128 20 [11]), (128, aLI 130 5), 
  (130, aXI 131 15), (131, aIf 134 (fun x => z_ne x 0) 160), (134, aLR 135 0), (135, aGI 138 35 [11]), (138, aIf 141 (fun x => z_ne x 0) 148), 
  (141, aLD 143 6), (143, aLD 144 2), (144, aDcmp 145 .l), (145, aIf 148 (fun x => z_le x 0) 153), (148, aLD 150 6), (150, aGo 154), (153, aLD 154 2), 
  (154, aSD 155 2), (155, aLR 156 0), (156, aCI 157 0), (157, aPZ 160 35 [11]), (160, aGo 17), (163, aLD 164 2), (164, aRD)]
def mQ_tones : Nat := 57
noncomputable def tQ_tones : List (Nat × zA) := [
  (0, aLR 1 0), (1, aLI 2 1), (2, aCallV 5 1 41 2 [11]), (5, aIf 8 (fun x => z_ne x 0) 16), (8, aLR 9 0), (9, aCI 10 (-1)), (10, aCallV 13 1 9 2 [11]), 
  (13, aGo 39), (16, aLR 17 0), (17, aGR 20 15 [11]), (20, aLI 21 1), (21, aXI 22 14), (22, aCI 23 3), (23, aCmp 26 (fun x y => z_ne x y) 34), 
  (26, aLR 27 0), (27, aCI 28 5), (28, aCallV 31 1 10 2 [11]), (31, aGo 39), (34, aLR 35 0), (35, aCI 36 0), (36, aCallV 39 1 11 2 [11]), (39, aRI)]
def mQ_frequency : Nat := 58
noncomputable def tQ_frequency : List (Nat × zA) := [
  (0, aLR 1 0), (1, aLI 2 1), (2, aCallV 5 1 57 2 [11]), (5, aIf 8 (fun x => z_le 0 x) 10), (8, aCJ 9 0), (9, aRJ), (10, aLR 11 0), (11, aLI 12 1), 
  (12, aCallV 15 3 56 2 [11]), (15, aSD 16 2), (16, aLR 17 0), (17, aGI 20 35 [11]), (20, aIf 23 (fun x => z_eq x 0) 29), 
  (23, aCJ 26 9221120237041090560), (26, aGo 33), (29, aLD 30 2), (30, aCall 33 2 5 1), (33, aRJ)]
def mQ_mute : Nat := 59
noncomputable def tQ_mute : List (Nat × zA) := [
  (0, aLR 1 0), (1, aLI 2 1), (2, aCallV 5 1 57 2 [11]), (5, aSI 6 2), (6, aLI 7 2), (7, aIf 10 (fun x => z_le 0 x) 12), (10, aLI 11 2), (11, aRI), 
  (12, aLR 13 0), (13, aLI 14 1), (14, aCallV 17 3 56 2 [11]), (17, aSD 18 3), (18, aLR 19 0), (19, aLR 20 0), (20, aGI 23 35 [11]), 
  (23, aIf 26 (fun x => z_eq x 0) 30), (26, aCI 27 1), (27, aGo 31), (30, aCI 31 0), (31, aCallV 34 1 11 2 [11]), (34, aRI)]
def mQ_higher : Nat := 60
noncomputable def tQ_higher : List (Nat × zA) := [
  (0, aLR 1 0), (1, aLI 2 1), (2, aCallV 5 1 41 2 [11]), (5, aIf 8 (fun x => z_eq x 0) 16), (8, aLR 9 0), (9, aLI 10 2), (10, aCallV 13 1 41 2 [11]), 
  (13, aIf 16 (fun x => z_ne x 0) 22), (16, aLR 17 0), (17, aCI 18 (-1)), (18, aCallV 21 1 9 2 [11]), (21, aRI), (22, aLR 23 0), (23, aGR 26 15 [11]), 
  (26, aLI 27 1), (27, aXI 28 14), (28, aCI 29 3), (29, aCmp 32 (fun x y => z_eq x y) 42), (32, aLR 33 0), (33, aGR 36 15 [11]), (36, aLI 37 2), 
  (37, aXI 38 14), (38, aCI 39 3), (39, aCmp 42 (fun x y => z_ne x y) 48), (42, aLR 43 0), (43, aCI 44 5), (44, aCallV 47 1 10 2 [11]), (47, aRI), 
  (48, aLR 49 0), (49, aLI 50 1), (50, aCallV 53 3 56 2 [11]), (53, aSD 54 3), (54, aLR 55 0), (55, aGI 58 35 [11]), (58, aSI 60 5), (60, aLR 61 0), 
  (61, aLI 62 2), (62, aCallV 65 3 56 2 [11]), (65, aSD 67 6), (67, aLR 68 0), (68, aLI 70 5), (70, aIf 73 (fun x => z_ne x 0) 80), (73, aLR 74 0), 
  (74, aGI 77 35 [11]), (77, aIf 80 (fun x => z_eq x 0) 84), (80, aCI 81 0), (81, aGo 107), (84, aLD 85 3), (85, aLD 87 6), (87, aDcmp 88 .l), 
  (88, aIf 91 (fun x => z_le x 0) 95), (91, aCI 92 1), (92, aGo 107), (95, aLD 96 3), (96, aLD 98 6), (98, aDcmp 99 .l), 
  (99, aIf 102 (fun x => z_ne x 0) 106), (102, aCI 103 2), (103, aGo 107), (106, aCI 107 3), (107, aCallV 110 1 11 2 [11]), (110, aRI)]
def mQ_tell : Nat := 61
noncomputable def tQ_tell : List (Nat × zA) := [
  (0, aLR 1 0), (1, aGI 4 58 [11]), (4, aCI 7 1500), (7, aCmp 10 (fun x y => z_le y x) 67), (10, aLR 11 0), (11, aGR 14 59 [11]), (14, aCI 15 4), 
  (15, aLR 16 0), (16, aGI 19 58 [11]), (19, aB 20 (fun x y => x * y)), (20, aLI 21 1), (21, aYI 22), (22, aLR 23 0), (23, aGR 26 59 [11]), 
  (26, aCI 27 4), (27, aLR 28 0), (28, aGI 31 58 [11]), (31, aB 32 (fun x y => x * y)), (32, aCI 33 1), (33, aB 34 (fun x y => x + y)), (34, aLR 35 0), 
  (35, aGI 38 48 [11]), (38, aYI 39), (39, aLR 40 0), (40, aGR 43 59 [11]), (43, aCI 44 4), (44, aLR 45 0), (45, aGI 48 58 [11]), 
  (48, aB 49 (fun x y => x * y)), (49, aCI 50 2), (50, aB 51 (fun x y => x + y)), (51, aLI 52 2), (52, aYI 53), (53, aLR 54 0), (54, aGR 57 59 [11]), 
  (57, aCI 58 4), (58, aLR 59 0), (59, aGI 62 58 [11]), (62, aB 63 (fun x y => x * y)), (63, aCI 64 3), (64, aB 65 (fun x y => x + y)), (65, aLI 66 3), 
  (66, aYI 67), (67, aLR 68 0), (68, aDup 69), (69, aGI 72 58 [11]), (72, aCI 73 1), (73, aB 74 (fun x y => x + y)), (74, aPI 77 58 [11]), (77, aRV)]
def mQ_end : Nat := 62
noncomputable def tQ_end : List (Nat × zA) := [
  (0, aLR 1 0), (1, aGR 4 31 [11]), (4, aCI 6 16), (6, aDup2 7), (7, aXI 8 14), (8, aCI 9 1), (9, aB 10 (fun x y => x + y)), (10, aYI 11), 
  (11, aLR 12 0), (12, aGR 15 57 [11]), (15, aLR 16 0), (16, aGR 19 53 [11]), (19, aLI 20 1), (20, aXI 21 14), (21, aDup2 22), (22, aXI 23 14), 
  (23, aCI 24 1), (24, aB 25 (fun x y => x + y)), (25, aYI 26), (26, aLR 27 0), (27, aCI 28 2), (28, aLR 29 0), (29, aGR 32 53 [11]), (32, aLI 33 1), 
  (33, aXI 34 14), (34, aLR 35 0), (35, aGR 38 54 [11]), (38, aLI 39 1), (39, aXI 40 14), (40, aCallV 43 0 61 4 [11]), (43, aLR 44 0), (44, aDup 45), 
  (45, aGI 48 52 [11]), (48, aCI 49 1), (49, aB 50 (fun x y => x - y)), (50, aPI 53 52 [11]), (53, aLI 54 1), (54, aSI 55 2), (55, aLI 56 2), 
  (56, aLR 57 0), (57, aGI 60 52 [11]), (60, aCmp 63 (fun x y => z_le y x) 111), (63, aLR 64 0), (64, aGR 67 53 [11]), (67, aLI 68 2), (68, aLR 69 0), 
  (69, aGR 72 53 [11]), (72, aLI 73 2), (73, aCI 74 1), (74, aB 75 (fun x y => x + y)), (75, aXI 76 14), (76, aYI 77), (77, aLR 78 0), 
  (78, aGR 81 54 [11]), (81, aLI 82 2), (82, aLR 83 0), (83, aGR 86 54 [11]), (86, aLI 87 2), (87, aCI 88 1), (88, aB 89 (fun x y => x + y)), 
  (89, aXI 90 14), (90, aYI 91), (91, aLR 92 0), (92, aGR 95 55 [11]), (95, aLI 96 2), (96, aLR 97 0), (97, aGR 100 55 [11]), (100, aLI 101 2), 
  (101, aCI 102 1), (102, aB 103 (fun x y => x + y)), (103, aXI 104 14), (104, aYI 105), (105, aInc 108 2 1), (108, aGo 55), (111, aRV)]
def mQ_endAll : Nat := 63
noncomputable def tQ_endAll : List (Nat × zA) := [
  (0, aLR 1 0), (1, aGI 4 52 [11]), (4, aIf 7 (fun x => z_le x 0) 20), (7, aLR 8 0), (8, aLR 9 0), (9, aGI 12 52 [11]), (12, aCI 13 1), 
  (13, aB 14 (fun x y => x - y)), (14, aCallV 17 0 62 2 [11]), (17, aGo 0), (20, aCI 21 0), (21, aSI 22 1), (22, aLI 23 1), (23, aCI 25 8), 
  (25, aCmp 28 (fun x y => z_le y x) 41), (28, aLR 29 0), (29, aGR 32 38 [11]), (32, aLI 33 1), (33, aCI 34 0), (34, aYZ 35), (35, aInc 38 1 1), 
  (38, aGo 22), (41, aRV)]
def mQ_begins : Nat := 64
noncomputable def tQ_begins : List (Nat × zA) := [
  (0, aLR 1 0), (1, aGR 4 15 [11]), (4, aLI 5 1), (5, aXI 6 14), (6, aCI 8 6), (8, aCmp 11 (fun x y => z_ne x y) 22), (11, aLR 12 0), 
  (12, aGR 15 31 [11]), (15, aCI 17 15), (17, aDup2 18), (18, aXI 19 14), (19, aCI 20 1), (20, aB 21 (fun x y => x + y)), (21, aYI 22), (22, aLR 23 0), 
  (23, aGR 26 31 [11]), (26, aCI 28 14), (28, aDup2 29), (29, aXI 30 14), (30, aCI 31 1), (31, aB 32 (fun x y => x + y)), (32, aYI 33), (33, aLR 34 0), 
  (34, aGR 37 19 [11]), (37, aLI 38 1), (38, aXI 39 14), (39, aIf 42 (fun x => z_le x 0) 63), (42, aLR 43 0), (43, aGR 46 19 [11]), (46, aLI 47 1), 
  (47, aDup2 48), (48, aXI 49 14), (49, aCI 50 1), (50, aB 51 (fun x y => x - y)), (51, aYI 52), (52, aLR 53 0), (53, aGR 56 19 [11]), (56, aLI 57 1), 
  (57, aXI 58 14), (58, aIf 61 (fun x => z_ne x 0) 63), (61, aCI 62 0), (62, aRZ), (63, aLR 64 0), (64, aGR 67 53 [11]), (67, aLR 68 0), 
  (68, aGI 71 52 [11]), (71, aLI 72 1), (72, aYI 73), (73, aLR 74 0), (74, aGR 77 54 [11]), (77, aLR 78 0), (78, aGI 81 52 [11]), (81, aLI 82 2), 
  (82, aYI 83), (83, aLR 84 0), (84, aGR 87 55 [11]), (87, aLR 88 0), (88, aGI 91 52 [11]), (91, aLR 92 0), (92, aGI 95 48 [11]), (95, aYI 96), 
  (96, aLR 97 0), (97, aDup 98), (98, aGI 101 52 [11]), (101, aCI 102 1), (102, aB 103 (fun x y => x + y)), (103, aPI 106 52 [11]), (106, aLR 107 0), 
  (107, aGR 110 56 [11]), (110, aLI 111 1), (111, aDup2 112), (112, aXI 113 14), (113, aCI 114 1), (114, aB 115 (fun x y => x + y)), (115, aYI 116), 
  (116, aLR 117 0), (117, aCI 118 1), (118, aLI 119 1), (119, aLI 120 2), (120, aCallV 123 0 61 4 [11]), (123, aCI 124 1), (124, aRZ)]
def mQ_opens : Nat := 65
noncomputable def tQ_opens : List (Nat × zA) := [
  (0, aLR 1 0), (1, aGI 4 52 [11]), (4, aSI 5 3), (5, aLR 6 0), (6, aLI 7 1), (7, aLI 8 2), (8, aCallV 11 1 64 3 [11]), (11, aSI 13 4), (13, aLI 15 4), 
  (15, aIf 18 (fun x => z_eq x 0) 22), (18, aCI 19 1), (19, aGo 23), (22, aCI 23 0), (23, aSI 25 5), (25, aLR 26 0), (26, aGR 29 32 [11]), 
  (29, aCI 30 0), (30, aLI 31 1), (31, aYI 32), (32, aLR 33 0), (33, aGR 36 33 [11]), (36, aCI 37 0), (37, aCI 38 0), (38, aYI 39), (39, aLI 41 4), 
  (41, aIf 44 (fun x => z_eq x 0) 152), (44, aLI 46 5), (46, aIf 49 (fun x => z_le x 0) 152), (49, aLR 50 0), (50, aGR 53 32 [11]), (53, aLI 55 5), 
  (55, aCI 56 1), (56, aB 57 (fun x y => x - y)), (57, aXI 58 14), (58, aSI 60 6), (60, aLR 61 0), (61, aGR 64 33 [11]), (64, aLI 66 5), 
  (66, aCI 67 1), (67, aB 68 (fun x y => x - y)), (68, aXI 69 14), (69, aLR 70 0), (70, aGR 73 16 [11]), (73, aLI 75 6), (75, aXI 76 14), 
  (76, aCmp 79 (fun x y => z_ne x y) 85), (79, aInc 82 5 (-1)), (82, aGo 149), (85, aLR 86 0), (86, aGR 89 17 [11]), (89, aCI 91 8), (91, aLI 93 6), 
  (93, aB 94 (fun x y => x * y)), (94, aLR 95 0), (95, aGR 98 33 [11]), (98, aLI 100 5), (100, aCI 101 1), (101, aB 102 (fun x y => x - y)), 
  (102, aXI 103 14), (103, aB 104 (fun x y => x + y)), (104, aXI 105 14), (105, aSI 107 7), (107, aLR 108 0), (108, aGR 111 33 [11]), (111, aLI 113 5), 
  (113, aCI 114 1), (114, aB 115 (fun x y => x - y)), (115, aDup2 116), (116, aXI 117 14), (117, aCI 118 1), (118, aB 119 (fun x y => x + y)), 
  (119, aYI 120), (120, aLR 121 0), (121, aLI 123 7), (123, aLI 124 2), (124, aCallV 127 1 64 3 [11]), (127, aSI 129 4), (129, aLR 130 0), 
  (130, aGR 133 32 [11]), (133, aLI 135 5), (135, aLI 137 7), (137, aYI 138), (138, aLR 139 0), (139, aGR 142 33 [11]), (142, aLI 144 5), 
  (144, aCI 145 0), (145, aYI 146), (146, aInc 149 5 1), (149, aGo 39), (152, aLI 154 4), (154, aIf 157 (fun x => z_ne x 0) 178), (157, aLR 158 0), 
  (158, aGI 161 52 [11]), (161, aLI 162 3), (162, aCmp 165 (fun x y => z_le x y) 178), (165, aLR 166 0), (166, aLR 167 0), (167, aGI 170 52 [11]), 
  (170, aCI 171 1), (171, aB 172 (fun x y => x - y)), (172, aCallV 175 0 62 2 [11]), (175, aGo 152), (178, aLI 180 4), (180, aRZ)]
def mQ_openHole : Nat := 66
noncomputable def tQ_openHole : List (Nat × zA) := [
  (0, aLR 1 0), (1, aGR 4 38 [11]), (4, aLI 5 1), (5, aCI 6 1), (6, aYZ 7), (7, aLR 8 0), (8, aGR 11 29 [11]), (11, aLI 12 1), (12, aXI 13 14), 
  (13, aCI 14 1), (14, aB 15 (fun x y => x - y)), (15, aSI 16 2), (16, aLI 17 2), (17, aIf 20 (fun x => z_lt x 0) 29), (20, aLR 21 0), 
  (21, aGR 24 40 [11]), (24, aLI 25 2), (25, aXI 26 15), (26, aIf 29 (fun x => z_ne x 0) 30), (29, aRV), (30, aCI 31 0), (31, aSI 32 3), 
  (32, aLR 33 0), (33, aGR 36 30 [11]), (36, aLI 37 1), (37, aXI 38 14), (38, aCI 39 0), (39, aLR 40 0), (40, aGR 43 25 [11]), (43, aLI 44 2), 
  (44, aXI 45 14), (45, aCI 46 1), (46, aB 47 (fun x y => x - y)), (47, aCall 50 1 8 3), (50, aIf 53 (fun x => z_ne x 0) 58), (53, aCI 54 2), 
  (54, aSI 55 3), (55, aGo 115), (58, aLR 59 0), (59, aGR 62 28 [11]), (62, aLR 63 0), (63, aGR 66 26 [11]), (66, aLI 67 2), (67, aXI 68 14), 
  (68, aLR 69 0), (69, aGR 72 30 [11]), (72, aLI 73 1), (73, aXI 74 14), (74, aB 75 (fun x y => x + y)), (75, aXI 76 14), (76, aCI 78 (-4)), 
  (78, aCmp 81 (fun x y => z_ne x y) 86), (81, aCI 82 1), (82, aSI 83 3), (83, aGo 115), (86, aLR 87 0), (87, aLR 88 0), (88, aGR 91 28 [11]), 
  (91, aLR 92 0), (92, aGR 95 26 [11]), (95, aLI 96 2), (96, aXI 97 14), (97, aLR 98 0), (98, aGR 101 30 [11]), (101, aLI 102 1), (102, aXI 103 14), 
  (103, aB 104 (fun x y => x + y)), (104, aXI 105 14), (105, aLI 106 1), (106, aCallV 109 1 65 3 [11]), (109, aIf 112 (fun x => z_ne x 0) 115), 
  (112, aCI 114 10), (114, aSI 115 3), (115, aLI 116 3), (116, aIf 119 (fun x => z_le x 0) 126), (119, aLR 120 0), (120, aCI 121 3), (121, aLI 122 1), 
  (122, aLI 123 3), (123, aCallV 126 0 61 4 [11]), (126, aRV)]
def mQ_shutHole : Nat := 67
noncomputable def tQ_shutHole : List (Nat × zA) := [
  (0, aLR 1 0), (1, aGR 4 38 [11]), (4, aLI 5 1), (5, aCI 6 0), (6, aYZ 7), (7, aLR 8 0), (8, aGI 11 52 [11]), (11, aCI 12 1), 
  (12, aB 13 (fun x y => x - y)), (13, aSI 14 2), (14, aLI 15 2), (15, aIf 18 (fun x => z_lt x 0) 39), (18, aLR 19 0), (19, aGR 22 54 [11]), 
  (22, aLI 23 2), (23, aXI 24 14), (24, aLI 25 1), (25, aCmp 28 (fun x y => z_ne x y) 33), (28, aLR 29 0), (29, aLI 30 2), (30, aCallV 33 0 62 2 [11]), 
  (33, aInc 36 2 (-1)), (36, aGo 14), (39, aRV)]
def mQ_does : Nat := 68
noncomputable def tQ_does : List (Nat × zA) := [
  (0, aLI 1 1), (1, aSw 202 [(0, 28), (1, 102), (2, 154)]), (28, aCI 29 0), (29, aSI 30 3), (30, aLI 31 3), (31, aCI 33 8), 
  (33, aCmp 36 (fun x y => z_le y x) 99), (36, aLI 37 2), (37, aLI 38 3), (38, aB 39 (fun x y => x >>> (y &&& 31))), (39, aCI 40 1), 
  (40, aB 41 (fun x y => x &&& y)), (41, aCI 42 1), (42, aCmp 45 (fun x y => z_ne x y) 49), (45, aCI 46 1), (46, aGo 50), (49, aCI 50 0), 
  (50, aSI 52 4), (52, aLI 54 4), (54, aIf 57 (fun x => z_eq x 0) 74), (57, aLR 58 0), (58, aGR 61 38 [11]), (61, aLI 62 3), (62, aXI 63 15), 
  (63, aIf 66 (fun x => z_ne x 0) 74), (66, aLR 67 0), (67, aLI 68 3), (68, aCallV 71 0 66 2 [11]), (71, aGo 93), (74, aLI 76 4), 
  (76, aIf 79 (fun x => z_ne x 0) 93), (79, aLR 80 0), (80, aGR 83 38 [11]), (83, aLI 84 3), (84, aXI 85 15), (85, aIf 88 (fun x => z_eq x 0) 93), 
  (88, aLR 89 0), (89, aLI 90 3), (90, aCallV 93 0 67 2 [11]), (93, aInc 96 3 1), (96, aGo 30), (99, aGo 214), (102, aCI 103 0), (103, aSI 104 3), 
  (104, aLI 105 3), (105, aCI 107 8), (107, aCmp 110 (fun x y => z_le y x) 151), (110, aLR 111 0), (111, aGR 114 39 [11]), (114, aLI 115 3), 
  (115, aLI 116 2), (116, aIf 119 (fun x => z_lt x 0) 130), (119, aLI 120 3), (120, aLI 121 2), (121, aCI 123 12), 
  (123, aB 124 (fun x y => x >>> (y &&& 31))), (124, aCI 126 7), (126, aB 127 (fun x y => x &&& y)), (127, aCmp 130 (fun x y => z_ne x y) 138), 
  (130, aLI 131 2), (131, aCI 134 4095), (134, aB 135 (fun x y => x &&& y)), (135, aGo 144), (138, aLR 139 0), (139, aGR 142 39 [11]), 
  (142, aLI 143 3), (143, aXI 144 14), (144, aYI 145), (145, aInc 148 3 1), (148, aGo 104), (151, aGo 214), (154, aLI 155 2), (155, aCI 157 65), 
  (157, aCI 159 80), (159, aCall 162 1 8 3), (162, aIf 165 (fun x => z_eq x 0) 178), (165, aLR 166 0), (166, aGR 169 40 [11]), (169, aLI 170 2), 
  (170, aCI 172 65), (172, aB 173 (fun x y => x - y)), (173, aCI 174 1), (174, aYZ 175), (175, aGo 214), (178, aLI 179 2), (179, aCI 181 97), 
  (181, aCI 183 112), (183, aCall 186 1 8 3), (186, aIf 189 (fun x => z_eq x 0) 214), (189, aLR 190 0), (190, aGR 193 40 [11]), (193, aLI 194 2), 
  (194, aCI 196 97), (196, aB 197 (fun x y => x - y)), (197, aCI 198 0), (198, aYZ 199), (199, aGo 214), (202, aLR 203 0), (203, aLI 204 2), 
  (204, aCI 206 65535), (206, aB 207 (fun x y => x &&& y)), (207, aLI 208 2), (208, aCI 210 16), 
  (210, aB 211 (fun x y => (x.toUInt32 >>> (y.toUInt32 &&& Int32.toUInt32 31)).toInt32)), (211, aCallV 214 0 69 3 [11]), (214, aRV)]
def mQ_tempoTo : Nat := 69
noncomputable def tQ_tempoTo : List (Nat × zA) := [
  (0, aLI 1 1), (1, aIf 4 (fun x => z_ne x 0) 5), (4, aRV), (5, aLI 6 2), (6, aIf 9 (fun x => z_ne x 0) 25), (9, aLR 10 0), (10, aLI 11 1), 
  (11, aPI 14 41 [11]), (14, aLR 15 0), (15, aCI 16 0), (16, aPI 19 44 [11]), (19, aLR 20 0), (20, aCI 21 0), (21, aPI 24 45 [11]), (24, aRV), 
  (25, aLR 26 0), (26, aLR 27 0), (27, aGI 30 41 [11]), (30, aPI 33 42 [11]), (33, aLR 34 0), (34, aLI 35 1), (35, aPI 38 43 [11]), (38, aLR 39 0), 
  (39, aLI 40 2), (40, aPI 43 44 [11]), (43, aLR 44 0), (44, aCI 45 0), (45, aPI 48 45 [11]), (48, aRV)]
def mQ_down : Nat := 70
noncomputable def tQ_down : List (Nat × zA) := [
  (0, aLJ 1 0), (1, aLJ 2 2), (2, aJz 3 (fun x y => x / y)), (3, aSJ 5 4), (5, aLJ 6 0), (6, aLJ 7 2), (7, aJz 8 (fun x y => x - x / y * y)), 
  (8, aCJ 9 0), (9, aLcmp 10), (10, aIf 13 (fun x => z_le 0 x) 20), (13, aLJ 15 4), (15, aCJ 16 1), (16, aJ 17 (fun x y => x - y)), (17, aGo 22), 
  (20, aLJ 22 4), (22, aRJ)]
def mQ_tempoGoesOn : Nat := 71
noncomputable def tQ_tempoGoesOn : List (Nat × zA) := [
  (0, aLR 1 0), (1, aGI 4 45 [11]), (4, aLR 5 0), (5, aGI 8 44 [11]), (8, aCmp 11 (fun x y => z_le y x) 69), (11, aLR 12 0), (12, aDup 13), 
  (13, aGI 16 45 [11]), (16, aCI 17 1), (17, aB 18 (fun x y => x + y)), (18, aPI 21 45 [11]), (21, aLR 22 0), (22, aLR 23 0), (23, aGI 26 42 [11]), 
  (26, aLR 27 0), (27, aGI 30 43 [11]), (30, aLR 31 0), (31, aGI 34 42 [11]), (34, aB 35 (fun x y => x - y)), (35, aI2J 36), (36, aLR 37 0), 
  (37, aGI 40 45 [11]), (40, aI2J 41), (41, aJ 42 (fun x y => x * y)), (42, aCJ 45 2), (45, aJ 46 (fun x y => x * y)), (46, aLR 47 0), 
  (47, aGI 50 44 [11]), (50, aI2J 51), (51, aJ 52 (fun x y => x + y)), (52, aCJ 55 2), (55, aLR 56 0), (56, aGI 59 44 [11]), (59, aI2J 60), 
  (60, aJ 61 (fun x y => x * y)), (61, aCall 64 2 70 2), (64, aJ2I 65), (65, aB 66 (fun x y => x + y)), (66, aPI 69 41 [11]), (69, aLR 70 0), 
  (70, aDup 71), (71, aGI 74 47 [11]), (74, aCI 75 1), (75, aB 76 (fun x y => x + y)), (76, aPI 79 47 [11]), (79, aLR 80 0), (80, aGI 83 47 [11]), 
  (83, aLR 84 0), (84, aGI 87 41 [11]), (87, aCmp 90 (fun x y => z_lt x y) 105), (90, aLR 91 0), (91, aCI 92 0), (92, aPI 95 47 [11]), (95, aLR 96 0), 
  (96, aDup 97), (97, aGI 100 46 [11]), (100, aCI 101 1), (101, aB 102 (fun x y => x + y)), (102, aPI 105 46 [11]), (105, aRV)]
def mQ_comes : Nat := 72
noncomputable def tQ_comes : List (Nat × zA) := [
  (0, aLR 1 0), (1, aGI 4 49 [11]), (4, aCI 6 (-4)), (6, aCmp 9 (fun x y => z_eq x y) 33), (9, aLR 10 0), (10, aGI 13 50 [11]), (13, aLR 14 0), 
  (14, aGR 17 7 [11]), (17, aLR 18 0), (18, aLR 19 0), (19, aGI 22 37 [11]), (22, aLR 23 0), (23, aGI 26 49 [11]), (26, aCallV 29 1 14 3 [11]), 
  (29, aXI 30 14), (30, aCmp 33 (fun x y => z_lt x y) 202), (33, aLR 34 0), (34, aGI 37 49 [11]), (37, aCI 39 (-4)), 
  (39, aCmp 42 (fun x y => z_ne x y) 46), (42, aCI 43 0), (43, aGo 52), (46, aLR 47 0), (47, aGI 50 49 [11]), (50, aCI 51 1), 
  (51, aB 52 (fun x y => x + y)), (52, aSI 53 1), (53, aLI 54 1), (54, aLR 55 0), (55, aGR 58 2 [11]), (58, aLR 59 0), (59, aGI 62 37 [11]), 
  (62, aXI 63 14), (63, aCmp 66 (fun x y => z_ne x y) 77), (66, aLR 67 0), (67, aCallV 70 0 63 1 [11]), (70, aLR 71 0), (71, aCI 72 0), 
  (72, aPZ 75 36 [11]), (75, aCI 76 0), (76, aRZ), (77, aLR 78 0), (78, aLI 79 1), (79, aPI 82 49 [11]), (82, aLR 83 0), (83, aCI 84 0), 
  (84, aPI 87 50 [11]), (87, aLR 88 0), (88, aLR 89 0), (89, aGI 92 37 [11]), (92, aLR 93 0), (93, aGI 96 49 [11]), (96, aCallV 99 1 14 3 [11]), 
  (99, aSI 100 2), (100, aLR 101 0), (101, aLI 102 2), (102, aCallV 105 1 23 2 [11]), (105, aSI 106 3), (106, aLR 107 0), (107, aLI 108 3), 
  (108, aIf 111 (fun x => z_ne x 0) 115), (111, aCI 112 1), (112, aGo 116), (115, aCI 116 0), (116, aPZ 119 51 [11]), (119, aLR 120 0), 
  (120, aCI 121 0), (121, aLR 122 0), (122, aGI 125 49 [11]), (125, aLI 126 3), (126, aCallV 129 0 61 4 [11]), (129, aLR 130 0), 
  (130, aGI 133 51 [11]), (133, aIf 136 (fun x => z_ne x 0) 140), (136, aLR 137 0), (137, aCallV 140 0 63 1 [11]), (140, aCI 141 0), (141, aSI 143 4), 
  (143, aLI 145 4), (145, aLR 146 0), (146, aGR 149 11 [11]), (149, aLI 150 2), (150, aXI 151 14), (151, aCmp 154 (fun x y => z_le y x) 199), 
  (154, aLR 155 0), (155, aGI 158 51 [11]), (158, aIf 161 (fun x => z_eq x 0) 199), (161, aLR 162 0), (162, aGR 165 7 [11]), (165, aLI 166 2), 
  (166, aXI 167 14), (167, aIf 170 (fun x => z_ne x 0) 199), (170, aLR 171 0), (171, aLR 172 0), (172, aGR 175 5 [11]), (175, aLI 176 2), 
  (176, aXI 177 14), (177, aLR 178 0), (178, aGR 181 12 [11]), (181, aCI 184 256), (184, aLI 185 2), (185, aB 186 (fun x y => x * y)), 
  (186, aLI 188 4), (188, aB 189 (fun x y => x + y)), (189, aXI 190 14), (190, aCallV 193 0 68 3 [11]), (193, aInc 196 4 1), (196, aGo 143), 
  (199, aGo 0), (202, aCI 203 1), (203, aRZ)]
def mQ_play : Nat := 73
noncomputable def tQ_play : List (Nat × zA) := [
  (0, aLR 1 0), (1, aLI 2 1), (2, aCallV 5 1 12 2 [11]), (5, aIf 8 (fun x => z_ne x 0) 14), (8, aLR 9 0), (9, aCI 10 (-1)), (10, aCallV 13 1 9 2 [11]), 
  (13, aRI), (14, aLR 15 0), (15, aGI 18 36 [11]), (18, aIf 21 (fun x => z_eq x 0) 28), (21, aLR 22 0), (22, aCI 24 (-3)), (24, aCallV 27 1 9 2 [11]), 
  (27, aRI), (28, aLR 29 0), (29, aCI 30 1), (30, aPZ 33 36 [11]), (33, aLR 34 0), (34, aLI 35 1), (35, aPI 38 37 [11]), (38, aCI 39 0), 
  (39, aSI 40 2), (40, aLI 41 2), (41, aCI 43 8), (43, aCmp 46 (fun x y => z_le y x) 68), (46, aLR 47 0), (47, aGR 50 38 [11]), (50, aLI 51 2), 
  (51, aCI 52 0), (52, aYZ 53), (53, aLR 54 0), (54, aGR 57 39 [11]), (57, aLI 58 2), (58, aCI 61 1000), (61, aYI 62), (62, aInc 65 2 1), (65, aGo 40), 
  (68, aCI 69 0), (69, aSI 70 2), (70, aLI 71 2), (71, aCI 73 16), (73, aCmp 76 (fun x y => z_le y x) 89), (76, aLR 77 0), (77, aGR 80 40 [11]), 
  (80, aLI 81 2), (81, aCI 82 1), (82, aYZ 83), (83, aInc 86 2 1), (86, aGo 70), (89, aLR 90 0), (90, aCI 92 24), (92, aPI 95 41 [11]), (95, aLR 96 0), 
  (96, aCI 97 0), (97, aPI 100 44 [11]), (100, aLR 101 0), (101, aCI 102 0), (102, aPI 105 45 [11]), (105, aLR 106 0), (106, aCI 107 0), 
  (107, aPI 110 46 [11]), (110, aLR 111 0), (111, aCI 112 0), (112, aPI 115 47 [11]), (115, aLR 116 0), (116, aCI 117 0), (117, aPI 120 48 [11]), 
  (120, aLR 121 0), (121, aCI 122 0), (122, aPI 125 58 [11]), (125, aLR 126 0), (126, aCI 128 (-4)), (128, aPI 131 49 [11]), (131, aLR 132 0), 
  (132, aCI 133 0), (133, aPI 136 50 [11]), (136, aLR 137 0), (137, aCI 138 0), (138, aPZ 141 51 [11]), (141, aLR 142 0), (142, aCI 143 0), 
  (143, aPI 146 52 [11]), (146, aCI 147 0), (147, aSI 148 2), (148, aLI 149 2), (149, aCI 151 60), (151, aCmp 154 (fun x y => z_le y x) 174), 
  (154, aLR 155 0), (155, aGR 158 56 [11]), (158, aLI 159 2), (159, aCI 160 0), (160, aYI 161), (161, aLR 162 0), (162, aGR 165 57 [11]), 
  (165, aLI 166 2), (166, aCI 167 0), (167, aYI 168), (168, aInc 171 2 1), (171, aGo 148), (174, aLR 175 0), (175, aCI 176 0), (176, aPI 179 63 [11]), 
  (179, aLR 180 0), (180, aCI 181 0), (181, aPI 184 62 [11]), (184, aLR 185 0), (185, aCallV 188 0 76 1 [11]), (188, aLR 189 0), (189, aLR 190 0), 
  (190, aGR 193 2 [11]), (193, aLI 194 1), (194, aXI 195 14), (195, aCallV 198 1 11 2 [11]), (198, aRI)]
def mQ_tick : Nat := 74
noncomputable def tQ_tick : List (Nat × zA) := [
  (0, aLI 1 1), (1, aCI 2 0), (2, aCI 5 500), (5, aCall 8 1 8 3), (8, aIf 11 (fun x => z_ne x 0) 17), (11, aLR 12 0), (12, aCI 13 (-1)), 
  (13, aCallV 16 1 9 2 [11]), (16, aRI), (17, aLR 18 0), (18, aGI 21 36 [11]), (21, aIf 24 (fun x => z_ne x 0) 31), (24, aLR 25 0), (25, aCI 27 (-4)), 
  (27, aCallV 30 1 11 2 [11]), (30, aRI), (31, aCI 32 0), (32, aSI 33 2), (33, aLI 34 2), (34, aLI 35 1), (35, aCmp 38 (fun x y => z_le y x) 157), 
  (38, aLR 39 0), (39, aGI 42 60 [11]), (42, aCI 45 20000), (45, aCmp 48 (fun x y => z_le y x) 157), (48, aLR 49 0), (49, aCallV 52 1 72 1 [11]), 
  (52, aIf 55 (fun x => z_eq x 0) 157), (55, aLR 56 0), (56, aLR 57 0), (57, aGI 60 37 [11]), (60, aLR 61 0), (61, aGI 64 49 [11]), 
  (64, aCallV 67 1 14 3 [11]), (67, aSI 68 3), (68, aLR 69 0), (69, aGI 72 51 [11]), (72, aIf 75 (fun x => z_eq x 0) 113), (75, aLR 76 0), 
  (76, aGI 79 50 [11]), (79, aLR 80 0), (80, aGR 83 11 [11]), (83, aLI 84 3), (84, aXI 85 14), (85, aCmp 88 (fun x y => z_le y x) 113), (88, aLR 89 0), 
  (89, aLR 90 0), (90, aGR 93 5 [11]), (93, aLI 94 3), (94, aXI 95 14), (95, aLR 96 0), (96, aGR 99 12 [11]), (99, aCI 102 256), (102, aLI 103 3), 
  (103, aB 104 (fun x y => x * y)), (104, aLR 105 0), (105, aGI 108 50 [11]), (108, aB 109 (fun x y => x + y)), (109, aXI 110 14), 
  (110, aCallV 113 0 68 3 [11]), (113, aLR 114 0), (114, aCallV 117 0 71 1 [11]), (117, aLR 118 0), (118, aDup 119), (119, aGI 122 50 [11]), 
  (122, aCI 123 1), (123, aB 124 (fun x y => x + y)), (124, aPI 127 50 [11]), (127, aLR 128 0), (128, aDup 129), (129, aGI 132 48 [11]), 
  (132, aCI 133 1), (133, aB 134 (fun x y => x + y)), (134, aPI 137 48 [11]), (137, aLR 138 0), (138, aDup 139), (139, aGI 142 60 [11]), 
  (142, aCI 143 1), (143, aB 144 (fun x y => x + y)), (144, aPI 147 60 [11]), (147, aInc 150 2 1), (150, aLR 151 0), (151, aCallV 154 0 76 1 [11]), 
  (154, aGo 33), (157, aLR 158 0), (158, aLI 159 2), (159, aCallV 162 1 11 2 [11]), (162, aRI)]
def mQ_halt : Nat := 75
noncomputable def tQ_halt : List (Nat × zA) := [
  (0, aLR 1 0), (1, aGI 4 36 [11]), (4, aIf 7 (fun x => z_ne x 0) 14), (7, aLR 8 0), (8, aCI 10 (-4)), (10, aCallV 13 1 11 2 [11]), (13, aRI), 
  (14, aLR 15 0), (15, aGI 18 52 [11]), (18, aSI 19 1), (19, aLR 20 0), (20, aCallV 23 0 63 1 [11]), (23, aLR 24 0), (24, aCI 25 0), 
  (25, aPZ 28 36 [11]), (28, aLR 29 0), (29, aLI 30 1), (30, aCallV 33 1 11 2 [11]), (33, aRI)]
def mQ_layAside : Nat := 76
noncomputable def tQ_layAside : List (Nat × zA) := [
  (0, aLR 1 0), (1, aLR 2 0), (2, aGI 5 62 [11]), (5, aCI 6 1), (6, aB 7 (fun x y => x + y)), (7, aCI 10 501), (10, aBz 11 (fun x y => x - x / y * y)), 
  (11, aPI 14 62 [11]), (14, aLR 15 0), (15, aLR 16 0), (16, aGI 19 63 [11]), (19, aCI 22 501), (22, aCmp 25 (fun x y => z_le y x) 34), (25, aLR 26 0), 
  (26, aGI 29 63 [11]), (29, aCI 30 1), (30, aB 31 (fun x y => x + y)), (31, aGo 37), (34, aCI 37 501), (37, aPI 40 63 [11]), (40, aCI 43 1210), 
  (43, aLR 44 0), (44, aGI 47 62 [11]), (47, aB 48 (fun x y => x * y)), (48, aSI 49 1), (49, aCI 50 0), (50, aSI 51 2), (51, aLI 52 2), (52, aCI 54 8), 
  (54, aCmp 57 (fun x y => z_le y x) 102), (57, aLR 58 0), (58, aGR 61 61 [11]), (61, aLI 62 1), (62, aLI 63 2), (63, aB 64 (fun x y => x + y)), 
  (64, aLR 65 0), (65, aGR 68 38 [11]), (68, aLI 69 2), (69, aXI 70 15), (70, aIf 73 (fun x => z_eq x 0) 77), (73, aCI 74 1), (74, aGo 78), 
  (77, aCI 78 0), (78, aYI 79), (79, aLR 80 0), (80, aGR 83 61 [11]), (83, aLI 84 1), (84, aCI 86 8), (86, aB 87 (fun x y => x + y)), (87, aLI 88 2), 
  (88, aB 89 (fun x y => x + y)), (89, aLR 90 0), (90, aGR 93 39 [11]), (93, aLI 94 2), (94, aXI 95 14), (95, aYI 96), (96, aInc 99 2 1), (99, aGo 51), 
  (102, aCI 103 0), (103, aSI 104 2), (104, aLI 105 2), (105, aCI 107 16), (107, aCmp 110 (fun x y => z_le y x) 141), (110, aLR 111 0), 
  (111, aGR 114 61 [11]), (114, aLI 115 1), (115, aCI 117 16), (117, aB 118 (fun x y => x + y)), (118, aLI 119 2), (119, aB 120 (fun x y => x + y)), 
  (120, aLR 121 0), (121, aGR 124 40 [11]), (124, aLI 125 2), (125, aXI 126 15), (126, aIf 129 (fun x => z_eq x 0) 133), (129, aCI 130 1), 
  (130, aGo 134), (133, aCI 134 0), (134, aYI 135), (135, aInc 138 2 1), (138, aGo 104), (141, aLR 142 0), (142, aGR 145 61 [11]), (145, aLI 146 1), 
  (146, aCI 148 32), (148, aB 149 (fun x y => x + y)), (149, aLR 150 0), (150, aGI 153 41 [11]), (153, aYI 154), (154, aLR 155 0), 
  (155, aGR 158 61 [11]), (158, aLI 159 1), (159, aCI 161 33), (161, aB 162 (fun x y => x + y)), (162, aLR 163 0), (163, aGI 166 42 [11]), 
  (166, aYI 167), (167, aLR 168 0), (168, aGR 171 61 [11]), (171, aLI 172 1), (172, aCI 174 34), (174, aB 175 (fun x y => x + y)), (175, aLR 176 0), 
  (176, aGI 179 43 [11]), (179, aYI 180), (180, aLR 181 0), (181, aGR 184 61 [11]), (184, aLI 185 1), (185, aCI 187 35), 
  (187, aB 188 (fun x y => x + y)), (188, aLR 189 0), (189, aGI 192 44 [11]), (192, aYI 193), (193, aLR 194 0), (194, aGR 197 61 [11]), 
  (197, aLI 198 1), (198, aCI 200 36), (200, aB 201 (fun x y => x + y)), (201, aLR 202 0), (202, aGI 205 45 [11]), (205, aYI 206), (206, aLR 207 0), 
  (207, aGR 210 61 [11]), (210, aLI 211 1), (211, aCI 213 37), (213, aB 214 (fun x y => x + y)), (214, aLR 215 0), (215, aGI 218 46 [11]), 
  (218, aYI 219), (219, aLR 220 0), (220, aGR 223 61 [11]), (223, aLI 224 1), (224, aCI 226 38), (226, aB 227 (fun x y => x + y)), (227, aLR 228 0), 
  (228, aGI 231 47 [11]), (231, aYI 232), (232, aLR 233 0), (233, aGR 236 61 [11]), (236, aLI 237 1), (237, aCI 239 39), 
  (239, aB 240 (fun x y => x + y)), (240, aLR 241 0), (241, aGI 244 48 [11]), (244, aYI 245), (245, aLR 246 0), (246, aGR 249 61 [11]), 
  (249, aLI 250 1), (250, aCI 252 40), (252, aB 253 (fun x y => x + y)), (253, aLR 254 0), (254, aGI 257 49 [11]), (257, aYI 258), (258, aLR 259 0), 
  (259, aGR 262 61 [11]), (262, aLI 263 1), (263, aCI 265 41), (265, aB 266 (fun x y => x + y)), (266, aLR 267 0), (267, aGI 270 50 [11]), 
  (270, aYI 271), (271, aLR 272 0), (272, aGR 275 61 [11]), (275, aLI 276 1), (276, aCI 278 42), (278, aB 279 (fun x y => x + y)), (279, aLR 280 0), 
  (280, aGI 283 51 [11]), (283, aIf 286 (fun x => z_eq x 0) 290), (286, aCI 287 1), (287, aGo 291), (290, aCI 291 0), (291, aYI 292), (292, aLR 293 0), 
  (293, aGR 296 61 [11]), (296, aLI 297 1), (297, aCI 299 43), (299, aB 300 (fun x y => x + y)), (300, aLR 301 0), (301, aGI 304 52 [11]), 
  (304, aYI 305), (305, aLR 306 0), (306, aGR 309 61 [11]), (309, aLI 310 1), (310, aCI 312 44), (312, aB 313 (fun x y => x + y)), (313, aLR 314 0), 
  (314, aGI 317 58 [11]), (317, aYI 318), (318, aCI 319 0), (319, aSI 320 2), (320, aLI 321 2), (321, aCI 323 60), 
  (323, aCmp 326 (fun x y => z_le y x) 384), (326, aLR 327 0), (327, aGR 330 61 [11]), (330, aLI 331 1), (331, aCI 333 50), 
  (333, aB 334 (fun x y => x + y)), (334, aLI 335 2), (335, aB 336 (fun x y => x + y)), (336, aLR 337 0), (337, aGR 340 19 [11]), (340, aLI 341 2), 
  (341, aXI 342 14), (342, aYI 343), (343, aLR 344 0), (344, aGR 347 61 [11]), (347, aLI 348 1), (348, aCI 350 110), (350, aB 351 (fun x y => x + y)), 
  (351, aLI 352 2), (352, aB 353 (fun x y => x + y)), (353, aLR 354 0), (354, aGR 357 56 [11]), (357, aLI 358 2), (358, aXI 359 14), (359, aYI 360), 
  (360, aLR 361 0), (361, aGR 364 61 [11]), (364, aLI 365 1), (365, aCI 368 170), (368, aB 369 (fun x y => x + y)), (369, aLI 370 2), 
  (370, aB 371 (fun x y => x + y)), (371, aLR 372 0), (372, aGR 375 57 [11]), (375, aLI 376 2), (376, aXI 377 14), (377, aYI 378), (378, aInc 381 2 1), 
  (381, aGo 320), (384, aCI 385 0), (385, aSI 386 2), (386, aLI 387 2), (387, aLR 388 0), (388, aGI 391 52 [11]), 
  (391, aCmp 394 (fun x y => z_le y x) 460), (394, aLR 395 0), (395, aGR 398 61 [11]), (398, aLI 399 1), (399, aCI 402 240), 
  (402, aB 403 (fun x y => x + y)), (403, aCI 404 3), (404, aLI 405 2), (405, aB 406 (fun x y => x * y)), (406, aB 407 (fun x y => x + y)), 
  (407, aLR 408 0), (408, aGR 411 53 [11]), (411, aLI 412 2), (412, aXI 413 14), (413, aYI 414), (414, aLR 415 0), (415, aGR 418 61 [11]), 
  (418, aLI 419 1), (419, aCI 422 241), (422, aB 423 (fun x y => x + y)), (423, aCI 424 3), (424, aLI 425 2), (425, aB 426 (fun x y => x * y)), 
  (426, aB 427 (fun x y => x + y)), (427, aLR 428 0), (428, aGR 431 54 [11]), (431, aLI 432 2), (432, aXI 433 14), (433, aYI 434), (434, aLR 435 0), 
  (435, aGR 438 61 [11]), (438, aLI 439 1), (439, aCI 442 242), (442, aB 443 (fun x y => x + y)), (443, aCI 444 3), (444, aLI 445 2), 
  (445, aB 446 (fun x y => x * y)), (446, aB 447 (fun x y => x + y)), (447, aLR 448 0), (448, aGR 451 55 [11]), (451, aLI 452 2), (452, aXI 453 14), 
  (453, aYI 454), (454, aInc 457 2 1), (457, aGo 386), (460, aRV)]
def mQ_becomes : Nat := 77
noncomputable def tQ_becomes : List (Nat × zA) := [
  (0, aCI 1 0), (1, aSI 2 2), (2, aLI 3 2), (3, aCI 5 8), (5, aCmp 8 (fun x y => z_le y x) 54), (8, aLR 9 0), (9, aGR 12 38 [11]), (12, aLI 13 2), 
  (13, aLR 14 0), (14, aGR 17 61 [11]), (17, aLI 18 1), (18, aLI 19 2), (19, aB 20 (fun x y => x + y)), (20, aXI 21 14), (21, aCI 22 1), 
  (22, aCmp 25 (fun x y => z_ne x y) 29), (25, aCI 26 1), (26, aGo 30), (29, aCI 30 0), (30, aYZ 31), (31, aLR 32 0), (32, aGR 35 39 [11]), 
  (35, aLI 36 2), (36, aLR 37 0), (37, aGR 40 61 [11]), (40, aLI 41 1), (41, aCI 43 8), (43, aB 44 (fun x y => x + y)), (44, aLI 45 2), 
  (45, aB 46 (fun x y => x + y)), (46, aXI 47 14), (47, aYI 48), (48, aInc 51 2 1), (51, aGo 2), (54, aCI 55 0), (55, aSI 56 2), (56, aLI 57 2), 
  (57, aCI 59 16), (59, aCmp 62 (fun x y => z_le y x) 94), (62, aLR 63 0), (63, aGR 66 40 [11]), (66, aLI 67 2), (67, aLR 68 0), (68, aGR 71 61 [11]), 
  (71, aLI 72 1), (72, aCI 74 16), (74, aB 75 (fun x y => x + y)), (75, aLI 76 2), (76, aB 77 (fun x y => x + y)), (77, aXI 78 14), (78, aCI 79 1), 
  (79, aCmp 82 (fun x y => z_ne x y) 86), (82, aCI 83 1), (83, aGo 87), (86, aCI 87 0), (87, aYZ 88), (88, aInc 91 2 1), (91, aGo 56), (94, aLR 95 0), 
  (95, aLR 96 0), (96, aGR 99 61 [11]), (99, aLI 100 1), (100, aCI 102 32), (102, aB 103 (fun x y => x + y)), (103, aXI 104 14), 
  (104, aPI 107 41 [11]), (107, aLR 108 0), (108, aLR 109 0), (109, aGR 112 61 [11]), (112, aLI 113 1), (113, aCI 115 33), 
  (115, aB 116 (fun x y => x + y)), (116, aXI 117 14), (117, aPI 120 42 [11]), (120, aLR 121 0), (121, aLR 122 0), (122, aGR 125 61 [11]), 
  (125, aLI 126 1), (126, aCI 128 34), (128, aB 129 (fun x y => x + y)), (129, aXI 130 14), (130, aPI 133 43 [11]), (133, aLR 134 0), (134, aLR 135 0), 
  (135, aGR 138 61 [11]), (138, aLI 139 1), (139, aCI 141 35), (141, aB 142 (fun x y => x + y)), (142, aXI 143 14), (143, aPI 146 44 [11]), 
  (146, aLR 147 0), (147, aLR 148 0), (148, aGR 151 61 [11]), (151, aLI 152 1), (152, aCI 154 36), (154, aB 155 (fun x y => x + y)), (155, aXI 156 14), 
  (156, aPI 159 45 [11]), (159, aLR 160 0), (160, aLR 161 0), (161, aGR 164 61 [11]), (164, aLI 165 1), (165, aCI 167 37), 
  (167, aB 168 (fun x y => x + y)), (168, aXI 169 14), (169, aPI 172 46 [11]), (172, aLR 173 0), (173, aLR 174 0), (174, aGR 177 61 [11]), 
  (177, aLI 178 1), (178, aCI 180 38), (180, aB 181 (fun x y => x + y)), (181, aXI 182 14), (182, aPI 185 47 [11]), (185, aLR 186 0), (186, aLR 187 0), 
  (187, aGR 190 61 [11]), (190, aLI 191 1), (191, aCI 193 39), (193, aB 194 (fun x y => x + y)), (194, aXI 195 14), (195, aPI 198 48 [11]), 
  (198, aLR 199 0), (199, aLR 200 0), (200, aGR 203 61 [11]), (203, aLI 204 1), (204, aCI 206 40), (206, aB 207 (fun x y => x + y)), (207, aXI 208 14), 
  (208, aPI 211 49 [11]), (211, aLR 212 0), (212, aLR 213 0), (213, aGR 216 61 [11]), (216, aLI 217 1), (217, aCI 219 41), 
  (219, aB 220 (fun x y => x + y)), (220, aXI 221 14), (221, aPI 224 50 [11]), (224, aLR 225 0), (225, aLR 226 0), (226, aGR 229 61 [11]), 
  (229, aLI 230 1), (230, aCI 232 42), (232, aB 233 (fun x y => x + y)), (233, aXI 234 14), (234, aCI 235 1), 
  (235, aCmp 238 (fun x y => z_ne x y) 242), (238, aCI 239 1), (239, aGo 243), (242, aCI 243 0), (243, aPZ 246 51 [11]), (246, aLR 247 0), 
  (247, aLR 248 0), (248, aGR 251 61 [11]), (251, aLI 252 1), (252, aCI 254 43), (254, aB 255 (fun x y => x + y)), (255, aXI 256 14), 
  (256, aPI 259 52 [11]), (259, aLR 260 0), (260, aLR 261 0), (261, aGR 264 61 [11]), (264, aLI 265 1), (265, aCI 267 44), 
  (267, aB 268 (fun x y => x + y)), (268, aXI 269 14), (269, aPI 272 58 [11]), (272, aCI 273 0), (273, aSI 274 2), (274, aLI 275 2), (275, aCI 277 60), 
  (277, aCmp 280 (fun x y => z_le y x) 338), (280, aLR 281 0), (281, aGR 284 19 [11]), (284, aLI 285 2), (285, aLR 286 0), (286, aGR 289 61 [11]), 
  (289, aLI 290 1), (290, aCI 292 50), (292, aB 293 (fun x y => x + y)), (293, aLI 294 2), (294, aB 295 (fun x y => x + y)), (295, aXI 296 14), 
  (296, aYI 297), (297, aLR 298 0), (298, aGR 301 56 [11]), (301, aLI 302 2), (302, aLR 303 0), (303, aGR 306 61 [11]), (306, aLI 307 1), 
  (307, aCI 309 110), (309, aB 310 (fun x y => x + y)), (310, aLI 311 2), (311, aB 312 (fun x y => x + y)), (312, aXI 313 14), (313, aYI 314), 
  (314, aLR 315 0), (315, aGR 318 57 [11]), (318, aLI 319 2), (319, aLR 320 0), (320, aGR 323 61 [11]), (323, aLI 324 1), (324, aCI 327 170), 
  (327, aB 328 (fun x y => x + y)), (328, aLI 329 2), (329, aB 330 (fun x y => x + y)), (330, aXI 331 14), (331, aYI 332), (332, aInc 335 2 1), 
  (335, aGo 274), (338, aCI 339 0), (339, aSI 340 2), (340, aLI 341 2), (341, aLR 342 0), (342, aGI 345 52 [11]), 
  (345, aCmp 348 (fun x y => z_le y x) 414), (348, aLR 349 0), (349, aGR 352 53 [11]), (352, aLI 353 2), (353, aLR 354 0), (354, aGR 357 61 [11]), 
  (357, aLI 358 1), (358, aCI 361 240), (361, aB 362 (fun x y => x + y)), (362, aCI 363 3), (363, aLI 364 2), (364, aB 365 (fun x y => x * y)), 
  (365, aB 366 (fun x y => x + y)), (366, aXI 367 14), (367, aYI 368), (368, aLR 369 0), (369, aGR 372 54 [11]), (372, aLI 373 2), (373, aLR 374 0), 
  (374, aGR 377 61 [11]), (377, aLI 378 1), (378, aCI 381 241), (381, aB 382 (fun x y => x + y)), (382, aCI 383 3), (383, aLI 384 2), 
  (384, aB 385 (fun x y => x * y)), (385, aB 386 (fun x y => x + y)), (386, aXI 387 14), (387, aYI 388), (388, aLR 389 0), (389, aGR 392 55 [11]), 
  (392, aLI 393 2), (393, aLR 394 0), (394, aGR 397 61 [11]), (397, aLI 398 1), (398, aCI 401 242), (401, aB 402 (fun x y => x + y)), (402, aCI 403 3), 
  (403, aLI 404 2), (404, aB 405 (fun x y => x * y)), (405, aB 406 (fun x y => x + y)), (406, aXI 407 14), (407, aYI 408), (408, aInc 411 2 1), 
  (411, aGo 340), (414, aRV)]
def mQ_back : Nat := 78
noncomputable def tQ_back : List (Nat × zA) := [
  (0, aLI 1 1), (1, aCI 2 0), (2, aCI 5 500), (5, aCall 8 1 8 3), (8, aIf 11 (fun x => z_ne x 0) 17), (11, aLR 12 0), (12, aCI 13 (-1)), 
  (13, aCallV 16 1 9 2 [11]), (16, aRI), (17, aLR 18 0), (18, aGI 21 36 [11]), (21, aIf 24 (fun x => z_eq x 0) 32), (24, aLI 25 1), (25, aLR 26 0), 
  (26, aGI 29 63 [11]), (29, aCmp 32 (fun x y => z_lt x y) 39), (32, aLR 33 0), (33, aCI 35 (-4)), (35, aCallV 38 1 11 2 [11]), (38, aRI), 
  (39, aLR 40 0), (40, aLR 41 0), (41, aGI 44 62 [11]), (44, aCI 47 501), (47, aB 48 (fun x y => x + y)), (48, aLI 49 1), 
  (49, aB 50 (fun x y => x - y)), (50, aCI 53 501), (53, aBz 54 (fun x y => x - x / y * y)), (54, aPI 57 62 [11]), (57, aLR 58 0), (58, aDup 59), 
  (59, aGI 62 63 [11]), (62, aLI 63 1), (63, aB 64 (fun x y => x - y)), (64, aPI 67 63 [11]), (67, aLR 68 0), (68, aCI 71 1210), (71, aLR 72 0), 
  (72, aGI 75 62 [11]), (75, aB 76 (fun x y => x * y)), (76, aCallV 79 0 77 2 [11]), (79, aLR 80 0), (80, aLR 81 0), (81, aGI 84 48 [11]), 
  (84, aCallV 87 1 11 2 [11]), (87, aRI)]
def mQ_open : Nat := 79
noncomputable def tQ_open : List (Nat × zA) := [
  (0, aLI 1 1), (1, aCI 2 0), (2, aCI 4 7), (4, aCall 7 1 8 3), (7, aIf 10 (fun x => z_ne x 0) 16), (10, aLR 11 0), (11, aCI 12 (-1)), 
  (12, aCallV 15 1 9 2 [11]), (15, aRI), (16, aLR 17 0), (17, aGR 20 38 [11]), (20, aLI 21 1), (21, aXI 22 15), (22, aIf 25 (fun x => z_ne x 0) 32), 
  (25, aLR 26 0), (26, aCI 28 (-4)), (28, aCallV 31 1 11 2 [11]), (31, aRI), (32, aCI 33 0), (33, aSI 34 2), (34, aCI 35 0), (35, aSI 36 3), 
  (36, aLI 37 3), (37, aLR 38 0), (38, aGI 41 52 [11]), (41, aCmp 44 (fun x y => z_le y x) 68), (44, aLI 45 2), (45, aLR 46 0), (46, aGR 49 54 [11]), 
  (49, aLI 50 3), (50, aXI 51 14), (51, aLI 52 1), (52, aCmp 55 (fun x y => z_ne x y) 59), (55, aCI 56 1), (56, aGo 60), (59, aCI 60 0), 
  (60, aB 61 (fun x y => x + y)), (61, aSI 62 2), (62, aInc 65 3 1), (65, aGo 36), (68, aLR 69 0), (69, aLI 70 2), (70, aCallV 73 1 11 2 [11]), 
  (73, aRI)]
def mQ_sounding : Nat := 80
noncomputable def tQ_sounding : List (Nat × zA) := [
  (0, aLI 1 1), (1, aIf 4 (fun x => z_lt x 0) 13), (4, aLI 5 2), (5, aCI 6 0), (6, aCI 7 2), (7, aCall 10 1 8 3), (10, aIf 13 (fun x => z_ne x 0) 19), 
  (13, aLR 14 0), (14, aCI 15 (-1)), (15, aCallV 18 1 9 2 [11]), (18, aRI), (19, aLI 20 1), (20, aLR 21 0), (21, aGI 24 52 [11]), 
  (24, aCmp 27 (fun x y => z_lt x y) 34), (27, aLR 28 0), (28, aCI 30 (-4)), (30, aCallV 33 1 11 2 [11]), (33, aRI), (34, aLR 35 0), (35, aLI 36 2), 
  (36, aIf 39 (fun x => z_ne x 0) 48), (39, aLR 40 0), (40, aGR 43 53 [11]), (43, aLI 44 1), (44, aXI 45 14), (45, aGo 73), (48, aLI 49 2), 
  (49, aCI 50 1), (50, aCmp 53 (fun x y => z_ne x y) 62), (53, aLR 54 0), (54, aGR 57 54 [11]), (57, aLI 58 1), (58, aXI 59 14), (59, aGo 73), 
  (62, aLR 63 0), (63, aGI 66 48 [11]), (66, aLR 67 0), (67, aGR 70 55 [11]), (70, aLI 71 1), (71, aXI 72 14), (72, aB 73 (fun x y => x - y)), 
  (73, aCallV 76 1 11 2 [11]), (76, aRI)]
def mQ_airOf : Nat := 81
noncomputable def tQ_airOf : List (Nat × zA) := [
  (0, aLR 1 0), (1, aGR 4 31 [11]), (4, aCI 6 6), (6, aDup2 7), (7, aXI 8 14), (8, aCI 9 1), (9, aB 10 (fun x y => x + y)), (10, aYI 11), 
  (11, aCI 12 3), (12, aSI 13 2), (13, aCI 14 0), (14, aSI 15 3), (15, aLI 16 3), (16, aCI 18 16), (18, aCmp 21 (fun x y => z_le y x) 44), 
  (21, aLI 22 2), (22, aLR 23 0), (23, aGR 26 40 [11]), (26, aLI 27 3), (27, aXI 28 15), (28, aIf 31 (fun x => z_eq x 0) 35), (31, aCI 32 1), 
  (32, aGo 36), (35, aCI 36 0), (36, aB 37 (fun x y => x + y)), (37, aSI 38 2), (38, aInc 41 3 1), (41, aGo 15), (44, aLR 45 0), (45, aGR 48 15 [11]), 
  (48, aLI 49 1), (49, aXI 50 14), (50, aCI 51 2), (51, aCmp 54 (fun x y => z_ne x y) 69), (54, aLR 55 0), (55, aGR 58 31 [11]), (58, aCI 60 7), 
  (60, aDup2 61), (61, aXI 62 14), (62, aCI 63 1), (63, aB 64 (fun x y => x + y)), (64, aYI 65), (65, aCI 66 2), (66, aLI 67 2), 
  (67, aB 68 (fun x y => x * y)), (68, aSI 69 2), (69, aLI 70 2), (70, aRI)]
def mQ_loudOf : Nat := 82
noncomputable def tQ_loudOf : List (Nat × zA) := [
  (0, aCI 1 0), (1, aSI 3 4), (3, aLR 4 0), (4, aGR 7 15 [11]), (7, aLI 8 1), (8, aXI 9 14), 
  (9, aSw 191 [(0, 48), (1, 66), (2, 66), (3, 97), (4, 119), (5, 148)]), (48, aLR 49 0), (49, aGR 52 31 [11]), (52, aCI 53 0), (53, aDup2 54), 
  (54, aXI 55 14), (55, aCI 56 1), (56, aB 57 (fun x y => x + y)), (57, aYI 58), (58, aLI 59 2), (59, aLR 60 0), (60, aLI 61 1), 
  (61, aCallV 64 1 81 2 [11]), (64, aB 65 (fun x y => x + y)), (65, aRI), (66, aLR 67 0), (67, aGR 70 31 [11]), (70, aCI 71 1), (71, aDup2 72), 
  (72, aXI 73 14), (73, aCI 74 1), (74, aB 75 (fun x y => x + y)), (75, aYI 76), (76, aLR 77 0), (77, aGR 80 31 [11]), (80, aCI 81 0), (81, aDup2 82), 
  (82, aXI 83 14), (83, aCI 84 1), (84, aB 85 (fun x y => x + y)), (85, aYI 86), (86, aLI 87 2), (87, aLR 88 0), (88, aLI 89 1), 
  (89, aCallV 92 1 81 2 [11]), (92, aB 93 (fun x y => x + y)), (93, aCI 95 7), (95, aB 96 (fun x y => x + y)), (96, aRI), (97, aLR 98 0), 
  (98, aGR 101 31 [11]), (101, aCI 102 2), (102, aDup2 103), (103, aXI 104 14), (104, aCI 105 1), (105, aB 106 (fun x y => x + y)), (106, aYI 107), 
  (107, aLI 108 3), (108, aIf 111 (fun x => z_ne x 0) 117), (111, aCI 112 2), (112, aLI 113 2), (113, aB 114 (fun x y => x * y)), (114, aGo 118), 
  (117, aCI 118 0), (118, aRI), (119, aLR 120 0), (120, aGR 123 31 [11]), (123, aCI 124 3), (124, aDup2 125), (125, aXI 126 14), (126, aCI 127 1), 
  (127, aB 128 (fun x y => x + y)), (128, aYI 129), (129, aLI 130 2), (130, aCI 131 5), (131, aLI 132 3), (132, aB 133 (fun x y => x * y)), 
  (133, aB 134 (fun x y => x - y)), (134, aSI 136 4), (136, aLI 138 4), (138, aIf 141 (fun x => z_le x 0) 146), (141, aLI 143 4), (143, aGo 147), 
  (146, aCI 147 0), (147, aRI), (148, aLR 149 0), (149, aGR 152 31 [11]), (152, aCI 153 4), (153, aDup2 154), (154, aXI 155 14), (155, aCI 156 1), 
  (156, aB 157 (fun x y => x + y)), (157, aYI 158), (158, aLR 159 0), (159, aGR 162 31 [11]), (162, aCI 163 3), (163, aDup2 164), (164, aXI 165 14), 
  (165, aCI 166 1), (166, aB 167 (fun x y => x + y)), (167, aYI 168), (168, aLI 169 2), (169, aCI 170 5), (170, aLI 171 3), (171, aCI 172 4), 
  (172, aBz 173 (fun x y => x / y)), (173, aB 174 (fun x y => x * y)), (174, aB 175 (fun x y => x - y)), (175, aSI 177 4), (177, aLI 179 4), 
  (179, aIf 182 (fun x => z_le x 0) 187), (182, aLI 184 4), (184, aGo 188), (187, aCI 188 0), (188, aCI 189 1), (189, aB 190 (fun x y => x + y)), 
  (190, aRI), (191, aLR 192 0), (192, aGR 195 31 [11]), (195, aCI 196 5), (196, aDup2 197), (197, aXI 198 14), (198, aCI 199 1), 
  (199, aB 200 (fun x y => x + y)), (200, aYI 201), (201, aCI 202 0), (202, aRI)]
def mQ_loud : Nat := 83
noncomputable def tQ_loud : List (Nat × zA) := [
  (0, aLI 1 1), (1, aIf 4 (fun x => z_le 0 x) 10), (4, aLR 5 0), (5, aCI 6 (-1)), (6, aCallV 9 1 9 2 [11]), (9, aRI), (10, aLI 11 1), (11, aLR 12 0), 
  (12, aGI 15 52 [11]), (15, aCmp 18 (fun x y => z_lt x y) 25), (18, aLR 19 0), (19, aCI 21 (-4)), (21, aCallV 24 1 11 2 [11]), (24, aRI), 
  (25, aLR 26 0), (26, aGR 29 53 [11]), (29, aLI 30 1), (30, aXI 31 14), (31, aSI 32 2), (32, aCI 33 0), (33, aSI 34 3), (34, aLR 35 0), 
  (35, aGR 38 15 [11]), (38, aLI 39 2), (39, aXI 40 14), (40, aCI 41 3), (41, aCmp 44 (fun x y => z_eq x y) 56), (44, aLR 45 0), (45, aLI 46 2), 
  (46, aCallV 49 3 56 2 [11]), (49, aSD 51 4), (51, aLR 52 0), (52, aGI 55 35 [11]), (55, aSI 56 3), (56, aLR 57 0), (57, aLI 58 3), 
  (58, aIf 61 (fun x => z_eq x 0) 65), (61, aCI 62 0), (62, aGo 92), (65, aLR 66 0), (66, aLI 67 2), (67, aLR 68 0), (68, aGR 71 39 [11]), 
  (71, aLR 72 0), (72, aGR 75 54 [11]), (75, aLI 76 1), (76, aXI 77 14), (77, aXI 78 14), (78, aLR 79 0), (79, aGI 82 48 [11]), (82, aLR 83 0), 
  (83, aGR 86 55 [11]), (86, aLI 87 1), (87, aXI 88 14), (88, aB 89 (fun x y => x - y)), (89, aCallV 92 1 82 4 [11]), (92, aCallV 95 1 11 2 [11]), 
  (95, aRI)]
def mQ_level : Nat := 84
noncomputable def tQ_level : List (Nat × zA) := [
  (0, aLI 1 1), (1, aCI 2 0), (2, aCI 4 7), (4, aCall 7 1 8 3), (7, aIf 10 (fun x => z_eq x 0) 23), (10, aLR 11 0), (11, aLR 12 0), 
  (12, aGR 15 39 [11]), (15, aLI 16 1), (16, aXI 17 14), (17, aCallV 20 1 11 2 [11]), (20, aGo 28), (23, aLR 24 0), (24, aCI 25 (-1)), 
  (25, aCallV 28 1 9 2 [11]), (28, aRI)]
def mQ_stop : Nat := 85
noncomputable def tQ_stop : List (Nat × zA) := [
  (0, aLI 1 1), (1, aCI 2 0), (2, aCI 4 15), (4, aCall 7 1 8 3), (7, aIf 10 (fun x => z_eq x 0) 31), (10, aLR 11 0), (11, aLR 12 0), 
  (12, aGR 15 40 [11]), (15, aLI 16 1), (16, aXI 17 15), (17, aIf 20 (fun x => z_eq x 0) 24), (20, aCI 21 1), (21, aGo 25), (24, aCI 25 0), 
  (25, aCallV 28 1 11 2 [11]), (28, aGo 36), (31, aLR 32 0), (32, aCI 33 (-1)), (33, aCallV 36 1 9 2 [11]), (36, aRI)]
def mQ_at : Nat := 86
noncomputable def tQ_at : List (Nat × zA) := [
  (0, aLI 1 1), (1, aSw 149 [(0, 52), (1, 61), (2, 70), (3, 79), (4, 88), (5, 97), (6, 106), (7, 123), (8, 140)]), (52, aLR 53 0), (53, aLR 54 0), 
  (54, aGI 57 41 [11]), (57, aCallV 60 1 11 2 [11]), (60, aRI), (61, aLR 62 0), (62, aLR 63 0), (63, aGI 66 46 [11]), (66, aCallV 69 1 11 2 [11]), 
  (69, aRI), (70, aLR 71 0), (71, aLR 72 0), (72, aGI 75 47 [11]), (75, aCallV 78 1 11 2 [11]), (78, aRI), (79, aLR 80 0), (80, aLR 81 0), 
  (81, aGI 84 48 [11]), (84, aCallV 87 1 11 2 [11]), (87, aRI), (88, aLR 89 0), (89, aLR 90 0), (90, aGI 93 49 [11]), (93, aCallV 96 1 11 2 [11]), 
  (96, aRI), (97, aLR 98 0), (98, aLR 99 0), (99, aGI 102 50 [11]), (102, aCallV 105 1 11 2 [11]), (105, aRI), (106, aLR 107 0), (107, aLR 108 0), 
  (108, aGI 111 51 [11]), (111, aIf 114 (fun x => z_eq x 0) 118), (114, aCI 115 1), (115, aGo 119), (118, aCI 119 0), (119, aCallV 122 1 11 2 [11]), 
  (122, aRI), (123, aLR 124 0), (124, aLR 125 0), (125, aGI 128 36 [11]), (128, aIf 131 (fun x => z_eq x 0) 135), (131, aCI 132 1), (132, aGo 136), 
  (135, aCI 136 0), (136, aCallV 139 1 11 2 [11]), (139, aRI), (140, aLR 141 0), (141, aLR 142 0), (142, aGI 145 60 [11]), 
  (145, aCallV 148 1 11 2 [11]), (148, aRI), (149, aLR 150 0), (150, aCI 151 (-1)), (151, aCallV 154 1 9 2 [11]), (154, aRI)]
def mQ_times : Nat := 87
noncomputable def tQ_times : List (Nat × zA) := [
  (0, aLR 1 0), (1, aLI 2 1), (2, aCallV 5 1 41 2 [11]), (5, aIf 8 (fun x => z_eq x 0) 17), (8, aLI 9 2), (9, aCI 10 0), (10, aCI 11 1), 
  (11, aCall 14 1 8 3), (14, aIf 17 (fun x => z_ne x 0) 23), (17, aLR 18 0), (18, aCI 19 (-1)), (19, aCallV 22 1 9 2 [11]), (22, aRI), (23, aLR 24 0), 
  (24, aLI 25 2), (25, aIf 28 (fun x => z_ne x 0) 37), (28, aLR 29 0), (29, aGR 32 56 [11]), (32, aLI 33 1), (33, aXI 34 14), (34, aGo 43), 
  (37, aLR 38 0), (38, aGR 41 57 [11]), (41, aLI 42 1), (42, aXI 43 14), (43, aCallV 46 1 11 2 [11]), (46, aRI)]
def mQ_event : Nat := 88
noncomputable def tQ_event : List (Nat × zA) := [
  (0, aLI 1 1), (1, aIf 4 (fun x => z_lt x 0) 13), (4, aLI 5 2), (5, aCI 6 0), (6, aCI 7 3), (7, aCall 10 1 8 3), (10, aIf 13 (fun x => z_ne x 0) 19), 
  (13, aLR 14 0), (14, aCI 15 (-1)), (15, aCallV 18 1 9 2 [11]), (18, aRI), (19, aLR 20 0), (20, aLI 21 1), (21, aLR 22 0), (22, aGI 25 58 [11]), 
  (25, aCmp 28 (fun x y => z_le y x) 48), (28, aLI 29 1), (29, aCI 32 1500), (32, aCmp 35 (fun x y => z_le y x) 48), (35, aLR 36 0), 
  (36, aGR 39 59 [11]), (39, aCI 40 4), (40, aLI 41 1), (41, aB 42 (fun x y => x * y)), (42, aLI 43 2), (43, aB 44 (fun x y => x + y)), 
  (44, aXI 45 14), (45, aGo 50), (48, aCI 50 (-4)), (50, aCallV 53 1 11 2 [11]), (53, aRI)]
def mQ_cut : Nat := 89
noncomputable def tQ_cut : List (Nat × zA) := [
  (0, aLR 1 0), (1, aLI 2 1), (2, aCallV 5 1 12 2 [11]), (5, aIf 8 (fun x => z_eq x 0) 22), (8, aLI 9 2), (9, aCI 10 0), (10, aLR 11 0), 
  (11, aGR 14 2 [11]), (14, aLI 15 1), (15, aXI 16 14), (16, aCall 19 1 8 3), (19, aIf 22 (fun x => z_ne x 0) 28), (22, aLR 23 0), (23, aCI 24 (-1)), 
  (24, aCallV 27 1 9 2 [11]), (27, aRI), (28, aLR 29 0), (29, aGI 32 36 [11]), (32, aIf 35 (fun x => z_eq x 0) 42), (35, aLR 36 0), (36, aCI 38 (-3)), 
  (38, aCallV 41 1 9 2 [11]), (41, aRI), (42, aLR 43 0), (43, aGI 46 1 [11]), (46, aCI 48 20), (48, aCmp 51 (fun x y => z_ne x y) 58), (51, aLR 52 0), 
  (52, aCI 54 (-2)), (54, aCallV 57 1 9 2 [11]), (57, aRI), (58, aLI 59 2), (59, aSI 60 3), (60, aLI 61 3), (61, aLR 62 0), (62, aGR 65 2 [11]), 
  (65, aLI 66 1), (66, aXI 67 14), (67, aCmp 70 (fun x y => z_le y x) 105), (70, aLR 71 0), (71, aGR 74 3 [11]), (74, aCI 77 400), (77, aLR 78 0), 
  (78, aGI 81 1 [11]), (81, aB 82 (fun x y => x * y)), (82, aLI 83 3), (83, aB 84 (fun x y => x + y)), (84, aLI 85 2), (85, aB 86 (fun x y => x - y)), 
  (86, aLR 87 0), (87, aGR 90 3 [11]), (90, aCI 93 400), (93, aLI 94 1), (94, aB 95 (fun x y => x * y)), (95, aLI 96 3), 
  (96, aB 97 (fun x y => x + y)), (97, aXI 98 14), (98, aYI 99), (99, aInc 102 3 1), (102, aGo 60), (105, aLR 106 0), (106, aGR 109 2 [11]), 
  (109, aLR 110 0), (110, aGI 113 1 [11]), (113, aLR 114 0), (114, aGR 117 2 [11]), (117, aLI 118 1), (118, aXI 119 14), (119, aLI 120 2), 
  (120, aB 121 (fun x y => x - y)), (121, aYI 122), (122, aLR 123 0), (123, aGR 126 2 [11]), (126, aLI 127 1), (127, aLI 128 2), (128, aYI 129), 
  (129, aLR 130 0), (130, aDup 131), (131, aGI 134 1 [11]), (134, aCI 135 1), (135, aB 136 (fun x y => x + y)), (136, aPI 139 1 [11]), 
  (139, aLR 140 0), (140, aLR 141 0), (141, aGI 144 1 [11]), (144, aCI 145 1), (145, aB 146 (fun x y => x - y)), (146, aCallV 149 1 11 2 [11]), 
  (149, aRI)]
def mQ_copies : Nat := 90
noncomputable def tQ_copies : List (Nat × zA) := [
  (0, aLR 1 0), (1, aDup 2), (2, aGI 5 13 [11]), (5, aLR 6 0), (6, aGR 9 11 [11]), (9, aLI 10 2), (10, aXI 11 14), (11, aLR 12 0), 
  (12, aGR 15 11 [11]), (15, aLI 16 1), (16, aXI 17 14), (17, aB 18 (fun x y => x - y)), (18, aB 19 (fun x y => x + y)), (19, aPI 22 13 [11]), 
  (22, aLR 23 0), (23, aGR 26 11 [11]), (26, aLI 27 1), (27, aLR 28 0), (28, aGR 31 11 [11]), (31, aLI 32 2), (32, aXI 33 14), (33, aYI 34), 
  (34, aLR 35 0), (35, aGR 38 9 [11]), (38, aLI 39 1), (39, aLR 40 0), (40, aGR 43 9 [11]), (43, aLI 44 2), (44, aXI 45 14), (45, aYI 46), 
  (46, aLR 47 0), (47, aGR 50 8 [11]), (50, aLI 51 1), (51, aLR 52 0), (52, aGR 55 8 [11]), (55, aLI 56 2), (56, aXI 57 15), (57, aYZ 58), 
  (58, aCI 59 0), (59, aSI 60 3), (60, aLI 61 3), (61, aCI 63 9), (63, aCmp 66 (fun x y => z_le y x) 94), (66, aLR 67 0), (67, aGR 70 10 [11]), 
  (70, aCI 72 9), (72, aLI 73 1), (73, aB 74 (fun x y => x * y)), (74, aLI 75 3), (75, aB 76 (fun x y => x + y)), (76, aLR 77 0), (77, aGR 80 10 [11]), 
  (80, aCI 82 9), (82, aLI 83 2), (83, aB 84 (fun x y => x * y)), (84, aLI 85 3), (85, aB 86 (fun x y => x + y)), (86, aXI 87 14), (87, aYI 88), 
  (88, aInc 91 3 1), (91, aGo 60), (94, aCI 95 0), (95, aSI 96 3), (96, aLI 97 3), (97, aLR 98 0), (98, aGR 101 11 [11]), (101, aLI 102 2), 
  (102, aXI 103 14), (103, aCmp 106 (fun x y => z_le y x) 136), (106, aLR 107 0), (107, aGR 110 12 [11]), (110, aCI 113 256), (113, aLI 114 1), 
  (114, aB 115 (fun x y => x * y)), (115, aLI 116 3), (116, aB 117 (fun x y => x + y)), (117, aLR 118 0), (118, aGR 121 12 [11]), (121, aCI 124 256), 
  (124, aLI 125 2), (125, aB 126 (fun x y => x * y)), (126, aLI 127 3), (127, aB 128 (fun x y => x + y)), (128, aXI 129 14), (129, aYI 130), 
  (130, aInc 133 3 1), (133, aGo 96), (136, aRV)]
def mQ_copyOf : Nat := 91
noncomputable def tQ_copyOf : List (Nat × zA) := [
  (0, aLR 1 0), (1, aGR 4 5 [11]), (4, aLR 5 0), (5, aGI 8 4 [11]), (8, aLR 9 0), (9, aGR 12 5 [11]), (12, aLI 13 1), (13, aXI 14 14), (14, aYI 15), 
  (15, aLR 16 0), (16, aGR 19 6 [11]), (19, aLR 20 0), (20, aGI 23 4 [11]), (23, aLR 24 0), (24, aGR 27 6 [11]), (27, aLI 28 1), (28, aXI 29 14), 
  (29, aYI 30), (30, aLR 31 0), (31, aGR 34 7 [11]), (34, aLR 35 0), (35, aGI 38 4 [11]), (38, aLR 39 0), (39, aGR 42 7 [11]), (42, aLI 43 1), 
  (43, aXI 44 14), (44, aYI 45), (45, aLR 46 0), (46, aGR 49 11 [11]), (49, aLR 50 0), (50, aGI 53 4 [11]), (53, aCI 54 0), (54, aYI 55), 
  (55, aLR 56 0), (56, aLR 57 0), (57, aGI 60 4 [11]), (60, aLI 61 1), (61, aCallV 64 0 90 3 [11]), (64, aLR 65 0), (65, aDup 66), (66, aGI 69 4 [11]), 
  (69, aCI 70 1), (70, aB 71 (fun x y => x + y)), (71, aPI 74 4 [11]), (74, aLR 75 0), (75, aGI 78 4 [11]), (78, aCI 79 1), 
  (79, aB 80 (fun x y => x - y)), (80, aRI)]
def mQ_elementsOf : Nat := 92
noncomputable def tQ_elementsOf : List (Nat × zA) := [
  (0, aCI 1 0), (1, aSI 3 4), (3, aLI 4 2), (4, aSI 6 5), (6, aLI 8 5), (8, aLI 9 2), (9, aLI 10 3), (10, aB 11 (fun x y => x + y)), 
  (11, aCmp 14 (fun x y => z_le y x) 37), (14, aLI 16 4), (16, aLR 17 0), (17, aGR 20 11 [11]), (20, aLR 21 0), (21, aLI 22 1), (22, aLI 24 5), 
  (24, aCallV 27 1 14 3 [11]), (27, aXI 28 14), (28, aB 29 (fun x y => x + y)), (29, aSI 31 4), (31, aInc 34 5 1), (34, aGo 6), (37, aLI 39 4), 
  (39, aRI)]
def mQ_join : Nat := 93
noncomputable def tQ_join : List (Nat × zA) := [
  (0, aLR 1 0), (1, aLI 2 1), (2, aCallV 5 1 12 2 [11]), (5, aIf 8 (fun x => z_eq x 0) 21), (8, aLR 9 0), (9, aLI 10 2), (10, aCallV 13 1 12 2 [11]), 
  (13, aIf 16 (fun x => z_eq x 0) 21), (16, aLI 17 1), (17, aLI 18 2), (18, aCmp 21 (fun x y => z_ne x y) 27), (21, aLR 22 0), (22, aCI 23 (-1)), 
  (23, aCallV 26 1 9 2 [11]), (26, aRI), (27, aLR 28 0), (28, aGI 31 36 [11]), (31, aIf 34 (fun x => z_eq x 0) 41), (34, aLR 35 0), (35, aCI 37 (-3)), 
  (37, aCallV 40 1 9 2 [11]), (40, aRI), (41, aLR 42 0), (42, aGR 45 2 [11]), (45, aLI 46 2), (46, aXI 47 14), (47, aSI 48 3), (48, aLR 49 0), 
  (49, aGI 52 4 [11]), (52, aLI 53 3), (53, aB 54 (fun x y => x + y)), (54, aCI 57 400), (57, aCmp 60 (fun x y => z_lt y x) 78), (60, aLR 61 0), 
  (61, aGI 64 13 [11]), (64, aLR 65 0), (65, aLI 66 2), (66, aCI 67 0), (67, aLI 68 3), (68, aCallV 71 1 92 4 [11]), (71, aB 72 (fun x y => x + y)), 
  (72, aCI 75 8000), (75, aCmp 78 (fun x y => z_le x y) 85), (78, aLR 79 0), (79, aCI 81 (-2)), (81, aCallV 84 1 9 2 [11]), (84, aRI), (85, aCI 86 0), 
  (86, aSI 88 4), (88, aLI 90 4), (90, aLI 91 3), (91, aCmp 94 (fun x y => z_le y x) 138), (94, aLR 95 0), (95, aGR 98 3 [11]), (98, aCI 101 400), 
  (101, aLI 102 1), (102, aB 103 (fun x y => x * y)), (103, aLR 104 0), (104, aGR 107 2 [11]), (107, aLI 108 1), (108, aXI 109 14), 
  (109, aB 110 (fun x y => x + y)), (110, aLR 111 0), (111, aLR 112 0), (112, aLI 113 2), (113, aLI 115 4), (115, aCallV 118 1 14 3 [11]), 
  (118, aCallV 121 1 91 2 [11]), (121, aYI 122), (122, aLR 123 0), (123, aGR 126 2 [11]), (126, aLI 127 1), (127, aDup2 128), (128, aXI 129 14), 
  (129, aCI 130 1), (130, aB 131 (fun x y => x + y)), (131, aYI 132), (132, aInc 135 4 1), (135, aGo 88), (138, aLR 139 0), (139, aLR 140 0), 
  (140, aGR 143 2 [11]), (143, aLI 144 1), (144, aXI 145 14), (145, aCallV 148 1 11 2 [11]), (148, aRI)]
def mQ_repeat : Nat := 94
noncomputable def tQ_repeat : List (Nat × zA) := [
  (0, aLR 1 0), (1, aLI 2 1), (2, aCallV 5 1 12 2 [11]), (5, aIf 8 (fun x => z_eq x 0) 34), (8, aLI 9 3), (9, aCI 10 0), (10, aCI 12 8), 
  (12, aCall 15 1 8 3), (15, aIf 18 (fun x => z_eq x 0) 34), (18, aLI 19 2), (19, aCI 20 0), (20, aLR 21 0), (21, aGR 24 2 [11]), (24, aLI 25 1), 
  (25, aXI 26 14), (26, aLI 27 3), (27, aB 28 (fun x y => x - y)), (28, aCall 31 1 8 3), (31, aIf 34 (fun x => z_ne x 0) 40), (34, aLR 35 0), 
  (35, aCI 36 (-1)), (36, aCallV 39 1 9 2 [11]), (39, aRI), (40, aLR 41 0), (41, aGI 44 36 [11]), (44, aIf 47 (fun x => z_eq x 0) 54), (47, aLR 48 0), 
  (48, aCI 50 (-3)), (50, aCallV 53 1 9 2 [11]), (53, aRI), (54, aLR 55 0), (55, aGI 58 4 [11]), (58, aLI 59 3), (59, aB 60 (fun x y => x + y)), 
  (60, aCI 63 400), (63, aCmp 66 (fun x y => z_lt y x) 84), (66, aLR 67 0), (67, aGI 70 13 [11]), (70, aLR 71 0), (71, aLI 72 1), (72, aLI 73 2), 
  (73, aLI 74 3), (74, aCallV 77 1 92 4 [11]), (77, aB 78 (fun x y => x + y)), (78, aCI 81 8000), (81, aCmp 84 (fun x y => z_le x y) 91), 
  (84, aLR 85 0), (85, aCI 87 (-2)), (87, aCallV 90 1 9 2 [11]), (90, aRI), (91, aLR 92 0), (92, aGR 95 2 [11]), (95, aLI 96 1), (96, aXI 97 14), 
  (97, aCI 98 1), (98, aB 99 (fun x y => x - y)), (99, aSI 101 4), (101, aLI 103 4), (103, aLI 104 2), (104, aLI 105 3), 
  (105, aB 106 (fun x y => x + y)), (106, aCmp 109 (fun x y => z_lt x y) 143), (109, aLR 110 0), (110, aGR 113 3 [11]), (113, aCI 116 400), 
  (116, aLI 117 1), (117, aB 118 (fun x y => x * y)), (118, aLI 120 4), (120, aB 121 (fun x y => x + y)), (121, aLI 122 3), 
  (122, aB 123 (fun x y => x + y)), (123, aLR 124 0), (124, aGR 127 3 [11]), (127, aCI 130 400), (130, aLI 131 1), (131, aB 132 (fun x y => x * y)), 
  (132, aLI 134 4), (134, aB 135 (fun x y => x + y)), (135, aXI 136 14), (136, aYI 137), (137, aInc 140 4 (-1)), (140, aGo 101), (143, aLI 144 2), 
  (144, aSI 146 4), (146, aLI 148 4), (148, aLI 149 2), (149, aLI 150 3), (150, aB 151 (fun x y => x + y)), (151, aCmp 154 (fun x y => z_le y x) 186), 
  (154, aLR 155 0), (155, aGR 158 3 [11]), (158, aCI 161 400), (161, aLI 162 1), (162, aB 163 (fun x y => x * y)), (163, aLI 165 4), 
  (165, aB 166 (fun x y => x + y)), (166, aLI 167 3), (167, aB 168 (fun x y => x + y)), (168, aLR 169 0), (169, aLR 170 0), (170, aLI 171 1), 
  (171, aLI 173 4), (173, aCallV 176 1 14 3 [11]), (176, aCallV 179 1 91 2 [11]), (179, aYI 180), (180, aInc 183 4 1), (183, aGo 146), 
  (186, aLR 187 0), (187, aGR 190 2 [11]), (190, aLI 191 1), (191, aDup2 192), (192, aXI 193 14), (193, aLI 194 3), (194, aB 195 (fun x y => x + y)), 
  (195, aYI 196), (196, aLR 197 0), (197, aLR 198 0), (198, aGR 201 2 [11]), (201, aLI 202 1), (202, aXI 203 14), (203, aCallV 206 1 11 2 [11]), 
  (206, aRI)]
def mQ_move : Nat := 95
noncomputable def tQ_move : List (Nat × zA) := [
  (0, aLR 1 0), (1, aLI 2 1), (2, aCallV 5 1 12 2 [11]), (5, aIf 8 (fun x => z_eq x 0) 27), (8, aLR 9 0), (9, aLI 11 4), (11, aCallV 14 1 12 2 [11]), 
  (14, aIf 17 (fun x => z_eq x 0) 27), (17, aLI 18 3), (18, aCI 19 0), (19, aCI 21 8), (21, aCall 24 1 8 3), (24, aIf 27 (fun x => z_ne x 0) 33), 
  (27, aLR 28 0), (28, aCI 29 (-1)), (29, aCallV 32 1 9 2 [11]), (32, aRI), (33, aLR 34 0), (34, aGI 37 36 [11]), (37, aIf 40 (fun x => z_eq x 0) 47), 
  (40, aLR 41 0), (41, aCI 43 (-3)), (43, aCallV 46 1 9 2 [11]), (46, aRI), (47, aLR 48 0), (48, aCI 49 0), (49, aPI 52 0 [11]), (52, aCI 53 0), 
  (53, aSI 55 6), (55, aLI 57 6), (57, aLI 58 3), (58, aCmp 61 (fun x y => z_le y x) 123), (61, aLR 62 0), (62, aLI 63 1), (63, aLI 64 2), 
  (64, aLI 66 6), (66, aB 67 (fun x y => x + y)), (67, aLI 69 4), (69, aLI 71 5), (71, aLI 73 6), (73, aB 74 (fun x y => x + y)), 
  (74, aCallV 77 1 96 5 [11]), (77, aSI 79 7), (79, aLI 81 7), (81, aIf 84 (fun x => z_eq x 0) 93), (84, aLR 85 0), (85, aLI 87 7), 
  (87, aPI 90 0 [11]), (90, aLI 92 6), (92, aRI), (93, aLR 94 0), (94, aLR 95 0), (95, aLI 97 4), (97, aLI 99 5), (99, aLI 101 6), 
  (101, aB 102 (fun x y => x + y)), (102, aCallV 105 1 14 3 [11]), (105, aLR 106 0), (106, aLI 107 1), (107, aLI 108 2), (108, aLI 110 6), 
  (110, aB 111 (fun x y => x + y)), (111, aCallV 114 1 14 3 [11]), (114, aCallV 117 0 90 3 [11]), (117, aInc 120 6 1), (120, aGo 55), (123, aLI 124 3), 
  (124, aRI)]
def mQ_hinders : Nat := 96
noncomputable def tQ_hinders : List (Nat × zA) := [
  (0, aLR 1 0), (1, aLI 2 1), (2, aLI 3 2), (3, aCallV 6 1 13 3 [11]), (6, aIf 9 (fun x => z_eq x 0) 19), (9, aLR 10 0), (10, aLI 11 3), 
  (11, aLI 13 4), (13, aCallV 16 1 13 3 [11]), (16, aIf 19 (fun x => z_ne x 0) 21), (19, aCI 20 2), (20, aRI), (21, aLR 22 0), (22, aLI 23 1), 
  (23, aLI 24 2), (24, aCallV 27 1 14 3 [11]), (27, aSI 29 5), (29, aLR 30 0), (30, aLI 31 3), (31, aLI 33 4), (33, aCallV 36 1 14 3 [11]), 
  (36, aSI 38 6), (38, aLR 39 0), (39, aGR 42 8 [11]), (42, aLI 44 5), (44, aXI 45 15), (45, aIf 48 (fun x => z_ne x 0) 58), (48, aLR 49 0), 
  (49, aGR 52 8 [11]), (52, aLI 54 6), (54, aXI 55 15), (55, aIf 58 (fun x => z_eq x 0) 60), (58, aCI 59 1), (59, aRI), (60, aLR 61 0), 
  (61, aGR 64 5 [11]), (64, aLI 66 5), (66, aXI 67 14), (67, aLR 68 0), (68, aGR 71 5 [11]), (71, aLI 73 6), (73, aXI 74 14), 
  (74, aCmp 77 (fun x y => z_eq x y) 79), (77, aCI 78 5), (78, aRI), (79, aLR 80 0), (80, aGI 83 13 [11]), (83, aLR 84 0), (84, aGR 87 11 [11]), 
  (87, aLI 89 6), (89, aXI 90 14), (90, aB 91 (fun x y => x - y)), (91, aLR 92 0), (92, aGR 95 11 [11]), (95, aLI 97 5), (97, aXI 98 14), 
  (98, aB 99 (fun x y => x + y)), (99, aCI 102 8000), (102, aCmp 105 (fun x y => z_le x y) 110), (105, aCI 107 (-2)), (107, aGo 111), (110, aCI 111 0), 
  (111, aRI)]
def mQ_copy : Nat := 97
noncomputable def tQ_copy : List (Nat × zA) := [
  (0, aLR 1 0), (1, aLI 2 1), (2, aLI 3 2), (3, aCallV 6 1 13 3 [11]), (6, aIf 9 (fun x => z_eq x 0) 20), (9, aLR 10 0), (10, aLI 12 5), 
  (12, aLI 14 6), (14, aCallV 17 1 13 3 [11]), (17, aIf 20 (fun x => z_ne x 0) 26), (20, aLR 21 0), (21, aCI 22 (-1)), (22, aCallV 25 1 9 2 [11]), 
  (25, aRI), (26, aLR 27 0), (27, aGI 30 36 [11]), (30, aIf 33 (fun x => z_eq x 0) 40), (33, aLR 34 0), (34, aCI 36 (-3)), (36, aCallV 39 1 9 2 [11]), 
  (39, aRI), (40, aLR 41 0), (41, aLI 42 1), (42, aLI 43 2), (43, aCallV 46 1 14 3 [11]), (46, aSI 48 8), (48, aLR 49 0), (49, aLI 51 5), 
  (51, aLI 53 6), (53, aCallV 56 1 14 3 [11]), (56, aSI 58 9), (58, aLR 59 0), (59, aGR 62 8 [11]), (62, aLI 64 8), (64, aXI 65 15), 
  (65, aIf 68 (fun x => z_ne x 0) 78), (68, aLR 69 0), (69, aGR 72 8 [11]), (72, aLI 74 9), (74, aXI 75 15), (75, aIf 78 (fun x => z_eq x 0) 84), 
  (78, aLR 79 0), (79, aCI 80 1), (80, aCallV 83 1 10 2 [11]), (83, aRI), (84, aLR 85 0), (85, aGR 88 5 [11]), (88, aLI 90 8), (90, aXI 91 14), 
  (91, aLR 92 0), (92, aGR 95 5 [11]), (95, aLI 97 9), (97, aXI 98 14), (98, aCmp 101 (fun x y => z_eq x y) 107), (101, aLR 102 0), (102, aCI 103 5), 
  (103, aCallV 106 1 10 2 [11]), (106, aRI), (107, aLI 109 4), (109, aIf 112 (fun x => z_lt x 0) 149), (112, aLI 113 3), (113, aCI 114 0), 
  (114, aLR 115 0), (115, aGR 118 11 [11]), (118, aLI 120 8), (120, aXI 121 14), (121, aLI 123 4), (123, aB 124 (fun x y => x - y)), 
  (124, aCall 127 1 8 3), (127, aIf 130 (fun x => z_eq x 0) 149), (130, aLI 132 7), (132, aCI 133 0), (133, aLR 134 0), (134, aGR 137 11 [11]), 
  (137, aLI 139 9), (139, aXI 140 14), (140, aLI 142 4), (142, aB 143 (fun x y => x - y)), (143, aCall 146 1 8 3), 
  (146, aIf 149 (fun x => z_ne x 0) 155), (149, aLR 150 0), (150, aCI 151 4), (151, aCallV 154 1 10 2 [11]), (154, aRI), (155, aCI 156 0), 
  (156, aSI 158 10), (158, aLI 160 10), (160, aLI 162 4), (162, aCmp 165 (fun x y => z_le y x) 194), (165, aLR 166 0), (166, aGR 169 64 [11]), 
  (169, aLI 171 10), (171, aLR 172 0), (172, aGR 175 12 [11]), (175, aCI 178 256), (178, aLI 180 8), (180, aB 181 (fun x y => x * y)), 
  (181, aLI 182 3), (182, aB 183 (fun x y => x + y)), (183, aLI 185 10), (185, aB 186 (fun x y => x + y)), (186, aXI 187 14), (187, aYI 188), 
  (188, aInc 191 10 1), (191, aGo 158), (194, aCI 195 0), (195, aSI 197 10), (197, aLI 199 10), (199, aLI 201 4), 
  (201, aCmp 204 (fun x y => z_le y x) 234), (204, aLR 205 0), (205, aGR 208 12 [11]), (208, aCI 211 256), (211, aLI 213 9), 
  (213, aB 214 (fun x y => x * y)), (214, aLI 216 7), (216, aB 217 (fun x y => x + y)), (217, aLI 219 10), (219, aB 220 (fun x y => x + y)), 
  (220, aLR 221 0), (221, aGR 224 64 [11]), (224, aLI 226 10), (226, aXI 227 14), (227, aYI 228), (228, aInc 231 10 1), (231, aGo 197), 
  (234, aLR 235 0), (235, aLI 237 4), (237, aCallV 240 1 11 2 [11]), (240, aRI)]
def mQ_transpose : Nat := 98
noncomputable def tQ_transpose : List (Nat × zA) := [
  (0, aLR 1 0), (1, aLI 2 1), (2, aLI 3 2), (3, aCallV 6 1 13 3 [11]), (6, aIf 9 (fun x => z_eq x 0) 20), (9, aLI 10 3), (10, aCI 12 (-7)), 
  (12, aCI 14 7), (14, aCall 17 1 8 3), (17, aIf 20 (fun x => z_ne x 0) 26), (20, aLR 21 0), (21, aCI 22 (-1)), (22, aCallV 25 1 9 2 [11]), (25, aRI), 
  (26, aLR 27 0), (27, aGI 30 36 [11]), (30, aIf 33 (fun x => z_eq x 0) 40), (33, aLR 34 0), (34, aCI 36 (-3)), (36, aCallV 39 1 9 2 [11]), (39, aRI), 
  (40, aLR 41 0), (41, aLI 42 1), (42, aLI 43 2), (43, aCallV 46 1 14 3 [11]), (46, aSI 48 4), (48, aLR 49 0), (49, aGR 52 5 [11]), (52, aLI 54 4), 
  (54, aXI 55 14), (55, aIf 58 (fun x => z_eq x 0) 64), (58, aLR 59 0), (59, aCI 60 5), (60, aCallV 63 1 10 2 [11]), (63, aRI), (64, aLR 65 0), 
  (65, aLI 67 4), (67, aCallV 70 1 23 2 [11]), (70, aSI 72 5), (72, aLI 74 5), (74, aIf 77 (fun x => z_le x 0) 84), (77, aLR 78 0), (78, aLI 80 5), 
  (80, aCallV 83 1 10 2 [11]), (83, aRI), (84, aLR 85 0), (85, aCI 86 0), (86, aPI 89 65 [11]), (89, aCI 90 0), (90, aSI 92 6), (92, aLI 94 6), 
  (94, aLR 95 0), (95, aGR 98 11 [11]), (98, aLI 100 4), (100, aXI 101 14), (101, aCmp 104 (fun x y => z_le y x) 233), (104, aLR 105 0), 
  (105, aGR 108 12 [11]), (108, aCI 111 256), (111, aLI 113 4), (113, aB 114 (fun x y => x * y)), (114, aLI 116 6), (116, aB 117 (fun x y => x + y)), 
  (117, aXI 118 14), (118, aCI 121 255), (121, aB 122 (fun x y => x &&& y)), (122, aSI 124 7), (124, aCI 125 0), (125, aSI 127 8), (127, aLI 129 8), 
  (129, aCI 131 8), (131, aCmp 134 (fun x y => z_le y x) 196), (134, aLI 136 7), (136, aLI 138 8), (138, aB 139 (fun x y => x >>> (y &&& 31))), 
  (139, aCI 140 1), (140, aB 141 (fun x y => x &&& y)), (141, aCI 142 1), (142, aCmp 145 (fun x y => z_ne x y) 190), (145, aLI 147 8), 
  (147, aLI 148 3), (148, aB 149 (fun x y => x + y)), (149, aCI 150 0), (150, aCI 152 7), (152, aCall 155 1 8 3), 
  (155, aIf 158 (fun x => z_ne x 0) 190), (158, aLR 159 0), (159, aGR 162 66 [11]), (162, aLR 163 0), (163, aGI 166 65 [11]), (166, aLI 168 6), 
  (168, aYI 169), (169, aLR 170 0), (170, aGR 173 67 [11]), (173, aLR 174 0), (174, aGI 177 65 [11]), (177, aLI 179 8), (179, aYI 180), 
  (180, aLR 181 0), (181, aDup 182), (182, aGI 185 65 [11]), (185, aCI 186 1), (186, aB 187 (fun x y => x + y)), (187, aPI 190 65 [11]), 
  (190, aInc 193 8 1), (193, aGo 127), (196, aLR 197 0), (197, aGR 200 12 [11]), (200, aCI 203 256), (203, aLI 205 4), 
  (205, aB 206 (fun x y => x * y)), (206, aLI 208 6), (208, aB 209 (fun x y => x + y)), (209, aLI 210 3), (210, aIf 213 (fun x => z_lt x 0) 220), 
  (213, aLI 215 7), (215, aLI 216 3), (216, aB 217 (fun x y => x <<< (y &&& 31))), (217, aGo 225), (220, aLI 222 7), (222, aLI 223 3), 
  (223, aII 224 (fun x => -x)), (224, aB 225 (fun x y => x >>> (y &&& 31))), (225, aII 226 (fun x => x.toInt8.toInt32)), (226, aYI 227), 
  (227, aInc 230 6 1), (230, aGo 92), (233, aLR 234 0), (234, aLI 236 4), (236, aCallV 239 0 22 2 [11]), (239, aLR 240 0), (240, aLR 241 0), 
  (241, aGI 244 65 [11]), (244, aCallV 247 1 11 2 [11]), (247, aRI)]
def mQ_fallen : Nat := 99
noncomputable def tQ_fallen : List (Nat × zA) := [
  (0, aLI 1 1), (1, aIf 4 (fun x => z_lt x 0) 13), (4, aLI 5 2), (5, aCI 6 0), (6, aCI 7 1), (7, aCall 10 1 8 3), (10, aIf 13 (fun x => z_ne x 0) 19), 
  (13, aLR 14 0), (14, aCI 15 (-1)), (15, aCallV 18 1 9 2 [11]), (18, aRI), (19, aLI 20 1), (20, aLR 21 0), (21, aGI 24 65 [11]), 
  (24, aCmp 27 (fun x y => z_lt x y) 34), (27, aLR 28 0), (28, aCI 30 (-4)), (30, aCallV 33 1 11 2 [11]), (33, aRI), (34, aLR 35 0), (35, aLI 36 2), 
  (36, aIf 39 (fun x => z_ne x 0) 48), (39, aLR 40 0), (40, aGR 43 66 [11]), (43, aLI 44 1), (44, aXI 45 14), (45, aGo 54), (48, aLR 49 0), 
  (49, aGR 52 67 [11]), (52, aLI 53 1), (53, aXI 54 14), (54, aCallV 57 1 11 2 [11]), (57, aRI)]
def mQ_mend : Nat := 100
noncomputable def tQ_mend : List (Nat × zA) := [
  (0, aLR 1 0), (1, aLI 2 1), (2, aLI 3 2), (3, aCallV 6 1 13 3 [11]), (6, aIf 9 (fun x => z_eq x 0) 17), (9, aLR 10 0), (10, aLI 11 3), 
  (11, aCallV 14 1 12 2 [11]), (14, aIf 17 (fun x => z_ne x 0) 23), (17, aLR 18 0), (18, aCI 19 (-1)), (19, aCallV 22 1 9 2 [11]), (22, aRI), 
  (23, aLR 24 0), (24, aGI 27 36 [11]), (27, aIf 30 (fun x => z_eq x 0) 37), (30, aLR 31 0), (31, aCI 33 (-3)), (33, aCallV 36 1 9 2 [11]), (36, aRI), 
  (37, aLR 38 0), (38, aLI 39 1), (39, aLI 40 2), (40, aCallV 43 1 14 3 [11]), (43, aSI 45 4), (45, aLR 46 0), (46, aLI 48 4), 
  (48, aCallV 51 1 23 2 [11]), (51, aIf 54 (fun x => z_ne x 0) 60), (54, aLR 55 0), (55, aLI 56 2), (56, aCallV 59 1 11 2 [11]), (59, aRI), 
  (60, aCI 61 0), (61, aSI 63 5), (63, aLI 65 5), (65, aLR 66 0), (66, aGR 69 2 [11]), (69, aLI 70 3), (70, aXI 71 14), 
  (71, aCmp 74 (fun x y => z_le y x) 180), (74, aLR 75 0), (75, aLI 76 3), (76, aLI 78 5), (78, aCallV 81 1 14 3 [11]), (81, aSI 83 6), (83, aLR 84 0), 
  (84, aGR 87 5 [11]), (87, aLI 89 6), (89, aXI 90 14), (90, aLR 91 0), (91, aGR 94 5 [11]), (94, aLI 96 4), (96, aXI 97 14), 
  (97, aCmp 100 (fun x y => z_ne x y) 174), (100, aLR 101 0), (101, aGR 104 6 [11]), (104, aLI 106 6), (106, aXI 107 14), (107, aLR 108 0), 
  (108, aGR 111 6 [11]), (111, aLI 113 4), (113, aXI 114 14), (114, aCmp 117 (fun x y => z_ne x y) 174), (117, aLR 118 0), (118, aLI 120 6), 
  (120, aCallV 123 1 23 2 [11]), (123, aIf 126 (fun x => z_ne x 0) 174), (126, aLR 127 0), (127, aGI 130 13 [11]), (130, aLR 131 0), 
  (131, aGR 134 11 [11]), (134, aLI 136 4), (136, aXI 137 14), (137, aB 138 (fun x y => x - y)), (138, aLR 139 0), (139, aGR 142 11 [11]), 
  (142, aLI 144 6), (144, aXI 145 14), (145, aB 146 (fun x y => x + y)), (146, aCI 149 8000), (149, aCmp 152 (fun x y => z_le x y) 159), 
  (152, aLR 153 0), (153, aCI 155 (-2)), (155, aCallV 158 1 9 2 [11]), (158, aRI), (159, aLR 160 0), (160, aLI 162 4), (162, aLI 164 6), 
  (164, aCallV 167 0 90 3 [11]), (167, aLR 168 0), (168, aLI 170 5), (170, aCallV 173 1 11 2 [11]), (173, aRI), (174, aInc 177 5 1), (177, aGo 63), 
  (180, aLR 181 0), (181, aCI 183 (-4)), (183, aCallV 186 1 11 2 [11]), (186, aRI)]
def mQ_areAlike : Nat := 101
noncomputable def tQ_areAlike : List (Nat × zA) := [
  (0, aLR 1 0), (1, aGR 4 5 [11]), (4, aLI 5 1), (5, aXI 6 14), (6, aLR 7 0), (7, aGR 10 5 [11]), (10, aLI 11 2), (11, aXI 12 14), 
  (12, aCmp 15 (fun x y => z_ne x y) 94), (15, aLR 16 0), (16, aGR 19 6 [11]), (19, aLI 20 1), (20, aXI 21 14), (21, aLR 22 0), (22, aGR 25 6 [11]), 
  (25, aLI 26 2), (26, aXI 27 14), (27, aCmp 30 (fun x y => z_ne x y) 94), (30, aLR 31 0), (31, aGR 34 7 [11]), (34, aLI 35 1), (35, aXI 36 14), 
  (36, aLR 37 0), (37, aGR 40 7 [11]), (40, aLI 41 2), (41, aXI 42 14), (42, aCmp 45 (fun x y => z_ne x y) 94), (45, aLR 46 0), (46, aGR 49 8 [11]), 
  (49, aLI 50 1), (50, aXI 51 15), (51, aLR 52 0), (52, aGR 55 8 [11]), (55, aLI 56 2), (56, aXI 57 15), (57, aCmp 60 (fun x y => z_ne x y) 94), 
  (60, aLR 61 0), (61, aGR 64 9 [11]), (64, aLI 65 1), (65, aXI 66 14), (66, aLR 67 0), (67, aGR 70 9 [11]), (70, aLI 71 2), (71, aXI 72 14), 
  (72, aCmp 75 (fun x y => z_ne x y) 94), (75, aLR 76 0), (76, aGR 79 11 [11]), (79, aLI 80 1), (80, aXI 81 14), (81, aLR 82 0), (82, aGR 85 11 [11]), 
  (85, aLI 86 2), (86, aXI 87 14), (87, aCmp 90 (fun x y => z_ne x y) 94), (90, aCI 91 1), (91, aGo 95), (94, aCI 95 0), (95, aSI 96 3), 
  (96, aCI 97 0), (97, aSI 99 4), (99, aLI 101 4), (101, aLR 102 0), (102, aGR 105 9 [11]), (105, aLI 106 1), (106, aXI 107 14), 
  (107, aCmp 110 (fun x y => z_le y x) 153), (110, aLI 111 3), (111, aIf 114 (fun x => z_eq x 0) 153), (114, aLR 115 0), (115, aGR 118 10 [11]), 
  (118, aCI 120 9), (120, aLI 121 1), (121, aB 122 (fun x y => x * y)), (122, aLI 124 4), (124, aB 125 (fun x y => x + y)), (125, aXI 126 14), 
  (126, aLR 127 0), (127, aGR 130 10 [11]), (130, aCI 132 9), (132, aLI 133 2), (133, aB 134 (fun x y => x * y)), (134, aLI 136 4), 
  (136, aB 137 (fun x y => x + y)), (137, aXI 138 14), (138, aCmp 141 (fun x y => z_ne x y) 145), (141, aCI 142 1), (142, aGo 146), (145, aCI 146 0), 
  (146, aSI 147 3), (147, aInc 150 4 1), (150, aGo 99), (153, aCI 154 0), (154, aSI 156 4), (156, aLI 158 4), (158, aLR 159 0), (159, aGR 162 11 [11]), 
  (162, aLI 163 1), (163, aXI 164 14), (164, aCmp 167 (fun x y => z_le y x) 212), (167, aLI 168 3), (168, aIf 171 (fun x => z_eq x 0) 212), 
  (171, aLR 172 0), (172, aGR 175 12 [11]), (175, aCI 178 256), (178, aLI 179 1), (179, aB 180 (fun x y => x * y)), (180, aLI 182 4), 
  (182, aB 183 (fun x y => x + y)), (183, aXI 184 14), (184, aLR 185 0), (185, aGR 188 12 [11]), (188, aCI 191 256), (191, aLI 192 2), 
  (192, aB 193 (fun x y => x * y)), (193, aLI 195 4), (195, aB 196 (fun x y => x + y)), (196, aXI 197 14), (197, aCmp 200 (fun x y => z_ne x y) 204), 
  (200, aCI 201 1), (201, aGo 205), (204, aCI 205 0), (205, aSI 206 3), (206, aInc 209 4 1), (209, aGo 156), (212, aLI 213 3), (213, aRZ)]
def mQ_equal : Nat := 102
noncomputable def tQ_equal : List (Nat × zA) := [
  (0, aLR 1 0), (1, aLI 2 1), (2, aCallV 5 1 12 2 [11]), (5, aIf 8 (fun x => z_eq x 0) 16), (8, aLR 9 0), (9, aLI 10 2), (10, aCallV 13 1 12 2 [11]), 
  (13, aIf 16 (fun x => z_ne x 0) 22), (16, aLR 17 0), (17, aCI 18 (-1)), (18, aCallV 21 1 9 2 [11]), (21, aRI), (22, aLR 23 0), (23, aGR 26 2 [11]), 
  (26, aLI 27 1), (27, aXI 28 14), (28, aLR 29 0), (29, aGR 32 2 [11]), (32, aLI 33 2), (33, aXI 34 14), (34, aCmp 37 (fun x y => z_ne x y) 41), 
  (37, aCI 38 1), (38, aGo 42), (41, aCI 42 0), (42, aSI 43 3), (43, aCI 44 0), (44, aSI 46 4), (46, aLI 48 4), (48, aLR 49 0), (49, aGR 52 2 [11]), 
  (52, aLI 53 1), (53, aXI 54 14), (54, aCmp 57 (fun x y => z_le y x) 86), (57, aLI 58 3), (58, aIf 61 (fun x => z_eq x 0) 86), (61, aLR 62 0), 
  (62, aLR 63 0), (63, aLI 64 1), (64, aLI 66 4), (66, aCallV 69 1 14 3 [11]), (69, aLR 70 0), (70, aLI 71 2), (71, aLI 73 4), 
  (73, aCallV 76 1 14 3 [11]), (76, aCallV 79 1 101 3 [11]), (79, aSI 80 3), (80, aInc 83 4 1), (83, aGo 46), (86, aLR 87 0), (87, aLI 88 3), 
  (88, aIf 91 (fun x => z_eq x 0) 95), (91, aCI 92 1), (92, aGo 96), (95, aCI 96 0), (96, aCallV 99 1 11 2 [11]), (99, aRI)]
def mQ_digest : Nat := 103
noncomputable def tQ_digest : List (Nat × zA) := [
  (0, aLR 1 0), (1, aLI 2 1), (2, aCallV 5 1 12 2 [11]), (5, aIf 8 (fun x => z_ne x 0) 16), (8, aLR 9 0), (9, aCI 10 (-1)), (10, aCallV 13 1 9 2 [11]), 
  (13, aPop 14), (14, aCJ 15 0), (15, aRJ), (16, aCI 18 7), (18, aSI 19 2), (19, aCI 20 0), (20, aSI 21 3), (21, aLI 22 3), (22, aLR 23 0), 
  (23, aGR 26 2 [11]), (26, aLI 27 1), (27, aXI 28 14), (28, aCmp 31 (fun x y => z_le y x) 114), (31, aLR 32 0), (32, aLI 33 1), (33, aLI 34 3), 
  (34, aCallV 37 1 14 3 [11]), (37, aSI 39 4), (39, aLI 40 2), (40, aCI 42 31), (42, aB 43 (fun x y => x * y)), (43, aLR 44 0), (44, aGR 47 5 [11]), 
  (47, aLI 49 4), (49, aXI 50 14), (50, aB 51 (fun x y => x + y)), (51, aCI 53 31), (53, aB 54 (fun x y => x * y)), (54, aLR 55 0), 
  (55, aGR 58 6 [11]), (58, aLI 60 4), (60, aXI 61 14), (61, aB 62 (fun x y => x + y)), (62, aCI 64 31), (64, aB 65 (fun x y => x * y)), 
  (65, aLR 66 0), (66, aGR 69 7 [11]), (69, aLI 71 4), (71, aXI 72 14), (72, aB 73 (fun x y => x + y)), (73, aSI 74 2), (74, aCI 75 0), (75, aSI 77 5), 
  (77, aLI 79 5), (79, aLR 80 0), (80, aLI 82 4), (82, aCallV 85 1 17 2 [11]), (85, aCmp 88 (fun x y => z_le y x) 108), (88, aLI 89 2), 
  (89, aCI 91 31), (91, aB 92 (fun x y => x * y)), (92, aLR 93 0), (93, aLI 95 4), (95, aLI 97 5), (97, aCallV 100 1 18 3 [11]), 
  (100, aB 101 (fun x y => x + y)), (101, aSI 102 2), (102, aInc 105 5 1), (105, aGo 77), (108, aInc 111 3 1), (111, aGo 21), (114, aLR 115 0), 
  (115, aLI 116 2), (116, aCallV 119 1 11 2 [11]), (119, aI2J 120), (120, aRJ)]
def mQ_count : Nat := 104
noncomputable def tQ_count : List (Nat × zA) := [
  (0, aLI 1 1), (1, aSw 120 [(0, 48), (1, 57), (2, 66), (3, 75), (4, 84), (5, 93), (6, 102), (7, 111)]), (48, aLR 49 0), (49, aLR 50 0), 
  (50, aGI 53 1 [11]), (53, aCallV 56 1 11 2 [11]), (56, aRI), (57, aLR 58 0), (58, aLR 59 0), (59, aGI 62 14 [11]), (62, aCallV 65 1 11 2 [11]), 
  (65, aRI), (66, aLR 67 0), (67, aLR 68 0), (68, aGI 71 23 [11]), (71, aCallV 74 1 11 2 [11]), (74, aRI), (75, aLR 76 0), (76, aLR 77 0), 
  (77, aGI 80 58 [11]), (80, aCallV 83 1 11 2 [11]), (83, aRI), (84, aLR 85 0), (85, aLR 86 0), (86, aGI 89 52 [11]), (89, aCallV 92 1 11 2 [11]), 
  (92, aRI), (93, aLR 94 0), (94, aLR 95 0), (95, aGI 98 65 [11]), (98, aCallV 101 1 11 2 [11]), (101, aRI), (102, aLR 103 0), (103, aLR 104 0), 
  (104, aGI 107 13 [11]), (107, aCallV 110 1 11 2 [11]), (110, aRI), (111, aLR 112 0), (112, aLR 113 0), (113, aGI 116 27 [11]), 
  (116, aCallV 119 1 11 2 [11]), (119, aRI), (120, aLR 121 0), (121, aCI 122 (-1)), (122, aCallV 125 1 9 2 [11]), (125, aRI)]
def mQ_strips : Nat := 105
noncomputable def tQ_strips : List (Nat × zA) := [
  (0, aLR 1 0), (1, aLI 2 1), (2, aCallV 5 1 12 2 [11]), (5, aIf 8 (fun x => z_eq x 0) 21), (8, aLR 9 0), (9, aLR 10 0), (10, aGR 13 2 [11]), 
  (13, aLI 14 1), (14, aXI 15 14), (15, aCallV 18 1 11 2 [11]), (18, aGo 26), (21, aLR 22 0), (22, aCI 23 (-1)), (23, aCallV 26 1 9 2 [11]), (26, aRI)]
def mQ_members : Nat := 106
noncomputable def tQ_members : List (Nat × zA) := [
  (0, aLR 1 0), (1, aLI 2 1), (2, aCallV 5 1 41 2 [11]), (5, aIf 8 (fun x => z_ne x 0) 16), (8, aLR 9 0), (9, aCI 10 (-1)), (10, aCallV 13 1 9 2 [11]), 
  (13, aGo 45), (16, aLR 17 0), (17, aGR 20 15 [11]), (20, aLI 21 1), (21, aXI 22 14), (22, aCI 24 6), (24, aCmp 27 (fun x y => z_eq x y) 35), 
  (27, aLR 28 0), (28, aCI 29 5), (29, aCallV 32 1 10 2 [11]), (32, aGo 45), (35, aLR 36 0), (36, aLR 37 0), (37, aGR 40 16 [11]), (40, aLI 41 1), 
  (41, aXI 42 14), (42, aCallV 45 1 11 2 [11]), (45, aRI)]
def mQ_trace : Nat := 107
noncomputable def tQ_trace : List (Nat × zA) := [
  (0, aLI 1 1), (1, aCI 2 0), (2, aCI 4 16), (4, aCall 7 1 8 3), (7, aIf 10 (fun x => z_eq x 0) 23), (10, aLR 11 0), (11, aLR 12 0), 
  (12, aGR 15 31 [11]), (15, aLI 16 1), (16, aXI 17 14), (17, aCallV 20 1 11 2 [11]), (20, aGo 28), (23, aLR 24 0), (24, aCI 25 (-1)), 
  (25, aCallV 28 1 9 2 [11]), (28, aRI)]
def mQ_status : Nat := 108
noncomputable def tQ_status : List (Nat × zA) := [
  (0, aLR 1 0), (1, aGI 4 0 [11]), (4, aRI)]
def mS_init : Nat := 109
noncomputable def tS_init : List (Nat × zA) := [
  (0, aLR 1 0), (1, aObj 4), (4, aLR 5 0), (5, aCI 6 0), (6, aPZ 9 6 [9]), (9, aCI 10 0), (10, aLI 12 4), (12, aCI 15 256), (15, aCall 18 1 3 2), 
  (18, aCall 21 1 2 2), (21, aSI 23 5), (23, aLR 24 0), (24, aLI 25 1), (25, aPI 28 0 [9]), (28, aLR 29 0), (29, aLI 30 2), (30, aPI 33 1 [9]), 
  (33, aLR 34 0), (34, aLI 35 3), (35, aPI 38 2 [9]), (38, aLR 39 0), (39, aLI 40 1), (40, aIf 43 (fun x => z_ne x 0) 47), (43, aCI 44 0), 
  (44, aGo 57), (47, aLI 48 1), (48, aCI 49 3), (49, aCmp 52 (fun x y => z_ne x y) 56), (52, aCI 53 2), (53, aGo 57), (56, aCI 57 1), 
  (57, aPI 60 3 [9]), (60, aLR 61 0), (61, aCI 63 9), (63, aLI 65 5), (65, aLR 66 0), (66, aGI 69 3 [9]), (69, aB 70 (fun x y => x <<< (y &&& 31))), 
  (70, aB 71 (fun x y => x + y)), (71, aPI 74 5 [9]), (74, aLR 75 0), (75, aLR 76 0), (76, aGI 79 5 [9]), (79, aNewA 81 12), (81, aPR 84 4 [9]), 
  (84, aRV)]
def mS_elements : Nat := 110
noncomputable def tS_elements : List (Nat × zA) := [
  (0, aLR 1 0), (1, aGI 4 5 [9]), (4, aCI 6 9), (6, aCmp 9 (fun x y => z_le x y) 24), (9, aLR 10 0), (10, aGI 13 5 [9]), (13, aCI 15 9), 
  (15, aB 16 (fun x y => x - y)), (16, aLR 17 0), (17, aGI 20 3 [9]), (20, aB 21 (fun x y => x >>> (y &&& 31))), (21, aGo 25), (24, aCI 25 0), 
  (25, aRI)]
def mS_numberAt : Nat := 111
noncomputable def tS_numberAt : List (Nat × zA) := [
  (0, aCI 1 0), (1, aSI 2 3), (2, aLI 3 1), (3, aSI 5 4), (5, aLI 7 4), (7, aLI 8 1), (8, aLI 9 2), (9, aB 10 (fun x y => x + y)), 
  (10, aCmp 13 (fun x y => z_le y x) 62), (13, aLI 15 4), (15, aLR 16 0), (16, aGR 19 4 [9]), (19, aALen 20 [12]), 
  (20, aCmp 23 (fun x y => z_le y x) 62), (23, aLI 25 4), (25, aLI 26 1), (26, aCmp 29 (fun x y => z_ne x y) 39), (29, aLR 30 0), (30, aGR 33 4 [9]), 
  (33, aLI 35 4), (35, aXI 36 12), (36, aGo 55), (39, aLI 40 3), (40, aCI 42 8), (42, aB 43 (fun x y => x <<< (y &&& 31))), (43, aLR 44 0), 
  (44, aGR 47 4 [9]), (47, aLI 49 4), (49, aXI 50 12), (50, aCI 53 255), (53, aB 54 (fun x y => x &&& y)), (54, aB 55 (fun x y => x ||| y)), 
  (55, aSI 56 3), (56, aInc 59 4 1), (59, aGo 5), (62, aLI 63 3), (63, aRI)]
def mS_writeNumber : Nat := 112
noncomputable def tS_writeNumber : List (Nat × zA) := [
  (0, aLI 1 3), (1, aSI 3 4), (3, aLI 4 1), (4, aLI 5 2), (5, aB 6 (fun x y => x + y)), (6, aCI 7 1), (7, aB 8 (fun x y => x - y)), (8, aSI 10 5), 
  (10, aLI 12 5), (12, aLI 13 1), (13, aCmp 16 (fun x y => z_lt x y) 49), (16, aLI 18 5), (18, aLR 19 0), (19, aGR 22 4 [9]), (22, aALen 23 [12]), 
  (23, aCmp 26 (fun x y => z_le y x) 49), (26, aLR 27 0), (27, aGR 30 4 [9]), (30, aLI 32 5), (32, aLI 34 4), (34, aII 35 (fun x => x.toInt8.toInt32)), 
  (35, aYB 36), (36, aLI 38 4), (38, aCI 40 8), (40, aB 41 (fun x y => x >>> (y &&& 31))), (41, aSI 43 4), (43, aInc 46 5 (-1)), (46, aGo 10), 
  (49, aRV)]
def mS_elementAt : Nat := 113
noncomputable def tS_elementAt : List (Nat × zA) := [
  (0, aLR 1 0), (1, aCI 3 9), (3, aLI 4 1), (4, aLR 5 0), (5, aGI 8 3 [9]), (8, aB 9 (fun x y => x <<< (y &&& 31))), (9, aB 10 (fun x y => x + y)), 
  (10, aCI 11 1), (11, aLR 12 0), (12, aGI 15 3 [9]), (15, aB 16 (fun x y => x <<< (y &&& 31))), (16, aCallV 19 1 111 3 [9]), (19, aSI 20 2), 
  (20, aLR 21 0), (21, aGI 24 0 [9]), (24, aCI 25 2), (25, aCmp 28 (fun x y => z_ne x y) 35), (28, aLI 29 2), (29, aCI 31 65535), 
  (31, aB 32 (fun x y => x &&& y)), (32, aGo 36), (35, aLI 36 2), (36, aRI)]
def mS_putElement : Nat := 114
noncomputable def tS_putElement : List (Nat × zA) := [
  (0, aLR 1 0), (1, aCI 3 9), (3, aLI 4 1), (4, aLR 5 0), (5, aGI 8 3 [9]), (8, aB 9 (fun x y => x <<< (y &&& 31))), (9, aB 10 (fun x y => x + y)), 
  (10, aCI 11 1), (11, aLR 12 0), (12, aGI 15 3 [9]), (15, aB 16 (fun x y => x <<< (y &&& 31))), (16, aLI 17 2), (17, aCallV 20 0 112 4 [9]), 
  (20, aRV)]
def mS_sumNow : Nat := 115
noncomputable def tS_sumNow : List (Nat × zA) := [
  (0, aCI 1 1), (1, aSI 2 1), (2, aCI 3 0), (3, aSI 4 2), (4, aLI 5 2), (5, aLR 6 0), (6, aGI 9 5 [9]), (9, aCmp 12 (fun x y => z_le y x) 41), 
  (12, aLI 13 2), (13, aCI 14 5), (14, aCmp 17 (fun x y => z_lt x y) 23), (17, aLI 18 2), (18, aCI 20 9), (20, aCmp 23 (fun x y => z_lt x y) 35), 
  (23, aLI 24 1), (24, aCI 26 31), (26, aB 27 (fun x y => x * y)), (27, aLR 28 0), (28, aGR 31 4 [9]), (31, aLI 32 2), (32, aXI 33 12), 
  (33, aB 34 (fun x y => x + y)), (34, aSI 35 1), (35, aInc 38 2 1), (38, aGo 4), (41, aLI 42 1), (42, aRI)]
def mS_writeHead : Nat := 116
noncomputable def tS_writeHead : List (Nat × zA) := [
  (0, aLR 1 0), (1, aLR 2 0), (2, aGI 5 5 [9]), (5, aCI 7 9), (7, aCall 10 1 2 2), (10, aPI 13 5 [9]), (13, aLR 14 0), (14, aCI 15 0), (15, aCI 16 1), 
  (16, aLR 17 0), (17, aGI 20 0 [9]), (20, aCallV 23 0 112 4 [9]), (23, aLR 24 0), (24, aCI 25 1), (25, aCI 26 2), (26, aLR 27 0), (27, aGI 30 1 [9]), 
  (30, aCallV 33 0 112 4 [9]), (33, aLR 34 0), (34, aCI 35 3), (35, aCI 36 2), (36, aLR 37 0), (37, aCallV 40 1 110 1 [9]), 
  (40, aCallV 43 0 112 4 [9]), (43, aLR 44 0), (44, aCI 45 5), (45, aCI 46 4), (46, aLR 47 0), (47, aCallV 50 1 115 1 [9]), 
  (50, aCallV 53 0 112 4 [9]), (53, aRV)]
def mS_verdict : Nat := 117
noncomputable def tS_verdict : List (Nat × zA) := [
  (0, aLR 1 0), (1, aGI 4 6 [9]), (4, aIf 7 (fun x => z_eq x 0) 9), (7, aCI 8 1), (8, aRI), (9, aLR 10 0), (10, aGI 13 5 [9]), (13, aCI 15 9), 
  (15, aCmp 18 (fun x y => z_le y x) 20), (18, aCI 19 2), (19, aRI), (20, aLR 21 0), (21, aCI 22 0), (22, aCI 23 1), (23, aCallV 26 1 111 3 [9]), 
  (26, aLR 27 0), (27, aGI 30 0 [9]), (30, aCmp 33 (fun x y => z_eq x y) 35), (33, aCI 34 5), (34, aRI), (35, aLR 36 0), (36, aCI 37 3), 
  (37, aCI 38 2), (38, aCallV 41 1 111 3 [9]), (41, aSI 42 1), (42, aLI 43 1), (43, aLR 44 0), (44, aCallV 47 1 110 1 [9]), 
  (47, aCmp 50 (fun x y => z_le x y) 53), (50, aCI 52 7), (52, aRI), (53, aLI 54 1), (54, aIf 57 (fun x => z_le 0 x) 59), (57, aCI 58 3), (58, aRI), 
  (59, aLI 60 1), (60, aLR 61 0), (61, aCallV 64 1 110 1 [9]), (64, aCmp 67 (fun x y => z_le y x) 70), (67, aCI 69 8), (69, aRI), (70, aLR 71 0), 
  (71, aCI 72 5), (72, aCI 73 4), (73, aCallV 76 1 111 3 [9]), (76, aLR 77 0), (77, aCallV 80 1 115 1 [9]), (80, aCmp 83 (fun x y => z_ne x y) 87), 
  (83, aCI 84 0), (84, aGo 89), (87, aCI 89 9), (89, aRI)]
def mS_dropAll : Nat := 118
noncomputable def tS_dropAll : List (Nat × zA) := [
  (0, aLR 1 0), (1, aCI 2 1), (2, aPZ 5 6 [9]), (5, aLR 6 0), (6, aCI 7 0), (7, aPI 10 5 [9]), (10, aRV)]
def mS_keepFirst : Nat := 119
noncomputable def tS_keepFirst : List (Nat × zA) := [
  (0, aLI 1 1), (1, aLR 2 0), (2, aGI 5 5 [9]), (5, aCmp 8 (fun x y => z_lt x y) 9), (8, aRV), (9, aLR 10 0), (10, aLI 11 1), (11, aCI 13 9), 
  (13, aCmp 16 (fun x y => z_lt y x) 20), (16, aLI 17 1), (17, aGo 37), (20, aCI 22 9), (22, aLI 23 1), (23, aCI 25 9), (25, aB 26 (fun x y => x - y)), 
  (26, aLR 27 0), (27, aGI 30 3 [9]), (30, aB 31 (fun x y => x >>> (y &&& 31))), (31, aLR 32 0), (32, aGI 35 3 [9]), 
  (35, aB 36 (fun x y => x <<< (y &&& 31))), (36, aB 37 (fun x y => x + y)), (37, aPI 40 5 [9]), (40, aRV)]
def mS_takeBytes : Nat := 120
noncomputable def tS_takeBytes : List (Nat × zA) := [
  (0, aLR 1 1), (1, aGI 4 5 [9]), (4, aLR 5 0), (5, aGR 8 4 [9]), (8, aALen 9 [12]), (9, aCmp 12 (fun x y => z_le x y) 29), (12, aLR 13 0), 
  (13, aCI 15 9), (15, aCI 18 256), (18, aLR 19 0), (19, aGI 22 3 [9]), (22, aB 23 (fun x y => x <<< (y &&& 31))), (23, aB 24 (fun x y => x + y)), 
  (24, aNewA 26 12), (26, aPR 29 4 [9]), (29, aLR 30 0), (30, aLR 31 1), (31, aGI 34 5 [9]), (34, aLR 35 0), (35, aGR 38 4 [9]), (38, aALen 39 [12]), 
  (39, aCall 42 1 3 2), (42, aPI 45 5 [9]), (45, aLR 46 1), (46, aGR 49 4 [9]), (49, aCI 50 0), (50, aLR 51 0), (51, aGR 54 4 [9]), (54, aCI 55 0), 
  (55, aLR 56 0), (56, aGI 59 5 [9]), (59, aCopy 62), (62, aLR 63 0), (63, aLR 64 1), (64, aGI 67 6 [9]), (67, aPZ 70 6 [9]), (70, aRV)]
def mS_twin : Nat := 121
noncomputable def tS_twin : List (Nat × zA) := [
  (0, aNew 3 9 7), (3, aDup 4), (4, aLR 5 0), (5, aGI 8 0 [9]), (8, aLR 9 0), (9, aGI 12 1 [9]), (12, aLR 13 0), (13, aGI 16 2 [9]), (16, aLR 17 0), 
  (17, aCallV 20 1 110 1 [9]), (20, aCallV 23 0 109 5 [9]), (23, aSR 24 1), (24, aLR 25 1), (25, aLR 26 0), (26, aCallV 29 0 120 2 [9]), 
  (29, aLR 30 1), (30, aRR)]
def mS_hasSpan : Nat := 122
noncomputable def tS_hasSpan : List (Nat × zA) := [
  (0, aLI 1 2), (1, aIf 4 (fun x => z_lt x 0) 22), (4, aLI 5 1), (5, aIf 8 (fun x => z_lt x 0) 22), (8, aLI 9 1), (9, aLR 10 0), 
  (10, aCallV 13 1 110 1 [9]), (13, aLI 14 2), (14, aB 15 (fun x y => x - y)), (15, aCmp 18 (fun x y => z_lt y x) 22), (18, aCI 19 1), (19, aGo 23), 
  (22, aCI 23 0), (23, aRZ)]
def mS_takeElements : Nat := 123
noncomputable def tS_takeElements : List (Nat × zA) := [
  (0, aLR 1 2), (1, aGR 4 4 [9]), (4, aCI 6 9), (6, aLI 7 3), (7, aLR 8 0), (8, aGI 11 3 [9]), (11, aB 12 (fun x y => x <<< (y &&& 31))), 
  (12, aB 13 (fun x y => x + y)), (13, aLR 14 0), (14, aGR 17 4 [9]), (17, aCI 19 9), (19, aLI 20 1), (20, aLR 21 0), (21, aGI 24 3 [9]), 
  (24, aB 25 (fun x y => x <<< (y &&& 31))), (25, aB 26 (fun x y => x + y)), (26, aLI 28 4), (28, aLR 29 0), (29, aGI 32 3 [9]), 
  (32, aB 33 (fun x y => x <<< (y &&& 31))), (33, aCopy 36), (36, aRV)]
def mS_isLike : Nat := 124
noncomputable def tS_isLike : List (Nat × zA) := [
  (0, aLR 1 0), (1, aGI 4 0 [9]), (4, aLR 5 1), (5, aGI 8 0 [9]), (8, aCmp 11 (fun x y => z_ne x y) 33), (11, aLR 12 0), (12, aGI 15 1 [9]), 
  (15, aLR 16 1), (16, aGI 19 1 [9]), (19, aCmp 22 (fun x y => z_ne x y) 33), (22, aLR 23 0), (23, aGI 26 2 [9]), (26, aLR 27 1), (27, aGI 30 2 [9]), 
  (30, aCmp 33 (fun x y => z_eq x y) 35), (33, aCI 34 0), (34, aRZ), (35, aLR 36 0), (36, aGI 39 6 [9]), (39, aLR 40 1), (40, aGI 43 6 [9]), 
  (43, aCmp 46 (fun x y => z_ne x y) 57), (46, aLR 47 0), (47, aGI 50 5 [9]), (50, aLR 51 1), (51, aGI 54 5 [9]), 
  (54, aCmp 57 (fun x y => z_eq x y) 59), (57, aCI 58 0), (58, aRZ), (59, aCI 60 0), (60, aSI 61 2), (61, aLI 62 2), (62, aLR 63 0), 
  (63, aGI 66 5 [9]), (66, aCmp 69 (fun x y => z_le y x) 92), (69, aLR 70 0), (70, aGR 73 4 [9]), (73, aLI 74 2), (74, aXI 75 12), (75, aLR 76 1), 
  (76, aGR 79 4 [9]), (79, aLI 80 2), (80, aXI 81 12), (81, aCmp 84 (fun x y => z_eq x y) 86), (84, aCI 85 0), (85, aRZ), (86, aInc 89 2 1), 
  (89, aGo 61), (92, aCI 93 1), (93, aRZ)]
def mS_digestOnto : Nat := 125
noncomputable def tS_digestOnto : List (Nat × zA) := [
  (0, aLI 1 1), (1, aCI 3 31), (3, aB 4 (fun x y => x * y)), (4, aLR 5 0), (5, aGI 8 0 [9]), (8, aB 9 (fun x y => x + y)), (9, aSI 10 2), 
  (10, aLI 11 2), (11, aCI 13 31), (13, aB 14 (fun x y => x * y)), (14, aLR 15 0), (15, aGI 18 1 [9]), (18, aB 19 (fun x y => x + y)), (19, aSI 20 2), 
  (20, aLI 21 2), (21, aCI 23 31), (23, aB 24 (fun x y => x * y)), (24, aLR 25 0), (25, aGI 28 2 [9]), (28, aB 29 (fun x y => x + y)), (29, aSI 30 2), 
  (30, aCI 31 0), (31, aSI 32 3), (32, aLI 33 3), (33, aLR 34 0), (34, aGI 37 5 [9]), (37, aCmp 40 (fun x y => z_le y x) 58), (40, aLI 41 2), 
  (41, aCI 43 31), (43, aB 44 (fun x y => x * y)), (44, aLR 45 0), (45, aGR 48 4 [9]), (48, aLI 49 3), (49, aXI 50 12), (50, aB 51 (fun x y => x + y)), 
  (51, aSI 52 2), (52, aInc 55 3 1), (55, aGo 32), (58, aLI 59 2), (59, aRI)]
def mL_init : Nat := 126
noncomputable def tL_init : List (Nat × zA) := [
  (0, aLR 1 0), (1, aObj 4), (4, aLR 5 0), (5, aCI 8 400), (8, aNewA 11 18), (11, aPR 14 0 [8]), (14, aLR 15 0), (15, aCI 16 0), (16, aPI 19 1 [8]), 
  (19, aRV)]
def mL_stripAt : Nat := 127
noncomputable def tL_stripAt : List (Nat × zA) := [
  (0, aLI 1 1), (1, aIf 4 (fun x => z_lt x 0) 28), (4, aLI 5 1), (5, aLR 6 0), (6, aGI 9 1 [8]), (9, aCmp 12 (fun x y => z_le y x) 28), (12, aLI 13 1), 
  (13, aCI 16 400), (16, aCmp 19 (fun x y => z_le y x) 28), (19, aLR 20 0), (20, aGR 23 0 [8]), (23, aLI 24 1), (24, aXR 25 18), (25, aGo 29), 
  (28, aNull 29), (29, aRR)]
def mL_isWhole : Nat := 128
noncomputable def tL_isWhole : List (Nat × zA) := [
  (0, aLR 1 0), (1, aLI 2 1), (2, aCallV 5 4 127 2 [8]), (5, aSR 6 2), (6, aLR 7 2), (7, aNul 10 21), (10, aLR 11 2), (11, aCallV 14 1 117 1 [9]), 
  (14, aIf 17 (fun x => z_ne x 0) 21), (17, aCI 18 1), (18, aGo 22), (21, aCI 22 0), (22, aRZ)]
def mL_append : Nat := 129
noncomputable def tL_append : List (Nat × zA) := [
  (0, aLR 1 0), (1, aGI 4 1 [8]), (4, aCI 7 400), (7, aCmp 10 (fun x y => z_lt x y) 11), (10, aRV), (11, aLR 12 0), (12, aGR 15 0 [8]), (15, aLR 16 0), 
  (16, aGI 19 1 [8]), (19, aLR 20 1), (20, aYR 21 18 [9]), (21, aLR 22 0), (22, aDup 23), (23, aGI 26 1 [8]), (26, aCI 27 1), 
  (27, aB 28 (fun x y => x + y)), (28, aPI 31 1 [8]), (31, aRV)]
def mL_put : Nat := 130
noncomputable def tL_put : List (Nat × zA) := [
  (0, aLI 1 1), (1, aIf 4 (fun x => z_lt x 0) 26), (4, aLI 5 1), (5, aLR 6 0), (6, aGI 9 1 [8]), (9, aCmp 12 (fun x y => z_le y x) 26), (12, aLI 13 1), 
  (13, aCI 16 400), (16, aCmp 19 (fun x y => z_le y x) 26), (19, aLR 20 0), (20, aGR 23 0 [8]), (23, aLI 24 1), (24, aLR 25 2), (25, aYR 26 18 [9]), 
  (26, aRV)]
def mL_makeRoom : Nat := 131
noncomputable def tL_makeRoom : List (Nat × zA) := [
  (0, aLI 1 1), (1, aIf 4 (fun x => z_lt x 0) 20), (4, aLI 5 2), (5, aIf 8 (fun x => z_lt x 0) 20), (8, aLI 9 2), (9, aCI 12 400), (12, aLR 13 0), 
  (13, aGI 16 1 [8]), (16, aB 17 (fun x y => x - y)), (17, aCmp 20 (fun x y => z_le x y) 21), (20, aRV), (21, aLR 22 0), (22, aGI 25 1 [8]), 
  (25, aCI 26 1), (26, aB 27 (fun x y => x - y)), (27, aSI 28 3), (28, aLI 29 3), (29, aLI 30 1), (30, aCmp 33 (fun x y => z_lt x y) 53), 
  (33, aLR 34 0), (34, aGR 37 0 [8]), (37, aLI 38 3), (38, aLI 39 2), (39, aB 40 (fun x y => x + y)), (40, aLR 41 0), (41, aGR 44 0 [8]), 
  (44, aLI 45 3), (45, aXR 46 18), (46, aYR 47 18 [9]), (47, aInc 50 3 (-1)), (50, aGo 28), (53, aLR 54 0), (54, aDup 55), (55, aGI 58 1 [8]), 
  (58, aLI 59 2), (59, aB 60 (fun x y => x + y)), (60, aPI 63 1 [8]), (63, aRV)]
def mL_elementsIn : Nat := 132
noncomputable def tL_elementsIn : List (Nat × zA) := [
  (0, aCI 1 0), (1, aSI 2 3), (2, aCI 3 0), (3, aSI 5 4), (5, aLI 7 4), (7, aLI 8 2), (8, aCmp 11 (fun x y => z_le y x) 40), (11, aLR 12 0), 
  (12, aLI 13 1), (13, aLI 15 4), (15, aB 16 (fun x y => x + y)), (16, aCallV 19 4 127 2 [8]), (19, aSR 21 5), (21, aLR 23 5), (23, aNul 26 34), 
  (26, aLI 27 3), (27, aLR 29 5), (29, aCallV 32 1 110 1 [9]), (32, aB 33 (fun x y => x + y)), (33, aSI 34 3), (34, aInc 37 4 1), (37, aGo 5), 
  (40, aLI 41 3), (41, aRI)]
def mL_splitAt : Nat := 133
noncomputable def tL_splitAt : List (Nat × zA) := [
  (0, aNew 3 8 2), (3, aDup 4), (4, aCallV 7 0 126 1 [8]), (7, aSR 8 2), (8, aLI 9 1), (9, aCI 10 0), (10, aCall 13 1 2 2), (13, aSI 14 3), 
  (14, aLI 15 3), (15, aSI 17 4), (17, aLI 19 4), (19, aLR 20 0), (20, aGI 23 1 [8]), (23, aCmp 26 (fun x y => z_le y x) 42), (26, aLR 27 2), 
  (27, aLR 28 0), (28, aLI 30 4), (30, aCallV 33 4 127 2 [8]), (33, aCallV 36 0 129 2 [8]), (36, aInc 39 4 1), (39, aGo 17), (42, aLR 43 0), 
  (43, aLI 44 3), (44, aLR 45 0), (45, aGI 48 1 [8]), (48, aCall 51 1 3 2), (51, aPI 54 1 [8]), (54, aLR 55 2), (55, aRR)]
def mN_init : Nat := 134
noncomputable def tN_init : List (Nat × zA) := [
  (0, aLR 1 0), (1, aObj 4), (4, aLR 5 0), (5, aCI 6 1), (6, aPI 9 2 [0, 1, 2, 3, 5, 6, 7]), (9, aLR 10 0), (10, aCI 11 1), 
  (11, aPI 14 3 [0, 1, 2, 3, 5, 6, 7]), (14, aLR 15 0), (15, aCI 16 1), (16, aPI 19 4 [0, 1, 2, 3, 5, 6, 7]), (19, aLR 20 0), (20, aLI 21 1), 
  (21, aPI 24 0 [0, 1, 2, 3, 5, 6, 7]), (24, aLR 25 0), (25, aLI 26 2), (26, aPI 29 1 [0, 1, 2, 3, 5, 6, 7]), (29, aRV)]
def mN_pitch : Nat := 135
noncomputable def tN_pitch : List (Nat × zA) := [
  (0, aCD 3 13830554455654793216), (3, aRD)]
def mN_ratioOf : Nat := 136
noncomputable def tN_ratioOf : List (Nat × zA) := [
  (0, aLR 1 0), (1, aGI 4 4 [0, 1, 2, 3, 5, 6, 7]), (4, aIf 7 (fun x => z_ne x 0) 13), (7, aCD 10 13830554455654793216), (10, aGo 26), (13, aLD 14 1), 
  (14, aLR 15 0), (15, aGI 18 3 [0, 1, 2, 3, 5, 6, 7]), (18, aI2D 19), (19, aLR 20 0), (20, aGI 23 4 [0, 1, 2, 3, 5, 6, 7]), (23, aI2D 24), 
  (24, aDD 25 zf_div.1), (25, aDD 26 zf_mul.1), (26, aRD)]
def mN_isOf : Nat := 137
noncomputable def tN_isOf : List (Nat × zA) := [
  (0, aLI 1 1), (1, aCI 3 7), (3, aCmp 6 (fun x y => z_eq x y) 14), (6, aLI 7 1), (7, aLR 8 0), (8, aGI 11 1 [0, 1, 2, 3, 5, 6, 7]), 
  (11, aCmp 14 (fun x y => z_ne x y) 16), (14, aCI 15 1), (15, aRZ), (16, aLI 17 1), (17, aIf 20 (fun x => z_ne x 0) 42), (20, aLR 21 0), 
  (21, aGI 24 1 [0, 1, 2, 3, 5, 6, 7]), (24, aCI 25 1), (25, aCmp 28 (fun x y => z_eq x y) 36), (28, aLR 29 0), (29, aGI 32 1 [0, 1, 2, 3, 5, 6, 7]), 
  (32, aCI 33 2), (33, aCmp 36 (fun x y => z_ne x y) 40), (36, aCI 37 1), (37, aGo 41), (40, aCI 41 0), (41, aRZ), (42, aLI 43 1), (43, aCI 44 1), 
  (44, aCmp 47 (fun x y => z_ne x y) 61), (47, aLR 48 0), (48, aGI 51 1 [0, 1, 2, 3, 5, 6, 7]), (51, aCI 52 2), (52, aCmp 55 (fun x y => z_ne x y) 59), 
  (55, aCI 56 1), (56, aGo 60), (59, aCI 60 0), (60, aRZ), (61, aLI 62 1), (62, aCI 63 4), (63, aCmp 66 (fun x y => z_ne x y) 78), (66, aLR 67 0), 
  (67, aGI 70 1 [0, 1, 2, 3, 5, 6, 7]), (70, aCI 71 5), (71, aCmp 74 (fun x y => z_ne x y) 78), (74, aCI 75 1), (75, aGo 79), (78, aCI 79 0), 
  (79, aRZ)]
def mN_timesWithin : Nat := 138
noncomputable def tN_timesWithin : List (Nat × zA) := [
  (0, aLR 1 0), (1, aGI 4 0 [0, 1, 2, 3, 5, 6, 7]), (4, aLI 5 1), (5, aCmp 8 (fun x y => z_ne x y) 12), (8, aCI 9 1), (9, aGo 13), (12, aCI 13 0), 
  (13, aRI)]
def mPipe_init : Nat := 139
noncomputable def tPipe_init : List (Nat × zA) := [
  (0, aLR 1 0), (1, aLI 2 1), (2, aLI 3 2), (3, aCallV 6 0 134 3 [0, 1, 2, 3, 5, 6, 7]), (6, aRV)]
def mPipe_air : Nat := 140
noncomputable def tPipe_air : List (Nat × zA) := [
  (0, aLR 1 2), (1, aCI 3 6), (3, aDup2 4), (4, aXI 5 14), (5, aCI 6 1), (6, aB 7 (fun x y => x + y)), (7, aYI 8), (8, aCI 9 3), (9, aLI 10 1), 
  (10, aB 11 (fun x y => x + y)), (11, aRI)]
def mPipe_loudness : Nat := 141
noncomputable def tPipe_loudness : List (Nat × zA) := [
  (0, aLR 2 4), (2, aCI 3 0), (3, aDup2 4), (4, aXI 5 14), (5, aCI 6 1), (6, aB 7 (fun x y => x + y)), (7, aYI 8), (8, aLI 9 1), (9, aLR 10 0), 
  (10, aLI 11 3), (11, aLR 13 4), (13, aCallU 16 1 3 [(0, 147), (5, 140), (7, 140)]), (16, aB 17 (fun x y => x + y)), (17, aRI)]
def mPipe_pitch : Nat := 142
noncomputable def tPipe_pitch : List (Nat × zA) := [
  (0, aLR 1 3), (1, aCI 3 8), (3, aDup2 4), (4, aXI 5 14), (5, aCI 6 1), (6, aB 7 (fun x y => x + y)), (7, aYI 8), (8, aLR 9 0), (9, aLD 10 1), 
  (10, aCallU 13 3 2 [(0, 136), (5, 136), (7, 136)]), (13, aRD)]
def mReed_init : Nat := 143
noncomputable def tReed_init : List (Nat × zA) := [
  (0, aLR 1 0), (1, aLI 2 1), (2, aLI 3 2), (3, aCallV 6 0 139 3 [0, 5, 7]), (6, aRV)]
def mReed_loudness : Nat := 144
noncomputable def tReed_loudness : List (Nat × zA) := [
  (0, aLR 2 4), (2, aCI 3 1), (3, aDup2 4), (4, aXI 5 14), (5, aCI 6 1), (6, aB 7 (fun x y => x + y)), (7, aYI 8), (8, aLR 9 0), (9, aLI 10 1), 
  (10, aLI 11 2), (11, aLI 12 3), (12, aLR 14 4), (14, aCallV 17 1 141 5 [0, 5, 7]), (17, aCI 19 7), (19, aB 20 (fun x y => x + y)), (20, aRI)]
def mReed_pitch : Nat := 145
noncomputable def tReed_pitch : List (Nat × zA) := [
  (0, aLR 1 3), (1, aCI 3 9), (3, aDup2 4), (4, aXI 5 14), (5, aCI 6 1), (6, aB 7 (fun x y => x + y)), (7, aYI 8), (8, aLR 9 0), (9, aLD 10 1), 
  (10, aLR 11 3), (11, aLI 13 4), (13, aCallV 16 3 142 4 [0, 5, 7]), (16, aSD 18 5), (18, aLD 20 5), (20, aCD 21 0), (21, aDcmp 22 .g), 
  (22, aIf 25 (fun x => z_le 0 x) 30), (25, aLD 27 5), (27, aGo 36), (30, aLD 32 5), (32, aCD 35 4611686018427387904), (35, aDD 36 zf_div.1), 
  (36, aRD)]
def mBass_init : Nat := 146
noncomputable def tBass_init : List (Nat × zA) := [
  (0, aLR 1 0), (1, aLI 2 1), (2, aCI 3 2), (3, aCallV 6 0 143 3 [0, 7]), (6, aRV)]
def mBass_air : Nat := 147
noncomputable def tBass_air : List (Nat × zA) := [
  (0, aLR 1 2), (1, aCI 3 7), (3, aDup2 4), (4, aXI 5 14), (5, aCI 6 1), (6, aB 7 (fun x y => x + y)), (7, aYI 8), (8, aCI 9 2), (9, aLR 10 0), 
  (10, aLI 11 1), (11, aLR 12 2), (12, aCallV 15 1 140 3 [0, 7]), (15, aB 16 (fun x y => x * y)), (16, aRI)]
def mBass_pitch : Nat := 148
noncomputable def tBass_pitch : List (Nat × zA) := [
  (0, aLR 1 3), (1, aCI 3 10), (3, aDup2 4), (4, aXI 5 14), (5, aCI 6 1), (6, aB 7 (fun x y => x + y)), (7, aYI 8), (8, aLR 9 0), (9, aLD 10 1), 
  (10, aLR 11 3), (11, aLI 13 4), (13, aCallV 16 3 145 4 [0, 7]), (16, aSD 18 5), (18, aLD 20 5), (20, aCD 21 0), (21, aDcmp 22 .g), 
  (22, aIf 25 (fun x => z_le 0 x) 30), (25, aLD 27 5), (27, aGo 42), (30, aLD 32 5), (32, aCD 35 4616189618054758400), (35, aDD 36 zf_mul.1), 
  (36, aD2J 37), (37, aJ2D 38), (38, aCD 41 4616189618054758400), (41, aDD 42 zf_div.1), (42, aRD)]
def mDrum_init : Nat := 149
noncomputable def tDrum_init : List (Nat × zA) := [
  (0, aLR 1 0), (1, aLI 2 1), (2, aCI 3 3), (3, aCallV 6 0 134 3 [0, 1, 2, 3, 5, 6, 7]), (6, aRV)]
def mDrum_loudness : Nat := 150
noncomputable def tDrum_loudness : List (Nat × zA) := [
  (0, aLR 2 4), (2, aCI 3 2), (3, aDup2 4), (4, aXI 5 14), (5, aCI 6 1), (6, aB 7 (fun x y => x + y)), (7, aYI 8), (8, aLI 9 2), 
  (9, aIf 12 (fun x => z_ne x 0) 18), (12, aCI 13 2), (13, aLI 14 1), (14, aB 15 (fun x y => x * y)), (15, aGo 19), (18, aCI 19 0), (19, aRI)]
def mPluck_init : Nat := 151
noncomputable def tPluck_init : List (Nat × zA) := [
  (0, aLR 1 0), (1, aLI 2 1), (2, aLI 3 2), (3, aCallV 6 0 134 3 [0, 1, 2, 3, 5, 6, 7]), (6, aRV)]
def mPluck_loudness : Nat := 152
noncomputable def tPluck_loudness : List (Nat × zA) := [
  (0, aLR 2 4), (2, aCI 3 3), (3, aDup2 4), (4, aXI 5 14), (5, aCI 6 1), (6, aB 7 (fun x y => x + y)), (7, aYI 8), (8, aCI 9 0), (9, aLI 10 1), 
  (10, aCI 11 5), (11, aLI 12 2), (12, aB 13 (fun x y => x * y)), (13, aB 14 (fun x y => x - y)), (14, aCall 17 1 2 2), (17, aRI)]
def mPluck_pitch : Nat := 153
noncomputable def tPluck_pitch : List (Nat × zA) := [
  (0, aLR 1 3), (1, aCI 3 11), (3, aDup2 4), (4, aXI 5 14), (5, aCI 6 1), (6, aB 7 (fun x y => x + y)), (7, aYI 8), (8, aLR 9 0), (9, aLD 10 1), 
  (10, aCallU 13 3 2 [(1, 136), (6, 136)]), (13, aSD 15 5), (15, aLD 17 5), (17, aCD 18 0), (18, aDcmp 19 .g), (19, aIf 22 (fun x => z_le 0 x) 27), 
  (22, aLD 24 5), (24, aGo 40), (27, aLD 29 5), (29, aCD 32 4620693217682128896), (32, aDD 33 zf_mul.1), (33, aCall 36 3 154 1), 
  (36, aCD 39 4620693217682128896), (39, aDD 40 zf_div.1), (40, aRD)]
def mPluck_nearest : Nat := 154
noncomputable def tPluck_nearest : List (Nat × zA) := [
  (0, aLD 1 0), (1, aD2J 2), (2, aSJ 3 2), (3, aLD 4 0), (4, aLJ 5 2), (5, aJ2D 6), (6, aDD 7 zf_sub.1), (7, aSD 9 4), (9, aLD 11 4), 
  (11, aCD 14 4602678819172646912), (14, aDcmp 15 .l), (15, aIf 18 (fun x => z_lt 0 x) 35), (18, aLD 20 4), (20, aCD 23 4602678819172646912), 
  (23, aDcmp 24 .l), (24, aIf 27 (fun x => z_ne x 0) 39), (27, aLJ 28 2), (28, aCJ 29 1), (29, aJ 30 (fun x y => x &&& y)), (30, aCJ 31 1), 
  (31, aLcmp 32), (32, aIf 35 (fun x => z_ne x 0) 39), (35, aCI 36 1), (36, aGo 40), (39, aCI 40 0), (40, aSI 42 6), (42, aLI 44 6), 
  (44, aIf 47 (fun x => z_eq x 0) 53), (47, aLJ 48 2), (48, aCJ 49 1), (49, aJ 50 (fun x y => x + y)), (50, aGo 54), (53, aLJ 54 2), (54, aJ2D 55), 
  (55, aRD)]
def mBell_init : Nat := 155
noncomputable def tBell_init : List (Nat × zA) := [
  (0, aLR 1 0), (1, aLI 2 1), (2, aCI 3 5), (3, aCallV 6 0 151 3 [1, 6]), (6, aRV)]
def mBell_loudness : Nat := 156
noncomputable def tBell_loudness : List (Nat × zA) := [
  (0, aLR 2 4), (2, aCI 3 4), (3, aDup2 4), (4, aXI 5 14), (5, aCI 6 1), (6, aB 7 (fun x y => x + y)), (7, aYI 8), (8, aLR 9 0), (9, aLI 10 1), 
  (10, aLI 11 2), (11, aCI 12 4), (12, aBz 13 (fun x y => x / y)), (13, aLI 14 3), (14, aLR 16 4), (16, aCallV 19 1 152 5 [1, 6]), (19, aCI 20 1), 
  (20, aB 21 (fun x y => x + y)), (21, aRI)]
def mBell_pitch : Nat := 157
noncomputable def tBell_pitch : List (Nat × zA) := [
  (0, aLR 1 3), (1, aCI 3 12), (3, aDup2 4), (4, aXI 5 14), (5, aCI 6 1), (6, aB 7 (fun x y => x + y)), (7, aYI 8), (8, aLR 9 0), (9, aLD 10 1), 
  (10, aLR 11 3), (11, aLI 13 4), (13, aCallV 16 3 153 4 [1, 6]), (16, aSD 18 5), (18, aLD 20 5), (20, aCD 21 0), (21, aDcmp 22 .g), 
  (22, aIf 25 (fun x => z_le 0 x) 30), (25, aLD 27 5), (27, aGo 38), (30, aLD 32 5), (32, aD2J 33), (33, aJ2D 34), (34, aCD 37 4598175219545276416), 
  (37, aDD 38 zf_add.1), (38, aRD)]
def mCoup_init : Nat := 158
noncomputable def tCoup_init : List (Nat × zA) := [
  (0, aLR 1 0), (1, aLI 2 1), (2, aCI 4 6), (4, aCallV 7 0 134 3 [0, 1, 2, 3, 5, 6, 7]), (7, aLR 8 0), (8, aCI 10 8), (10, aNewA 13 16), 
  (13, aPR 16 5 [2]), (16, aLR 17 0), (17, aCI 18 0), (18, aPI 21 6 [2]), (21, aRV)]
def mCoup_partAt : Nat := 159
noncomputable def tCoup_partAt : List (Nat × zA) := [
  (0, aLI 1 1), (1, aIf 4 (fun x => z_lt x 0) 27), (4, aLI 5 1), (5, aLR 6 0), (6, aGI 9 6 [2]), (9, aCmp 12 (fun x y => z_le y x) 27), (12, aLI 13 1), 
  (13, aCI 15 8), (15, aCmp 18 (fun x y => z_le y x) 27), (18, aLR 19 0), (19, aGR 22 5 [2]), (22, aLI 23 1), (23, aXR 24 16), (24, aGo 28), 
  (27, aNull 28), (28, aRR)]
def mCoup_append : Nat := 160
noncomputable def tCoup_append : List (Nat × zA) := [
  (0, aLR 1 0), (1, aGI 4 6 [2]), (4, aCI 6 8), (6, aCmp 9 (fun x y => z_lt x y) 10), (9, aRV), (10, aLR 11 0), (11, aGR 14 5 [2]), (14, aLR 15 0), 
  (15, aGI 18 6 [2]), (18, aLR 19 1), (19, aYR 20 16 [0, 1, 2, 3, 5, 6, 7]), (20, aLR 21 0), (21, aDup 22), (22, aGI 25 6 [2]), (25, aCI 26 1), 
  (26, aB 27 (fun x y => x + y)), (27, aPI 30 6 [2]), (30, aRV)]
def mCoup_loudness : Nat := 161
noncomputable def tCoup_loudness : List (Nat × zA) := [
  (0, aLR 2 4), (2, aCI 3 5), (3, aDup2 4), (4, aXI 5 14), (5, aCI 6 1), (6, aB 7 (fun x y => x + y)), (7, aYI 8), (8, aCI 9 0), (9, aRI)]
def mCoup_pitch : Nat := 162
noncomputable def tCoup_pitch : List (Nat × zA) := [
  (0, aLR 1 3), (1, aCI 3 13), (3, aDup2 4), (4, aXI 5 14), (5, aCI 6 1), (6, aB 7 (fun x y => x + y)), (7, aYI 8), (8, aCD 11 13830554455654793216), 
  (11, aSD 13 5), (13, aCI 14 0), (14, aSI 16 7), (16, aLI 18 7), (18, aLR 19 0), (19, aGI 22 6 [2]), (22, aCmp 25 (fun x y => z_le y x) 80), 
  (25, aLI 27 4), (27, aIf 30 (fun x => z_le x 0) 80), (30, aLR 31 0), (31, aLI 33 7), (33, aCallV 36 4 159 2 [2]), (36, aSR 38 8), (38, aLR 40 8), 
  (40, aNon 43 49), (43, aCD 46 13830554455654793216), (46, aGo 60), (49, aLR 51 8), (51, aLD 52 1), (52, aLR 53 3), (53, aLI 55 4), (55, aCI 56 1), 
  (56, aB 57 (fun x y => x - y)), (57, aCallU 60 3 4 [(0, 148), (1, 157), (2, 162), (3, 135), (5, 142), (6, 153), (7, 145)]), (60, aSD 62 9), 
  (62, aLD 64 9), (64, aLD 66 5), (66, aDcmp 67 .l), (67, aIf 70 (fun x => z_le x 0) 74), (70, aLD 72 9), (72, aSD 74 5), (74, aInc 77 7 1), 
  (77, aGo 16), (80, aLD 82 5), (82, aRD)]
def mCoup_timesWithin : Nat := 163
noncomputable def tCoup_timesWithin : List (Nat × zA) := [
  (0, aLR 1 0), (1, aGI 4 0 [2]), (4, aLI 5 1), (5, aCmp 8 (fun x y => z_ne x y) 12), (8, aCI 9 1), (9, aGo 13), (12, aCI 13 0), (13, aSI 14 3), 
  (14, aCI 15 0), (15, aSI 17 4), (17, aLI 19 4), (19, aLR 20 0), (20, aGI 23 6 [2]), (23, aCmp 26 (fun x y => z_le y x) 61), (26, aLI 27 2), 
  (27, aIf 30 (fun x => z_le x 0) 61), (30, aLR 31 0), (31, aLI 33 4), (33, aCallV 36 4 159 2 [2]), (36, aSR 38 5), (38, aLR 40 5), (40, aNul 43 55), 
  (43, aLI 44 3), (44, aLR 46 5), (46, aLI 47 1), (47, aLI 48 2), (48, aCI 49 1), (49, aB 50 (fun x y => x - y)), 
  (50, aCallU 53 1 3 [(0, 138), (1, 138), (2, 163), (3, 138), (5, 138), (6, 138), (7, 138)]), (53, aB 54 (fun x y => x + y)), (54, aSI 55 3), 
  (55, aInc 58 4 1), (58, aGo 17), (61, aLI 62 3), (62, aRI)]
def mO_init : Nat := 164
noncomputable def tO_init : List (Nat × zA) := [
  (0, aLR 1 0), (1, aObj 4), (4, aLR 5 0), (5, aCI 7 60), (7, aNewA 10 16), (10, aPR 13 0 [4]), (13, aLR 14 0), (14, aCI 16 16), (16, aNewA 18 14), 
  (18, aPR 21 1 [4]), (21, aLR 22 0), (22, aCI 24 17), (24, aNewA 26 14), (26, aPR 29 2 [4]), (29, aLR 30 0), (30, aCI 33 200), (33, aNewA 35 14), 
  (35, aPR 38 3 [4]), (38, aLR 39 0), (39, aCI 41 8), (41, aNewA 43 14), (43, aDup 44), (44, aCI 45 0), (45, aCI 46 (-1)), (46, aYI 47), (47, aDup 48), 
  (48, aCI 49 1), (49, aCI 50 (-1)), (50, aYI 51), (51, aDup 52), (52, aCI 53 2), (53, aCI 54 (-1)), (54, aYI 55), (55, aDup 56), (56, aCI 57 3), 
  (57, aCI 58 (-1)), (58, aYI 59), (59, aDup 60), (60, aCI 61 4), (61, aCI 62 (-1)), (62, aYI 63), (63, aDup 64), (64, aCI 65 5), (65, aCI 66 (-1)), 
  (66, aYI 67), (67, aDup 68), (68, aCI 70 6), (70, aCI 71 (-1)), (71, aYI 72), (72, aDup 73), (73, aCI 75 7), (75, aCI 76 (-1)), (76, aYI 77), 
  (77, aPR 80 4 [4]), (80, aLR 81 0), (81, aCI 83 8), (83, aNewA 85 14), (85, aPR 88 5 [4]), (88, aLR 89 0), (89, aCI 91 17), (91, aNewA 93 14), 
  (93, aPR 96 6 [4]), (96, aLR 97 0), (97, aCI 100 523), (100, aNewA 102 14), (102, aPR 105 7 [4]), (105, aLR 106 0), (106, aCI 109 501), 
  (109, aNewA 112 19), (112, aPR 115 8 [4]), (115, aLR 116 0), (116, aCI 119 6000), (119, aNewA 121 14), (121, aPR 124 9 [4]), (124, aLR 125 0), 
  (125, aCI 126 0), (126, aPI 129 10 [4]), (129, aLR 130 0), (130, aCI 131 0), (131, aPI 134 11 [4]), (134, aLR 135 0), (135, aCI 138 7040), 
  (138, aPI 141 12 [4]), (141, aLR 142 0), (142, aCI 143 0), (143, aPI 146 13 [4]), (146, aLR 147 0), (147, aCI 148 0), (148, aPI 151 14 [4]), 
  (151, aLR 152 0), (152, aCI 153 0), (153, aPZ 156 15 [4]), (156, aLR 157 0), (157, aNull 158), (158, aPR 161 16 [4]), (161, aLR 162 0), 
  (162, aGR 165 7 [4]), (165, aCI 166 4), (166, aCI 168 (-4)), (168, aYI 169), (169, aRV)]
def mO_instrumentAt : Nat := 165
noncomputable def tO_instrumentAt : List (Nat × zA) := [
  (0, aLI 1 1), (1, aIf 4 (fun x => z_lt x 0) 10), (4, aLI 5 1), (5, aCI 7 60), (7, aCmp 10 (fun x y => z_lt x y) 12), (10, aNull 11), (11, aRR), 
  (12, aLR 13 0), (13, aGR 16 0 [4]), (16, aLI 17 1), (17, aXR 18 16), (18, aRR)]
def mO_addInstrument : Nat := 166
noncomputable def tO_addInstrument : List (Nat × zA) := [
  (0, aLR 1 0), (1, aGI 4 10 [4]), (4, aSI 5 2), (5, aLI 6 2), (6, aIf 9 (fun x => z_lt x 0) 15), (9, aLI 10 2), (10, aCI 12 60), 
  (12, aCmp 15 (fun x y => z_lt x y) 18), (15, aCI 17 (-2)), (17, aRI), (18, aLR 19 0), (19, aGR 22 0 [4]), (22, aLI 23 2), (23, aLI 24 2), 
  (24, aLI 25 1), (25, aCall 28 4 167 2), (28, aYR 29 16 [0, 1, 2, 3, 5, 6, 7]), (29, aLR 30 0), (30, aDup 31), (31, aGI 34 10 [4]), (34, aCI 35 1), 
  (35, aB 36 (fun x y => x + y)), (36, aPI 39 10 [4]), (39, aLI 40 2), (40, aRI)]
def mO_made : Nat := 167
noncomputable def tO_made : List (Nat × zA) := [
  (0, aLI 1 1), (1, aSw 97 [(0, 40), (1, 50), (2, 60), (3, 69), (4, 78), (5, 88)]), (40, aNew 43 5 5), (43, aDup 44), (44, aLI 45 0), (45, aCI 46 0), 
  (46, aCallV 49 0 139 3 [0, 5, 7]), (49, aRR), (50, aNew 53 7 5), (53, aDup 54), (54, aLI 55 0), (55, aCI 56 1), (56, aCallV 59 0 143 3 [0, 7]), 
  (59, aRR), (60, aNew 63 0 5), (63, aDup 64), (64, aLI 65 0), (65, aCallV 68 0 146 2 [0]), (68, aRR), (69, aNew 72 3 5), (72, aDup 73), 
  (73, aLI 74 0), (74, aCallV 77 0 149 2 [3]), (77, aRR), (78, aNew 81 6 5), (81, aDup 82), (82, aLI 83 0), (83, aCI 84 4), 
  (84, aCallV 87 0 151 3 [1, 6]), (87, aRR), (88, aNew 91 1 5), (91, aDup 92), (92, aLI 93 0), (93, aCallV 96 0 155 2 [1]), (96, aRR), 
  (97, aNew 100 2 7), (100, aDup 101), (101, aLI 102 0), (102, aCallV 105 0 158 2 [2]), (105, aRR)]
def mO_grow : Nat := 168
noncomputable def tO_grow : List (Nat × zA) := [
  (0, aCI 1 0), (1, aSI 2 3), (2, aLI 3 3), (3, aLR 4 0), (4, aGI 7 10 [4]), (7, aCmp 10 (fun x y => z_le y x) 51), (10, aLR 11 0), (11, aLI 12 3), 
  (12, aCallV 15 4 165 2 [4]), (15, aSR 17 4), (17, aLR 19 4), (19, aNul 22 45), (22, aLR 24 4), (24, aGI 27 2 [0, 1, 2, 3, 5, 6, 7]), (27, aLR 29 4), 
  (29, aLI 30 1), (30, aCI 32 40), (32, aCallU 35 1 3 [(0, 138), (1, 138), (2, 163), (3, 138), (5, 138), (6, 138), (7, 138)]), (35, aLI 36 2), 
  (36, aB 37 (fun x y => x * y)), (37, aB 38 (fun x y => x + y)), (38, aCI 40 40), (40, aCmp 43 (fun x y => z_le x y) 45), (43, aCI 44 0), (44, aRZ), 
  (45, aInc 48 3 1), (48, aGo 2), (51, aCI 52 0), (52, aSI 53 3), (53, aLI 54 3), (54, aLR 55 0), (55, aGI 58 10 [4]), 
  (58, aCmp 61 (fun x y => z_le y x) 99), (61, aLR 62 0), (62, aLI 63 3), (63, aCallV 66 4 165 2 [4]), (66, aSR 68 4), (68, aLR 70 4), 
  (70, aNul 73 93), (73, aLR 75 4), (75, aDup 76), (76, aGI 79 2 [0, 1, 2, 3, 5, 6, 7]), (79, aLR 81 4), (81, aLI 82 1), (82, aCI 84 40), 
  (84, aCallU 87 1 3 [(0, 138), (1, 138), (2, 163), (3, 138), (5, 138), (6, 138), (7, 138)]), (87, aLI 88 2), (88, aB 89 (fun x y => x * y)), 
  (89, aB 90 (fun x y => x + y)), (90, aPI 93 2 [0, 1, 2, 3, 5, 6, 7]), (93, aInc 96 3 1), (96, aGo 53), (99, aCI 100 1), (100, aRZ)]
def mO_pitchOf : Nat := 169
noncomputable def tO_pitchOf : List (Nat × zA) := [
  (0, aLR 1 1), (1, aLR 2 0), (2, aGI 5 12 [4]), (5, aI2D 6), (6, aCD 9 4625196817309499392), (9, aDD 10 zf_div.1), (10, aLR 11 0), (11, aGR 14 6 [4]), 
  (14, aCI 16 40), (16, aCallU 19 3 4 [(0, 148), (1, 157), (2, 162), (3, 135), (5, 142), (6, 153), (7, 145)]), (19, aRD)]
def mO_hasChest : Nat := 170
noncomputable def tO_hasChest : List (Nat × zA) := [
  (0, aLI 1 1), (1, aIf 4 (fun x => z_lt x 0) 22), (4, aLI 5 1), (5, aLR 6 0), (6, aGI 9 11 [4]), (9, aCmp 12 (fun x y => z_le y x) 22), 
  (12, aLI 13 1), (13, aCI 15 16), (15, aCmp 18 (fun x y => z_le y x) 22), (18, aCI 19 1), (19, aGo 23), (22, aCI 23 0), (23, aRZ)]
def mO_placeCount : Nat := 171
noncomputable def tO_placeCount : List (Nat × zA) := [
  (0, aLR 1 0), (1, aGR 4 2 [4]), (4, aCI 5 0), (5, aLR 6 0), (6, aGI 9 11 [4]), (9, aCI 11 16), (11, aCall 14 1 3 2), (14, aCall 17 1 2 2), 
  (17, aXI 18 14), (18, aRI)]
def mO_addChest : Nat := 172
noncomputable def tO_addChest : List (Nat × zA) := [
  (0, aLR 1 0), (1, aGI 4 11 [4]), (4, aSI 5 3), (5, aLR 6 0), (6, aCallV 9 1 171 1 [4]), (9, aSI 11 4), (11, aLI 12 3), 
  (12, aIf 15 (fun x => z_lt x 0) 35), (15, aLI 16 3), (16, aCI 18 16), (18, aCmp 21 (fun x y => z_le y x) 35), (21, aLI 22 2), 
  (22, aIf 25 (fun x => z_lt x 0) 35), (25, aLI 26 2), (26, aCI 29 200), (29, aLI 31 4), (31, aB 32 (fun x y => x - y)), 
  (32, aCmp 35 (fun x y => z_le x y) 38), (35, aCI 37 (-2)), (37, aRI), (38, aLR 39 0), (39, aGR 42 1 [4]), (42, aLI 43 3), (43, aLI 44 1), 
  (44, aYI 45), (45, aLR 46 0), (46, aGR 49 2 [4]), (49, aLI 50 3), (50, aCI 51 1), (51, aB 52 (fun x y => x + y)), (52, aLI 54 4), (54, aLI 55 2), 
  (55, aB 56 (fun x y => x + y)), (56, aYI 57), (57, aLI 59 4), (59, aSI 61 5), (61, aLI 63 5), (63, aLI 65 4), (65, aLI 66 2), 
  (66, aB 67 (fun x y => x + y)), (67, aCmp 70 (fun x y => z_le y x) 84), (70, aLR 71 0), (71, aGR 74 3 [4]), (74, aLI 76 5), (76, aCI 77 (-1)), 
  (77, aYI 78), (78, aInc 81 5 1), (81, aGo 61), (84, aLR 85 0), (85, aDup 86), (86, aGI 89 11 [4]), (89, aCI 90 1), (90, aB 91 (fun x y => x + y)), 
  (91, aPI 94 11 [4]), (94, aLI 95 3), (95, aRI)]
def mO_whereIs : Nat := 173
noncomputable def tO_whereIs : List (Nat × zA) := [
  (0, aLR 1 0), (1, aLI 2 1), (2, aCallV 5 1 170 2 [4]), (5, aIf 8 (fun x => z_eq x 0) 12), (8, aLI 9 2), (9, aIf 12 (fun x => z_le 0 x) 14), 
  (12, aCI 13 (-1)), (13, aRI), (14, aLI 15 2), (15, aLR 16 0), (16, aGR 19 2 [4]), (19, aLI 20 1), (20, aCI 21 1), (21, aB 22 (fun x y => x + y)), 
  (22, aXI 23 14), (23, aLR 24 0), (24, aGR 27 2 [4]), (27, aLI 28 1), (28, aXI 29 14), (29, aB 30 (fun x y => x - y)), 
  (30, aCmp 33 (fun x y => z_le y x) 44), (33, aLR 34 0), (34, aGR 37 2 [4]), (37, aLI 38 1), (38, aXI 39 14), (39, aLI 40 2), 
  (40, aB 41 (fun x y => x + y)), (41, aGo 45), (44, aCI 45 (-1)), (45, aRI)]
def mO_instrumentOf : Nat := 174
noncomputable def tO_instrumentOf : List (Nat × zA) := [
  (0, aLI 1 0), (1, aCI 3 63), (3, aB 4 (fun x y => x &&& y)), (4, aRI)]
def mO_trackOf : Nat := 175
noncomputable def tO_trackOf : List (Nat × zA) := [
  (0, aLI 1 0), (1, aCI 3 6), (3, aB 4 (fun x y => x >>> (y &&& 31))), (4, aCI 6 7), (6, aB 7 (fun x y => x &&& y)), (7, aRI)]
def mO_ageOf : Nat := 176
noncomputable def tO_ageOf : List (Nat × zA) := [
  (0, aLR 1 0), (1, aGR 4 7 [4]), (4, aCI 5 3), (5, aXI 6 14), (6, aLI 7 1), (7, aCI 9 9), (9, aB 10 (fun x y => x >>> (y &&& 31))), 
  (10, aB 11 (fun x y => x - y)), (11, aRI)]
def mO_soundAt : Nat := 177
noncomputable def tO_soundAt : List (Nat × zA) := [
  (0, aLI 1 1), (1, aIf 4 (fun x => z_lt x 0) 24), (4, aLI 5 1), (5, aCI 8 320), (8, aCmp 11 (fun x y => z_le y x) 24), (11, aLR 12 0), 
  (12, aGR 15 7 [4]), (15, aCI 18 203), (18, aLI 19 1), (19, aB 20 (fun x y => x + y)), (20, aXI 21 14), (21, aGo 25), (24, aCI 25 0), (25, aRI)]
def mO_countOfTrack : Nat := 178
noncomputable def tO_countOfTrack : List (Nat × zA) := [
  (0, aCI 1 0), (1, aSI 2 2), (2, aCI 3 0), (3, aSI 4 3), (4, aLI 5 3), (5, aLR 6 0), (6, aGR 9 7 [4]), (9, aCI 11 14), (11, aXI 12 14), 
  (12, aCmp 15 (fun x y => z_le y x) 36), (15, aLR 16 0), (16, aLI 17 3), (17, aCallV 20 1 177 2 [4]), (20, aCall 23 1 175 1), (23, aLI 24 1), 
  (24, aCmp 27 (fun x y => z_ne x y) 30), (27, aInc 30 2 1), (30, aInc 33 3 1), (33, aGo 4), (36, aLI 37 2), (37, aRI)]
def mO_isOpen : Nat := 179
noncomputable def tO_isOpen : List (Nat × zA) := [
  (0, aLR 1 0), (1, aGR 4 7 [4]), (4, aCI 6 7), (6, aXI 7 14), (7, aLI 8 1), (8, aB 9 (fun x y => x >>> (y &&& 31))), (9, aCI 10 1), 
  (10, aB 11 (fun x y => x &&& y)), (11, aCI 12 1), (12, aCmp 15 (fun x y => z_ne x y) 19), (15, aCI 16 1), (16, aGo 20), (19, aCI 20 0), (20, aRZ)]
def mO_log : Nat := 180
noncomputable def tO_log : List (Nat × zA) := [
  (0, aLR 1 0), (1, aGR 4 7 [4]), (4, aCI 6 13), (6, aXI 7 14), (7, aSI 9 4), (9, aLI 11 4), (11, aIf 14 (fun x => z_lt x 0) 73), (14, aLI 16 4), 
  (16, aCI 19 1500), (19, aCmp 22 (fun x y => z_le y x) 73), (22, aLR 23 0), (23, aGR 26 9 [4]), (26, aCI 27 4), (27, aLI 29 4), 
  (29, aB 30 (fun x y => x * y)), (30, aLI 31 1), (31, aYI 32), (32, aLR 33 0), (33, aGR 36 9 [4]), (36, aCI 37 4), (37, aLI 39 4), 
  (39, aB 40 (fun x y => x * y)), (40, aCI 41 1), (41, aB 42 (fun x y => x + y)), (42, aLR 43 0), (43, aGR 46 7 [4]), (46, aCI 47 3), (47, aXI 48 14), 
  (48, aYI 49), (49, aLR 50 0), (50, aGR 53 9 [4]), (53, aCI 54 4), (54, aLI 56 4), (56, aB 57 (fun x y => x * y)), (57, aCI 58 2), 
  (58, aB 59 (fun x y => x + y)), (59, aLI 60 2), (60, aYI 61), (61, aLR 62 0), (62, aGR 65 9 [4]), (65, aCI 66 4), (66, aLI 68 4), 
  (68, aB 69 (fun x y => x * y)), (69, aCI 70 3), (70, aB 71 (fun x y => x + y)), (71, aLI 72 3), (72, aYI 73), (73, aLR 74 0), (74, aGR 77 7 [4]), 
  (77, aCI 79 13), (79, aLI 81 4), (81, aCI 82 1), (82, aB 83 (fun x y => x + y)), (83, aYI 84), (84, aRV)]
def mO_startSound : Nat := 181
noncomputable def tO_startSound : List (Nat × zA) := [
  (0, aLR 1 0), (1, aGR 4 6 [4]), (4, aCI 6 14), (6, aDup2 7), (7, aXI 8 14), (8, aCI 9 1), (9, aB 10 (fun x y => x + y)), (10, aYI 11), 
  (11, aLR 12 1), (12, aIs 15 [2] [0, 1, 3, 5, 6, 7]), (15, aIf 18 (fun x => z_eq x 0) 29), (18, aLR 19 0), (19, aGR 22 6 [4]), (22, aCI 24 15), 
  (24, aDup2 25), (25, aXI 26 14), (26, aCI 27 1), (27, aB 28 (fun x y => x + y)), (28, aYI 29), (29, aLR 30 0), (30, aGR 33 7 [4]), (33, aCI 35 23), 
  (35, aLR 36 1), (36, aGI 39 0 [0, 1, 2, 3, 5, 6, 7]), (39, aB 40 (fun x y => x + y)), (40, aXI 41 14), (41, aSI 43 4), (43, aLI 45 4), 
  (45, aIf 48 (fun x => z_le x 0) 64), (48, aLR 49 0), (49, aGR 52 7 [4]), (52, aCI 54 23), (54, aLR 55 1), (55, aGI 58 0 [0, 1, 2, 3, 5, 6, 7]), 
  (58, aB 59 (fun x y => x + y)), (59, aLI 61 4), (61, aCI 62 1), (62, aB 63 (fun x y => x - y)), (63, aYI 64), (64, aLR 65 0), (65, aGR 68 7 [4]), 
  (68, aCI 70 14), (70, aXI 71 14), (71, aSI 73 5), (73, aLI 75 4), (75, aCI 76 1), (76, aCmp 79 (fun x y => z_eq x y) 96), (79, aLI 80 3), 
  (80, aIf 83 (fun x => z_lt x 0) 96), (83, aLI 85 5), (85, aIf 88 (fun x => z_lt x 0) 96), (88, aLI 90 5), (90, aCI 93 320), 
  (93, aCmp 96 (fun x y => z_lt x y) 98), (96, aCI 97 0), (97, aRZ), (98, aLR 99 0), (99, aGR 102 7 [4]), (102, aCI 105 203), (105, aLI 107 5), 
  (107, aB 108 (fun x y => x + y)), (108, aLR 109 0), (109, aGR 112 7 [4]), (112, aCI 113 3), (113, aXI 114 14), (114, aCI 116 9), 
  (116, aB 117 (fun x y => x <<< (y &&& 31))), (117, aLI 118 2), (118, aCI 120 6), (120, aB 121 (fun x y => x <<< (y &&& 31))), 
  (121, aB 122 (fun x y => x ||| y)), (122, aLR 123 1), (123, aGI 126 0 [0, 1, 2, 3, 5, 6, 7]), (126, aB 127 (fun x y => x ||| y)), (127, aYI 128), 
  (128, aLR 129 0), (129, aGR 132 7 [4]), (132, aCI 134 14), (134, aLI 136 5), (136, aCI 137 1), (137, aB 138 (fun x y => x + y)), (138, aYI 139), 
  (139, aLR 140 0), (140, aGR 143 7 [4]), (143, aCI 145 83), (145, aLR 146 1), (146, aGI 149 0 [0, 1, 2, 3, 5, 6, 7]), 
  (149, aB 150 (fun x y => x + y)), (150, aDup2 151), (151, aXI 152 14), (152, aCI 153 1), (153, aB 154 (fun x y => x + y)), (154, aYI 155), 
  (155, aLR 156 0), (156, aCI 157 1), (157, aLR 158 1), (158, aGI 161 0 [0, 1, 2, 3, 5, 6, 7]), (161, aLI 162 2), (162, aCallV 165 0 180 4 [4]), 
  (165, aLR 166 1), (166, aIs 169 [2] [0, 1, 3, 5, 6, 7]), (169, aIf 172 (fun x => z_eq x 0) 232), (172, aLR 173 1), (173, aCast 176 [2]), 
  (176, aSR 178 6), (178, aCI 179 0), (179, aSI 181 7), (181, aLI 183 7), (183, aLR 185 6), (185, aGI 188 6 [2]), 
  (188, aCmp 191 (fun x y => z_le y x) 232), (191, aLR 193 6), (193, aLI 195 7), (195, aCallV 198 4 159 2 [2]), (198, aSR 200 8), (200, aLR 202 8), 
  (202, aNul 205 218), (205, aLR 206 0), (206, aLR 208 8), (208, aLI 209 2), (209, aLI 210 3), (210, aCI 211 1), (211, aB 212 (fun x y => x - y)), 
  (212, aCallV 215 1 181 4 [4]), (215, aIf 218 (fun x => z_ne x 0) 226), (218, aLR 219 0), (219, aLI 221 5), (221, aCallV 224 0 183 2 [4]), 
  (224, aCI 225 0), (225, aRZ), (226, aInc 229 7 1), (229, aGo 181), (232, aCI 233 1), (233, aRZ)]
def mO_noteEnd : Nat := 182
noncomputable def tO_noteEnd : List (Nat × zA) := [
  (0, aLR 1 0), (1, aGR 4 6 [4]), (4, aCI 6 16), (6, aDup2 7), (7, aXI 8 14), (8, aCI 9 1), (9, aB 10 (fun x y => x + y)), (10, aYI 11), 
  (11, aLR 12 0), (12, aGR 15 7 [4]), (15, aCI 18 143), (18, aLI 19 1), (19, aCall 22 1 174 1), (22, aCI 24 59), (24, aCall 27 1 3 2), 
  (27, aB 28 (fun x y => x + y)), (28, aDup2 29), (29, aXI 30 14), (30, aCI 31 1), (31, aB 32 (fun x y => x + y)), (32, aYI 33), (33, aLR 34 0), 
  (34, aCI 35 2), (35, aLI 36 1), (36, aCall 39 1 174 1), (39, aLI 40 1), (40, aCall 43 1 175 1), (43, aCallV 46 0 180 4 [4]), (46, aRV)]
def mO_endDownTo : Nat := 183
noncomputable def tO_endDownTo : List (Nat × zA) := [
  (0, aLR 1 0), (1, aGR 4 7 [4]), (4, aCI 6 14), (6, aXI 7 14), (7, aCI 8 1), (8, aB 9 (fun x y => x - y)), (9, aSI 10 2), (10, aLI 11 2), 
  (11, aLI 12 1), (12, aCmp 15 (fun x y => z_lt x y) 30), (15, aLR 16 0), (16, aLR 17 0), (17, aLI 18 2), (18, aCallV 21 1 177 2 [4]), 
  (21, aCallV 24 0 182 2 [4]), (24, aInc 27 2 (-1)), (27, aGo 10), (30, aLR 31 0), (31, aGR 34 7 [4]), (34, aCI 36 14), (36, aLI 37 1), (37, aYI 38), 
  (38, aRV)]
def mO_endTrack : Nat := 184
noncomputable def tO_endTrack : List (Nat × zA) := [
  (0, aLR 1 0), (1, aGR 4 7 [4]), (4, aCI 6 14), (6, aXI 7 14), (7, aCI 8 1), (8, aB 9 (fun x y => x - y)), (9, aSI 10 2), (10, aLI 11 2), 
  (11, aIf 14 (fun x => z_lt x 0) 41), (14, aLR 15 0), (15, aLI 16 2), (16, aCallV 19 1 177 2 [4]), (19, aCall 22 1 175 1), (22, aLI 23 1), 
  (23, aCmp 26 (fun x y => z_ne x y) 35), (26, aLR 27 0), (27, aLR 28 0), (28, aLI 29 2), (29, aCallV 32 1 177 2 [4]), (32, aCallV 35 0 182 2 [4]), 
  (35, aInc 38 2 (-1)), (38, aGo 10), (41, aCI 42 0), (42, aSI 43 2), (43, aCI 44 0), (44, aSI 45 3), (45, aLI 46 3), (46, aLR 47 0), 
  (47, aGR 50 7 [4]), (50, aCI 52 14), (52, aXI 53 14), (53, aCmp 56 (fun x y => z_le y x) 96), (56, aLR 57 0), (57, aLI 58 3), 
  (58, aCallV 61 1 177 2 [4]), (61, aSI 63 4), (63, aLI 65 4), (65, aCall 68 1 175 1), (68, aLI 69 1), (69, aCmp 72 (fun x y => z_ne x y) 75), 
  (72, aGo 90), (75, aLR 76 0), (76, aGR 79 7 [4]), (79, aCI 82 203), (82, aLI 83 2), (83, aB 84 (fun x y => x + y)), (84, aLI 86 4), (86, aYI 87), 
  (87, aInc 90 2 1), (90, aInc 93 3 1), (93, aGo 45), (96, aLR 97 0), (97, aGR 100 7 [4]), (100, aCI 102 14), (102, aLI 103 2), (103, aYI 104), 
  (104, aRV)]
def mO_silence : Nat := 185
noncomputable def tO_silence : List (Nat × zA) := [
  (0, aLR 1 0), (1, aCI 2 0), (2, aCallV 5 0 183 2 [4]), (5, aLR 6 0), (6, aGR 9 7 [4]), (9, aCI 11 7), (11, aCI 12 0), (12, aYI 13), (13, aRV)]
def mO_begin : Nat := 186
noncomputable def tO_begin : List (Nat × zA) := [
  (0, aCI 1 0), (1, aSI 2 2), (2, aLI 3 2), (3, aCI 5 23), (5, aCmp 8 (fun x y => z_le y x) 21), (8, aLR 9 0), (9, aGR 12 7 [4]), (12, aLI 13 2), 
  (13, aCI 14 0), (14, aYI 15), (15, aInc 18 2 1), (18, aGo 2), (21, aCI 23 83), (23, aSI 24 2), (24, aLI 25 2), (25, aCI 28 203), 
  (28, aCmp 31 (fun x y => z_le y x) 44), (31, aLR 32 0), (32, aGR 35 7 [4]), (35, aLI 36 2), (36, aCI 37 0), (37, aYI 38), (38, aInc 41 2 1), 
  (41, aGo 24), (44, aCI 45 0), (45, aSI 46 2), (46, aLI 47 2), (47, aCI 49 8), (49, aCmp 52 (fun x y => z_le y x) 70), (52, aLR 53 0), 
  (53, aGR 56 7 [4]), (56, aCI 58 15), (58, aLI 59 2), (59, aB 60 (fun x y => x + y)), (60, aCI 63 1000), (63, aYI 64), (64, aInc 67 2 1), 
  (67, aGo 46), (70, aLR 71 0), (71, aGR 74 7 [4]), (74, aCI 76 8), (76, aCI 78 65535), (78, aYI 79), (79, aLR 80 0), (80, aGR 83 7 [4]), 
  (83, aCI 84 0), (84, aCI 86 24), (86, aYI 87), (87, aLR 88 0), (88, aGR 91 7 [4]), (91, aCI 92 4), (92, aCI 94 (-4)), (94, aYI 95), (95, aLR 96 0), 
  (96, aLR 97 1), (97, aPR 100 16 [4]), (100, aLR 101 0), (101, aCI 102 1), (102, aPZ 105 15 [4]), (105, aLR 106 0), (106, aCI 107 0), 
  (107, aPI 110 13 [4]), (110, aLR 111 0), (111, aCallV 114 0 187 1 [4]), (114, aRV)]
def mO_keep : Nat := 187
noncomputable def tO_keep : List (Nat × zA) := [
  (0, aLR 1 0), (1, aGR 4 7 [4]), (4, aCI 5 3), (5, aXI 6 14), (6, aSI 7 1), (7, aLI 8 1), (8, aCI 11 501), (11, aCall 14 1 1 2), (14, aSI 15 2), 
  (15, aLR 16 0), (16, aGR 19 8 [4]), (19, aLI 20 2), (20, aXR 21 19), (21, aSR 22 3), (22, aLR 23 3), (23, aNon 26 39), (26, aCI 29 523), 
  (29, aNewA 31 14), (31, aSR 32 3), (32, aLR 33 0), (33, aGR 36 8 [4]), (36, aLI 37 2), (37, aLR 38 3), (38, aYG 39 19 [14]), (39, aLR 40 0), 
  (40, aGR 43 7 [4]), (43, aCI 44 0), (44, aLR 45 3), (45, aCI 46 0), (46, aLR 47 0), (47, aGR 50 7 [4]), (50, aCall 53 1 188 1), (53, aCopy 56), 
  (56, aLR 57 0), (57, aLR 58 0), (58, aGI 61 13 [4]), (61, aLI 62 1), (62, aCI 65 500), (65, aB 66 (fun x y => x - y)), (66, aCall 69 1 2 2), 
  (69, aPI 72 13 [4]), (72, aRV)]
def mO_usedOf : Nat := 188
noncomputable def tO_usedOf : List (Nat × zA) := [
  (0, aCI 3 203), (3, aCI 4 0), (4, aLR 5 0), (5, aCI 7 14), (7, aXI 8 14), (8, aCI 11 320), (11, aCall 14 1 3 2), (14, aCall 17 1 2 2), 
  (17, aB 18 (fun x y => x + y)), (18, aRI)]
def mO_goBack : Nat := 189
noncomputable def tO_goBack : List (Nat × zA) := [
  (0, aLR 1 0), (1, aGR 4 7 [4]), (4, aCI 5 3), (5, aXI 6 14), (6, aLI 7 1), (7, aB 8 (fun x y => x - y)), (8, aSI 9 2), (9, aLR 10 0), 
  (10, aGR 13 8 [4]), (13, aLI 14 2), (14, aCI 17 501), (17, aCall 20 1 1 2), (20, aXR 21 19), (21, aSR 22 3), (22, aLI 23 2), (23, aLR 24 0), 
  (24, aGI 27 13 [4]), (27, aCmp 30 (fun x y => z_lt x y) 34), (30, aLR 31 3), (31, aNon 34 36), (34, aCI 35 0), (35, aRZ), (36, aLR 37 3), 
  (37, aCI 38 0), (38, aLR 39 0), (39, aGR 42 7 [4]), (42, aCI 43 0), (43, aLR 44 3), (44, aCall 47 1 188 1), (47, aCopy 50), (50, aCI 51 1), 
  (51, aRZ)]
def mO_reachStrip : Nat := 190
noncomputable def tO_reachStrip : List (Nat × zA) := [
  (0, aCI 3 400), (3, aSI 4 1), (4, aLI 5 1), (5, aIf 8 (fun x => z_lt x 0) 150), (8, aLR 9 0), (9, aGR 12 16 [4]), (12, aNul 15 150), (15, aLR 16 0), 
  (16, aGR 19 16 [4]), (19, aLR 20 0), (20, aGR 23 7 [4]), (23, aCI 24 4), (24, aXI 25 14), (25, aCallV 28 4 127 2 [8]), (28, aSR 29 2), 
  (29, aLR 30 2), (30, aNul 33 48), (33, aLR 34 0), (34, aGR 37 7 [4]), (37, aCI 38 5), (38, aXI 39 14), (39, aLR 40 2), (40, aGI 43 2 [9]), 
  (43, aCmp 46 (fun x y => z_le y x) 48), (46, aCI 47 1), (47, aRZ), (48, aLR 49 2), (49, aNon 52 56), (52, aCI 53 0), (53, aGo 64), (56, aLR 57 0), 
  (57, aGR 60 7 [4]), (60, aCI 61 4), (61, aXI 62 14), (62, aCI 63 1), (63, aB 64 (fun x y => x + y)), (64, aSI 65 3), (65, aLR 66 0), 
  (66, aGR 69 16 [4]), (69, aLI 70 3), (70, aCallV 73 4 127 2 [8]), (73, aSR 75 4), (75, aLR 77 4), (77, aNon 80 83), (80, aGo 150), (83, aLR 84 0), 
  (84, aLR 86 4), (86, aLI 87 3), (87, aCallV 90 0 191 3 [4]), (90, aLR 92 4), (92, aGI 95 2 [9]), (95, aIf 98 (fun x => z_ne x 0) 117), 
  (98, aLR 99 0), (99, aGR 102 7 [4]), (102, aCI 104 6), (104, aXI 105 14), (105, aCI 106 1), (106, aCmp 109 (fun x y => z_ne x y) 117), 
  (109, aLR 111 4), (111, aCallV 114 1 110 1 [9]), (114, aGo 118), (117, aCI 118 0), (118, aSI 120 5), (120, aCI 121 0), (121, aSI 123 6), 
  (123, aLI 125 6), (125, aLI 127 5), (127, aCmp 130 (fun x y => z_le y x) 144), (130, aLR 131 0), (131, aLR 133 4), (133, aLI 135 6), 
  (135, aCallV 138 0 193 3 [4]), (138, aInc 141 6 1), (141, aGo 123), (144, aInc 147 1 (-1)), (147, aGo 4), (150, aLR 151 0), 
  (151, aCallV 154 0 185 1 [4]), (154, aLR 155 0), (155, aCI 156 0), (156, aPZ 159 15 [4]), (159, aCI 160 0), (160, aRZ)]
def mO_beginStrip : Nat := 191
noncomputable def tO_beginStrip : List (Nat × zA) := [
  (0, aLR 1 1), (1, aCallV 4 1 117 1 [9]), (4, aSI 5 3), (5, aLR 6 0), (6, aGR 9 7 [4]), (9, aCI 10 4), (10, aLI 11 2), (11, aYI 12), (12, aLR 13 0), 
  (13, aGR 16 7 [4]), (16, aCI 17 5), (17, aCI 18 0), (18, aYI 19), (19, aLR 20 0), (20, aGR 23 7 [4]), (23, aCI 25 6), (25, aLI 26 3), 
  (26, aIf 29 (fun x => z_ne x 0) 33), (29, aCI 30 1), (30, aGo 34), (33, aCI 34 0), (34, aYI 35), (35, aLR 36 0), (36, aCI 37 0), (37, aLI 38 2), 
  (38, aLI 39 3), (39, aCallV 42 0 180 4 [4]), (42, aLI 43 3), (43, aIf 46 (fun x => z_eq x 0) 50), (46, aLR 47 0), (47, aCallV 50 0 185 1 [4]), 
  (50, aRV)]
def mO_passTick : Nat := 192
noncomputable def tO_passTick : List (Nat × zA) := [
  (0, aLR 1 0), (1, aGR 4 16 [4]), (4, aNon 7 11), (7, aNull 8), (8, aGo 24), (11, aLR 12 0), (12, aGR 15 16 [4]), (15, aLR 16 0), (16, aGR 19 7 [4]), 
  (19, aCI 20 4), (20, aXI 21 14), (21, aCallV 24 4 127 2 [8]), (24, aSR 25 1), (25, aLR 26 0), (26, aGR 29 7 [4]), (29, aCI 30 5), (30, aXI 31 14), 
  (31, aSI 32 2), (32, aLR 33 1), (33, aNul 36 61), (36, aLR 37 0), (37, aGR 40 7 [4]), (40, aCI 42 6), (42, aXI 43 14), (43, aCI 44 1), 
  (44, aCmp 47 (fun x y => z_ne x y) 61), (47, aLI 48 2), (48, aLR 49 1), (49, aCallV 52 1 110 1 [9]), (52, aCmp 55 (fun x y => z_le y x) 61), 
  (55, aLR 56 0), (56, aLR 57 1), (57, aLI 58 2), (58, aCallV 61 0 193 3 [4]), (61, aLR 62 0), (62, aGR 65 7 [4]), (65, aCI 66 5), (66, aLI 67 2), 
  (67, aCI 68 1), (68, aB 69 (fun x y => x + y)), (69, aYI 70), (70, aLR 71 0), (71, aCallV 74 0 196 1 [4]), (74, aLR 75 0), (75, aGR 78 7 [4]), 
  (78, aCI 79 2), (79, aDup2 80), (80, aXI 81 14), (81, aCI 82 1), (82, aB 83 (fun x y => x + y)), (83, aYI 84), (84, aLR 85 0), (85, aGR 88 7 [4]), 
  (88, aCI 89 2), (89, aXI 90 14), (90, aLR 91 0), (91, aGR 94 7 [4]), (94, aCI 95 0), (95, aXI 96 14), (96, aCmp 99 (fun x y => z_lt x y) 116), 
  (99, aLR 100 0), (100, aGR 103 7 [4]), (103, aCI 104 2), (104, aCI 105 0), (105, aYI 106), (106, aLR 107 0), (107, aGR 110 7 [4]), (110, aCI 111 1), 
  (111, aDup2 112), (112, aXI 113 14), (113, aCI 114 1), (114, aB 115 (fun x y => x + y)), (115, aYI 116), (116, aLR 117 0), (117, aGR 120 7 [4]), 
  (120, aCI 121 3), (121, aDup2 122), (122, aXI 123 14), (123, aCI 124 1), (124, aB 125 (fun x y => x + y)), (125, aYI 126), (126, aLR 127 0), 
  (127, aDup 128), (128, aGI 131 14 [4]), (131, aCI 132 1), (132, aB 133 (fun x y => x + y)), (133, aPI 136 14 [4]), (136, aLR 137 0), 
  (137, aCallV 140 0 187 1 [4]), (140, aRV)]
def mO_doElement : Nat := 193
noncomputable def tO_doElement : List (Nat × zA) := [
  (0, aLR 1 1), (1, aLI 2 2), (2, aCallV 5 1 113 2 [9]), (5, aSI 6 3), (6, aLR 7 1), (7, aGI 10 0 [9]), (10, aSw 187 [(0, 36), (1, 76), (2, 126)]), 
  (36, aCI 37 0), (37, aSI 39 4), (39, aLI 41 4), (41, aCI 43 8), (43, aCmp 46 (fun x y => z_le y x) 73), (46, aLR 47 0), (47, aLI 49 4), 
  (49, aLI 50 3), (50, aLI 52 4), (52, aB 53 (fun x y => x >>> (y &&& 31))), (53, aCI 54 1), (54, aB 55 (fun x y => x &&& y)), (55, aCI 56 1), 
  (56, aCmp 59 (fun x y => z_ne x y) 63), (59, aCI 60 1), (60, aGo 64), (63, aCI 64 0), (64, aCallV 67 0 194 3 [4]), (67, aInc 70 4 1), (70, aGo 39), 
  (73, aGo 199), (76, aCI 77 0), (77, aSI 79 4), (79, aLI 81 4), (81, aCI 83 8), (83, aCmp 86 (fun x y => z_le y x) 123), (86, aLI 87 3), 
  (87, aIf 90 (fun x => z_lt x 0) 102), (90, aLI 91 3), (91, aCI 93 12), (93, aB 94 (fun x y => x >>> (y &&& 31))), (94, aCI 96 7), 
  (96, aB 97 (fun x y => x &&& y)), (97, aLI 99 4), (99, aCmp 102 (fun x y => z_ne x y) 117), (102, aLR 103 0), (103, aGR 106 7 [4]), 
  (106, aCI 108 15), (108, aLI 110 4), (110, aB 111 (fun x y => x + y)), (111, aLI 112 3), (112, aCI 115 4095), (115, aB 116 (fun x y => x &&& y)), 
  (116, aYI 117), (117, aInc 120 4 1), (120, aGo 79), (123, aGo 199), (126, aLI 127 3), (127, aCI 129 65), (129, aCmp 132 (fun x y => z_lt x y) 154), 
  (132, aLI 133 3), (133, aCI 135 80), (135, aCmp 138 (fun x y => z_lt y x) 154), (138, aLR 139 0), (139, aGR 142 7 [4]), (142, aCI 144 8), 
  (144, aDup2 145), (145, aXI 146 14), (146, aCI 147 1), (147, aLI 148 3), (148, aCI 150 65), (150, aB 151 (fun x y => x - y)), 
  (151, aB 152 (fun x y => x <<< (y &&& 31))), (152, aB 153 (fun x y => x ||| y)), (153, aYI 154), (154, aLI 155 3), (155, aCI 157 97), 
  (157, aCmp 160 (fun x y => z_lt x y) 199), (160, aLI 161 3), (161, aCI 163 112), (163, aCmp 166 (fun x y => z_lt y x) 199), (166, aLR 167 0), 
  (167, aGR 170 7 [4]), (170, aCI 172 8), (172, aDup2 173), (173, aXI 174 14), (174, aCI 175 1), (175, aLI 176 3), (176, aCI 178 97), 
  (178, aB 179 (fun x y => x - y)), (179, aB 180 (fun x y => x <<< (y &&& 31))), (180, aCI 181 (-1)), (181, aB 182 (fun x y => x ^^^ y)), 
  (182, aB 183 (fun x y => x &&& y)), (183, aYI 184), (184, aGo 199), (187, aLR 188 0), (188, aLI 189 3), (189, aCI 191 65535), 
  (191, aB 192 (fun x y => x &&& y)), (192, aLI 193 3), (193, aCI 195 16), 
  (195, aB 196 (fun x y => (x.toUInt32 >>> (y.toUInt32 &&& Int32.toUInt32 31)).toInt32)), (196, aCallV 199 0 195 3 [4]), (199, aRV)]
def mO_doHole : Nat := 194
noncomputable def tO_doHole : List (Nat × zA) := [
  (0, aLI 1 2), (1, aLR 2 0), (2, aLI 3 1), (3, aCallV 6 1 179 2 [4]), (6, aCmp 9 (fun x y => z_ne x y) 10), (9, aRV), (10, aLR 11 0), 
  (11, aGR 14 7 [4]), (14, aCI 16 7), (16, aDup2 17), (17, aXI 18 14), (18, aCI 19 1), (19, aLI 20 1), (20, aB 21 (fun x y => x <<< (y &&& 31))), 
  (21, aB 22 (fun x y => x ^^^ y)), (22, aYI 23), (23, aLI 24 2), (24, aIf 27 (fun x => z_ne x 0) 33), (27, aLR 28 0), (28, aLI 29 1), 
  (29, aCallV 32 0 184 2 [4]), (32, aRV), (33, aLR 34 0), (34, aGR 37 4 [4]), (37, aLI 38 1), (38, aXI 39 14), (39, aSI 40 3), (40, aLI 41 3), 
  (41, aIf 44 (fun x => z_lt x 0) 58), (44, aLR 45 0), (45, aGR 48 7 [4]), (48, aCI 50 8), (50, aXI 51 14), (51, aLI 52 3), 
  (52, aB 53 (fun x y => x >>> (y &&& 31))), (53, aCI 54 1), (54, aB 55 (fun x y => x &&& y)), (55, aIf 58 (fun x => z_ne x 0) 59), (58, aRV), 
  (59, aLR 60 0), (60, aLI 61 3), (61, aLR 62 0), (62, aGR 65 5 [4]), (65, aLI 66 1), (66, aXI 67 14), (67, aCallV 70 1 173 3 [4]), (70, aSI 72 4), 
  (72, aLI 74 4), (74, aIf 77 (fun x => z_le 0 x) 81), (77, aNull 78), (78, aGo 92), (81, aLR 82 0), (82, aLR 83 0), (83, aGR 86 3 [4]), 
  (86, aLI 88 4), (88, aXI 89 14), (89, aCallV 92 4 165 2 [4]), (92, aSR 94 5), (94, aLI 96 4), (96, aIf 99 (fun x => z_le 0 x) 109), (99, aLR 100 0), 
  (100, aCI 101 3), (101, aLI 102 1), (102, aCI 103 2), (103, aCallV 106 0 180 4 [4]), (106, aGo 144), (109, aLR 111 5), (111, aNon 114 124), 
  (114, aLR 115 0), (115, aCI 116 3), (116, aLI 117 1), (117, aCI 118 1), (118, aCallV 121 0 180 4 [4]), (121, aGo 144), (124, aLR 125 0), 
  (125, aLR 127 5), (127, aLI 128 1), (128, aCI 130 40), (130, aCallV 133 1 181 4 [4]), (133, aIf 136 (fun x => z_ne x 0) 144), (136, aLR 137 0), 
  (137, aCI 138 3), (138, aLI 139 1), (139, aCI 141 10), (141, aCallV 144 0 180 4 [4]), (144, aRV)]
def mO_setTempo : Nat := 195
noncomputable def tO_setTempo : List (Nat × zA) := [
  (0, aLI 1 1), (1, aIf 4 (fun x => z_ne x 0) 5), (4, aRV), (5, aLR 6 0), (6, aGR 9 7 [4]), (9, aCI 11 11), (11, aLI 12 2), (12, aYI 13), 
  (13, aLR 14 0), (14, aGR 17 7 [4]), (17, aCI 19 12), (19, aCI 20 0), (20, aYI 21), (21, aLR 22 0), (22, aGR 25 7 [4]), (25, aCI 27 9), 
  (27, aLR 28 0), (28, aGR 31 7 [4]), (31, aCI 32 0), (32, aXI 33 14), (33, aYI 34), (34, aLR 35 0), (35, aGR 38 7 [4]), (38, aCI 40 10), 
  (40, aLI 41 1), (41, aYI 42), (42, aLI 43 2), (43, aIf 46 (fun x => z_ne x 0) 53), (46, aLR 47 0), (47, aGR 50 7 [4]), (50, aCI 51 0), 
  (51, aLI 52 1), (52, aYI 53), (53, aRV)]
def mO_goOnWithTempo : Nat := 196
noncomputable def tO_goOnWithTempo : List (Nat × zA) := [
  (0, aLR 1 0), (1, aGR 4 7 [4]), (4, aCI 6 11), (6, aXI 7 14), (7, aSI 8 1), (8, aLI 9 1), (9, aIf 12 (fun x => z_le x 0) 23), (12, aLR 13 0), 
  (13, aGR 16 7 [4]), (16, aCI 18 12), (18, aXI 19 14), (19, aLI 20 1), (20, aCmp 23 (fun x y => z_lt x y) 24), (23, aRV), (24, aLR 25 0), 
  (25, aGR 28 7 [4]), (28, aCI 30 12), (30, aDup2 31), (31, aXI 32 14), (32, aCI 33 1), (33, aB 34 (fun x y => x + y)), (34, aYI 35), (35, aLR 36 0), 
  (36, aGR 39 7 [4]), (39, aCI 41 10), (41, aXI 42 14), (42, aLR 43 0), (43, aGR 46 7 [4]), (46, aCI 48 9), (48, aXI 49 14), 
  (49, aB 50 (fun x y => x - y)), (50, aI2J 51), (51, aSJ 52 2), (52, aLJ 53 2), (53, aLR 54 0), (54, aGR 57 7 [4]), (57, aCI 59 12), (59, aXI 60 14), 
  (60, aI2J 61), (61, aJ 62 (fun x y => x * y)), (62, aCJ 65 2), (65, aJ 66 (fun x y => x * y)), (66, aLI 67 1), (67, aI2J 68), 
  (68, aJ 69 (fun x y => x + y)), (69, aCJ 72 2), (72, aLI 73 1), (73, aI2J 74), (74, aJ 75 (fun x y => x * y)), (75, aCall 78 2 0 2), (78, aSJ 80 4), 
  (80, aLR 81 0), (81, aGR 84 7 [4]), (84, aCI 85 0), (85, aLR 86 0), (86, aGR 89 7 [4]), (89, aCI 91 9), (91, aXI 92 14), (92, aLJ 94 4), 
  (94, aJ2I 95), (95, aB 96 (fun x y => x + y)), (96, aYI 97), (97, aRV)]
def mP_init : Nat := 197
noncomputable def tP_init : List (Nat × zA) := [
  (0, aLR 1 0), (1, aObj 4), (4, aLR 5 0), (5, aCI 7 20), (7, aNewA 10 17), (10, aPR 13 0 [10]), (13, aLR 14 0), (14, aNew 17 4 17), (17, aDup 18), 
  (18, aCallV 21 0 164 1 [4]), (21, aPR 24 1 [10]), (24, aLR 25 0), (25, aCI 28 1792), (28, aNewA 30 14), (30, aPR 33 2 [10]), (33, aLR 34 0), 
  (34, aCI 35 0), (35, aPI 38 3 [10]), (38, aLR 39 0), (39, aCI 40 0), (40, aPI 43 4 [10]), (43, aLR 44 0), (44, aCI 45 0), (45, aPI 48 5 [10]), 
  (48, aLR 49 0), (49, aCI 50 0), (50, aPI 53 6 [10]), (53, aLR 54 0), (54, aCI 55 0), (55, aPI 58 7 [10]), (58, aRV)]
def mP_done : Nat := 198
noncomputable def tP_done : List (Nat × zA) := [
  (0, aLR 1 0), (1, aCI 2 0), (2, aPI 5 7 [10]), (5, aLI 6 1), (6, aRI)]
def mP_refuse : Nat := 199
noncomputable def tP_refuse : List (Nat × zA) := [
  (0, aLR 1 0), (1, aLI 2 1), (2, aPI 5 7 [10]), (5, aLI 6 1), (6, aRI)]
def mP_found : Nat := 200
noncomputable def tP_found : List (Nat × zA) := [
  (0, aLR 1 0), (1, aLI 2 1), (2, aPI 5 7 [10]), (5, aCI 7 (-10)), (7, aLI 8 1), (8, aB 9 (fun x y => x - y)), (9, aRI)]
def mP_nothingThere : Nat := 201
noncomputable def tP_nothingThere : List (Nat × zA) := [
  (0, aLR 1 0), (1, aCI 2 0), (2, aPI 5 7 [10]), (5, aCI 7 (-4)), (7, aRI)]
def mP_refuseLong : Nat := 202
noncomputable def tP_refuseLong : List (Nat × zA) := [
  (0, aLR 1 0), (1, aLI 2 1), (2, aPI 5 7 [10]), (5, aCJ 6 0), (6, aRJ)]
def mP_doneLong : Nat := 203
noncomputable def tP_doneLong : List (Nat × zA) := [
  (0, aLR 1 0), (1, aCI 2 0), (2, aPI 5 7 [10]), (5, aLJ 6 1), (6, aRJ)]
def mP_rollAt : Nat := 204
noncomputable def tP_rollAt : List (Nat × zA) := [
  (0, aLI 1 1), (1, aIf 4 (fun x => z_lt x 0) 27), (4, aLI 5 1), (5, aLR 6 0), (6, aGI 9 3 [10]), (9, aCmp 12 (fun x y => z_le y x) 27), 
  (12, aLI 13 1), (13, aCI 15 20), (15, aCmp 18 (fun x y => z_le y x) 27), (18, aLR 19 0), (19, aGR 22 0 [10]), (22, aLI 23 1), (23, aXR 24 17), 
  (24, aGo 28), (27, aNull 28), (28, aRR)]
def mP_stripAt : Nat := 205
noncomputable def tP_stripAt : List (Nat × zA) := [
  (0, aLR 1 0), (1, aLI 2 1), (2, aCallV 5 4 204 2 [10]), (5, aSR 6 3), (6, aLR 7 3), (7, aNon 10 14), (10, aNull 11), (11, aGo 19), (14, aLR 15 3), 
  (15, aLI 16 2), (16, aCallV 19 4 127 2 [8]), (19, aRR)]
def mP_tooManyElements : Nat := 206
noncomputable def tP_tooManyElements : List (Nat × zA) := [
  (0, aLR 1 0), (1, aGI 4 5 [10]), (4, aLI 5 1), (5, aB 6 (fun x y => x + y)), (6, aCI 9 8000), (9, aCmp 12 (fun x y => z_le x y) 16), (12, aCI 13 1), 
  (13, aGo 17), (16, aCI 17 0), (17, aRZ)]
def mP_roll : Nat := 207
noncomputable def tP_roll : List (Nat × zA) := [
  (0, aLR 1 0), (1, aGR 4 1 [10]), (4, aGI 7 15 [4]), (7, aIf 10 (fun x => z_eq x 0) 17), (10, aLR 11 0), (11, aCI 13 (-3)), 
  (13, aCallV 16 1 199 2 [10]), (16, aRI), (17, aLR 18 0), (18, aGI 21 3 [10]), (21, aCI 23 20), (23, aCmp 26 (fun x y => z_lt x y) 33), 
  (26, aLR 27 0), (27, aCI 29 (-2)), (29, aCallV 32 1 199 2 [10]), (32, aRI), (33, aLR 34 0), (34, aGR 37 0 [10]), (37, aLR 38 0), (38, aGI 41 3 [10]), 
  (41, aNew 44 8 2), (44, aDup 45), (45, aCallV 48 0 126 1 [8]), (48, aYR 49 17 [8]), (49, aLR 50 0), (50, aDup 51), (51, aGI 54 3 [10]), 
  (54, aCI 55 1), (55, aB 56 (fun x y => x + y)), (56, aPI 59 3 [10]), (59, aLR 60 0), (60, aLR 61 0), (61, aGI 64 3 [10]), (64, aCI 65 1), 
  (65, aB 66 (fun x y => x - y)), (66, aCallV 69 1 198 2 [10]), (69, aRI)]
def mP_strip : Nat := 208
noncomputable def tP_strip : List (Nat × zA) := [
  (0, aLR 1 0), (1, aLI 2 1), (2, aCallV 5 4 204 2 [10]), (5, aSR 7 6), (7, aLR 9 6), (9, aNul 12 21), (12, aLI 13 2), 
  (13, aIf 16 (fun x => z_lt x 0) 21), (16, aLI 17 2), (17, aCI 18 3), (18, aCmp 21 (fun x y => z_le x y) 27), (21, aLR 22 0), (22, aCI 23 (-1)), 
  (23, aCallV 26 1 199 2 [10]), (26, aRI), (27, aLI 28 3), (28, aIf 31 (fun x => z_lt x 0) 46), (31, aLI 32 3), (32, aCI 35 30000), 
  (35, aCmp 38 (fun x y => z_lt y x) 46), (38, aLI 40 4), (40, aCI 43 256), (43, aCmp 46 (fun x y => z_le x y) 52), (46, aLR 47 0), (47, aCI 48 (-1)), 
  (48, aCallV 51 1 199 2 [10]), (51, aRI), (52, aLI 54 5), (54, aIf 57 (fun x => z_lt x 0) 65), (57, aLI 59 5), (59, aCI 62 256), 
  (62, aCmp 65 (fun x y => z_le x y) 71), (65, aLR 66 0), (66, aCI 67 (-1)), (67, aCallV 70 1 199 2 [10]), (70, aRI), (71, aLR 72 0), 
  (72, aGR 75 1 [10]), (75, aGI 78 15 [4]), (78, aIf 81 (fun x => z_eq x 0) 88), (81, aLR 82 0), (82, aCI 84 (-3)), (84, aCallV 87 1 199 2 [10]), 
  (87, aRI), (88, aLR 89 0), (89, aGI 92 4 [10]), (92, aCI 95 400), (95, aCmp 98 (fun x y => z_le y x) 112), (98, aLI 100 4), 
  (100, aIf 103 (fun x => z_le x 0) 119), (103, aLR 104 0), (104, aLI 106 4), (106, aCallV 109 1 206 2 [10]), (109, aIf 112 (fun x => z_eq x 0) 119), 
  (112, aLR 113 0), (113, aCI 115 (-2)), (115, aCallV 118 1 199 2 [10]), (118, aRI), (119, aLI 121 4), (121, aIf 124 (fun x => z_le 0 x) 130), 
  (124, aLR 125 0), (125, aCI 126 3), (126, aCallV 129 1 200 2 [10]), (129, aRI), (130, aNew 133 9 7), (133, aDup 134), (134, aLI 135 2), 
  (135, aLI 136 3), (136, aLI 138 5), (138, aLI 140 4), (140, aCallV 143 0 109 5 [9]), (143, aSR 145 7), (145, aLR 147 7), 
  (147, aCallV 150 0 116 1 [9]), (150, aLR 152 6), (152, aLR 154 7), (154, aCallV 157 0 129 2 [8]), (157, aLR 158 0), (158, aDup 159), 
  (159, aGI 162 4 [10]), (162, aCI 163 1), (163, aB 164 (fun x y => x + y)), (164, aPI 167 4 [10]), (167, aLR 168 0), (168, aDup 169), 
  (169, aGI 172 5 [10]), (172, aLI 174 4), (174, aB 175 (fun x y => x + y)), (175, aPI 178 5 [10]), (178, aLR 179 0), (179, aLR 181 6), 
  (181, aGI 184 1 [8]), (184, aCI 185 1), (185, aB 186 (fun x y => x - y)), (186, aCallV 189 1 198 2 [10]), (189, aRI)]
def mP_punch : Nat := 209
noncomputable def tP_punch : List (Nat × zA) := [
  (0, aLR 1 0), (1, aLI 2 1), (2, aLI 3 2), (3, aCallV 6 4 205 3 [10]), (6, aSR 8 5), (8, aLR 10 5), (10, aNon 13 19), (13, aLR 14 0), 
  (14, aCI 15 (-1)), (15, aCallV 18 1 199 2 [10]), (18, aRI), (19, aLR 20 0), (20, aGR 23 1 [10]), (23, aGI 26 15 [4]), 
  (26, aIf 29 (fun x => z_eq x 0) 36), (29, aLR 30 0), (30, aCI 32 (-3)), (32, aCallV 35 1 199 2 [10]), (35, aRI), (36, aLR 38 5), (38, aGI 41 6 [9]), 
  (41, aIf 44 (fun x => z_eq x 0) 50), (44, aLR 45 0), (45, aCI 46 1), (46, aCallV 49 1 200 2 [10]), (49, aRI), (50, aLI 51 3), 
  (51, aIf 54 (fun x => z_lt x 0) 63), (54, aLI 55 3), (55, aLR 57 5), (57, aCallV 60 1 110 1 [9]), (60, aCmp 63 (fun x y => z_lt x y) 69), 
  (63, aLR 64 0), (64, aCI 65 2), (65, aCallV 68 1 200 2 [10]), (68, aRI), (69, aLR 71 5), (71, aCallV 74 1 117 1 [9]), 
  (74, aIf 77 (fun x => z_ne x 0) 81), (77, aCI 78 1), (78, aGo 82), (81, aCI 82 0), (82, aSI 84 6), (84, aLR 86 5), (86, aLI 87 3), (87, aLI 89 4), 
  (89, aCallV 92 0 114 3 [9]), (92, aLI 94 6), (94, aIf 97 (fun x => z_eq x 0) 102), (97, aLR 99 5), (99, aCallV 102 0 116 1 [9]), (102, aLR 103 0), 
  (103, aCI 104 1), (104, aCallV 107 1 198 2 [10]), (107, aRI)]
def mP_seal : Nat := 210
noncomputable def tP_seal : List (Nat × zA) := [
  (0, aLR 1 0), (1, aLI 2 1), (2, aLI 3 2), (3, aCallV 6 4 205 3 [10]), (6, aSR 7 3), (7, aLR 8 3), (8, aNon 11 17), (11, aLR 12 0), (12, aCI 13 (-1)), 
  (13, aCallV 16 1 199 2 [10]), (16, aRI), (17, aLR 18 0), (18, aGR 21 1 [10]), (21, aGI 24 15 [4]), (24, aIf 27 (fun x => z_eq x 0) 34), 
  (27, aLR 28 0), (28, aCI 30 (-3)), (30, aCallV 33 1 199 2 [10]), (33, aRI), (34, aLR 35 3), (35, aGI 38 6 [9]), (38, aIf 41 (fun x => z_eq x 0) 47), 
  (41, aLR 42 0), (42, aCI 43 1), (43, aCallV 46 1 200 2 [10]), (46, aRI), (47, aLR 48 3), (48, aCallV 51 0 116 1 [9]), (51, aLR 52 0), (52, aLR 53 3), 
  (53, aCallV 56 1 110 1 [9]), (56, aCallV 59 1 198 2 [10]), (59, aRI)]
def mP_lose : Nat := 211
noncomputable def tP_lose : List (Nat × zA) := [
  (0, aLR 1 0), (1, aLI 2 1), (2, aLI 3 2), (3, aCallV 6 4 205 3 [10]), (6, aSR 7 3), (7, aLR 8 3), (8, aNon 11 17), (11, aLR 12 0), (12, aCI 13 (-1)), 
  (13, aCallV 16 1 199 2 [10]), (16, aRI), (17, aLR 18 0), (18, aGR 21 1 [10]), (21, aGI 24 15 [4]), (24, aIf 27 (fun x => z_eq x 0) 34), 
  (27, aLR 28 0), (28, aCI 30 (-3)), (30, aCallV 33 1 199 2 [10]), (33, aRI), (34, aLR 35 3), (35, aGI 38 6 [9]), (38, aIf 41 (fun x => z_eq x 0) 47), 
  (41, aLR 42 0), (42, aCI 43 0), (43, aCallV 46 1 198 2 [10]), (46, aRI), (47, aLR 48 0), (48, aDup 49), (49, aGI 52 5 [10]), (52, aLR 53 3), 
  (53, aCallV 56 1 110 1 [9]), (56, aB 57 (fun x y => x - y)), (57, aPI 60 5 [10]), (60, aLR 61 3), (61, aCallV 64 0 118 1 [9]), (64, aLR 65 0), 
  (65, aCI 66 1), (66, aCallV 69 1 198 2 [10]), (69, aRI)]
def mP_tear : Nat := 212
noncomputable def tP_tear : List (Nat × zA) := [
  (0, aLR 1 0), (1, aLI 2 1), (2, aLI 3 2), (3, aCallV 6 4 205 3 [10]), (6, aSR 8 4), (8, aLR 10 4), (10, aNul 13 17), (13, aLI 14 3), 
  (14, aIf 17 (fun x => z_le 0 x) 23), (17, aLR 18 0), (18, aCI 19 (-1)), (19, aCallV 22 1 199 2 [10]), (22, aRI), (23, aLR 24 0), (24, aGR 27 1 [10]), 
  (27, aGI 30 15 [4]), (30, aIf 33 (fun x => z_eq x 0) 40), (33, aLR 34 0), (34, aCI 36 (-3)), (36, aCallV 39 1 199 2 [10]), (39, aRI), (40, aLR 42 4), 
  (42, aGI 45 6 [9]), (45, aIf 48 (fun x => z_eq x 0) 54), (48, aLR 49 0), (49, aCI 50 1), (50, aCallV 53 1 200 2 [10]), (53, aRI), (54, aLR 55 0), 
  (55, aDup 56), (56, aGI 59 5 [10]), (59, aLR 61 4), (61, aCallV 64 1 110 1 [9]), (64, aB 65 (fun x y => x - y)), (65, aPI 68 5 [10]), (68, aLR 70 4), 
  (70, aLI 71 3), (71, aCallV 74 0 119 2 [9]), (74, aLR 75 0), (75, aDup 76), (76, aGI 79 5 [10]), (79, aLR 81 4), (81, aCallV 84 1 110 1 [9]), 
  (84, aB 85 (fun x y => x + y)), (85, aPI 88 5 [10]), (88, aLR 89 0), (89, aLR 91 4), (91, aCallV 94 1 110 1 [9]), (94, aCallV 97 1 198 2 [10]), 
  (97, aRI)]
def mP_damage : Nat := 213
noncomputable def tP_damage : List (Nat × zA) := [
  (0, aLR 1 0), (1, aLI 2 1), (2, aLI 3 2), (3, aCallV 6 4 205 3 [10]), (6, aSR 8 5), (8, aLR 10 5), (10, aNon 13 19), (13, aLR 14 0), 
  (14, aCI 15 (-1)), (15, aCallV 18 1 199 2 [10]), (18, aRI), (19, aLR 20 0), (20, aGR 23 1 [10]), (23, aGI 26 15 [4]), 
  (26, aIf 29 (fun x => z_eq x 0) 36), (29, aLR 30 0), (30, aCI 32 (-3)), (32, aCallV 35 1 199 2 [10]), (35, aRI), (36, aLR 38 5), (38, aGI 41 6 [9]), 
  (41, aIf 44 (fun x => z_eq x 0) 50), (44, aLR 45 0), (45, aCI 46 1), (46, aCallV 49 1 200 2 [10]), (49, aRI), (50, aLI 51 3), 
  (51, aIf 54 (fun x => z_lt x 0) 63), (54, aLI 55 3), (55, aLR 57 5), (57, aGI 60 5 [9]), (60, aCmp 63 (fun x y => z_lt x y) 69), (63, aLR 64 0), 
  (64, aCI 65 2), (65, aCallV 68 1 200 2 [10]), (68, aRI), (69, aLR 71 5), (71, aGR 74 4 [9]), (74, aLI 75 3), (75, aLR 77 5), (77, aGR 80 4 [9]), 
  (80, aLI 81 3), (81, aXI 82 12), (82, aLI 84 4), (84, aB 85 (fun x y => x ^^^ y)), (85, aII 86 (fun x => x.toInt8.toInt32)), (86, aYB 87), 
  (87, aLR 88 0), (88, aLR 90 5), (90, aGR 93 4 [9]), (93, aLI 94 3), (94, aXI 95 12), (95, aCI 98 255), (98, aB 99 (fun x y => x &&& y)), 
  (99, aCallV 102 1 198 2 [10]), (102, aRI)]
def mP_byteOf : Nat := 214
noncomputable def tP_byteOf : List (Nat × zA) := [
  (0, aLR 1 0), (1, aLI 2 1), (2, aLI 3 2), (3, aCallV 6 4 205 3 [10]), (6, aSR 8 4), (8, aLR 10 4), (10, aNon 13 19), (13, aLR 14 0), 
  (14, aCI 15 (-1)), (15, aCallV 18 1 199 2 [10]), (18, aRI), (19, aLR 21 4), (21, aGI 24 6 [9]), (24, aIf 27 (fun x => z_eq x 0) 33), (27, aLR 28 0), 
  (28, aCI 29 1), (29, aCallV 32 1 200 2 [10]), (32, aRI), (33, aLI 34 3), (34, aIf 37 (fun x => z_lt x 0) 46), (37, aLI 38 3), (38, aLR 40 4), 
  (40, aGI 43 5 [9]), (43, aCmp 46 (fun x y => z_lt x y) 52), (46, aLR 47 0), (47, aCI 48 2), (48, aCallV 51 1 200 2 [10]), (51, aRI), (52, aLR 53 0), 
  (53, aLR 55 4), (55, aGR 58 4 [9]), (58, aLI 59 3), (59, aXI 60 12), (60, aCI 63 255), (63, aB 64 (fun x y => x &&& y)), 
  (64, aCallV 67 1 198 2 [10]), (67, aRI)]
def mP_head : Nat := 215
noncomputable def tP_head : List (Nat × zA) := [
  (0, aLR 1 0), (1, aLI 2 1), (2, aLI 3 2), (3, aCallV 6 4 205 3 [10]), (6, aSR 8 4), (8, aLR 10 4), (10, aNul 13 22), (13, aLI 14 3), 
  (14, aIf 17 (fun x => z_lt x 0) 22), (17, aLI 18 3), (18, aCI 19 3), (19, aCmp 22 (fun x y => z_le x y) 28), (22, aLR 23 0), (23, aCI 24 (-1)), 
  (24, aCallV 27 2 202 2 [10]), (27, aRJ), (28, aLR 30 4), (30, aGI 33 6 [9]), (33, aIf 36 (fun x => z_eq x 0) 42), (36, aLR 37 0), (37, aCI 38 1), 
  (38, aCallV 41 2 202 2 [10]), (41, aRJ), (42, aLI 43 3), (43, aIf 46 (fun x => z_ne x 0) 50), (46, aCI 47 0), (47, aGo 69), (50, aLI 51 3), 
  (51, aCI 52 1), (52, aCmp 55 (fun x y => z_ne x y) 59), (55, aCI 56 1), (56, aGo 69), (59, aLI 60 3), (60, aCI 61 2), 
  (61, aCmp 64 (fun x y => z_ne x y) 68), (64, aCI 65 3), (65, aGo 69), (68, aCI 69 5), (69, aSI 71 5), (71, aLI 72 3), 
  (72, aIf 75 (fun x => z_ne x 0) 79), (75, aCI 76 1), (76, aGo 89), (79, aLI 80 3), (80, aCI 81 3), (81, aCmp 84 (fun x y => z_ne x y) 88), 
  (84, aCI 85 4), (85, aGo 89), (88, aCI 89 2), (89, aSI 91 6), (91, aLR 93 4), (93, aGI 96 5 [9]), (96, aLI 98 5), (98, aLI 100 6), 
  (100, aB 101 (fun x y => x + y)), (101, aCmp 104 (fun x y => z_le y x) 110), (104, aLR 105 0), (105, aCI 106 2), (106, aCallV 109 2 202 2 [10]), 
  (109, aRJ), (110, aLR 111 0), (111, aLR 113 4), (113, aLI 115 5), (115, aLI 117 6), (117, aCallV 120 1 111 3 [9]), (120, aI2J 121), 
  (121, aCallV 124 2 203 2 [10]), (124, aRJ)]
def mP_sum : Nat := 216
noncomputable def tP_sum : List (Nat × zA) := [
  (0, aLR 1 0), (1, aLI 2 1), (2, aLI 3 2), (3, aCallV 6 4 205 3 [10]), (6, aSR 7 3), (7, aLR 8 3), (8, aNon 11 17), (11, aLR 12 0), (12, aCI 13 (-1)), 
  (13, aCallV 16 2 202 2 [10]), (16, aRJ), (17, aLR 18 3), (18, aGI 21 6 [9]), (21, aIf 24 (fun x => z_eq x 0) 30), (24, aLR 25 0), (25, aCI 26 1), 
  (26, aCallV 29 2 202 2 [10]), (29, aRJ), (30, aLR 31 3), (31, aGI 34 5 [9]), (34, aCI 35 5), (35, aCmp 38 (fun x y => z_le y x) 44), (38, aLR 39 0), 
  (39, aCI 40 2), (40, aCallV 43 2 202 2 [10]), (43, aRJ), (44, aLR 45 0), (45, aLR 46 3), (46, aCallV 49 1 115 1 [9]), (49, aI2J 50), 
  (50, aCallV 53 2 203 2 [10]), (53, aRJ)]
def mP_read : Nat := 217
noncomputable def tP_read : List (Nat × zA) := [
  (0, aLR 1 0), (1, aLI 2 1), (2, aLI 3 2), (3, aCallV 6 4 205 3 [10]), (6, aSR 7 3), (7, aLR 8 3), (8, aNon 11 17), (11, aLR 12 0), (12, aCI 13 (-1)), 
  (13, aCallV 16 1 199 2 [10]), (16, aRI), (17, aLR 18 3), (18, aCallV 21 1 117 1 [9]), (21, aSI 23 4), (23, aLI 25 4), 
  (25, aIf 28 (fun x => z_ne x 0) 39), (28, aLR 29 0), (29, aLR 30 3), (30, aCallV 33 1 110 1 [9]), (33, aCallV 36 1 198 2 [10]), (36, aGo 45), 
  (39, aLR 40 0), (40, aLI 42 4), (42, aCallV 45 1 200 2 [10]), (45, aRI)]
def mP_whole : Nat := 218
noncomputable def tP_whole : List (Nat × zA) := [
  (0, aLR 1 0), (1, aLI 2 1), (2, aCallV 5 4 204 2 [10]), (5, aSR 6 2), (6, aLR 7 2), (7, aNon 10 16), (10, aLR 11 0), (11, aCI 12 (-1)), 
  (12, aCallV 15 1 199 2 [10]), (15, aRI), (16, aCI 17 0), (17, aSI 18 3), (18, aCI 19 0), (19, aSI 21 4), (21, aLI 23 4), (23, aLR 24 2), 
  (24, aGI 27 1 [8]), (27, aCmp 30 (fun x y => z_le y x) 48), (30, aLR 31 2), (31, aLI 33 4), (33, aCallV 36 1 128 2 [8]), 
  (36, aIf 39 (fun x => z_eq x 0) 42), (39, aInc 42 3 1), (42, aInc 45 4 1), (45, aGo 21), (48, aLR 49 0), (49, aLI 50 3), 
  (50, aCallV 53 1 198 2 [10]), (53, aRI)]
def mP_finding : Nat := 219
noncomputable def tP_finding : List (Nat × zA) := [
  (0, aLR 1 0), (1, aLI 2 1), (2, aCallV 5 4 204 2 [10]), (5, aSR 6 3), (6, aLR 7 3), (7, aNul 10 14), (10, aLI 11 2), 
  (11, aIf 14 (fun x => z_le 0 x) 20), (14, aLR 15 0), (15, aCI 16 (-1)), (16, aCallV 19 1 199 2 [10]), (19, aRI), (20, aCI 21 0), (21, aSI 23 4), 
  (23, aCI 24 0), (24, aSI 26 5), (26, aLI 28 5), (28, aLR 29 3), (29, aGI 32 1 [8]), (32, aCmp 35 (fun x y => z_le y x) 69), (35, aLR 36 3), 
  (36, aLI 38 5), (38, aCallV 41 1 128 2 [8]), (41, aIf 44 (fun x => z_eq x 0) 47), (44, aGo 63), (47, aLI 49 4), (49, aLI 50 2), 
  (50, aCmp 53 (fun x y => z_ne x y) 60), (53, aLR 54 0), (54, aLI 56 5), (56, aCallV 59 1 198 2 [10]), (59, aRI), (60, aInc 63 4 1), 
  (63, aInc 66 5 1), (66, aGo 26), (69, aLR 70 0), (70, aCallV 73 1 201 1 [10]), (73, aRI)]
def mP_told : Nat := 220
noncomputable def tP_told : List (Nat × zA) := [
  (0, aLR 1 0), (1, aLI 2 1), (2, aLI 3 2), (3, aCallV 6 4 205 3 [10]), (6, aSR 8 4), (8, aLR 10 4), (10, aNul 13 22), (13, aLI 14 3), 
  (14, aIf 17 (fun x => z_lt x 0) 22), (17, aLI 18 3), (18, aCI 19 3), (19, aCmp 22 (fun x y => z_le x y) 28), (22, aLR 23 0), (23, aCI 24 (-1)), 
  (24, aCallV 27 1 199 2 [10]), (27, aRI), (28, aLR 29 0), (29, aLI 30 3), (30, aIf 33 (fun x => z_ne x 0) 41), (33, aLR 35 4), (35, aGI 38 0 [9]), 
  (38, aGo 72), (41, aLI 42 3), (42, aCI 43 1), (43, aCmp 46 (fun x y => z_ne x y) 54), (46, aLR 48 4), (48, aGI 51 1 [9]), (51, aGo 72), 
  (54, aLI 55 3), (55, aCI 56 2), (56, aCmp 59 (fun x y => z_ne x y) 67), (59, aLR 61 4), (61, aGI 64 2 [9]), (64, aGo 72), (67, aLR 69 4), 
  (69, aCallV 72 1 110 1 [9]), (72, aCallV 75 1 198 2 [10]), (75, aRI)]
def mP_instrument : Nat := 221
noncomputable def tP_instrument : List (Nat × zA) := [
  (0, aLI 1 1), (1, aIf 4 (fun x => z_lt x 0) 10), (4, aLI 5 1), (5, aCI 7 6), (7, aCmp 10 (fun x y => z_le x y) 16), (10, aLR 11 0), 
  (11, aCI 12 (-1)), (12, aCallV 15 1 199 2 [10]), (15, aRI), (16, aLR 17 0), (17, aGR 20 1 [10]), (20, aGI 23 15 [4]), 
  (23, aIf 26 (fun x => z_eq x 0) 33), (26, aLR 27 0), (27, aCI 29 (-3)), (29, aCallV 32 1 199 2 [10]), (32, aRI), (33, aLR 34 0), (34, aGR 37 1 [10]), 
  (37, aGI 40 10 [4]), (40, aCI 42 60), (42, aCmp 45 (fun x y => z_lt x y) 52), (45, aLR 46 0), (46, aCI 48 (-2)), (48, aCallV 51 1 199 2 [10]), 
  (51, aRI), (52, aLR 53 0), (53, aLR 54 0), (54, aGR 57 1 [10]), (57, aLI 58 1), (58, aCallV 61 1 166 2 [4]), (61, aCallV 64 1 198 2 [10]), (64, aRI)]
def mP_couple : Nat := 222
noncomputable def tP_couple : List (Nat × zA) := [
  (0, aLR 1 0), (1, aGR 4 1 [10]), (4, aLI 5 1), (5, aCallV 8 4 165 2 [4]), (8, aSR 9 3), (9, aLR 10 0), (10, aGR 13 1 [10]), (13, aLI 14 2), 
  (14, aCallV 17 4 165 2 [4]), (17, aSR 19 4), (19, aLR 20 3), (20, aNul 23 28), (23, aLR 25 4), (25, aNon 28 34), (28, aLR 29 0), (29, aCI 30 (-1)), 
  (30, aCallV 33 1 199 2 [10]), (33, aRI), (34, aLR 36 4), (36, aLI 37 1), (37, aCI 39 40), 
  (39, aCallU 42 1 3 [(0, 138), (1, 138), (2, 163), (3, 138), (5, 138), (6, 138), (7, 138)]), (42, aIf 45 (fun x => z_le x 0) 51), (45, aLR 46 0), 
  (46, aCI 47 (-1)), (47, aCallV 50 1 199 2 [10]), (50, aRI), (51, aLR 52 0), (52, aGR 55 1 [10]), (55, aGI 58 15 [4]), 
  (58, aIf 61 (fun x => z_eq x 0) 68), (61, aLR 62 0), (62, aCI 64 (-3)), (64, aCallV 67 1 199 2 [10]), (67, aRI), (68, aLR 69 3), 
  (69, aIs 72 [2] [0, 1, 3, 5, 6, 7]), (72, aIf 75 (fun x => z_eq x 0) 131), (75, aLR 76 3), (76, aCast 79 [2]), (79, aSR 81 5), (81, aLR 83 5), 
  (83, aGI 86 6 [2]), (86, aCI 88 8), (88, aCmp 91 (fun x y => z_le y x) 107), (91, aLR 92 0), (92, aGR 95 1 [10]), (95, aLI 96 1), (96, aLR 98 4), 
  (98, aGI 101 2 [0, 1, 2, 3, 5, 6, 7]), (101, aCallV 104 1 168 3 [4]), (104, aIf 107 (fun x => z_ne x 0) 114), (107, aLR 108 0), (108, aCI 110 (-2)), 
  (110, aCallV 113 1 199 2 [10]), (113, aRI), (114, aLR 116 5), (116, aLR 118 4), (118, aCallV 121 0 160 2 [2]), (121, aLR 122 0), (122, aLR 124 5), 
  (124, aGI 127 6 [2]), (127, aCallV 130 1 198 2 [10]), (130, aRI), (131, aLR 132 0), (132, aCI 133 5), (133, aCallV 136 1 200 2 [10]), (136, aRI)]
def mP_chest : Nat := 223
noncomputable def tP_chest : List (Nat × zA) := [
  (0, aLI 1 1), (1, aIf 4 (fun x => z_lt x 0) 10), (4, aLI 5 1), (5, aCI 7 7), (7, aCmp 10 (fun x y => z_le x y) 16), (10, aLR 11 0), 
  (11, aCI 12 (-1)), (12, aCallV 15 1 199 2 [10]), (15, aRI), (16, aLR 17 0), (17, aGR 20 1 [10]), (20, aGI 23 15 [4]), 
  (23, aIf 26 (fun x => z_eq x 0) 33), (26, aLR 27 0), (27, aCI 29 (-3)), (29, aCallV 32 1 199 2 [10]), (32, aRI), (33, aLR 34 0), (34, aGR 37 1 [10]), 
  (37, aGI 40 11 [4]), (40, aCI 42 16), (42, aCmp 45 (fun x y => z_le y x) 60), (45, aLI 46 2), (46, aCI 49 200), (49, aLR 50 0), (50, aGR 53 1 [10]), 
  (53, aCallV 56 1 171 1 [4]), (56, aB 57 (fun x y => x - y)), (57, aCmp 60 (fun x y => z_le x y) 67), (60, aLR 61 0), (61, aCI 63 (-2)), 
  (63, aCallV 66 1 199 2 [10]), (66, aRI), (67, aLI 68 2), (68, aIf 71 (fun x => z_le 0 x) 77), (71, aLR 72 0), (72, aCI 73 3), 
  (73, aCallV 76 1 200 2 [10]), (76, aRI), (77, aLR 78 0), (78, aLR 79 0), (79, aGR 82 1 [10]), (82, aLI 83 1), (83, aLI 84 2), 
  (84, aCallV 87 1 172 3 [4]), (87, aCallV 90 1 198 2 [10]), (90, aRI)]
def mP_place : Nat := 224
noncomputable def tP_place : List (Nat × zA) := [
  (0, aLR 1 0), (1, aGR 4 1 [10]), (4, aLI 5 3), (5, aCallV 8 4 165 2 [4]), (8, aSR 10 4), (10, aLR 11 0), (11, aGR 14 1 [10]), (14, aLI 15 1), 
  (15, aCallV 18 1 170 2 [4]), (18, aIf 21 (fun x => z_eq x 0) 31), (21, aLR 23 4), (23, aNon 26 37), (26, aLI 27 3), (27, aCI 28 (-1)), 
  (28, aCmp 31 (fun x y => z_eq x y) 37), (31, aLR 32 0), (32, aCI 33 (-1)), (33, aCallV 36 1 199 2 [10]), (36, aRI), (37, aLR 38 0), 
  (38, aGR 41 1 [10]), (41, aGI 44 15 [4]), (44, aIf 47 (fun x => z_eq x 0) 54), (47, aLR 48 0), (48, aCI 50 (-3)), (50, aCallV 53 1 199 2 [10]), 
  (53, aRI), (54, aLR 55 0), (55, aGR 58 1 [10]), (58, aLI 59 1), (59, aLI 60 2), (60, aCallV 63 1 173 3 [4]), (63, aSI 65 5), (65, aLI 67 5), 
  (67, aIf 70 (fun x => z_le 0 x) 76), (70, aLR 71 0), (71, aCI 72 2), (72, aCallV 75 1 200 2 [10]), (75, aRI), (76, aLR 78 4), (78, aNul 81 105), 
  (81, aLR 83 4), (83, aLR 84 0), (84, aGR 87 1 [10]), (87, aGR 90 1 [4]), (90, aLI 91 1), (91, aXI 92 14), 
  (92, aCallU 95 1 2 [(0, 137), (1, 137), (2, 137), (3, 137), (5, 137), (6, 137), (7, 137)]), (95, aIf 98 (fun x => z_ne x 0) 105), (98, aLR 99 0), 
  (99, aCI 101 6), (101, aCallV 104 1 200 2 [10]), (104, aRI), (105, aLR 106 0), (106, aGR 109 1 [10]), (109, aGR 112 3 [4]), (112, aLI 114 5), 
  (114, aLI 115 3), (115, aYI 116), (116, aLR 117 0), (117, aCI 118 1), (118, aCallV 121 1 198 2 [10]), (121, aRI)]
def mP_wire : Nat := 225
noncomputable def tP_wire : List (Nat × zA) := [
  (0, aLI 1 1), (1, aIf 4 (fun x => z_lt x 0) 10), (4, aLI 5 1), (5, aCI 7 8), (7, aCmp 10 (fun x y => z_lt x y) 16), (10, aLR 11 0), 
  (11, aCI 12 (-1)), (12, aCallV 15 1 199 2 [10]), (15, aRI), (16, aLI 17 2), (17, aCI 18 (-1)), (18, aCmp 21 (fun x y => z_eq x y) 38), 
  (21, aLR 22 0), (22, aGR 25 1 [10]), (25, aLI 26 2), (26, aCallV 29 1 170 2 [4]), (29, aIf 32 (fun x => z_ne x 0) 38), (32, aLR 33 0), 
  (33, aCI 34 (-1)), (34, aCallV 37 1 199 2 [10]), (37, aRI), (38, aLR 39 0), (39, aGR 42 1 [10]), (42, aGI 45 15 [4]), 
  (45, aIf 48 (fun x => z_eq x 0) 55), (48, aLR 49 0), (49, aCI 51 (-3)), (51, aCallV 54 1 199 2 [10]), (54, aRI), (55, aLR 56 0), (56, aGR 59 1 [10]), 
  (59, aGR 62 4 [4]), (62, aLI 63 1), (63, aLI 64 2), (64, aYI 65), (65, aLR 66 0), (66, aGR 69 1 [10]), (69, aGR 72 5 [4]), (72, aLI 73 1), 
  (73, aLI 74 3), (74, aYI 75), (75, aLR 76 0), (76, aCI 77 1), (77, aCallV 80 1 198 2 [10]), (80, aRI)]
def mP_spoil : Nat := 226
noncomputable def tP_spoil : List (Nat × zA) := [
  (0, aLR 1 0), (1, aGR 4 1 [10]), (4, aLI 5 1), (5, aCallV 8 4 165 2 [4]), (8, aNul 11 22), (11, aLI 12 2), (12, aIf 15 (fun x => z_lt x 0) 22), 
  (15, aLI 16 2), (16, aCI 19 1000), (19, aCmp 22 (fun x y => z_le x y) 28), (22, aLR 23 0), (23, aCI 24 (-1)), (24, aCallV 27 1 199 2 [10]), 
  (27, aRI), (28, aLR 29 0), (29, aGR 32 1 [10]), (32, aGI 35 15 [4]), (35, aIf 38 (fun x => z_eq x 0) 45), (38, aLR 39 0), (39, aCI 41 (-3)), 
  (41, aCallV 44 1 199 2 [10]), (44, aRI), (45, aLR 46 0), (46, aGR 49 1 [10]), (49, aGR 52 7 [4]), (52, aCI 54 23), (54, aLI 55 1), 
  (55, aB 56 (fun x y => x + y)), (56, aXI 57 14), (57, aSI 58 3), (58, aLR 59 0), (59, aGR 62 1 [10]), (62, aGR 65 7 [4]), (65, aCI 67 23), 
  (67, aLI 68 1), (68, aB 69 (fun x y => x + y)), (69, aLI 70 2), (70, aYI 71), (71, aLR 72 0), (72, aLI 73 3), (73, aCallV 76 1 198 2 [10]), 
  (76, aRI)]
def mP_tune : Nat := 227
noncomputable def tP_tune : List (Nat × zA) := [
  (0, aLR 1 0), (1, aGR 4 1 [10]), (4, aLI 5 1), (5, aCallV 8 4 165 2 [4]), (8, aSR 10 4), (10, aLR 12 4), (12, aNul 15 37), (15, aLI 16 2), 
  (16, aIf 19 (fun x => z_lt x 0) 37), (19, aLI 20 2), (20, aCI 23 1000), (23, aCmp 26 (fun x y => z_lt y x) 37), (26, aLI 27 3), 
  (27, aIf 30 (fun x => z_lt x 0) 37), (30, aLI 31 3), (31, aCI 34 1000), (34, aCmp 37 (fun x y => z_le x y) 43), (37, aLR 38 0), (38, aCI 39 (-1)), 
  (39, aCallV 42 1 199 2 [10]), (42, aRI), (43, aLI 44 3), (44, aIf 47 (fun x => z_ne x 0) 57), (47, aLI 48 2), (48, aIf 51 (fun x => z_eq x 0) 57), 
  (51, aLR 52 0), (52, aCI 53 (-1)), (53, aCallV 56 1 199 2 [10]), (56, aRI), (57, aLR 58 0), (58, aGR 61 1 [10]), (61, aGI 64 15 [4]), 
  (64, aIf 67 (fun x => z_eq x 0) 74), (67, aLR 68 0), (68, aCI 70 (-3)), (70, aCallV 73 1 199 2 [10]), (73, aRI), (74, aLR 76 4), 
  (76, aGI 79 1 [0, 1, 2, 3, 5, 6, 7]), (79, aCI 80 3), (80, aCmp 83 (fun x y => z_eq x y) 93), (83, aLR 85 4), (85, aGI 88 1 [0, 1, 2, 3, 5, 6, 7]), 
  (88, aCI 90 6), (90, aCmp 93 (fun x y => z_ne x y) 99), (93, aLR 94 0), (94, aCI 95 5), (95, aCallV 98 1 200 2 [10]), (98, aRI), (99, aLR 101 4), 
  (101, aLI 102 2), (102, aPI 105 3 [0, 1, 2, 3, 5, 6, 7]), (105, aLR 107 4), (107, aLI 108 3), (108, aPI 111 4 [0, 1, 2, 3, 5, 6, 7]), 
  (111, aLR 112 0), (112, aLI 113 3), (113, aIf 116 (fun x => z_ne x 0) 120), (116, aCI 117 0), (117, aGo 121), (120, aCI 121 1), 
  (121, aCallV 124 1 198 2 [10]), (124, aRI)]
def mP_base : Nat := 228
noncomputable def tP_base : List (Nat × zA) := [
  (0, aLI 1 1), (1, aCI 2 1), (2, aCmp 5 (fun x y => z_lt x y) 12), (5, aLI 6 1), (6, aCI 9 32000), (9, aCmp 12 (fun x y => z_le x y) 18), 
  (12, aLR 13 0), (13, aCI 14 (-1)), (14, aCallV 17 1 199 2 [10]), (17, aRI), (18, aLR 19 0), (19, aGR 22 1 [10]), (22, aGI 25 15 [4]), 
  (25, aIf 28 (fun x => z_eq x 0) 35), (28, aLR 29 0), (29, aCI 31 (-3)), (31, aCallV 34 1 199 2 [10]), (34, aRI), (35, aLR 36 0), (36, aGR 39 1 [10]), 
  (39, aLI 40 1), (40, aPI 43 12 [4]), (43, aLR 44 0), (44, aCI 45 1), (45, aCallV 48 1 198 2 [10]), (48, aRI)]
def mP_frequency : Nat := 229
noncomputable def tP_frequency : List (Nat × zA) := [
  (0, aLR 1 0), (1, aGR 4 1 [10]), (4, aLI 5 1), (5, aCallV 8 4 165 2 [4]), (8, aSR 9 2), (9, aLR 10 2), (10, aNon 13 19), (13, aLR 14 0), 
  (14, aCI 15 (-1)), (15, aCallV 18 2 202 2 [10]), (18, aRJ), (19, aLR 20 2), (20, aGI 23 1 [0, 1, 2, 3, 5, 6, 7]), (23, aCI 24 3), 
  (24, aCmp 27 (fun x y => z_ne x y) 33), (27, aLR 28 0), (28, aCI 29 5), (29, aCallV 32 2 202 2 [10]), (32, aRJ), (33, aLR 34 0), (34, aLR 35 0), 
  (35, aGR 38 1 [10]), (38, aLR 39 2), (39, aCallV 42 3 169 2 [4]), (42, aCall 45 2 230 1), (45, aCallV 48 2 203 2 [10]), (48, aRJ)]
def mP_bitsOf : Nat := 230
noncomputable def tP_bitsOf : List (Nat × zA) := [
  (0, aLD 1 0), (1, aCD 2 0), (2, aDcmp 3 .g), (3, aIf 6 (fun x => z_le 0 x) 10), (6, aCJ 9 9221120237041090560), (9, aRJ), (10, aLD 11 0), 
  (11, aCD 12 0), (12, aDcmp 13 .l), (13, aIf 16 (fun x => z_ne x 0) 18), (16, aCJ 17 0), (17, aRJ), (18, aLD 19 0), (19, aSD 20 2), (20, aCJ 23 1023), 
  (23, aSJ 25 4), (25, aCI 26 0), (26, aSI 28 6), (28, aLI 30 6), (30, aCI 33 1023), (33, aCmp 36 (fun x y => z_le y x) 62), (36, aLD 37 2), 
  (37, aCD 40 4611686018427387904), (40, aDcmp 41 .l), (41, aIf 44 (fun x => z_lt x 0) 62), (44, aLD 45 2), (45, aCD 48 4611686018427387904), 
  (48, aDD 49 zf_div.1), (49, aSD 50 2), (50, aLJ 52 4), (52, aCJ 53 1), (53, aJ 54 (fun x y => x + y)), (54, aSJ 56 4), (56, aInc 59 6 1), 
  (59, aGo 28), (62, aCI 63 0), (63, aSI 65 6), (65, aLI 67 6), (67, aCI 70 1022), (70, aCmp 73 (fun x y => z_le y x) 97), (73, aLD 74 2), 
  (74, aCD 75 4607182418800017408), (75, aDcmp 76 .g), (76, aIf 79 (fun x => z_le 0 x) 97), (79, aLD 80 2), (80, aCD 83 4611686018427387904), 
  (83, aDD 84 zf_mul.1), (84, aSD 85 2), (85, aLJ 87 4), (87, aCJ 88 1), (88, aJ 89 (fun x y => x - y)), (89, aSJ 91 4), (91, aInc 94 6 1), 
  (94, aGo 65), (97, aLJ 99 4), (99, aCI 101 52), (101, aJsh 102 (fun x y => x <<< (y.toInt64 &&& 63))), (102, aLD 103 2), 
  (103, aCD 104 4607182418800017408), (104, aDD 105 zf_sub.1), (105, aCD 108 4841369599423283200), (108, aDD 109 zf_mul.1), (109, aD2J 110), 
  (110, aJ 111 (fun x y => x ||| y)), (111, aRJ)]
def mP_mute : Nat := 231
noncomputable def tP_mute : List (Nat × zA) := [
  (0, aLR 1 0), (1, aGR 4 1 [10]), (4, aLI 5 1), (5, aCallV 8 4 165 2 [4]), (8, aSR 9 2), (9, aLR 10 2), (10, aNon 13 19), (13, aLR 14 0), 
  (14, aCI 15 (-1)), (15, aCallV 18 1 199 2 [10]), (18, aRI), (19, aLR 20 2), (20, aGI 23 1 [0, 1, 2, 3, 5, 6, 7]), (23, aCI 24 3), 
  (24, aCmp 27 (fun x y => z_ne x y) 33), (27, aLR 28 0), (28, aCI 29 5), (29, aCallV 32 1 200 2 [10]), (32, aRI), (33, aLR 34 0), (34, aLR 35 0), 
  (35, aGR 38 1 [10]), (38, aLR 39 2), (39, aCallV 42 3 169 2 [4]), (42, aCD 43 0), (43, aDcmp 44 .g), (44, aIf 47 (fun x => z_le 0 x) 51), 
  (47, aCI 48 1), (48, aGo 52), (51, aCI 52 0), (52, aCallV 55 1 198 2 [10]), (55, aRI)]
def mP_higher : Nat := 232
noncomputable def tP_higher : List (Nat × zA) := [
  (0, aLR 1 0), (1, aGR 4 1 [10]), (4, aLI 5 1), (5, aCallV 8 4 165 2 [4]), (8, aSR 9 3), (9, aLR 10 0), (10, aGR 13 1 [10]), (13, aLI 14 2), 
  (14, aCallV 17 4 165 2 [4]), (17, aSR 19 4), (19, aLR 20 3), (20, aNul 23 28), (23, aLR 25 4), (25, aNon 28 34), (28, aLR 29 0), (29, aCI 30 (-1)), 
  (30, aCallV 33 1 199 2 [10]), (33, aRI), (34, aLR 35 3), (35, aGI 38 1 [0, 1, 2, 3, 5, 6, 7]), (38, aCI 39 3), 
  (39, aCmp 42 (fun x y => z_eq x y) 51), (42, aLR 44 4), (44, aGI 47 1 [0, 1, 2, 3, 5, 6, 7]), (47, aCI 48 3), (48, aCmp 51 (fun x y => z_ne x y) 57), 
  (51, aLR 52 0), (52, aCI 53 5), (53, aCallV 56 1 200 2 [10]), (56, aRI), (57, aLR 58 0), (58, aGR 61 1 [10]), (61, aLR 62 3), 
  (62, aCallV 65 3 169 2 [4]), (65, aSD 67 5), (67, aLR 68 0), (68, aGR 71 1 [10]), (71, aLR 73 4), (73, aCallV 76 3 169 2 [4]), (76, aSD 78 7), 
  (78, aLD 80 5), (80, aCD 81 0), (81, aDcmp 82 .g), (82, aIf 85 (fun x => z_lt x 0) 92), (85, aLD 87 7), (87, aCD 88 0), (88, aDcmp 89 .g), 
  (89, aIf 92 (fun x => z_le 0 x) 98), (92, aLR 93 0), (93, aCI 94 0), (94, aCallV 97 1 198 2 [10]), (97, aRI), (98, aLR 99 0), (99, aLD 101 5), 
  (101, aLD 103 7), (103, aDcmp 104 .l), (104, aIf 107 (fun x => z_le x 0) 111), (107, aCI 108 1), (108, aGo 124), (111, aLD 113 5), (113, aLD 115 7), 
  (115, aDcmp 116 .g), (116, aIf 119 (fun x => z_le 0 x) 123), (119, aCI 120 3), (120, aGo 124), (123, aCI 124 2), (124, aCallV 127 1 198 2 [10]), 
  (127, aRI)]
def mP_play : Nat := 233
noncomputable def tP_play : List (Nat × zA) := [
  (0, aLR 1 0), (1, aLI 2 1), (2, aCallV 5 4 204 2 [10]), (5, aSR 6 2), (6, aLR 7 2), (7, aNon 10 16), (10, aLR 11 0), (11, aCI 12 (-1)), 
  (12, aCallV 15 1 199 2 [10]), (15, aRI), (16, aLR 17 0), (17, aGR 20 1 [10]), (20, aGI 23 15 [4]), (23, aIf 26 (fun x => z_eq x 0) 33), 
  (26, aLR 27 0), (27, aCI 29 (-3)), (29, aCallV 32 1 199 2 [10]), (32, aRI), (33, aLR 34 0), (34, aGR 37 1 [10]), (37, aLR 38 2), 
  (38, aCallV 41 0 186 2 [4]), (41, aLR 42 0), (42, aLR 43 2), (43, aGI 46 1 [8]), (46, aCallV 49 1 198 2 [10]), (49, aRI)]
def mP_tick : Nat := 234
noncomputable def tP_tick : List (Nat × zA) := [
  (0, aLI 1 1), (1, aIf 4 (fun x => z_lt x 0) 11), (4, aLI 5 1), (5, aCI 8 500), (8, aCmp 11 (fun x y => z_le x y) 17), (11, aLR 12 0), 
  (12, aCI 13 (-1)), (13, aCallV 16 1 199 2 [10]), (16, aRI), (17, aLR 18 0), (18, aGR 21 1 [10]), (21, aGI 24 15 [4]), 
  (24, aIf 27 (fun x => z_ne x 0) 32), (27, aLR 28 0), (28, aCallV 31 1 201 1 [10]), (31, aRI), (32, aCI 33 0), (33, aSI 34 2), (34, aLI 35 2), 
  (35, aLI 36 1), (36, aCmp 39 (fun x y => z_le y x) 75), (39, aLR 40 0), (40, aGR 43 1 [10]), (43, aGI 46 14 [4]), (46, aCI 49 20000), 
  (49, aCmp 52 (fun x y => z_le y x) 75), (52, aLR 53 0), (53, aGR 56 1 [10]), (56, aCallV 59 1 190 1 [4]), (59, aIf 62 (fun x => z_eq x 0) 75), 
  (62, aLR 63 0), (63, aGR 66 1 [10]), (66, aCallV 69 0 192 1 [4]), (69, aInc 72 2 1), (72, aGo 34), (75, aLR 76 0), (76, aLI 77 2), 
  (77, aCallV 80 1 198 2 [10]), (80, aRI)]
def mP_halt : Nat := 235
noncomputable def tP_halt : List (Nat × zA) := [
  (0, aLR 1 0), (1, aGR 4 1 [10]), (4, aGI 7 15 [4]), (7, aIf 10 (fun x => z_ne x 0) 15), (10, aLR 11 0), (11, aCallV 14 1 201 1 [10]), (14, aRI), 
  (15, aLR 16 0), (16, aGR 19 1 [10]), (19, aGR 22 7 [4]), (22, aCI 24 14), (24, aXI 25 14), (25, aSI 26 1), (26, aLR 27 0), (27, aGR 30 1 [10]), 
  (30, aCallV 33 0 185 1 [4]), (33, aLR 34 0), (34, aGR 37 1 [10]), (37, aCI 38 0), (38, aPZ 41 15 [4]), (41, aLR 42 0), (42, aLI 43 1), 
  (43, aCallV 46 1 198 2 [10]), (46, aRI)]
def mP_back : Nat := 236
noncomputable def tP_back : List (Nat × zA) := [
  (0, aLI 1 1), (1, aIf 4 (fun x => z_lt x 0) 11), (4, aLI 5 1), (5, aCI 8 500), (8, aCmp 11 (fun x y => z_le x y) 17), (11, aLR 12 0), 
  (12, aCI 13 (-1)), (13, aCallV 16 1 199 2 [10]), (16, aRI), (17, aLR 18 0), (18, aGR 21 1 [10]), (21, aGI 24 15 [4]), 
  (24, aIf 27 (fun x => z_eq x 0) 38), (27, aLR 28 0), (28, aGR 31 1 [10]), (31, aLI 32 1), (32, aCallV 35 1 189 2 [4]), 
  (35, aIf 38 (fun x => z_ne x 0) 43), (38, aLR 39 0), (39, aCallV 42 1 201 1 [10]), (42, aRI), (43, aLR 44 0), (44, aLR 45 0), (45, aGR 48 1 [10]), 
  (48, aGR 51 7 [4]), (51, aCI 52 3), (52, aXI 53 14), (53, aCallV 56 1 198 2 [10]), (56, aRI)]
def mP_open : Nat := 237
noncomputable def tP_open : List (Nat × zA) := [
  (0, aLI 1 1), (1, aIf 4 (fun x => z_lt x 0) 10), (4, aLI 5 1), (5, aCI 7 8), (7, aCmp 10 (fun x y => z_lt x y) 16), (10, aLR 11 0), 
  (11, aCI 12 (-1)), (12, aCallV 15 1 199 2 [10]), (15, aRI), (16, aLR 17 0), (17, aGR 20 1 [10]), (20, aLI 21 1), (21, aCallV 24 1 179 2 [4]), 
  (24, aIf 27 (fun x => z_ne x 0) 32), (27, aLR 28 0), (28, aCallV 31 1 201 1 [10]), (31, aRI), (32, aLR 33 0), (33, aLR 34 0), (34, aGR 37 1 [10]), 
  (37, aLI 38 1), (38, aCallV 41 1 178 2 [4]), (41, aCallV 44 1 198 2 [10]), (44, aRI)]
def mP_sounding : Nat := 238
noncomputable def tP_sounding : List (Nat × zA) := [
  (0, aLI 1 1), (1, aIf 4 (fun x => z_lt x 0) 13), (4, aLI 5 2), (5, aIf 8 (fun x => z_lt x 0) 13), (8, aLI 9 2), (9, aCI 10 2), 
  (10, aCmp 13 (fun x y => z_le x y) 19), (13, aLR 14 0), (14, aCI 15 (-1)), (15, aCallV 18 1 199 2 [10]), (18, aRI), (19, aLI 20 1), (20, aLR 21 0), 
  (21, aGR 24 1 [10]), (24, aGR 27 7 [4]), (27, aCI 29 14), (29, aXI 30 14), (30, aCmp 33 (fun x y => z_lt x y) 38), (33, aLR 34 0), 
  (34, aCallV 37 1 201 1 [10]), (37, aRI), (38, aLR 39 0), (39, aGR 42 1 [10]), (42, aLI 43 1), (43, aCallV 46 1 177 2 [4]), (46, aSI 47 3), 
  (47, aLI 48 2), (48, aIf 51 (fun x => z_ne x 0) 60), (51, aLR 52 0), (52, aLI 53 3), (53, aCall 56 1 174 1), (56, aCallV 59 1 198 2 [10]), (59, aRI), 
  (60, aLR 61 0), (61, aLI 62 2), (62, aCI 63 1), (63, aCmp 66 (fun x y => z_ne x y) 73), (66, aLI 67 3), (67, aCall 70 1 175 1), (70, aGo 81), 
  (73, aLR 74 0), (74, aGR 77 1 [10]), (77, aLI 78 3), (78, aCallV 81 1 176 2 [4]), (81, aCallV 84 1 198 2 [10]), (84, aRI)]
def mP_loud : Nat := 239
noncomputable def tP_loud : List (Nat × zA) := [
  (0, aLI 1 1), (1, aIf 4 (fun x => z_le 0 x) 10), (4, aLR 5 0), (5, aCI 6 (-1)), (6, aCallV 9 1 199 2 [10]), (9, aRI), (10, aLI 11 1), (11, aLR 12 0), 
  (12, aGR 15 1 [10]), (15, aGR 18 7 [4]), (18, aCI 20 14), (20, aXI 21 14), (21, aCmp 24 (fun x y => z_lt x y) 29), (24, aLR 25 0), 
  (25, aCallV 28 1 201 1 [10]), (28, aRI), (29, aLR 30 0), (30, aGR 33 1 [10]), (33, aLI 34 1), (34, aCallV 37 1 177 2 [4]), (37, aSI 38 2), 
  (38, aLR 39 0), (39, aGR 42 1 [10]), (42, aLI 43 2), (43, aCall 46 1 174 1), (46, aCallV 49 4 165 2 [4]), (49, aSR 50 3), (50, aLR 51 3), 
  (51, aNon 54 59), (54, aLR 55 0), (55, aCallV 58 1 201 1 [10]), (58, aRI), (59, aLR 60 3), (60, aGI 63 1 [0, 1, 2, 3, 5, 6, 7]), (63, aCI 64 3), 
  (64, aCmp 67 (fun x y => z_eq x y) 86), (67, aLR 68 0), (68, aGR 71 1 [10]), (71, aLR 72 3), (72, aCallV 75 3 169 2 [4]), (75, aCD 76 0), 
  (76, aDcmp 77 .g), (77, aIf 80 (fun x => z_le 0 x) 86), (80, aLR 81 0), (81, aCI 82 0), (82, aCallV 85 1 198 2 [10]), (85, aRI), (86, aLR 87 0), 
  (87, aGR 90 1 [10]), (90, aGR 93 7 [4]), (93, aCI 95 15), (95, aLI 96 2), (96, aCall 99 1 175 1), (99, aB 100 (fun x y => x + y)), (100, aXI 101 14), 
  (101, aSI 103 4), (103, aLR 104 0), (104, aGR 107 1 [10]), (107, aGR 110 7 [4]), (110, aCI 112 8), (112, aXI 113 14), (113, aCall 116 1 6 1), 
  (116, aSI 118 5), (118, aLR 119 0), (119, aLR 120 3), (120, aLI 122 4), (122, aLR 123 0), (123, aGR 126 1 [10]), (126, aLI 127 2), 
  (127, aCallV 130 1 176 2 [4]), (130, aLI 132 5), (132, aLR 133 0), (133, aGR 136 1 [10]), (136, aGR 139 6 [4]), 
  (139, aCallU 142 1 5 [(0, 144), (1, 156), (2, 161), (3, 150), (5, 141), (6, 152), (7, 144)]), (142, aCallV 145 1 198 2 [10]), (145, aRI)]
def mP_level : Nat := 240
noncomputable def tP_level : List (Nat × zA) := [
  (0, aLI 1 1), (1, aIf 4 (fun x => z_lt x 0) 10), (4, aLI 5 1), (5, aCI 7 8), (7, aCmp 10 (fun x y => z_lt x y) 16), (10, aLR 11 0), 
  (11, aCI 12 (-1)), (12, aCallV 15 1 199 2 [10]), (15, aRI), (16, aLR 17 0), (17, aLR 18 0), (18, aGR 21 1 [10]), (21, aGR 24 7 [4]), (24, aCI 26 15), 
  (26, aLI 27 1), (27, aB 28 (fun x y => x + y)), (28, aXI 29 14), (29, aCallV 32 1 198 2 [10]), (32, aRI)]
def mP_stop : Nat := 241
noncomputable def tP_stop : List (Nat × zA) := [
  (0, aLI 1 1), (1, aIf 4 (fun x => z_lt x 0) 10), (4, aLI 5 1), (5, aCI 7 16), (7, aCmp 10 (fun x y => z_lt x y) 16), (10, aLR 11 0), 
  (11, aCI 12 (-1)), (12, aCallV 15 1 199 2 [10]), (15, aRI), (16, aLR 17 0), (17, aLR 18 0), (18, aGR 21 1 [10]), (21, aGR 24 7 [4]), (24, aCI 26 8), 
  (26, aXI 27 14), (27, aLI 28 1), (28, aB 29 (fun x y => x >>> (y &&& 31))), (29, aCI 30 1), (30, aB 31 (fun x y => x &&& y)), 
  (31, aCallV 34 1 198 2 [10]), (34, aRI)]
def mP_at : Nat := 242
noncomputable def tP_at : List (Nat × zA) := [
  (0, aLI 1 1), (1, aIf 4 (fun x => z_lt x 0) 10), (4, aLI 5 1), (5, aCI 7 8), (7, aCmp 10 (fun x y => z_le x y) 16), (10, aLR 11 0), 
  (11, aCI 12 (-1)), (12, aCallV 15 1 199 2 [10]), (15, aRI), (16, aLI 17 1), (17, aCI 19 8), (19, aCmp 22 (fun x y => z_ne x y) 34), (22, aLR 23 0), 
  (23, aLR 24 0), (24, aGR 27 1 [10]), (27, aGI 30 14 [4]), (30, aCallV 33 1 198 2 [10]), (33, aRI), (34, aLI 35 1), (35, aCI 37 7), 
  (37, aCmp 40 (fun x y => z_ne x y) 60), (40, aLR 41 0), (41, aLR 42 0), (42, aGR 45 1 [10]), (45, aGI 48 15 [4]), 
  (48, aIf 51 (fun x => z_eq x 0) 55), (51, aCI 52 1), (52, aGo 56), (55, aCI 56 0), (56, aCallV 59 1 198 2 [10]), (59, aRI), (60, aLR 61 0), 
  (61, aLR 62 0), (62, aGR 65 1 [10]), (65, aGR 68 7 [4]), (68, aLI 69 1), (69, aXI 70 14), (70, aCallV 73 1 198 2 [10]), (73, aRI)]
def mP_times : Nat := 243
noncomputable def tP_times : List (Nat × zA) := [
  (0, aLR 1 0), (1, aGR 4 1 [10]), (4, aLI 5 1), (5, aCallV 8 4 165 2 [4]), (8, aNul 11 20), (11, aLI 12 2), (12, aIf 15 (fun x => z_lt x 0) 20), 
  (15, aLI 16 2), (16, aCI 17 1), (17, aCmp 20 (fun x y => z_le x y) 26), (20, aLR 21 0), (21, aCI 22 (-1)), (22, aCallV 25 1 199 2 [10]), (25, aRI), 
  (26, aLR 27 0), (27, aLR 28 0), (28, aGR 31 1 [10]), (31, aGR 34 7 [4]), (34, aLI 35 2), (35, aIf 38 (fun x => z_ne x 0) 43), (38, aCI 40 83), 
  (40, aGo 46), (43, aCI 46 143), (46, aLI 47 1), (47, aB 48 (fun x y => x + y)), (48, aXI 49 14), (49, aCallV 52 1 198 2 [10]), (52, aRI)]
def mP_event : Nat := 244
noncomputable def tP_event : List (Nat × zA) := [
  (0, aLI 1 1), (1, aIf 4 (fun x => z_lt x 0) 13), (4, aLI 5 2), (5, aIf 8 (fun x => z_lt x 0) 13), (8, aLI 9 2), (9, aCI 10 3), 
  (10, aCmp 13 (fun x y => z_le x y) 19), (13, aLR 14 0), (14, aCI 15 (-1)), (15, aCallV 18 1 199 2 [10]), (18, aRI), (19, aLI 20 1), 
  (20, aCI 23 1500), (23, aCmp 26 (fun x y => z_le y x) 40), (26, aLI 27 1), (27, aLR 28 0), (28, aGR 31 1 [10]), (31, aGR 34 7 [4]), (34, aCI 36 13), 
  (36, aXI 37 14), (37, aCmp 40 (fun x y => z_lt x y) 45), (40, aLR 41 0), (41, aCallV 44 1 201 1 [10]), (44, aRI), (45, aLR 46 0), (46, aLR 47 0), 
  (47, aGR 50 1 [10]), (50, aGR 53 9 [4]), (53, aCI 54 4), (54, aLI 55 1), (55, aB 56 (fun x y => x * y)), (56, aLI 57 2), 
  (57, aB 58 (fun x y => x + y)), (58, aXI 59 14), (59, aCallV 62 1 198 2 [10]), (62, aRI)]
def mP_cut : Nat := 245
noncomputable def tP_cut : List (Nat × zA) := [
  (0, aLR 1 0), (1, aLI 2 1), (2, aCallV 5 4 204 2 [10]), (5, aSR 6 3), (6, aLR 7 3), (7, aNul 10 22), (10, aLI 11 2), 
  (11, aIf 14 (fun x => z_lt x 0) 22), (14, aLI 15 2), (15, aLR 16 3), (16, aGI 19 1 [8]), (19, aCmp 22 (fun x y => z_le x y) 28), (22, aLR 23 0), 
  (23, aCI 24 (-1)), (24, aCallV 27 1 199 2 [10]), (27, aRI), (28, aLR 29 0), (29, aGR 32 1 [10]), (32, aGI 35 15 [4]), 
  (35, aIf 38 (fun x => z_eq x 0) 45), (38, aLR 39 0), (39, aCI 41 (-3)), (41, aCallV 44 1 199 2 [10]), (44, aRI), (45, aLR 46 0), (46, aGI 49 3 [10]), 
  (49, aCI 51 20), (51, aCmp 54 (fun x y => z_lt x y) 61), (54, aLR 55 0), (55, aCI 57 (-2)), (57, aCallV 60 1 199 2 [10]), (60, aRI), (61, aLR 62 0), 
  (62, aGR 65 0 [10]), (65, aLR 66 0), (66, aGI 69 3 [10]), (69, aLR 70 3), (70, aLI 71 2), (71, aCallV 74 4 133 2 [8]), (74, aYR 75 17 [8]), 
  (75, aLR 76 0), (76, aDup 77), (77, aGI 80 3 [10]), (80, aCI 81 1), (81, aB 82 (fun x y => x + y)), (82, aPI 85 3 [10]), (85, aLR 86 0), 
  (86, aLR 87 0), (87, aGI 90 3 [10]), (90, aCI 91 1), (91, aB 92 (fun x y => x - y)), (92, aCallV 95 1 198 2 [10]), (95, aRI)]
def mP_join : Nat := 246
noncomputable def tP_join : List (Nat × zA) := [
  (0, aLR 1 0), (1, aLI 2 1), (2, aCallV 5 4 204 2 [10]), (5, aSR 6 3), (6, aLR 7 0), (7, aLI 8 2), (8, aCallV 11 4 204 2 [10]), (11, aSR 13 4), 
  (13, aLR 14 3), (14, aNul 17 27), (17, aLR 19 4), (19, aNul 22 27), (22, aLI 23 1), (23, aLI 24 2), (24, aCmp 27 (fun x y => z_ne x y) 33), 
  (27, aLR 28 0), (28, aCI 29 (-1)), (29, aCallV 32 1 199 2 [10]), (32, aRI), (33, aLR 34 0), (34, aGR 37 1 [10]), (37, aGI 40 15 [4]), 
  (40, aIf 43 (fun x => z_eq x 0) 50), (43, aLR 44 0), (44, aCI 46 (-3)), (46, aCallV 49 1 199 2 [10]), (49, aRI), (50, aLR 51 0), (51, aLR 52 3), 
  (52, aLR 53 3), (53, aGI 56 1 [8]), (56, aLR 58 4), (58, aCI 59 0), (59, aLR 61 4), (61, aGI 64 1 [8]), (64, aCallV 67 1 248 6 [10]), (67, aRI)]
def mP_repeat : Nat := 247
noncomputable def tP_repeat : List (Nat × zA) := [
  (0, aLR 1 0), (1, aLI 2 1), (2, aCallV 5 4 204 2 [10]), (5, aSR 7 4), (7, aLR 9 4), (9, aNul 12 22), (12, aLI 13 3), 
  (13, aIf 16 (fun x => z_lt x 0) 22), (16, aLI 17 3), (17, aCI 19 8), (19, aCmp 22 (fun x y => z_le x y) 28), (22, aLR 23 0), (23, aCI 24 (-1)), 
  (24, aCallV 27 1 199 2 [10]), (27, aRI), (28, aLI 29 2), (29, aIf 32 (fun x => z_lt x 0) 43), (32, aLI 33 2), (33, aLR 35 4), (35, aGI 38 1 [8]), 
  (38, aLI 39 3), (39, aB 40 (fun x y => x - y)), (40, aCmp 43 (fun x y => z_le x y) 49), (43, aLR 44 0), (44, aCI 45 (-1)), 
  (45, aCallV 48 1 199 2 [10]), (48, aRI), (49, aLR 50 0), (50, aGR 53 1 [10]), (53, aGI 56 15 [4]), (56, aIf 59 (fun x => z_eq x 0) 66), 
  (59, aLR 60 0), (60, aCI 62 (-3)), (62, aCallV 65 1 199 2 [10]), (65, aRI), (66, aLR 67 0), (67, aLR 69 4), (69, aLI 70 2), (70, aLI 71 3), 
  (71, aB 72 (fun x y => x + y)), (72, aLR 74 4), (74, aLI 75 2), (75, aLI 76 3), (76, aCallV 79 1 248 6 [10]), (79, aRI)]
def mP_addCopies : Nat := 248
noncomputable def tP_addCopies : List (Nat × zA) := [
  (0, aLR 1 3), (1, aLI 3 4), (3, aLI 5 5), (5, aCallV 8 1 132 3 [8]), (8, aSI 10 6), (10, aLR 11 0), (11, aGI 14 4 [10]), (14, aLI 16 5), 
  (16, aB 17 (fun x y => x + y)), (17, aCI 20 400), (20, aCmp 23 (fun x y => z_lt y x) 32), (23, aLR 24 0), (24, aLI 26 6), 
  (26, aCallV 29 1 206 2 [10]), (29, aIf 32 (fun x => z_eq x 0) 39), (32, aLR 33 0), (33, aCI 35 (-2)), (35, aCallV 38 1 199 2 [10]), (38, aRI), 
  (39, aLR 40 1), (40, aLI 41 2), (41, aLI 43 5), (43, aCallV 46 0 131 3 [8]), (46, aCI 47 0), (47, aSI 49 7), (49, aLI 51 7), (51, aLI 53 5), 
  (53, aCmp 56 (fun x y => z_le y x) 91), (56, aLR 57 3), (57, aLI 59 4), (59, aLI 61 7), (61, aB 62 (fun x y => x + y)), (62, aCallV 65 4 127 2 [8]), 
  (65, aSR 67 8), (67, aLR 69 8), (69, aNul 72 85), (72, aLR 73 1), (73, aLI 74 2), (74, aLI 76 7), (76, aB 77 (fun x y => x + y)), (77, aLR 79 8), 
  (79, aCallV 82 4 121 1 [9]), (82, aCallV 85 0 130 3 [8]), (85, aInc 88 7 1), (88, aGo 49), (91, aLR 92 0), (92, aDup 93), (93, aGI 96 4 [10]), 
  (96, aLI 98 5), (98, aB 99 (fun x y => x + y)), (99, aPI 102 4 [10]), (102, aLR 103 0), (103, aDup 104), (104, aGI 107 5 [10]), (107, aLI 109 6), 
  (109, aB 110 (fun x y => x + y)), (110, aPI 113 5 [10]), (113, aLR 114 0), (114, aLR 115 1), (115, aGI 118 1 [8]), (118, aCallV 121 1 198 2 [10]), 
  (121, aRI)]
def mP_move : Nat := 249
noncomputable def tP_move : List (Nat × zA) := [
  (0, aLR 1 0), (1, aLI 2 1), (2, aCallV 5 4 204 2 [10]), (5, aSR 7 6), (7, aLR 8 0), (8, aLI 10 4), (10, aCallV 13 4 204 2 [10]), (13, aSR 15 7), 
  (15, aLR 17 6), (17, aNul 20 35), (20, aLR 22 7), (22, aNul 25 35), (25, aLI 26 3), (26, aIf 29 (fun x => z_lt x 0) 35), (29, aLI 30 3), 
  (30, aCI 32 8), (32, aCmp 35 (fun x y => z_le x y) 41), (35, aLR 36 0), (36, aCI 37 (-1)), (37, aCallV 40 1 199 2 [10]), (40, aRI), (41, aLR 42 0), 
  (42, aGR 45 1 [10]), (45, aGI 48 15 [4]), (48, aIf 51 (fun x => z_eq x 0) 58), (51, aLR 52 0), (52, aCI 54 (-3)), (54, aCallV 57 1 199 2 [10]), 
  (57, aRI), (58, aCI 59 0), (59, aSI 61 8), (61, aCI 62 0), (62, aSI 64 9), (64, aLI 66 8), (66, aLI 67 3), (67, aCmp 70 (fun x y => z_le y x) 111), 
  (70, aLI 72 9), (72, aIf 75 (fun x => z_ne x 0) 111), (75, aLR 76 0), (76, aLR 78 6), (78, aLI 79 2), (79, aLI 81 8), (81, aB 82 (fun x y => x + y)), 
  (82, aCallV 85 4 127 2 [8]), (85, aLR 87 7), (87, aLI 89 5), (89, aLI 91 8), (91, aB 92 (fun x y => x + y)), (92, aCallV 95 4 127 2 [8]), 
  (95, aCallV 98 1 250 3 [10]), (98, aSI 100 9), (100, aLI 102 9), (102, aIf 105 (fun x => z_ne x 0) 64), (105, aInc 108 8 1), (108, aGo 64), 
  (111, aLR 112 0), (112, aLI 114 9), (114, aPI 117 7 [10]), (117, aLI 119 8), (119, aRI)]
def mP_moveOne : Nat := 250
noncomputable def tP_moveOne : List (Nat × zA) := [
  (0, aLR 1 1), (1, aNul 4 8), (4, aLR 5 2), (5, aNon 8 10), (8, aCI 9 2), (9, aRI), (10, aLR 11 1), (11, aGI 14 6 [9]), 
  (14, aIf 17 (fun x => z_ne x 0) 24), (17, aLR 18 2), (18, aGI 21 6 [9]), (21, aIf 24 (fun x => z_eq x 0) 26), (24, aCI 25 1), (25, aRI), 
  (26, aLR 27 1), (27, aGI 30 0 [9]), (30, aLR 31 2), (31, aGI 34 0 [9]), (34, aCmp 37 (fun x y => z_eq x y) 39), (37, aCI 38 5), (38, aRI), 
  (39, aLR 40 0), (40, aLR 41 2), (41, aLR 42 1), (42, aCallV 45 1 251 3 [10]), (45, aIf 48 (fun x => z_eq x 0) 52), (48, aCI 49 0), (49, aGo 54), 
  (52, aCI 54 (-2)), (54, aRI)]
def mP_replaceBytes : Nat := 251
noncomputable def tP_replaceBytes : List (Nat × zA) := [
  (0, aLR 1 2), (1, aCallV 4 1 110 1 [9]), (4, aLR 5 1), (5, aCallV 8 1 110 1 [9]), (8, aB 9 (fun x y => x - y)), (9, aSI 10 3), (10, aLR 11 0), 
  (11, aLI 12 3), (12, aCallV 15 1 206 2 [10]), (15, aIf 18 (fun x => z_eq x 0) 20), (18, aCI 19 0), (19, aRZ), (20, aLR 21 1), (21, aLR 22 2), 
  (22, aCallV 25 0 120 2 [9]), (25, aLR 26 0), (26, aDup 27), (27, aGI 30 5 [10]), (30, aLI 31 3), (31, aB 32 (fun x y => x + y)), (32, aPI 35 5 [10]), 
  (35, aCI 36 1), (36, aRZ)]
def mP_copy : Nat := 252
noncomputable def tP_copy : List (Nat × zA) := [
  (0, aLR 1 0), (1, aLI 2 1), (2, aLI 3 2), (3, aCallV 6 4 205 3 [10]), (6, aSR 8 8), (8, aLR 9 0), (9, aLI 11 5), (11, aLI 13 6), 
  (13, aCallV 16 4 205 3 [10]), (16, aSR 18 9), (18, aLR 20 8), (20, aNul 23 28), (23, aLR 25 9), (25, aNon 28 34), (28, aLR 29 0), (29, aCI 30 (-1)), 
  (30, aCallV 33 1 199 2 [10]), (33, aRI), (34, aLR 35 0), (35, aGR 38 1 [10]), (38, aGI 41 15 [4]), (41, aIf 44 (fun x => z_eq x 0) 51), 
  (44, aLR 45 0), (45, aCI 47 (-3)), (47, aCallV 50 1 199 2 [10]), (50, aRI), (51, aLR 53 8), (53, aGI 56 6 [9]), (56, aIf 59 (fun x => z_ne x 0) 67), 
  (59, aLR 61 9), (61, aGI 64 6 [9]), (64, aIf 67 (fun x => z_eq x 0) 73), (67, aLR 68 0), (68, aCI 69 1), (69, aCallV 72 1 200 2 [10]), (72, aRI), 
  (73, aLR 75 8), (75, aGI 78 0 [9]), (78, aLR 80 9), (80, aGI 83 0 [9]), (83, aCmp 86 (fun x y => z_eq x y) 92), (86, aLR 87 0), (87, aCI 88 5), 
  (88, aCallV 91 1 200 2 [10]), (91, aRI), (92, aLR 94 8), (94, aLI 95 3), (95, aLI 97 4), (97, aCallV 100 1 122 3 [9]), 
  (100, aIf 103 (fun x => z_eq x 0) 115), (103, aLR 105 9), (105, aLI 107 7), (107, aLI 109 4), (109, aCallV 112 1 122 3 [9]), 
  (112, aIf 115 (fun x => z_ne x 0) 121), (115, aLR 116 0), (116, aCI 117 4), (117, aCallV 120 1 200 2 [10]), (120, aRI), (121, aLR 123 9), 
  (123, aLI 125 7), (125, aLR 127 8), (127, aLI 128 3), (128, aLI 130 4), (130, aCallV 133 0 123 5 [9]), (133, aLR 134 0), (134, aLI 136 4), 
  (136, aCallV 139 1 198 2 [10]), (139, aRI)]
def mP_transpose : Nat := 253
noncomputable def tP_transpose : List (Nat × zA) := [
  (0, aLR 1 0), (1, aLI 2 1), (2, aLI 3 2), (3, aCallV 6 4 205 3 [10]), (6, aSR 8 4), (8, aLR 10 4), (10, aNul 13 25), (13, aLI 14 3), 
  (14, aCI 16 (-7)), (16, aCmp 19 (fun x y => z_lt x y) 25), (19, aLI 20 3), (20, aCI 22 7), (22, aCmp 25 (fun x y => z_le x y) 31), (25, aLR 26 0), 
  (26, aCI 27 (-1)), (27, aCallV 30 1 199 2 [10]), (30, aRI), (31, aLR 32 0), (32, aGR 35 1 [10]), (35, aGI 38 15 [4]), 
  (38, aIf 41 (fun x => z_eq x 0) 48), (41, aLR 42 0), (42, aCI 44 (-3)), (44, aCallV 47 1 199 2 [10]), (47, aRI), (48, aLR 50 4), (50, aGI 53 0 [9]), 
  (53, aIf 56 (fun x => z_eq x 0) 62), (56, aLR 57 0), (57, aCI 58 5), (58, aCallV 61 1 200 2 [10]), (61, aRI), (62, aLR 64 4), 
  (64, aCallV 67 1 117 1 [9]), (67, aSI 69 5), (69, aLI 71 5), (71, aIf 74 (fun x => z_eq x 0) 81), (74, aLR 75 0), (75, aLI 77 5), 
  (77, aCallV 80 1 200 2 [10]), (80, aRI), (81, aLR 82 0), (82, aCI 83 0), (83, aPI 86 6 [10]), (86, aCI 87 0), (87, aSI 89 6), (89, aLI 91 6), 
  (91, aLR 93 4), (93, aCallV 96 1 110 1 [9]), (96, aCmp 99 (fun x y => z_le y x) 150), (99, aLR 101 4), (101, aLI 103 6), 
  (103, aCallV 106 1 113 2 [9]), (106, aCI 109 255), (109, aB 110 (fun x y => x &&& y)), (110, aSI 112 7), (112, aLR 113 0), (113, aLI 115 6), 
  (115, aLI 117 7), (117, aLI 118 3), (118, aCallV 121 0 254 4 [10]), (121, aLR 123 4), (123, aLI 125 6), (125, aLI 126 3), 
  (126, aIf 129 (fun x => z_le 0 x) 137), (129, aLI 131 7), (131, aLI 132 3), (132, aII 133 (fun x => -x)), 
  (133, aB 134 (fun x y => x >>> (y &&& 31))), (134, aGo 141), (137, aLI 139 7), (139, aLI 140 3), (140, aB 141 (fun x y => x <<< (y &&& 31))), 
  (141, aCallV 144 0 114 3 [9]), (144, aInc 147 6 1), (147, aGo 89), (150, aLR 152 4), (152, aCallV 155 0 116 1 [9]), (155, aLR 156 0), 
  (156, aLR 157 0), (157, aGI 160 6 [10]), (160, aCallV 163 1 198 2 [10]), (163, aRI)]
def mP_noteFallen : Nat := 254
noncomputable def tP_noteFallen : List (Nat × zA) := [
  (0, aCI 1 0), (1, aSI 3 4), (3, aLI 5 4), (5, aCI 7 8), (7, aCmp 10 (fun x y => z_le y x) 90), (10, aLI 12 4), (12, aLI 13 3), 
  (13, aB 14 (fun x y => x + y)), (14, aIf 17 (fun x => z_lt x 0) 26), (17, aLI 19 4), (19, aLI 20 3), (20, aB 21 (fun x y => x + y)), (21, aCI 23 8), 
  (23, aCmp 26 (fun x y => z_lt x y) 30), (26, aCI 27 1), (27, aGo 31), (30, aCI 31 0), (31, aSI 33 5), (33, aLI 35 5), 
  (35, aIf 38 (fun x => z_eq x 0) 84), (38, aLI 39 2), (39, aLI 41 4), (41, aB 42 (fun x y => x >>> (y &&& 31))), (42, aCI 43 1), 
  (43, aB 44 (fun x y => x &&& y)), (44, aCI 45 1), (45, aCmp 48 (fun x y => z_ne x y) 84), (48, aLR 49 0), (49, aGI 52 6 [10]), (52, aCI 55 1792), 
  (55, aCmp 58 (fun x y => z_le y x) 84), (58, aLR 59 0), (59, aGR 62 2 [10]), (62, aLR 63 0), (63, aGI 66 6 [10]), (66, aLI 67 1), (67, aCI 69 8), 
  (69, aB 70 (fun x y => x * y)), (70, aLI 72 4), (72, aB 73 (fun x y => x + y)), (73, aYI 74), (74, aLR 75 0), (75, aDup 76), (76, aGI 79 6 [10]), 
  (79, aCI 80 1), (80, aB 81 (fun x y => x + y)), (81, aPI 84 6 [10]), (84, aInc 87 4 1), (87, aGo 3), (90, aRV)]
def mP_fallen : Nat := 255
noncomputable def tP_fallen : List (Nat × zA) := [
  (0, aLI 1 1), (1, aIf 4 (fun x => z_lt x 0) 13), (4, aLI 5 2), (5, aIf 8 (fun x => z_lt x 0) 13), (8, aLI 9 2), (9, aCI 10 1), 
  (10, aCmp 13 (fun x y => z_le x y) 19), (13, aLR 14 0), (14, aCI 15 (-1)), (15, aCallV 18 1 199 2 [10]), (18, aRI), (19, aLI 20 1), (20, aLR 21 0), 
  (21, aGI 24 6 [10]), (24, aCmp 27 (fun x y => z_le y x) 34), (27, aLI 28 1), (28, aCI 31 1792), (31, aCmp 34 (fun x y => z_lt x y) 39), 
  (34, aLR 35 0), (35, aCallV 38 1 201 1 [10]), (38, aRI), (39, aLR 40 0), (40, aLI 41 2), (41, aIf 44 (fun x => z_ne x 0) 56), (44, aLR 45 0), 
  (45, aGR 48 2 [10]), (48, aLI 49 1), (49, aXI 50 14), (50, aCI 52 8), (52, aBz 53 (fun x y => x / y)), (53, aGo 65), (56, aLR 57 0), 
  (57, aGR 60 2 [10]), (60, aLI 61 1), (61, aXI 62 14), (62, aCI 64 8), (64, aBz 65 (fun x y => x - x / y * y)), (65, aCallV 68 1 198 2 [10]), 
  (68, aRI)]
def mP_mend : Nat := 256
noncomputable def tP_mend : List (Nat × zA) := [
  (0, aLR 1 0), (1, aLI 2 1), (2, aLI 3 2), (3, aCallV 6 4 205 3 [10]), (6, aSR 8 4), (8, aLR 9 0), (9, aLI 10 3), (10, aCallV 13 4 204 2 [10]), 
  (13, aSR 15 5), (15, aLR 17 4), (17, aNul 20 25), (20, aLR 22 5), (22, aNon 25 31), (25, aLR 26 0), (26, aCI 27 (-1)), (27, aCallV 30 1 199 2 [10]), 
  (30, aRI), (31, aLR 32 0), (32, aGR 35 1 [10]), (35, aGI 38 15 [4]), (38, aIf 41 (fun x => z_eq x 0) 48), (41, aLR 42 0), (42, aCI 44 (-3)), 
  (44, aCallV 47 1 199 2 [10]), (47, aRI), (48, aLR 50 4), (50, aCallV 53 1 117 1 [9]), (53, aIf 56 (fun x => z_ne x 0) 62), (56, aLR 57 0), 
  (57, aLI 58 2), (58, aCallV 61 1 198 2 [10]), (61, aRI), (62, aCI 63 0), (63, aSI 65 6), (65, aLI 67 6), (67, aLR 69 5), (69, aGI 72 1 [8]), 
  (72, aCmp 75 (fun x y => z_le y x) 159), (75, aLR 77 5), (77, aLI 79 6), (79, aCallV 82 4 127 2 [8]), (82, aSR 84 7), (84, aLR 86 7), 
  (86, aNul 89 153), (89, aLR 91 7), (91, aGI 94 0 [9]), (94, aLR 96 4), (96, aGI 99 0 [9]), (99, aCmp 102 (fun x y => z_ne x y) 153), 
  (102, aLR 104 7), (104, aGI 107 1 [9]), (107, aLR 109 4), (109, aGI 112 1 [9]), (112, aCmp 115 (fun x y => z_eq x y) 118), (115, aGo 153), 
  (118, aLR 120 7), (120, aCallV 123 1 117 1 [9]), (123, aIf 126 (fun x => z_ne x 0) 153), (126, aLR 127 0), (127, aLR 129 4), (129, aLR 131 7), 
  (131, aCallV 134 1 251 3 [10]), (134, aIf 137 (fun x => z_eq x 0) 146), (137, aLR 138 0), (138, aLI 140 6), (140, aCallV 143 1 198 2 [10]), 
  (143, aGo 152), (146, aLR 147 0), (147, aCI 149 (-2)), (149, aCallV 152 1 199 2 [10]), (152, aRI), (153, aInc 156 6 1), (156, aGo 65), 
  (159, aLR 160 0), (160, aCallV 163 1 201 1 [10]), (163, aRI)]
def mP_equal : Nat := 257
noncomputable def tP_equal : List (Nat × zA) := [
  (0, aLR 1 0), (1, aLI 2 1), (2, aCallV 5 4 204 2 [10]), (5, aSR 6 3), (6, aLR 7 0), (7, aLI 8 2), (8, aCallV 11 4 204 2 [10]), (11, aSR 13 4), 
  (13, aLR 14 3), (14, aNul 17 22), (17, aLR 19 4), (19, aNon 22 28), (22, aLR 23 0), (23, aCI 24 (-1)), (24, aCallV 27 1 199 2 [10]), (27, aRI), 
  (28, aLR 29 3), (29, aGI 32 1 [8]), (32, aLR 34 4), (34, aGI 37 1 [8]), (37, aCmp 40 (fun x y => z_eq x y) 46), (40, aLR 41 0), (41, aCI 42 0), 
  (42, aCallV 45 1 198 2 [10]), (45, aRI), (46, aCI 47 0), (47, aSI 49 5), (49, aLI 51 5), (51, aLR 52 3), (52, aGI 55 1 [8]), 
  (55, aCmp 58 (fun x y => z_le y x) 107), (58, aLR 59 3), (59, aLI 61 5), (61, aCallV 64 4 127 2 [8]), (64, aSR 66 6), (66, aLR 68 4), (68, aLI 70 5), 
  (70, aCallV 73 4 127 2 [8]), (73, aSR 75 7), (75, aLR 77 6), (77, aNul 80 95), (80, aLR 82 7), (82, aNul 85 95), (85, aLR 87 6), (87, aLR 89 7), 
  (89, aCallV 92 1 124 2 [9]), (92, aIf 95 (fun x => z_ne x 0) 101), (95, aLR 96 0), (96, aCI 97 0), (97, aCallV 100 1 198 2 [10]), (100, aRI), 
  (101, aInc 104 5 1), (104, aGo 49), (107, aLR 108 0), (108, aCI 109 1), (109, aCallV 112 1 198 2 [10]), (112, aRI)]
def mP_digest : Nat := 258
noncomputable def tP_digest : List (Nat × zA) := [
  (0, aLR 1 0), (1, aLI 2 1), (2, aCallV 5 4 204 2 [10]), (5, aSR 6 2), (6, aLR 7 2), (7, aNon 10 16), (10, aLR 11 0), (11, aCI 12 (-1)), 
  (12, aCallV 15 2 202 2 [10]), (15, aRJ), (16, aCI 18 7), (18, aSI 19 3), (19, aCI 20 0), (20, aSI 22 4), (22, aLI 24 4), (24, aLR 25 2), 
  (25, aGI 28 1 [8]), (28, aCmp 31 (fun x y => z_le y x) 57), (31, aLR 32 2), (32, aLI 34 4), (34, aCallV 37 4 127 2 [8]), (37, aSR 39 5), 
  (39, aLR 41 5), (41, aNul 44 51), (44, aLR 46 5), (46, aLI 47 3), (47, aCallV 50 1 125 2 [9]), (50, aSI 51 3), (51, aInc 54 4 1), (54, aGo 22), 
  (57, aLR 58 0), (58, aLI 59 3), (59, aI2J 60), (60, aCallV 63 2 203 2 [10]), (63, aRJ)]
def mP_count : Nat := 259
noncomputable def tP_count : List (Nat × zA) := [
  (0, aLI 1 1), (1, aSw 141 [(0, 48), (1, 57), (2, 69), (3, 81), (4, 96), (5, 111), (6, 120), (7, 129)]), (48, aLR 49 0), (49, aLR 50 0), 
  (50, aGI 53 3 [10]), (53, aCallV 56 1 198 2 [10]), (56, aRI), (57, aLR 58 0), (58, aLR 59 0), (59, aGR 62 1 [10]), (62, aGI 65 10 [4]), 
  (65, aCallV 68 1 198 2 [10]), (68, aRI), (69, aLR 70 0), (70, aLR 71 0), (71, aGR 74 1 [10]), (74, aGI 77 11 [4]), (77, aCallV 80 1 198 2 [10]), 
  (80, aRI), (81, aLR 82 0), (82, aLR 83 0), (83, aGR 86 1 [10]), (86, aGR 89 7 [4]), (89, aCI 91 13), (91, aXI 92 14), (92, aCallV 95 1 198 2 [10]), 
  (95, aRI), (96, aLR 97 0), (97, aLR 98 0), (98, aGR 101 1 [10]), (101, aGR 104 7 [4]), (104, aCI 106 14), (106, aXI 107 14), 
  (107, aCallV 110 1 198 2 [10]), (110, aRI), (111, aLR 112 0), (112, aLR 113 0), (113, aGI 116 6 [10]), (116, aCallV 119 1 198 2 [10]), (119, aRI), 
  (120, aLR 121 0), (121, aLR 122 0), (122, aGI 125 5 [10]), (125, aCallV 128 1 198 2 [10]), (128, aRI), (129, aLR 130 0), (130, aLR 131 0), 
  (131, aGR 134 1 [10]), (134, aCallV 137 1 171 1 [4]), (137, aCallV 140 1 198 2 [10]), (140, aRI), (141, aLR 142 0), (142, aCI 143 (-1)), 
  (143, aCallV 146 1 199 2 [10]), (146, aRI)]
def mP_strips : Nat := 260
noncomputable def tP_strips : List (Nat × zA) := [
  (0, aLR 1 0), (1, aLI 2 1), (2, aCallV 5 4 204 2 [10]), (5, aSR 6 2), (6, aLR 7 2), (7, aNon 10 18), (10, aLR 11 0), (11, aCI 12 (-1)), 
  (12, aCallV 15 1 199 2 [10]), (15, aGo 26), (18, aLR 19 0), (19, aLR 20 2), (20, aGI 23 1 [8]), (23, aCallV 26 1 198 2 [10]), (26, aRI)]
def mP_members : Nat := 261
noncomputable def tP_members : List (Nat × zA) := [
  (0, aLR 1 0), (1, aGR 4 1 [10]), (4, aLI 5 1), (5, aCallV 8 4 165 2 [4]), (8, aSR 9 2), (9, aLR 10 2), (10, aNon 13 19), (13, aLR 14 0), 
  (14, aCI 15 (-1)), (15, aCallV 18 1 199 2 [10]), (18, aRI), (19, aLR 20 2), (20, aIs 23 [2] [0, 1, 3, 5, 6, 7]), (23, aIf 26 (fun x => z_eq x 0) 40), 
  (26, aLR 27 2), (27, aCast 30 [2]), (30, aSR 31 3), (31, aLR 32 0), (32, aLR 33 3), (33, aGI 36 6 [2]), (36, aCallV 39 1 198 2 [10]), (39, aRI), 
  (40, aLR 41 0), (41, aCI 42 5), (42, aCallV 45 1 200 2 [10]), (45, aRI)]
def mP_trace : Nat := 262
noncomputable def tP_trace : List (Nat × zA) := [
  (0, aLI 1 1), (1, aIf 4 (fun x => z_lt x 0) 10), (4, aLI 5 1), (5, aCI 7 17), (7, aCmp 10 (fun x y => z_lt x y) 16), (10, aLR 11 0), 
  (11, aCI 12 (-1)), (12, aCallV 15 1 199 2 [10]), (15, aRI), (16, aLR 17 0), (17, aLR 18 0), (18, aGR 21 1 [10]), (21, aGR 24 6 [4]), (24, aLI 25 1), 
  (25, aXI 26 14), (26, aCallV 29 1 198 2 [10]), (29, aRI)]
def mP_status : Nat := 263
noncomputable def tP_status : List (Nat × zA) := [
  (0, aLR 1 0), (1, aGI 4 7 [10]), (4, aRI)]
def mW_law : Nat := 264
noncomputable def tW_law_0 : List (Nat × zA) := [
  (0, aNew 3 10 8),
  (3, aDup 4),
  (4, aCallV 7 0 197 1 [10]),
  (7, aSR 8 1),
  (8, aNew 11 11 68),
  (11, aDup 12),
  (12, aCallV 15 0 7 1 [11]),
  (15, aSR 16 2),
  (16, aCI 17 0),
  (17, aSI 18 3),
  (18, aLI 19 3),
  (19, aLR 20 0),
  (20, aALen 21 [20]),
  (21, aCI 23 8),
  (23, aB 24 (fun x y => x - y)),
  (24, aCmp 27 (fun x y => z_lt y x) 1996),
  (27, aLR 28 0),
  (28, aLI 29 3),
  (29, aXI 30 20),
  (30, aCI 32 63),
  (32, aB 33 (fun x y => x &&& y)),
  (33, aSw 1990 [(0, 256), (1, 269), (2, 332), (3, 385), (4, 418), (5, 451), (6, 494), (7, 547), (8, 590), (9, 634), (10, 668), (11, 701), (12, 724), (13, 757), (14, 800), (15, 823), (16, 856), (17, 889), (18, 932), (19, 975), (20, 1008), (21, 1051), (22, 1074), (23, 1098), (24, 1121), (25, 1154), (26, 1177), (27, 1200), (28, 1213), (29, 1236), (30, 1259), (31, 1292), (32, 1315), (33, 1338), (34, 1361), (35, 1384), (36, 1417), (37, 1450), (38, 1483), (39, 1516), (40, 1559), (41, 1622), (42, 1709), (43, 1752), (44, 1785), (45, 1828), (46, 1861), (47, 1885), (48, 1908), (49, 1931), (50, 1954), (51, 1977)]),
  (256, aLR 257 1),
  (257, aCallV 260 1 207 1 [10]),
  (260, aLR 261 2),
  (261, aCallV 264 1 24 1 [11]),
  (264, aCmp 267 (fun x y => z_eq x y) 1990),
  (267, aCI 268 0),
  (268, aRZ),
  (269, aLR 270 1),
  (270, aLR 271 0),
  (271, aLI 272 3),
  (272, aCI 273 1),
  (273, aB 274 (fun x y => x + y)),
  (274, aXI 275 20),
  (275, aLR 276 0),
  (276, aLI 277 3),
  (277, aCI 278 2),
  (278, aB 279 (fun x y => x + y)),
  (279, aXI 280 20),
  (280, aLR 281 0),
  (281, aLI 282 3),
  (282, aCI 283 3),
  (283, aB 284 (fun x y => x + y)),
  (284, aXI 285 20),
  (285, aLR 286 0),
  (286, aLI 287 3),
  (287, aCI 288 4),
  (288, aB 289 (fun x y => x + y)),
  (289, aXI 290 20),
  (290, aLR 291 0),
  (291, aLI 292 3),
  (292, aCI 293 5),
  (293, aB 294 (fun x y => x + y)),
  (294, aXI 295 20),
  (295, aCallV 298 1 208 6 [10]),
  (298, aLR 299 2),
  (299, aLR 300 0),
  (300, aLI 301 3),
  (301, aCI 302 1),
  (302, aB 303 (fun x y => x + y)),
  (303, aXI 304 20),
  (304, aLR 305 0),
  (305, aLI 306 3),
  (306, aCI 307 2),
  (307, aB 308 (fun x y => x + y)),
  (308, aXI 309 20),
  (309, aLR 310 0),
  (310, aLI 311 3),
  (311, aCI 312 3),
  (312, aB 313 (fun x y => x + y)),
  (313, aXI 314 20),
  (314, aLR 315 0),
  (315, aLI 316 3),
  (316, aCI 317 4),
  (317, aB 318 (fun x y => x + y)),
  (318, aXI 319 20),
  (319, aLR 320 0),
  (320, aLI 321 3),
  (321, aCI 322 5),
  (322, aB 323 (fun x y => x + y)),
  (323, aXI 324 20),
  (324, aCallV 327 1 25 6 [11]),
  (327, aCmp 330 (fun x y => z_eq x y) 1990),
  (330, aCI 331 0),
  (331, aRZ),
  (332, aLR 333 1),
  (333, aLR 334 0),
  (334, aLI 335 3),
  (335, aCI 336 1),
  (336, aB 337 (fun x y => x + y)),
  (337, aXI 338 20),
  (338, aLR 339 0),
  (339, aLI 340 3),
  (340, aCI 341 2),
  (341, aB 342 (fun x y => x + y)),
  (342, aXI 343 20),
  (343, aLR 344 0),
  (344, aLI 345 3),
  (345, aCI 346 3)]
noncomputable def tW_law_1 : List (Nat × zA) := [
  (346, aB 347 (fun x y => x + y)),
  (347, aXI 348 20),
  (348, aLR 349 0),
  (349, aLI 350 3),
  (350, aCI 351 4),
  (351, aB 352 (fun x y => x + y)),
  (352, aXI 353 20),
  (353, aCallV 356 1 209 5 [10]),
  (356, aLR 357 2),
  (357, aLR 358 0),
  (358, aLI 359 3),
  (359, aCI 360 1),
  (360, aB 361 (fun x y => x + y)),
  (361, aXI 362 20),
  (362, aLR 363 0),
  (363, aLI 364 3),
  (364, aCI 365 2),
  (365, aB 366 (fun x y => x + y)),
  (366, aXI 367 20),
  (367, aLR 368 0),
  (368, aLI 369 3),
  (369, aCI 370 3),
  (370, aB 371 (fun x y => x + y)),
  (371, aXI 372 20),
  (372, aLR 373 0),
  (373, aLI 374 3),
  (374, aCI 375 4),
  (375, aB 376 (fun x y => x + y)),
  (376, aXI 377 20),
  (377, aCallV 380 1 27 5 [11]),
  (380, aCmp 383 (fun x y => z_eq x y) 1990),
  (383, aCI 384 0),
  (384, aRZ),
  (385, aLR 386 1),
  (386, aLR 387 0),
  (387, aLI 388 3),
  (388, aCI 389 1),
  (389, aB 390 (fun x y => x + y)),
  (390, aXI 391 20),
  (391, aLR 392 0),
  (392, aLI 393 3),
  (393, aCI 394 2),
  (394, aB 395 (fun x y => x + y)),
  (395, aXI 396 20),
  (396, aCallV 399 1 210 3 [10]),
  (399, aLR 400 2),
  (400, aLR 401 0),
  (401, aLI 402 3),
  (402, aCI 403 1),
  (403, aB 404 (fun x y => x + y)),
  (404, aXI 405 20),
  (405, aLR 406 0),
  (406, aLI 407 3),
  (407, aCI 408 2),
  (408, aB 409 (fun x y => x + y)),
  (409, aXI 410 20),
  (410, aCallV 413 1 28 3 [11]),
  (413, aCmp 416 (fun x y => z_eq x y) 1990),
  (416, aCI 417 0),
  (417, aRZ),
  (418, aLR 419 1),
  (419, aLR 420 0),
  (420, aLI 421 3),
  (421, aCI 422 1),
  (422, aB 423 (fun x y => x + y)),
  (423, aXI 424 20),
  (424, aLR 425 0),
  (425, aLI 426 3),
  (426, aCI 427 2),
  (427, aB 428 (fun x y => x + y)),
  (428, aXI 429 20),
  (429, aCallV 432 1 211 3 [10]),
  (432, aLR 433 2),
  (433, aLR 434 0),
  (434, aLI 435 3),
  (435, aCI 436 1),
  (436, aB 437 (fun x y => x + y)),
  (437, aXI 438 20),
  (438, aLR 439 0),
  (439, aLI 440 3),
  (440, aCI 441 2),
  (441, aB 442 (fun x y => x + y)),
  (442, aXI 443 20),
  (443, aCallV 446 1 30 3 [11]),
  (446, aCmp 449 (fun x y => z_eq x y) 1990),
  (449, aCI 450 0),
  (450, aRZ),
  (451, aLR 452 1),
  (452, aLR 453 0),
  (453, aLI 454 3),
  (454, aCI 455 1),
  (455, aB 456 (fun x y => x + y)),
  (456, aXI 457 20),
  (457, aLR 458 0),
  (458, aLI 459 3),
  (459, aCI 460 2),
  (460, aB 461 (fun x y => x + y)),
  (461, aXI 462 20),
  (462, aLR 463 0),
  (463, aLI 464 3)]
noncomputable def tW_law_2 : List (Nat × zA) := [
  (464, aCI 465 3),
  (465, aB 466 (fun x y => x + y)),
  (466, aXI 467 20),
  (467, aCallV 470 1 212 4 [10]),
  (470, aLR 471 2),
  (471, aLR 472 0),
  (472, aLI 473 3),
  (473, aCI 474 1),
  (474, aB 475 (fun x y => x + y)),
  (475, aXI 476 20),
  (476, aLR 477 0),
  (477, aLI 478 3),
  (478, aCI 479 2),
  (479, aB 480 (fun x y => x + y)),
  (480, aXI 481 20),
  (481, aLR 482 0),
  (482, aLI 483 3),
  (483, aCI 484 3),
  (484, aB 485 (fun x y => x + y)),
  (485, aXI 486 20),
  (486, aCallV 489 1 31 4 [11]),
  (489, aCmp 492 (fun x y => z_eq x y) 1990),
  (492, aCI 493 0),
  (493, aRZ),
  (494, aLR 495 1),
  (495, aLR 496 0),
  (496, aLI 497 3),
  (497, aCI 498 1),
  (498, aB 499 (fun x y => x + y)),
  (499, aXI 500 20),
  (500, aLR 501 0),
  (501, aLI 502 3),
  (502, aCI 503 2),
  (503, aB 504 (fun x y => x + y)),
  (504, aXI 505 20),
  (505, aLR 506 0),
  (506, aLI 507 3),
  (507, aCI 508 3),
  (508, aB 509 (fun x y => x + y)),
  (509, aXI 510 20),
  (510, aLR 511 0),
  (511, aLI 512 3),
  (512, aCI 513 4),
  (513, aB 514 (fun x y => x + y)),
  (514, aXI 515 20),
  (515, aCallV 518 1 213 5 [10]),
  (518, aLR 519 2),
  (519, aLR 520 0),
  (520, aLI 521 3),
  (521, aCI 522 1),
  (522, aB 523 (fun x y => x + y)),
  (523, aXI 524 20),
  (524, aLR 525 0),
  (525, aLI 526 3),
  (526, aCI 527 2),
  (527, aB 528 (fun x y => x + y)),
  (528, aXI 529 20),
  (529, aLR 530 0),
  (530, aLI 531 3),
  (531, aCI 532 3),
  (532, aB 533 (fun x y => x + y)),
  (533, aXI 534 20),
  (534, aLR 535 0),
  (535, aLI 536 3),
  (536, aCI 537 4),
  (537, aB 538 (fun x y => x + y)),
  (538, aXI 539 20),
  (539, aCallV 542 1 32 5 [11]),
  (542, aCmp 545 (fun x y => z_eq x y) 1990),
  (545, aCI 546 0),
  (546, aRZ),
  (547, aLR 548 1),
  (548, aLR 549 0),
  (549, aLI 550 3),
  (550, aCI 551 1),
  (551, aB 552 (fun x y => x + y)),
  (552, aXI 553 20),
  (553, aLR 554 0),
  (554, aLI 555 3),
  (555, aCI 556 2),
  (556, aB 557 (fun x y => x + y)),
  (557, aXI 558 20),
  (558, aLR 559 0),
  (559, aLI 560 3),
  (560, aCI 561 3),
  (561, aB 562 (fun x y => x + y)),
  (562, aXI 563 20),
  (563, aCallV 566 1 214 4 [10]),
  (566, aLR 567 2),
  (567, aLR 568 0),
  (568, aLI 569 3),
  (569, aCI 570 1),
  (570, aB 571 (fun x y => x + y)),
  (571, aXI 572 20),
  (572, aLR 573 0),
  (573, aLI 574 3),
  (574, aCI 575 2),
  (575, aB 576 (fun x y => x + y)),
  (576, aXI 577 20),
  (577, aLR 578 0)]
noncomputable def tW_law_3 : List (Nat × zA) := [
  (578, aLI 579 3),
  (579, aCI 580 3),
  (580, aB 581 (fun x y => x + y)),
  (581, aXI 582 20),
  (582, aCallV 585 1 34 4 [11]),
  (585, aCmp 588 (fun x y => z_eq x y) 1990),
  (588, aCI 589 0),
  (589, aRZ),
  (590, aLR 591 1),
  (591, aLR 592 0),
  (592, aLI 593 3),
  (593, aCI 594 1),
  (594, aB 595 (fun x y => x + y)),
  (595, aXI 596 20),
  (596, aLR 597 0),
  (597, aLI 598 3),
  (598, aCI 599 2),
  (599, aB 600 (fun x y => x + y)),
  (600, aXI 601 20),
  (601, aLR 602 0),
  (602, aLI 603 3),
  (603, aCI 604 3),
  (604, aB 605 (fun x y => x + y)),
  (605, aXI 606 20),
  (606, aCallV 609 2 215 4 [10]),
  (609, aLR 610 2),
  (610, aLR 611 0),
  (611, aLI 612 3),
  (612, aCI 613 1),
  (613, aB 614 (fun x y => x + y)),
  (614, aXI 615 20),
  (615, aLR 616 0),
  (616, aLI 617 3),
  (617, aCI 618 2),
  (618, aB 619 (fun x y => x + y)),
  (619, aXI 620 20),
  (620, aLR 621 0),
  (621, aLI 622 3),
  (622, aCI 623 3),
  (623, aB 624 (fun x y => x + y)),
  (624, aXI 625 20),
  (625, aCallV 628 2 35 4 [11]),
  (628, aLcmp 629),
  (629, aIf 632 (fun x => z_eq x 0) 1990),
  (632, aCI 633 0),
  (633, aRZ),
  (634, aLR 635 1),
  (635, aLR 636 0),
  (636, aLI 637 3),
  (637, aCI 638 1),
  (638, aB 639 (fun x y => x + y)),
  (639, aXI 640 20),
  (640, aLR 641 0),
  (641, aLI 642 3),
  (642, aCI 643 2),
  (643, aB 644 (fun x y => x + y)),
  (644, aXI 645 20),
  (645, aCallV 648 2 216 3 [10]),
  (648, aLR 649 2),
  (649, aLR 650 0),
  (650, aLI 651 3),
  (651, aCI 652 1),
  (652, aB 653 (fun x y => x + y)),
  (653, aXI 654 20),
  (654, aLR 655 0),
  (655, aLI 656 3),
  (656, aCI 657 2),
  (657, aB 658 (fun x y => x + y)),
  (658, aXI 659 20),
  (659, aCallV 662 2 36 3 [11]),
  (662, aLcmp 663),
  (663, aIf 666 (fun x => z_eq x 0) 1990),
  (666, aCI 667 0),
  (667, aRZ),
  (668, aLR 669 1),
  (669, aLR 670 0),
  (670, aLI 671 3),
  (671, aCI 672 1),
  (672, aB 673 (fun x y => x + y)),
  (673, aXI 674 20),
  (674, aLR 675 0),
  (675, aLI 676 3),
  (676, aCI 677 2),
  (677, aB 678 (fun x y => x + y)),
  (678, aXI 679 20),
  (679, aCallV 682 1 217 3 [10]),
  (682, aLR 683 2),
  (683, aLR 684 0),
  (684, aLI 685 3),
  (685, aCI 686 1),
  (686, aB 687 (fun x y => x + y)),
  (687, aXI 688 20),
  (688, aLR 689 0),
  (689, aLI 690 3),
  (690, aCI 691 2),
  (691, aB 692 (fun x y => x + y)),
  (692, aXI 693 20),
  (693, aCallV 696 1 37 3 [11]),
  (696, aCmp 699 (fun x y => z_eq x y) 1990),
  (699, aCI 700 0)]
noncomputable def tW_law_4 : List (Nat × zA) := [
  (700, aRZ),
  (701, aLR 702 1),
  (702, aLR 703 0),
  (703, aLI 704 3),
  (704, aCI 705 1),
  (705, aB 706 (fun x y => x + y)),
  (706, aXI 707 20),
  (707, aCallV 710 1 218 2 [10]),
  (710, aLR 711 2),
  (711, aLR 712 0),
  (712, aLI 713 3),
  (713, aCI 714 1),
  (714, aB 715 (fun x y => x + y)),
  (715, aXI 716 20),
  (716, aCallV 719 1 38 2 [11]),
  (719, aCmp 722 (fun x y => z_eq x y) 1990),
  (722, aCI 723 0),
  (723, aRZ),
  (724, aLR 725 1),
  (725, aLR 726 0),
  (726, aLI 727 3),
  (727, aCI 728 1),
  (728, aB 729 (fun x y => x + y)),
  (729, aXI 730 20),
  (730, aLR 731 0),
  (731, aLI 732 3),
  (732, aCI 733 2),
  (733, aB 734 (fun x y => x + y)),
  (734, aXI 735 20),
  (735, aCallV 738 1 219 3 [10]),
  (738, aLR 739 2),
  (739, aLR 740 0),
  (740, aLI 741 3),
  (741, aCI 742 1),
  (742, aB 743 (fun x y => x + y)),
  (743, aXI 744 20),
  (744, aLR 745 0),
  (745, aLI 746 3),
  (746, aCI 747 2),
  (747, aB 748 (fun x y => x + y)),
  (748, aXI 749 20),
  (749, aCallV 752 1 39 3 [11]),
  (752, aCmp 755 (fun x y => z_eq x y) 1990),
  (755, aCI 756 0),
  (756, aRZ),
  (757, aLR 758 1),
  (758, aLR 759 0),
  (759, aLI 760 3),
  (760, aCI 761 1),
  (761, aB 762 (fun x y => x + y)),
  (762, aXI 763 20),
  (763, aLR 764 0),
  (764, aLI 765 3),
  (765, aCI 766 2),
  (766, aB 767 (fun x y => x + y)),
  (767, aXI 768 20),
  (768, aLR 769 0),
  (769, aLI 770 3),
  (770, aCI 771 3),
  (771, aB 772 (fun x y => x + y)),
  (772, aXI 773 20),
  (773, aCallV 776 1 220 4 [10]),
  (776, aLR 777 2),
  (777, aLR 778 0),
  (778, aLI 779 3),
  (779, aCI 780 1),
  (780, aB 781 (fun x y => x + y)),
  (781, aXI 782 20),
  (782, aLR 783 0),
  (783, aLI 784 3),
  (784, aCI 785 2),
  (785, aB 786 (fun x y => x + y)),
  (786, aXI 787 20),
  (787, aLR 788 0),
  (788, aLI 789 3),
  (789, aCI 790 3),
  (790, aB 791 (fun x y => x + y)),
  (791, aXI 792 20),
  (792, aCallV 795 1 40 4 [11]),
  (795, aCmp 798 (fun x y => z_eq x y) 1990),
  (798, aCI 799 0),
  (799, aRZ),
  (800, aLR 801 1),
  (801, aLR 802 0),
  (802, aLI 803 3),
  (803, aCI 804 1),
  (804, aB 805 (fun x y => x + y)),
  (805, aXI 806 20),
  (806, aCallV 809 1 221 2 [10]),
  (809, aLR 810 2),
  (810, aLR 811 0),
  (811, aLI 812 3),
  (812, aCI 813 1),
  (813, aB 814 (fun x y => x + y)),
  (814, aXI 815 20),
  (815, aCallV 818 1 42 2 [11]),
  (818, aCmp 821 (fun x y => z_eq x y) 1990),
  (821, aCI 822 0),
  (822, aRZ),
  (823, aLR 824 1)]
noncomputable def tW_law_5 : List (Nat × zA) := [
  (824, aLR 825 0),
  (825, aLI 826 3),
  (826, aCI 827 1),
  (827, aB 828 (fun x y => x + y)),
  (828, aXI 829 20),
  (829, aLR 830 0),
  (830, aLI 831 3),
  (831, aCI 832 2),
  (832, aB 833 (fun x y => x + y)),
  (833, aXI 834 20),
  (834, aCallV 837 1 222 3 [10]),
  (837, aLR 838 2),
  (838, aLR 839 0),
  (839, aLI 840 3),
  (840, aCI 841 1),
  (841, aB 842 (fun x y => x + y)),
  (842, aXI 843 20),
  (843, aLR 844 0),
  (844, aLI 845 3),
  (845, aCI 846 2),
  (846, aB 847 (fun x y => x + y)),
  (847, aXI 848 20),
  (848, aCallV 851 1 45 3 [11]),
  (851, aCmp 854 (fun x y => z_eq x y) 1990),
  (854, aCI 855 0),
  (855, aRZ),
  (856, aLR 857 1),
  (857, aLR 858 0),
  (858, aLI 859 3),
  (859, aCI 860 1),
  (860, aB 861 (fun x y => x + y)),
  (861, aXI 862 20),
  (862, aLR 863 0),
  (863, aLI 864 3),
  (864, aCI 865 2),
  (865, aB 866 (fun x y => x + y)),
  (866, aXI 867 20),
  (867, aCallV 870 1 223 3 [10]),
  (870, aLR 871 2),
  (871, aLR 872 0),
  (872, aLI 873 3),
  (873, aCI 874 1),
  (874, aB 875 (fun x y => x + y)),
  (875, aXI 876 20),
  (876, aLR 877 0),
  (877, aLI 878 3),
  (878, aCI 879 2),
  (879, aB 880 (fun x y => x + y)),
  (880, aXI 881 20),
  (881, aCallV 884 1 46 3 [11]),
  (884, aCmp 887 (fun x y => z_eq x y) 1990),
  (887, aCI 888 0),
  (888, aRZ),
  (889, aLR 890 1),
  (890, aLR 891 0),
  (891, aLI 892 3),
  (892, aCI 893 1),
  (893, aB 894 (fun x y => x + y)),
  (894, aXI 895 20),
  (895, aLR 896 0),
  (896, aLI 897 3),
  (897, aCI 898 2),
  (898, aB 899 (fun x y => x + y)),
  (899, aXI 900 20),
  (900, aLR 901 0),
  (901, aLI 902 3),
  (902, aCI 903 3),
  (903, aB 904 (fun x y => x + y)),
  (904, aXI 905 20),
  (905, aCallV 908 1 224 4 [10]),
  (908, aLR 909 2),
  (909, aLR 910 0),
  (910, aLI 911 3),
  (911, aCI 912 1),
  (912, aB 913 (fun x y => x + y)),
  (913, aXI 914 20),
  (914, aLR 915 0),
  (915, aLI 916 3),
  (916, aCI 917 2),
  (917, aB 918 (fun x y => x + y)),
  (918, aXI 919 20),
  (919, aLR 920 0),
  (920, aLI 921 3),
  (921, aCI 922 3),
  (922, aB 923 (fun x y => x + y)),
  (923, aXI 924 20),
  (924, aCallV 927 1 48 4 [11]),
  (927, aCmp 930 (fun x y => z_eq x y) 1990),
  (930, aCI 931 0),
  (931, aRZ),
  (932, aLR 933 1),
  (933, aLR 934 0),
  (934, aLI 935 3),
  (935, aCI 936 1),
  (936, aB 937 (fun x y => x + y)),
  (937, aXI 938 20),
  (938, aLR 939 0),
  (939, aLI 940 3),
  (940, aCI 941 2),
  (941, aB 942 (fun x y => x + y))]
noncomputable def tW_law_6 : List (Nat × zA) := [
  (942, aXI 943 20),
  (943, aLR 944 0),
  (944, aLI 945 3),
  (945, aCI 946 3),
  (946, aB 947 (fun x y => x + y)),
  (947, aXI 948 20),
  (948, aCallV 951 1 225 4 [10]),
  (951, aLR 952 2),
  (952, aLR 953 0),
  (953, aLI 954 3),
  (954, aCI 955 1),
  (955, aB 956 (fun x y => x + y)),
  (956, aXI 957 20),
  (957, aLR 958 0),
  (958, aLI 959 3),
  (959, aCI 960 2),
  (960, aB 961 (fun x y => x + y)),
  (961, aXI 962 20),
  (962, aLR 963 0),
  (963, aLI 964 3),
  (964, aCI 965 3),
  (965, aB 966 (fun x y => x + y)),
  (966, aXI 967 20),
  (967, aCallV 970 1 49 4 [11]),
  (970, aCmp 973 (fun x y => z_eq x y) 1990),
  (973, aCI 974 0),
  (974, aRZ),
  (975, aLR 976 1),
  (976, aLR 977 0),
  (977, aLI 978 3),
  (978, aCI 979 1),
  (979, aB 980 (fun x y => x + y)),
  (980, aXI 981 20),
  (981, aLR 982 0),
  (982, aLI 983 3),
  (983, aCI 984 2),
  (984, aB 985 (fun x y => x + y)),
  (985, aXI 986 20),
  (986, aCallV 989 1 226 3 [10]),
  (989, aLR 990 2),
  (990, aLR 991 0),
  (991, aLI 992 3),
  (992, aCI 993 1),
  (993, aB 994 (fun x y => x + y)),
  (994, aXI 995 20),
  (995, aLR 996 0),
  (996, aLI 997 3),
  (997, aCI 998 2),
  (998, aB 999 (fun x y => x + y)),
  (999, aXI 1000 20),
  (1000, aCallV 1003 1 50 3 [11]),
  (1003, aCmp 1006 (fun x y => z_eq x y) 1990),
  (1006, aCI 1007 0),
  (1007, aRZ),
  (1008, aLR 1009 1),
  (1009, aLR 1010 0),
  (1010, aLI 1011 3),
  (1011, aCI 1012 1),
  (1012, aB 1013 (fun x y => x + y)),
  (1013, aXI 1014 20),
  (1014, aLR 1015 0),
  (1015, aLI 1016 3),
  (1016, aCI 1017 2),
  (1017, aB 1018 (fun x y => x + y)),
  (1018, aXI 1019 20),
  (1019, aLR 1020 0),
  (1020, aLI 1021 3),
  (1021, aCI 1022 3),
  (1022, aB 1023 (fun x y => x + y)),
  (1023, aXI 1024 20),
  (1024, aCallV 1027 1 227 4 [10]),
  (1027, aLR 1028 2),
  (1028, aLR 1029 0),
  (1029, aLI 1030 3),
  (1030, aCI 1031 1),
  (1031, aB 1032 (fun x y => x + y)),
  (1032, aXI 1033 20),
  (1033, aLR 1034 0),
  (1034, aLI 1035 3),
  (1035, aCI 1036 2),
  (1036, aB 1037 (fun x y => x + y)),
  (1037, aXI 1038 20),
  (1038, aLR 1039 0),
  (1039, aLI 1040 3),
  (1040, aCI 1041 3),
  (1041, aB 1042 (fun x y => x + y)),
  (1042, aXI 1043 20),
  (1043, aCallV 1046 1 51 4 [11]),
  (1046, aCmp 1049 (fun x y => z_eq x y) 1990),
  (1049, aCI 1050 0),
  (1050, aRZ),
  (1051, aLR 1052 1),
  (1052, aLR 1053 0),
  (1053, aLI 1054 3),
  (1054, aCI 1055 1),
  (1055, aB 1056 (fun x y => x + y)),
  (1056, aXI 1057 20),
  (1057, aCallV 1060 1 228 2 [10]),
  (1060, aLR 1061 2),
  (1061, aLR 1062 0)]
noncomputable def tW_law_7 : List (Nat × zA) := [
  (1062, aLI 1063 3),
  (1063, aCI 1064 1),
  (1064, aB 1065 (fun x y => x + y)),
  (1065, aXI 1066 20),
  (1066, aCallV 1069 1 52 2 [11]),
  (1069, aCmp 1072 (fun x y => z_eq x y) 1990),
  (1072, aCI 1073 0),
  (1073, aRZ),
  (1074, aLR 1075 1),
  (1075, aLR 1076 0),
  (1076, aLI 1077 3),
  (1077, aCI 1078 1),
  (1078, aB 1079 (fun x y => x + y)),
  (1079, aXI 1080 20),
  (1080, aCallV 1083 2 229 2 [10]),
  (1083, aLR 1084 2),
  (1084, aLR 1085 0),
  (1085, aLI 1086 3),
  (1086, aCI 1087 1),
  (1087, aB 1088 (fun x y => x + y)),
  (1088, aXI 1089 20),
  (1089, aCallV 1092 2 58 2 [11]),
  (1092, aLcmp 1093),
  (1093, aIf 1096 (fun x => z_eq x 0) 1990),
  (1096, aCI 1097 0),
  (1097, aRZ),
  (1098, aLR 1099 1),
  (1099, aLR 1100 0),
  (1100, aLI 1101 3),
  (1101, aCI 1102 1),
  (1102, aB 1103 (fun x y => x + y)),
  (1103, aXI 1104 20),
  (1104, aCallV 1107 1 231 2 [10]),
  (1107, aLR 1108 2),
  (1108, aLR 1109 0),
  (1109, aLI 1110 3),
  (1110, aCI 1111 1),
  (1111, aB 1112 (fun x y => x + y)),
  (1112, aXI 1113 20),
  (1113, aCallV 1116 1 59 2 [11]),
  (1116, aCmp 1119 (fun x y => z_eq x y) 1990),
  (1119, aCI 1120 0),
  (1120, aRZ),
  (1121, aLR 1122 1),
  (1122, aLR 1123 0),
  (1123, aLI 1124 3),
  (1124, aCI 1125 1),
  (1125, aB 1126 (fun x y => x + y)),
  (1126, aXI 1127 20),
  (1127, aLR 1128 0),
  (1128, aLI 1129 3),
  (1129, aCI 1130 2),
  (1130, aB 1131 (fun x y => x + y)),
  (1131, aXI 1132 20),
  (1132, aCallV 1135 1 232 3 [10]),
  (1135, aLR 1136 2),
  (1136, aLR 1137 0),
  (1137, aLI 1138 3),
  (1138, aCI 1139 1),
  (1139, aB 1140 (fun x y => x + y)),
  (1140, aXI 1141 20),
  (1141, aLR 1142 0),
  (1142, aLI 1143 3),
  (1143, aCI 1144 2),
  (1144, aB 1145 (fun x y => x + y)),
  (1145, aXI 1146 20),
  (1146, aCallV 1149 1 60 3 [11]),
  (1149, aCmp 1152 (fun x y => z_eq x y) 1990),
  (1152, aCI 1153 0),
  (1153, aRZ),
  (1154, aLR 1155 1),
  (1155, aLR 1156 0),
  (1156, aLI 1157 3),
  (1157, aCI 1158 1),
  (1158, aB 1159 (fun x y => x + y)),
  (1159, aXI 1160 20),
  (1160, aCallV 1163 1 233 2 [10]),
  (1163, aLR 1164 2),
  (1164, aLR 1165 0),
  (1165, aLI 1166 3),
  (1166, aCI 1167 1),
  (1167, aB 1168 (fun x y => x + y)),
  (1168, aXI 1169 20),
  (1169, aCallV 1172 1 73 2 [11]),
  (1172, aCmp 1175 (fun x y => z_eq x y) 1990),
  (1175, aCI 1176 0),
  (1176, aRZ),
  (1177, aLR 1178 1),
  (1178, aLR 1179 0),
  (1179, aLI 1180 3),
  (1180, aCI 1181 1),
  (1181, aB 1182 (fun x y => x + y)),
  (1182, aXI 1183 20),
  (1183, aCallV 1186 1 234 2 [10]),
  (1186, aLR 1187 2),
  (1187, aLR 1188 0),
  (1188, aLI 1189 3),
  (1189, aCI 1190 1),
  (1190, aB 1191 (fun x y => x + y)),
  (1191, aXI 1192 20)]
noncomputable def tW_law_8 : List (Nat × zA) := [
  (1192, aCallV 1195 1 74 2 [11]),
  (1195, aCmp 1198 (fun x y => z_eq x y) 1990),
  (1198, aCI 1199 0),
  (1199, aRZ),
  (1200, aLR 1201 1),
  (1201, aCallV 1204 1 235 1 [10]),
  (1204, aLR 1205 2),
  (1205, aCallV 1208 1 75 1 [11]),
  (1208, aCmp 1211 (fun x y => z_eq x y) 1990),
  (1211, aCI 1212 0),
  (1212, aRZ),
  (1213, aLR 1214 1),
  (1214, aLR 1215 0),
  (1215, aLI 1216 3),
  (1216, aCI 1217 1),
  (1217, aB 1218 (fun x y => x + y)),
  (1218, aXI 1219 20),
  (1219, aCallV 1222 1 236 2 [10]),
  (1222, aLR 1223 2),
  (1223, aLR 1224 0),
  (1224, aLI 1225 3),
  (1225, aCI 1226 1),
  (1226, aB 1227 (fun x y => x + y)),
  (1227, aXI 1228 20),
  (1228, aCallV 1231 1 78 2 [11]),
  (1231, aCmp 1234 (fun x y => z_eq x y) 1990),
  (1234, aCI 1235 0),
  (1235, aRZ),
  (1236, aLR 1237 1),
  (1237, aLR 1238 0),
  (1238, aLI 1239 3),
  (1239, aCI 1240 1),
  (1240, aB 1241 (fun x y => x + y)),
  (1241, aXI 1242 20),
  (1242, aCallV 1245 1 237 2 [10]),
  (1245, aLR 1246 2),
  (1246, aLR 1247 0),
  (1247, aLI 1248 3),
  (1248, aCI 1249 1),
  (1249, aB 1250 (fun x y => x + y)),
  (1250, aXI 1251 20),
  (1251, aCallV 1254 1 79 2 [11]),
  (1254, aCmp 1257 (fun x y => z_eq x y) 1990),
  (1257, aCI 1258 0),
  (1258, aRZ),
  (1259, aLR 1260 1),
  (1260, aLR 1261 0),
  (1261, aLI 1262 3),
  (1262, aCI 1263 1),
  (1263, aB 1264 (fun x y => x + y)),
  (1264, aXI 1265 20),
  (1265, aLR 1266 0),
  (1266, aLI 1267 3),
  (1267, aCI 1268 2),
  (1268, aB 1269 (fun x y => x + y)),
  (1269, aXI 1270 20),
  (1270, aCallV 1273 1 238 3 [10]),
  (1273, aLR 1274 2),
  (1274, aLR 1275 0),
  (1275, aLI 1276 3),
  (1276, aCI 1277 1),
  (1277, aB 1278 (fun x y => x + y)),
  (1278, aXI 1279 20),
  (1279, aLR 1280 0),
  (1280, aLI 1281 3),
  (1281, aCI 1282 2),
  (1282, aB 1283 (fun x y => x + y)),
  (1283, aXI 1284 20),
  (1284, aCallV 1287 1 80 3 [11]),
  (1287, aCmp 1290 (fun x y => z_eq x y) 1990),
  (1290, aCI 1291 0),
  (1291, aRZ),
  (1292, aLR 1293 1),
  (1293, aLR 1294 0),
  (1294, aLI 1295 3),
  (1295, aCI 1296 1),
  (1296, aB 1297 (fun x y => x + y)),
  (1297, aXI 1298 20),
  (1298, aCallV 1301 1 239 2 [10]),
  (1301, aLR 1302 2),
  (1302, aLR 1303 0),
  (1303, aLI 1304 3),
  (1304, aCI 1305 1),
  (1305, aB 1306 (fun x y => x + y)),
  (1306, aXI 1307 20),
  (1307, aCallV 1310 1 83 2 [11]),
  (1310, aCmp 1313 (fun x y => z_eq x y) 1990),
  (1313, aCI 1314 0),
  (1314, aRZ),
  (1315, aLR 1316 1),
  (1316, aLR 1317 0),
  (1317, aLI 1318 3),
  (1318, aCI 1319 1),
  (1319, aB 1320 (fun x y => x + y)),
  (1320, aXI 1321 20),
  (1321, aCallV 1324 1 240 2 [10]),
  (1324, aLR 1325 2),
  (1325, aLR 1326 0),
  (1326, aLI 1327 3),
  (1327, aCI 1328 1)]
noncomputable def tW_law_9 : List (Nat × zA) := [
  (1328, aB 1329 (fun x y => x + y)),
  (1329, aXI 1330 20),
  (1330, aCallV 1333 1 84 2 [11]),
  (1333, aCmp 1336 (fun x y => z_eq x y) 1990),
  (1336, aCI 1337 0),
  (1337, aRZ),
  (1338, aLR 1339 1),
  (1339, aLR 1340 0),
  (1340, aLI 1341 3),
  (1341, aCI 1342 1),
  (1342, aB 1343 (fun x y => x + y)),
  (1343, aXI 1344 20),
  (1344, aCallV 1347 1 241 2 [10]),
  (1347, aLR 1348 2),
  (1348, aLR 1349 0),
  (1349, aLI 1350 3),
  (1350, aCI 1351 1),
  (1351, aB 1352 (fun x y => x + y)),
  (1352, aXI 1353 20),
  (1353, aCallV 1356 1 85 2 [11]),
  (1356, aCmp 1359 (fun x y => z_eq x y) 1990),
  (1359, aCI 1360 0),
  (1360, aRZ),
  (1361, aLR 1362 1),
  (1362, aLR 1363 0),
  (1363, aLI 1364 3),
  (1364, aCI 1365 1),
  (1365, aB 1366 (fun x y => x + y)),
  (1366, aXI 1367 20),
  (1367, aCallV 1370 1 242 2 [10]),
  (1370, aLR 1371 2),
  (1371, aLR 1372 0),
  (1372, aLI 1373 3),
  (1373, aCI 1374 1),
  (1374, aB 1375 (fun x y => x + y)),
  (1375, aXI 1376 20),
  (1376, aCallV 1379 1 86 2 [11]),
  (1379, aCmp 1382 (fun x y => z_eq x y) 1990),
  (1382, aCI 1383 0),
  (1383, aRZ),
  (1384, aLR 1385 1),
  (1385, aLR 1386 0),
  (1386, aLI 1387 3),
  (1387, aCI 1388 1),
  (1388, aB 1389 (fun x y => x + y)),
  (1389, aXI 1390 20),
  (1390, aLR 1391 0),
  (1391, aLI 1392 3),
  (1392, aCI 1393 2),
  (1393, aB 1394 (fun x y => x + y)),
  (1394, aXI 1395 20),
  (1395, aCallV 1398 1 243 3 [10]),
  (1398, aLR 1399 2),
  (1399, aLR 1400 0),
  (1400, aLI 1401 3),
  (1401, aCI 1402 1),
  (1402, aB 1403 (fun x y => x + y)),
  (1403, aXI 1404 20),
  (1404, aLR 1405 0),
  (1405, aLI 1406 3),
  (1406, aCI 1407 2),
  (1407, aB 1408 (fun x y => x + y)),
  (1408, aXI 1409 20),
  (1409, aCallV 1412 1 87 3 [11]),
  (1412, aCmp 1415 (fun x y => z_eq x y) 1990),
  (1415, aCI 1416 0),
  (1416, aRZ),
  (1417, aLR 1418 1),
  (1418, aLR 1419 0),
  (1419, aLI 1420 3),
  (1420, aCI 1421 1),
  (1421, aB 1422 (fun x y => x + y)),
  (1422, aXI 1423 20),
  (1423, aLR 1424 0),
  (1424, aLI 1425 3),
  (1425, aCI 1426 2),
  (1426, aB 1427 (fun x y => x + y)),
  (1427, aXI 1428 20),
  (1428, aCallV 1431 1 244 3 [10]),
  (1431, aLR 1432 2),
  (1432, aLR 1433 0),
  (1433, aLI 1434 3),
  (1434, aCI 1435 1),
  (1435, aB 1436 (fun x y => x + y)),
  (1436, aXI 1437 20),
  (1437, aLR 1438 0),
  (1438, aLI 1439 3),
  (1439, aCI 1440 2),
  (1440, aB 1441 (fun x y => x + y)),
  (1441, aXI 1442 20),
  (1442, aCallV 1445 1 88 3 [11]),
  (1445, aCmp 1448 (fun x y => z_eq x y) 1990),
  (1448, aCI 1449 0),
  (1449, aRZ),
  (1450, aLR 1451 1),
  (1451, aLR 1452 0),
  (1452, aLI 1453 3),
  (1453, aCI 1454 1),
  (1454, aB 1455 (fun x y => x + y)),
  (1455, aXI 1456 20)]
noncomputable def tW_law_10 : List (Nat × zA) := [
  (1456, aLR 1457 0),
  (1457, aLI 1458 3),
  (1458, aCI 1459 2),
  (1459, aB 1460 (fun x y => x + y)),
  (1460, aXI 1461 20),
  (1461, aCallV 1464 1 245 3 [10]),
  (1464, aLR 1465 2),
  (1465, aLR 1466 0),
  (1466, aLI 1467 3),
  (1467, aCI 1468 1),
  (1468, aB 1469 (fun x y => x + y)),
  (1469, aXI 1470 20),
  (1470, aLR 1471 0),
  (1471, aLI 1472 3),
  (1472, aCI 1473 2),
  (1473, aB 1474 (fun x y => x + y)),
  (1474, aXI 1475 20),
  (1475, aCallV 1478 1 89 3 [11]),
  (1478, aCmp 1481 (fun x y => z_eq x y) 1990),
  (1481, aCI 1482 0),
  (1482, aRZ),
  (1483, aLR 1484 1),
  (1484, aLR 1485 0),
  (1485, aLI 1486 3),
  (1486, aCI 1487 1),
  (1487, aB 1488 (fun x y => x + y)),
  (1488, aXI 1489 20),
  (1489, aLR 1490 0),
  (1490, aLI 1491 3),
  (1491, aCI 1492 2),
  (1492, aB 1493 (fun x y => x + y)),
  (1493, aXI 1494 20),
  (1494, aCallV 1497 1 246 3 [10]),
  (1497, aLR 1498 2),
  (1498, aLR 1499 0),
  (1499, aLI 1500 3),
  (1500, aCI 1501 1),
  (1501, aB 1502 (fun x y => x + y)),
  (1502, aXI 1503 20),
  (1503, aLR 1504 0),
  (1504, aLI 1505 3),
  (1505, aCI 1506 2),
  (1506, aB 1507 (fun x y => x + y)),
  (1507, aXI 1508 20),
  (1508, aCallV 1511 1 93 3 [11]),
  (1511, aCmp 1514 (fun x y => z_eq x y) 1990),
  (1514, aCI 1515 0),
  (1515, aRZ),
  (1516, aLR 1517 1),
  (1517, aLR 1518 0),
  (1518, aLI 1519 3),
  (1519, aCI 1520 1),
  (1520, aB 1521 (fun x y => x + y)),
  (1521, aXI 1522 20),
  (1522, aLR 1523 0),
  (1523, aLI 1524 3),
  (1524, aCI 1525 2),
  (1525, aB 1526 (fun x y => x + y)),
  (1526, aXI 1527 20),
  (1527, aLR 1528 0),
  (1528, aLI 1529 3),
  (1529, aCI 1530 3),
  (1530, aB 1531 (fun x y => x + y)),
  (1531, aXI 1532 20),
  (1532, aCallV 1535 1 247 4 [10]),
  (1535, aLR 1536 2),
  (1536, aLR 1537 0),
  (1537, aLI 1538 3),
  (1538, aCI 1539 1),
  (1539, aB 1540 (fun x y => x + y)),
  (1540, aXI 1541 20),
  (1541, aLR 1542 0),
  (1542, aLI 1543 3),
  (1543, aCI 1544 2),
  (1544, aB 1545 (fun x y => x + y)),
  (1545, aXI 1546 20),
  (1546, aLR 1547 0),
  (1547, aLI 1548 3),
  (1548, aCI 1549 3),
  (1549, aB 1550 (fun x y => x + y)),
  (1550, aXI 1551 20),
  (1551, aCallV 1554 1 94 4 [11]),
  (1554, aCmp 1557 (fun x y => z_eq x y) 1990),
  (1557, aCI 1558 0),
  (1558, aRZ),
  (1559, aLR 1560 1),
  (1560, aLR 1561 0),
  (1561, aLI 1562 3),
  (1562, aCI 1563 1),
  (1563, aB 1564 (fun x y => x + y)),
  (1564, aXI 1565 20),
  (1565, aLR 1566 0),
  (1566, aLI 1567 3),
  (1567, aCI 1568 2),
  (1568, aB 1569 (fun x y => x + y)),
  (1569, aXI 1570 20),
  (1570, aLR 1571 0),
  (1571, aLI 1572 3),
  (1572, aCI 1573 3),
  (1573, aB 1574 (fun x y => x + y))]
noncomputable def tW_law_11 : List (Nat × zA) := [
  (1574, aXI 1575 20),
  (1575, aLR 1576 0),
  (1576, aLI 1577 3),
  (1577, aCI 1578 4),
  (1578, aB 1579 (fun x y => x + y)),
  (1579, aXI 1580 20),
  (1580, aLR 1581 0),
  (1581, aLI 1582 3),
  (1582, aCI 1583 5),
  (1583, aB 1584 (fun x y => x + y)),
  (1584, aXI 1585 20),
  (1585, aCallV 1588 1 249 6 [10]),
  (1588, aLR 1589 2),
  (1589, aLR 1590 0),
  (1590, aLI 1591 3),
  (1591, aCI 1592 1),
  (1592, aB 1593 (fun x y => x + y)),
  (1593, aXI 1594 20),
  (1594, aLR 1595 0),
  (1595, aLI 1596 3),
  (1596, aCI 1597 2),
  (1597, aB 1598 (fun x y => x + y)),
  (1598, aXI 1599 20),
  (1599, aLR 1600 0),
  (1600, aLI 1601 3),
  (1601, aCI 1602 3),
  (1602, aB 1603 (fun x y => x + y)),
  (1603, aXI 1604 20),
  (1604, aLR 1605 0),
  (1605, aLI 1606 3),
  (1606, aCI 1607 4),
  (1607, aB 1608 (fun x y => x + y)),
  (1608, aXI 1609 20),
  (1609, aLR 1610 0),
  (1610, aLI 1611 3),
  (1611, aCI 1612 5),
  (1612, aB 1613 (fun x y => x + y)),
  (1613, aXI 1614 20),
  (1614, aCallV 1617 1 95 6 [11]),
  (1617, aCmp 1620 (fun x y => z_eq x y) 1990),
  (1620, aCI 1621 0),
  (1621, aRZ),
  (1622, aLR 1623 1),
  (1623, aLR 1624 0),
  (1624, aLI 1625 3),
  (1625, aCI 1626 1),
  (1626, aB 1627 (fun x y => x + y)),
  (1627, aXI 1628 20),
  (1628, aLR 1629 0),
  (1629, aLI 1630 3),
  (1630, aCI 1631 2),
  (1631, aB 1632 (fun x y => x + y)),
  (1632, aXI 1633 20),
  (1633, aLR 1634 0),
  (1634, aLI 1635 3),
  (1635, aCI 1636 3),
  (1636, aB 1637 (fun x y => x + y)),
  (1637, aXI 1638 20),
  (1638, aLR 1639 0),
  (1639, aLI 1640 3),
  (1640, aCI 1641 4),
  (1641, aB 1642 (fun x y => x + y)),
  (1642, aXI 1643 20),
  (1643, aLR 1644 0),
  (1644, aLI 1645 3),
  (1645, aCI 1646 5),
  (1646, aB 1647 (fun x y => x + y)),
  (1647, aXI 1648 20),
  (1648, aLR 1649 0),
  (1649, aLI 1650 3),
  (1650, aCI 1652 6),
  (1652, aB 1653 (fun x y => x + y)),
  (1653, aXI 1654 20),
  (1654, aLR 1655 0),
  (1655, aLI 1656 3),
  (1656, aCI 1658 7),
  (1658, aB 1659 (fun x y => x + y)),
  (1659, aXI 1660 20),
  (1660, aCallV 1663 1 252 8 [10]),
  (1663, aLR 1664 2),
  (1664, aLR 1665 0),
  (1665, aLI 1666 3),
  (1666, aCI 1667 1),
  (1667, aB 1668 (fun x y => x + y)),
  (1668, aXI 1669 20),
  (1669, aLR 1670 0),
  (1670, aLI 1671 3),
  (1671, aCI 1672 2),
  (1672, aB 1673 (fun x y => x + y)),
  (1673, aXI 1674 20),
  (1674, aLR 1675 0),
  (1675, aLI 1676 3),
  (1676, aCI 1677 3),
  (1677, aB 1678 (fun x y => x + y)),
  (1678, aXI 1679 20),
  (1679, aLR 1680 0),
  (1680, aLI 1681 3),
  (1681, aCI 1682 4),
  (1682, aB 1683 (fun x y => x + y)),
  (1683, aXI 1684 20)]
noncomputable def tW_law_12 : List (Nat × zA) := [
  (1684, aLR 1685 0),
  (1685, aLI 1686 3),
  (1686, aCI 1687 5),
  (1687, aB 1688 (fun x y => x + y)),
  (1688, aXI 1689 20),
  (1689, aLR 1690 0),
  (1690, aLI 1691 3),
  (1691, aCI 1693 6),
  (1693, aB 1694 (fun x y => x + y)),
  (1694, aXI 1695 20),
  (1695, aLR 1696 0),
  (1696, aLI 1697 3),
  (1697, aCI 1699 7),
  (1699, aB 1700 (fun x y => x + y)),
  (1700, aXI 1701 20),
  (1701, aCallV 1704 1 97 8 [11]),
  (1704, aCmp 1707 (fun x y => z_eq x y) 1990),
  (1707, aCI 1708 0),
  (1708, aRZ),
  (1709, aLR 1710 1),
  (1710, aLR 1711 0),
  (1711, aLI 1712 3),
  (1712, aCI 1713 1),
  (1713, aB 1714 (fun x y => x + y)),
  (1714, aXI 1715 20),
  (1715, aLR 1716 0),
  (1716, aLI 1717 3),
  (1717, aCI 1718 2),
  (1718, aB 1719 (fun x y => x + y)),
  (1719, aXI 1720 20),
  (1720, aLR 1721 0),
  (1721, aLI 1722 3),
  (1722, aCI 1723 3),
  (1723, aB 1724 (fun x y => x + y)),
  (1724, aXI 1725 20),
  (1725, aCallV 1728 1 253 4 [10]),
  (1728, aLR 1729 2),
  (1729, aLR 1730 0),
  (1730, aLI 1731 3),
  (1731, aCI 1732 1),
  (1732, aB 1733 (fun x y => x + y)),
  (1733, aXI 1734 20),
  (1734, aLR 1735 0),
  (1735, aLI 1736 3),
  (1736, aCI 1737 2),
  (1737, aB 1738 (fun x y => x + y)),
  (1738, aXI 1739 20),
  (1739, aLR 1740 0),
  (1740, aLI 1741 3),
  (1741, aCI 1742 3),
  (1742, aB 1743 (fun x y => x + y)),
  (1743, aXI 1744 20),
  (1744, aCallV 1747 1 98 4 [11]),
  (1747, aCmp 1750 (fun x y => z_eq x y) 1990),
  (1750, aCI 1751 0),
  (1751, aRZ),
  (1752, aLR 1753 1),
  (1753, aLR 1754 0),
  (1754, aLI 1755 3),
  (1755, aCI 1756 1),
  (1756, aB 1757 (fun x y => x + y)),
  (1757, aXI 1758 20),
  (1758, aLR 1759 0),
  (1759, aLI 1760 3),
  (1760, aCI 1761 2),
  (1761, aB 1762 (fun x y => x + y)),
  (1762, aXI 1763 20),
  (1763, aCallV 1766 1 255 3 [10]),
  (1766, aLR 1767 2),
  (1767, aLR 1768 0),
  (1768, aLI 1769 3),
  (1769, aCI 1770 1),
  (1770, aB 1771 (fun x y => x + y)),
  (1771, aXI 1772 20),
  (1772, aLR 1773 0),
  (1773, aLI 1774 3),
  (1774, aCI 1775 2),
  (1775, aB 1776 (fun x y => x + y)),
  (1776, aXI 1777 20),
  (1777, aCallV 1780 1 99 3 [11]),
  (1780, aCmp 1783 (fun x y => z_eq x y) 1990),
  (1783, aCI 1784 0),
  (1784, aRZ),
  (1785, aLR 1786 1),
  (1786, aLR 1787 0),
  (1787, aLI 1788 3),
  (1788, aCI 1789 1),
  (1789, aB 1790 (fun x y => x + y)),
  (1790, aXI 1791 20),
  (1791, aLR 1792 0),
  (1792, aLI 1793 3),
  (1793, aCI 1794 2),
  (1794, aB 1795 (fun x y => x + y)),
  (1795, aXI 1796 20),
  (1796, aLR 1797 0),
  (1797, aLI 1798 3),
  (1798, aCI 1799 3),
  (1799, aB 1800 (fun x y => x + y)),
  (1800, aXI 1801 20),
  (1801, aCallV 1804 1 256 4 [10])]
noncomputable def tW_law_13 : List (Nat × zA) := [
  (1804, aLR 1805 2),
  (1805, aLR 1806 0),
  (1806, aLI 1807 3),
  (1807, aCI 1808 1),
  (1808, aB 1809 (fun x y => x + y)),
  (1809, aXI 1810 20),
  (1810, aLR 1811 0),
  (1811, aLI 1812 3),
  (1812, aCI 1813 2),
  (1813, aB 1814 (fun x y => x + y)),
  (1814, aXI 1815 20),
  (1815, aLR 1816 0),
  (1816, aLI 1817 3),
  (1817, aCI 1818 3),
  (1818, aB 1819 (fun x y => x + y)),
  (1819, aXI 1820 20),
  (1820, aCallV 1823 1 100 4 [11]),
  (1823, aCmp 1826 (fun x y => z_eq x y) 1990),
  (1826, aCI 1827 0),
  (1827, aRZ),
  (1828, aLR 1829 1),
  (1829, aLR 1830 0),
  (1830, aLI 1831 3),
  (1831, aCI 1832 1),
  (1832, aB 1833 (fun x y => x + y)),
  (1833, aXI 1834 20),
  (1834, aLR 1835 0),
  (1835, aLI 1836 3),
  (1836, aCI 1837 2),
  (1837, aB 1838 (fun x y => x + y)),
  (1838, aXI 1839 20),
  (1839, aCallV 1842 1 257 3 [10]),
  (1842, aLR 1843 2),
  (1843, aLR 1844 0),
  (1844, aLI 1845 3),
  (1845, aCI 1846 1),
  (1846, aB 1847 (fun x y => x + y)),
  (1847, aXI 1848 20),
  (1848, aLR 1849 0),
  (1849, aLI 1850 3),
  (1850, aCI 1851 2),
  (1851, aB 1852 (fun x y => x + y)),
  (1852, aXI 1853 20),
  (1853, aCallV 1856 1 102 3 [11]),
  (1856, aCmp 1859 (fun x y => z_eq x y) 1990),
  (1859, aCI 1860 0),
  (1860, aRZ),
  (1861, aLR 1862 1),
  (1862, aLR 1863 0),
  (1863, aLI 1864 3),
  (1864, aCI 1865 1),
  (1865, aB 1866 (fun x y => x + y)),
  (1866, aXI 1867 20),
  (1867, aCallV 1870 2 258 2 [10]),
  (1870, aLR 1871 2),
  (1871, aLR 1872 0),
  (1872, aLI 1873 3),
  (1873, aCI 1874 1),
  (1874, aB 1875 (fun x y => x + y)),
  (1875, aXI 1876 20),
  (1876, aCallV 1879 2 103 2 [11]),
  (1879, aLcmp 1880),
  (1880, aIf 1883 (fun x => z_eq x 0) 1990),
  (1883, aCI 1884 0),
  (1884, aRZ),
  (1885, aLR 1886 1),
  (1886, aLR 1887 0),
  (1887, aLI 1888 3),
  (1888, aCI 1889 1),
  (1889, aB 1890 (fun x y => x + y)),
  (1890, aXI 1891 20),
  (1891, aCallV 1894 1 259 2 [10]),
  (1894, aLR 1895 2),
  (1895, aLR 1896 0),
  (1896, aLI 1897 3),
  (1897, aCI 1898 1),
  (1898, aB 1899 (fun x y => x + y)),
  (1899, aXI 1900 20),
  (1900, aCallV 1903 1 104 2 [11]),
  (1903, aCmp 1906 (fun x y => z_eq x y) 1990),
  (1906, aCI 1907 0),
  (1907, aRZ),
  (1908, aLR 1909 1),
  (1909, aLR 1910 0),
  (1910, aLI 1911 3),
  (1911, aCI 1912 1),
  (1912, aB 1913 (fun x y => x + y)),
  (1913, aXI 1914 20),
  (1914, aCallV 1917 1 260 2 [10]),
  (1917, aLR 1918 2),
  (1918, aLR 1919 0),
  (1919, aLI 1920 3),
  (1920, aCI 1921 1),
  (1921, aB 1922 (fun x y => x + y)),
  (1922, aXI 1923 20),
  (1923, aCallV 1926 1 105 2 [11]),
  (1926, aCmp 1929 (fun x y => z_eq x y) 1990),
  (1929, aCI 1930 0),
  (1930, aRZ),
  (1931, aLR 1932 1)]
noncomputable def tW_law_14 : List (Nat × zA) := [
  (1932, aLR 1933 0),
  (1933, aLI 1934 3),
  (1934, aCI 1935 1),
  (1935, aB 1936 (fun x y => x + y)),
  (1936, aXI 1937 20),
  (1937, aCallV 1940 1 261 2 [10]),
  (1940, aLR 1941 2),
  (1941, aLR 1942 0),
  (1942, aLI 1943 3),
  (1943, aCI 1944 1),
  (1944, aB 1945 (fun x y => x + y)),
  (1945, aXI 1946 20),
  (1946, aCallV 1949 1 106 2 [11]),
  (1949, aCmp 1952 (fun x y => z_eq x y) 1990),
  (1952, aCI 1953 0),
  (1953, aRZ),
  (1954, aLR 1955 1),
  (1955, aLR 1956 0),
  (1956, aLI 1957 3),
  (1957, aCI 1958 1),
  (1958, aB 1959 (fun x y => x + y)),
  (1959, aXI 1960 20),
  (1960, aCallV 1963 1 262 2 [10]),
  (1963, aLR 1964 2),
  (1964, aLR 1965 0),
  (1965, aLI 1966 3),
  (1966, aCI 1967 1),
  (1967, aB 1968 (fun x y => x + y)),
  (1968, aXI 1969 20),
  (1969, aCallV 1972 1 107 2 [11]),
  (1972, aCmp 1975 (fun x y => z_eq x y) 1990),
  (1975, aCI 1976 0),
  (1976, aRZ),
  (1977, aLR 1978 1),
  (1978, aCallV 1981 1 263 1 [10]),
  (1981, aLR 1982 2),
  (1982, aCallV 1985 1 108 1 [11]),
  (1985, aCmp 1988 (fun x y => z_eq x y) 1990),
  (1988, aCI 1989 0),
  (1989, aRZ),
  (1990, aInc 1993 3 8),
  (1993, aGo 18),
  (1996, aCI 1997 1),
  (1997, aRZ)]
noncomputable def tW_law : List (Nat × zA) := tW_law_0 ++ (tW_law_1 ++ (tW_law_2 ++ (tW_law_3 ++ (tW_law_4 ++ (tW_law_5 ++ (tW_law_6 ++ (tW_law_7 ++ (tW_law_8 ++ (tW_law_9 ++ (tW_law_10 ++ (tW_law_11 ++ (tW_law_12 ++ (tW_law_13 ++ (tW_law_14))))))))))))))
noncomputable def z_prog : List (List (Nat × zA)) := [tJm_floorDiv, tJm_floorMod, tJm_max, tJm_min, tJd_isNaN, tJd_doubleToLongBits, tJi_bitCount, tQ_init, tQ_within, tQ_no, tQ_finds, tQ_well, tQ_isRoll, tQ_isStrip, tQ_poolOf, tQ_width, tQ_low, tQ_bytesOf, tQ_byteAt, tQ_sumOf, tQ_headShort, tQ_headSum, tQ_sealIt, tQ_findingOf, tQ_roll, tQ_strip, tQ_bars, tQ_punch, tQ_seal, tQ_empty, tQ_lose, tQ_tear, tQ_damage, tQ_asks, tQ_byteOf, tQ_head, tQ_sum, tQ_read, tQ_whole, tQ_finding, tQ_told, tQ_isInstrument, tQ_instrument, tQ_reaches, tQ_reckon, tQ_couple, tQ_chest, tQ_takes, tQ_place, tQ_wire, tQ_spoil, tQ_tune, tQ_base, tQ_floor, tQ_nearest, tQ_plainOf, tQ_frequencyOf, tQ_tones, tQ_frequency, tQ_mute, tQ_higher, tQ_tell, tQ_end, tQ_endAll, tQ_begins, tQ_opens, tQ_openHole, tQ_shutHole, tQ_does, tQ_tempoTo, tQ_down, tQ_tempoGoesOn, tQ_comes, tQ_play, tQ_tick, tQ_halt, tQ_layAside, tQ_becomes, tQ_back, tQ_open, tQ_sounding, tQ_airOf, tQ_loudOf, tQ_loud, tQ_level, tQ_stop, tQ_at, tQ_times, tQ_event, tQ_cut, tQ_copies, tQ_copyOf, tQ_elementsOf, tQ_join, tQ_repeat, tQ_move, tQ_hinders, tQ_copy, tQ_transpose, tQ_fallen, tQ_mend, tQ_areAlike, tQ_equal, tQ_digest, tQ_count, tQ_strips, tQ_members, tQ_trace, tQ_status, tS_init, tS_elements, tS_numberAt, tS_writeNumber, tS_elementAt, tS_putElement, tS_sumNow, tS_writeHead, tS_verdict, tS_dropAll, tS_keepFirst, tS_takeBytes, tS_twin, tS_hasSpan, tS_takeElements, tS_isLike, tS_digestOnto, tL_init, tL_stripAt, tL_isWhole, tL_append, tL_put, tL_makeRoom, tL_elementsIn, tL_splitAt, tN_init, tN_pitch, tN_ratioOf, tN_isOf, tN_timesWithin, tPipe_init, tPipe_air, tPipe_loudness, tPipe_pitch, tReed_init, tReed_loudness, tReed_pitch, tBass_init, tBass_air, tBass_pitch, tDrum_init, tDrum_loudness, tPluck_init, tPluck_loudness, tPluck_pitch, tPluck_nearest, tBell_init, tBell_loudness, tBell_pitch, tCoup_init, tCoup_partAt, tCoup_append, tCoup_loudness, tCoup_pitch, tCoup_timesWithin, tO_init, tO_instrumentAt, tO_addInstrument, tO_made, tO_grow, tO_pitchOf, tO_hasChest, tO_placeCount, tO_addChest, tO_whereIs, tO_instrumentOf, tO_trackOf, tO_ageOf, tO_soundAt, tO_countOfTrack, tO_isOpen, tO_log, tO_startSound, tO_noteEnd, tO_endDownTo, tO_endTrack, tO_silence, tO_begin, tO_keep, tO_usedOf, tO_goBack, tO_reachStrip, tO_beginStrip, tO_passTick, tO_doElement, tO_doHole, tO_setTempo, tO_goOnWithTempo, tP_init, tP_done, tP_refuse, tP_found, tP_nothingThere, tP_refuseLong, tP_doneLong, tP_rollAt, tP_stripAt, tP_tooManyElements, tP_roll, tP_strip, tP_punch, tP_seal, tP_lose, tP_tear, tP_damage, tP_byteOf, tP_head, tP_sum, tP_read, tP_whole, tP_finding, tP_told, tP_instrument, tP_couple, tP_chest, tP_place, tP_wire, tP_spoil, tP_tune, tP_base, tP_frequency, tP_bitsOf, tP_mute, tP_higher, tP_play, tP_tick, tP_halt, tP_back, tP_open, tP_sounding, tP_loud, tP_level, tP_stop, tP_at, tP_times, tP_event, tP_cut, tP_join, tP_repeat, tP_addCopies, tP_move, tP_moveOne, tP_replaceBytes, tP_copy, tP_transpose, tP_noteFallen, tP_fallen, tP_mend, tP_equal, tP_digest, tP_count, tP_strips, tP_members, tP_trace, tP_status, tW_law]
def z_mxs : List Nat := [6, 3, 2, 2, 2, 2, 1, 1, 3, 2, 2, 2, 2, 3, 3, 1, 2, 2, 4, 5, 3, 2, 4, 3, 1, 6, 3, 8, 4, 2, 4, 8, 9, 3, 6, 6, 4, 4, 4, 5, 5, 2, 2, 6, 6, 4, 4, 2, 4, 4, 4, 4, 2, 2, 7, 4, 8, 2, 4, 5, 8, 4, 3, 2, 3, 8, 4, 3, 5, 3, 6, 1, 5, 3, 4, 2, 3, 3, 2, 4, 3, 4, 5, 6, 2, 2, 2, 3, 3, 4, 4, 2, 6, 5, 5, 8, 7, 11, 9, 3, 7, 5, 5, 6, 2, 2, 2, 2, 1, 6, 1, 5, 6, 3, 3, 3, 1, 2, 1, 2, 2, 2, 3, 5, 3, 4, 1, 2, 3, 2, 3, 4, 6, 5, 3, 5, 3, 2, 3, 3, 3, 5, 5, 3, 5, 7, 2, 3, 7, 2, 5, 3, 5, 7, 7, 2, 5, 7, 2, 2, 2, 5, 11, 6, 1, 2, 3, 2, 5, 2, 2, 1, 6, 3, 1, 1, 2, 2, 4, 2, 5, 9, 2, 3, 5, 1, 3, 4, 1, 4, 7, 4, 3, 5, 6, 3, 6, 1, 2, 2, 2, 1, 2, 3, 2, 4, 2, 1, 8, 7, 4, 4, 5, 6, 5, 7, 4, 5, 5, 6, 5, 2, 6, 3, 6, 4, 4, 5, 2, 3, 7, 3, 9, 3, 3, 2, 2, 2, 4, 6, 2, 2, 2, 3, 3, 4, 5, 5, 9, 10, 3, 4, 10, 8, 6, 3, 8, 8, 6, 2, 3, 4, 2, 1, 4]
