/-! the class, 0 -/
def ShC_cl : List (Nat × Nat) := [(11, 0), (7, 0), (20, 144), (20, 144), (20, 144), (9, 0), (20, 10), (20, 80), (20, 80), (20, 80), (21, 80), (20, 70), (20, 70), (10, 0), (20, 980), (22, 560), (22, 840), (22, 144), (3, 0), (20, 8), (20, 8), (20, 8), (20, 8), (8, 0), (6, 0), (20, 600), (20, 601), (22, 900), (25, 6), (20, 7), (20, 64), (0, 0), (20, 24), (20, 24), (0, 0), (20, 24), (20, 24), (0, 0), (20, 24), (20, 24), (0, 0), (20, 24), (20, 24), (0, 0), (20, 24), (20, 24), (0, 0), (20, 24), (20, 24), (23, 120), (4, 0), (22, 2240), (1, 0), (20, 120), (20, 120), (20, 120), (20, 120), (21, 120), (20, 70), (20, 120), (20, 12), (20, 70), (1, 0), (20, 120), (20, 120), (20, 120), (20, 120), (21, 120), (20, 70), (20, 120), (20, 12), (20, 70), (24, 10), (20, 20), (20, 20), (20, 120), (5, 0), (20, 4), (5, 0), (20, 4), (5, 0), (20, 4), (5, 0), (20, 4), (5, 0), (20, 4), (5, 0), (20, 4), (5, 0), (20, 4), (5, 0), (20, 4), (5, 0), (20, 4), (5, 0), (20, 4), (5, 0), (20, 4), (5, 0), (20, 4), (5, 0), (20, 4), (5, 0), (20, 4), (5, 0), (20, 4), (5, 0), (20, 4), (5, 0), (20, 4), (5, 0), (20, 4), (5, 0), (20, 4), (5, 0), (20, 4), (5, 0), (20, 4), (5, 0), (20, 4), (5, 0), (20, 4), (5, 0), (20, 4), (5, 0), (20, 4), (5, 0), (20, 4), (5, 0), (20, 4), (5, 0), (20, 4), (5, 0), (20, 4), (5, 0), (20, 4), (5, 0), (20, 4), (5, 0), (20, 4), (5, 0), (20, 4), (5, 0), (20, 4), (5, 0), (20, 4), (5, 0), (20, 4), (5, 0), (20, 4), (5, 0), (20, 4), (5, 0), (20, 4), (5, 0), (20, 4), (5, 0), (20, 4), (5, 0), (20, 4), (5, 0), (20, 4), (5, 0), (20, 4), (5, 0), (20, 4), (5, 0), (20, 4), (5, 0), (20, 4), (5, 0), (20, 4), (5, 0), (20, 4), (5, 0), (20, 4), (5, 0), (20, 4), (5, 0), (20, 4), (5, 0), (20, 4), (5, 0), (20, 4), (5, 0), (20, 4), (5, 0), (20, 4), (5, 0), (20, 4), (5, 0), (20, 4), (5, 0), (20, 4), (5, 0), (20, 4), (5, 0), (20, 4), (5, 0), (20, 4), (5, 0), (20, 4), (5, 0), (20, 4), (5, 0), (20, 4), (5, 0), (20, 4), (5, 0), (20, 4), (5, 0), (20, 4), (5, 0), (20, 4), (5, 0), (20, 4), (5, 0), (20, 4), (5, 0), (20, 4), (5, 0), (20, 4), (5, 0), (20, 4), (5, 0), (20, 4), (5, 0), (20, 4), (5, 0), (20, 4), (5, 0), (20, 4), (5, 0), (20, 4), (5, 0), (20, 4), (5, 0), (20, 4), (5, 0), (20, 4), (5, 0), (20, 4), (5, 0), (20, 4), (5, 0), (20, 4), (5, 0), (20, 4), (5, 0), (20, 4), (5, 0), (20, 4), (5, 0), (20, 4), (5, 0), (20, 4), (5, 0), (20, 4), (5, 0), (20, 4), (5, 0), (20, 4), (5, 0), (20, 4), (5, 0), (20, 4), (5, 0), (20, 4), (5, 0), (20, 4), (5, 0), (20, 4), (5, 0), (20, 4), (5, 0), (20, 4), (5, 0), (20, 4), (5, 0), (20, 4), (5, 0), (20, 4), (5, 0), (20, 4), (5, 0), (20, 4), (5, 0), (20, 4), (5, 0), (20, 4), (5, 0), (20, 4), (5, 0), (20, 4), (5, 0), (20, 4), (5, 0), (20, 4), (5, 0), (20, 4), (5, 0), (20, 4), (5, 0), (20, 4), (5, 0), (20, 4), (5, 0), (20, 4), (5, 0), (20, 4), (5, 0), (20, 4), (5, 0), (20, 4), (5, 0), (20, 4), (2, 0), (2, 0), (2, 0), (2, 0), (2, 0), (2, 0), (2, 0), (2, 0), (2, 0), (2, 0)]
def ShC_rf : List (Nat × Nat × Option Nat) := [(0, 0, some 1), (0, 1, some 5), (0, 2, some 13), (0, 3, some 18), (0, 4, some 23), (0, 5, some 49), (0, 6, some 50), (0, 7, some 52), (0, 8, some 62), (0, 9, some 72), (0, 10, some 73), (0, 11, some 74), (0, 12, some 75), (1, 1, some 2), (1, 2, some 3), (1, 3, some 4), (5, 1, some 6), (5, 2, some 7), (5, 3, some 8), (5, 4, some 9), (5, 5, some 10), (5, 6, some 11), (5, 7, some 12), (13, 2, some 5), (13, 3, some 14), (13, 4, some 15), (13, 5, some 16), (13, 6, some 17), (18, 1, some 19), (18, 2, some 20), (18, 3, some 21), (18, 4, some 22), (23, 0, some 24), (23, 2, some 28), (23, 3, some 29), (23, 4, some 30), (24, 3, some 25), (24, 4, some 26), (24, 8, some 27), (28, 0, some 31), (28, 1, some 34), (28, 2, some 37), (28, 3, some 40), (28, 4, some 43), (28, 5, some 46), (31, 9, some 32), (31, 10, some 33), (34, 9, some 35), (34, 10, some 36), (37, 9, some 38), (37, 10, some 39), (40, 9, some 41), (40, 10, some 42), (43, 9, some 44), (43, 10, some 45), (46, 9, some 47), (46, 10, some 48), (49, 0, some 76), (49, 1, some 78), (49, 2, some 80), (49, 3, some 82), (49, 4, some 84), (49, 5, some 86), (49, 6, some 88), (49, 7, some 90), (49, 8, some 92), (49, 9, some 94), (49, 10, some 96), (49, 11, some 98), (49, 12, some 100), (49, 13, some 102), (49, 14, some 104), (49, 15, some 106), (49, 16, some 108), (49, 17, some 110), (49, 18, some 112), (49, 19, some 114), (49, 20, some 116), (49, 21, some 118), (49, 22, some 120), (49, 23, some 122), (49, 24, some 124), (49, 25, some 126), (49, 26, some 128), (49, 27, some 130), (49, 28, some 132), (49, 29, some 134), (49, 30, some 136), (49, 31, some 138), (49, 32, some 140), (49, 33, some 142), (49, 34, some 144), (49, 35, some 146), (49, 36, some 148), (49, 37, some 150), (49, 38, some 152), (49, 39, some 154), (49, 40, some 156), (49, 41, some 158), (49, 42, some 160), (49, 43, some 162), (49, 44, some 164), (49, 45, some 166), (49, 46, some 168), (49, 47, some 170), (49, 48, some 172), (49, 49, some 174), (49, 50, some 176), (49, 51, some 178), (49, 52, some 180), (49, 53, some 182), (49, 54, some 184), (49, 55, some 186), (49, 56, some 188), (49, 57, some 190), (49, 58, some 192), (49, 59, some 194), (49, 60, some 196), (49, 61, some 198), (49, 62, some 200), (49, 63, some 202), (49, 64, some 204), (49, 65, some 206), (49, 66, some 208), (49, 67, some 210), (49, 68, some 212), (49, 69, some 214), (49, 70, some 216), (49, 71, some 218), (49, 72, some 220), (49, 73, some 222), (49, 74, some 224), (49, 75, some 226), (49, 76, some 228), (49, 77, some 230), (49, 78, some 232), (49, 79, some 234), (49, 80, some 236), (49, 81, some 238), (49, 82, some 240), (49, 83, some 242), (49, 84, some 244), (49, 85, some 246), (49, 86, some 248), (49, 87, some 250), (49, 88, some 252), (49, 89, some 254), (49, 90, some 256), (49, 91, some 258), (49, 92, some 260), (49, 93, some 262), (49, 94, some 264), (49, 95, some 266), (49, 96, some 268), (49, 97, some 270), (49, 98, some 272), (49, 99, some 274), (49, 100, some 276), (49, 101, some 278), (49, 102, some 280), (49, 103, some 282), (49, 104, some 284), (49, 105, some 286), (49, 106, some 288), (49, 107, some 290), (49, 108, some 292), (49, 109, some 294), (49, 110, some 296), (49, 111, some 298), (49, 112, some 300), (49, 113, some 302), (49, 114, some 304), (49, 115, some 306), (49, 116, some 308), (49, 117, some 310), (49, 118, some 312), (49, 119, some 314), (50, 0, some 51), (50, 1, some 5), (50, 2, some 13), (50, 3, some 49), (52, 1, some 53), (52, 2, some 54), (52, 3, some 55), (52, 4, some 56), (52, 5, some 57), (52, 6, some 58), (52, 7, some 59), (52, 8, some 60), (52, 9, some 61), (52, 11, some 5), (52, 12, some 13), (52, 13, some 18), (52, 14, some 49), (52, 15, some 50), (62, 1, some 63), (62, 2, some 64), (62, 3, some 65), (62, 4, some 66), (62, 5, some 67), (62, 6, some 68), (62, 7, some 69), (62, 8, some 70), (62, 9, some 71), (62, 11, some 5), (62, 12, some 13), (62, 13, some 18), (62, 14, some 49), (62, 15, none), (72, 0, some 316), (72, 1, some 317), (72, 2, some 318), (72, 3, some 319), (72, 4, some 320), (72, 5, some 321), (72, 6, some 322), (72, 7, some 323), (72, 8, some 324), (72, 9, some 325), (76, 19, some 77), (78, 19, some 79), (80, 19, some 81), (82, 19, some 83), (84, 19, some 85), (86, 19, some 87), (88, 19, some 89), (90, 19, some 91), (92, 19, some 93), (94, 19, some 95), (96, 19, some 97), (98, 19, some 99), (100, 19, some 101), (102, 19, some 103), (104, 19, some 105), (106, 19, some 107), (108, 19, some 109), (110, 19, some 111), (112, 19, some 113), (114, 19, some 115), (116, 19, some 117), (118, 19, some 119), (120, 19, some 121), (122, 19, some 123), (124, 19, some 125), (126, 19, some 127), (128, 19, some 129), (130, 19, some 131), (132, 19, some 133), (134, 19, some 135), (136, 19, some 137), (138, 19, some 139), (140, 19, some 141), (142, 19, some 143), (144, 19, some 145), (146, 19, some 147), (148, 19, some 149), (150, 19, some 151), (152, 19, some 153), (154, 19, some 155), (156, 19, some 157), (158, 19, some 159), (160, 19, some 161), (162, 19, some 163), (164, 19, some 165), (166, 19, some 167), (168, 19, some 169), (170, 19, some 171), (172, 19, some 173), (174, 19, some 175), (176, 19, some 177), (178, 19, some 179), (180, 19, some 181), (182, 19, some 183), (184, 19, some 185), (186, 19, some 187), (188, 19, some 189), (190, 19, some 191), (192, 19, some 193), (194, 19, some 195), (196, 19, some 197), (198, 19, some 199), (200, 19, some 201), (202, 19, some 203), (204, 19, some 205), (206, 19, some 207), (208, 19, some 209), (210, 19, some 211), (212, 19, some 213), (214, 19, some 215), (216, 19, some 217), (218, 19, some 219), (220, 19, some 221), (222, 19, some 223), (224, 19, some 225), (226, 19, some 227), (228, 19, some 229), (230, 19, some 231), (232, 19, some 233), (234, 19, some 235), (236, 19, some 237), (238, 19, some 239), (240, 19, some 241), (242, 19, some 243), (244, 19, some 245), (246, 19, some 247), (248, 19, some 249), (250, 19, some 251), (252, 19, some 253), (254, 19, some 255), (256, 19, some 257), (258, 19, some 259), (260, 19, some 261), (262, 19, some 263), (264, 19, some 265), (266, 19, some 267), (268, 19, some 269), (270, 19, some 271), (272, 19, some 273), (274, 19, some 275), (276, 19, some 277), (278, 19, some 279), (280, 19, some 281), (282, 19, some 283), (284, 19, some 285), (286, 19, some 287), (288, 19, some 289), (290, 19, some 291), (292, 19, some 293), (294, 19, some 295), (296, 19, some 297), (298, 19, some 299), (300, 19, some 301), (302, 19, some 303), (304, 19, some 305), (306, 19, some 307), (308, 19, some 309), (310, 19, some 311), (312, 19, some 313), (314, 19, some 315)]
/-- the cells that are made once: their classes, their lengths, what they refer to -/
def ShC (h : ea_H) : Prop := (∀ b, b < 326 → 0 + b < ea_n h ∧ ea_c h (0 + b) = (ShC_cl.getD b (0, 0)).1 ∧ ea_l h (0 + b) = (ShC_cl.getD b (0, 0)).2) ∧ ∀ q ∈ ShC_rf, ea_r h q.1 q.2.1 = q.2.2
theorem ShC_core {h h' : ea_H} (e : ea_core h' = ea_core h) (hs : ShC h) : ShC h' := by
  obtain ⟨e1, e2, e3, e4⟩ := ea_core_eq e
  unfold ShC
  rw [e1, e2, e3, e4]
  exact hs
theorem cShC_0 {h : ea_H} (hs : ShC h) : 0 < ea_n h ∧ ea_c h 0 = 11 ∧ ea_l h 0 = 0 := hs.1 0 (by decide)
theorem cShC_1 {h : ea_H} (hs : ShC h) : 1 < ea_n h ∧ ea_c h 1 = 7 ∧ ea_l h 1 = 0 := hs.1 1 (by decide)
theorem cShC_2 {h : ea_H} (hs : ShC h) : 2 < ea_n h ∧ ea_c h 2 = 20 ∧ ea_l h 2 = 144 := hs.1 2 (by decide)
theorem cShC_3 {h : ea_H} (hs : ShC h) : 3 < ea_n h ∧ ea_c h 3 = 20 ∧ ea_l h 3 = 144 := hs.1 3 (by decide)
theorem cShC_4 {h : ea_H} (hs : ShC h) : 4 < ea_n h ∧ ea_c h 4 = 20 ∧ ea_l h 4 = 144 := hs.1 4 (by decide)
theorem cShC_5 {h : ea_H} (hs : ShC h) : 5 < ea_n h ∧ ea_c h 5 = 9 ∧ ea_l h 5 = 0 := hs.1 5 (by decide)
theorem cShC_6 {h : ea_H} (hs : ShC h) : 6 < ea_n h ∧ ea_c h 6 = 20 ∧ ea_l h 6 = 10 := hs.1 6 (by decide)
theorem cShC_7 {h : ea_H} (hs : ShC h) : 7 < ea_n h ∧ ea_c h 7 = 20 ∧ ea_l h 7 = 80 := hs.1 7 (by decide)
theorem cShC_8 {h : ea_H} (hs : ShC h) : 8 < ea_n h ∧ ea_c h 8 = 20 ∧ ea_l h 8 = 80 := hs.1 8 (by decide)
theorem cShC_9 {h : ea_H} (hs : ShC h) : 9 < ea_n h ∧ ea_c h 9 = 20 ∧ ea_l h 9 = 80 := hs.1 9 (by decide)
theorem cShC_10 {h : ea_H} (hs : ShC h) : 10 < ea_n h ∧ ea_c h 10 = 21 ∧ ea_l h 10 = 80 := hs.1 10 (by decide)
theorem cShC_11 {h : ea_H} (hs : ShC h) : 11 < ea_n h ∧ ea_c h 11 = 20 ∧ ea_l h 11 = 70 := hs.1 11 (by decide)
theorem cShC_12 {h : ea_H} (hs : ShC h) : 12 < ea_n h ∧ ea_c h 12 = 20 ∧ ea_l h 12 = 70 := hs.1 12 (by decide)
theorem cShC_13 {h : ea_H} (hs : ShC h) : 13 < ea_n h ∧ ea_c h 13 = 10 ∧ ea_l h 13 = 0 := hs.1 13 (by decide)
theorem cShC_14 {h : ea_H} (hs : ShC h) : 14 < ea_n h ∧ ea_c h 14 = 20 ∧ ea_l h 14 = 980 := hs.1 14 (by decide)
theorem cShC_15 {h : ea_H} (hs : ShC h) : 15 < ea_n h ∧ ea_c h 15 = 22 ∧ ea_l h 15 = 560 := hs.1 15 (by decide)
theorem cShC_16 {h : ea_H} (hs : ShC h) : 16 < ea_n h ∧ ea_c h 16 = 22 ∧ ea_l h 16 = 840 := hs.1 16 (by decide)
theorem cShC_17 {h : ea_H} (hs : ShC h) : 17 < ea_n h ∧ ea_c h 17 = 22 ∧ ea_l h 17 = 144 := hs.1 17 (by decide)
theorem cShC_18 {h : ea_H} (hs : ShC h) : 18 < ea_n h ∧ ea_c h 18 = 3 ∧ ea_l h 18 = 0 := hs.1 18 (by decide)
theorem cShC_19 {h : ea_H} (hs : ShC h) : 19 < ea_n h ∧ ea_c h 19 = 20 ∧ ea_l h 19 = 8 := hs.1 19 (by decide)
theorem cShC_20 {h : ea_H} (hs : ShC h) : 20 < ea_n h ∧ ea_c h 20 = 20 ∧ ea_l h 20 = 8 := hs.1 20 (by decide)
theorem cShC_21 {h : ea_H} (hs : ShC h) : 21 < ea_n h ∧ ea_c h 21 = 20 ∧ ea_l h 21 = 8 := hs.1 21 (by decide)
theorem cShC_22 {h : ea_H} (hs : ShC h) : 22 < ea_n h ∧ ea_c h 22 = 20 ∧ ea_l h 22 = 8 := hs.1 22 (by decide)
theorem cShC_23 {h : ea_H} (hs : ShC h) : 23 < ea_n h ∧ ea_c h 23 = 8 ∧ ea_l h 23 = 0 := hs.1 23 (by decide)
theorem cShC_24 {h : ea_H} (hs : ShC h) : 24 < ea_n h ∧ ea_c h 24 = 6 ∧ ea_l h 24 = 0 := hs.1 24 (by decide)
theorem cShC_25 {h : ea_H} (hs : ShC h) : 25 < ea_n h ∧ ea_c h 25 = 20 ∧ ea_l h 25 = 600 := hs.1 25 (by decide)
theorem cShC_26 {h : ea_H} (hs : ShC h) : 26 < ea_n h ∧ ea_c h 26 = 20 ∧ ea_l h 26 = 601 := hs.1 26 (by decide)
theorem cShC_27 {h : ea_H} (hs : ShC h) : 27 < ea_n h ∧ ea_c h 27 = 22 ∧ ea_l h 27 = 900 := hs.1 27 (by decide)
theorem cShC_28 {h : ea_H} (hs : ShC h) : 28 < ea_n h ∧ ea_c h 28 = 25 ∧ ea_l h 28 = 6 := hs.1 28 (by decide)
theorem cShC_29 {h : ea_H} (hs : ShC h) : 29 < ea_n h ∧ ea_c h 29 = 20 ∧ ea_l h 29 = 7 := hs.1 29 (by decide)
theorem cShC_30 {h : ea_H} (hs : ShC h) : 30 < ea_n h ∧ ea_c h 30 = 20 ∧ ea_l h 30 = 64 := hs.1 30 (by decide)
theorem cShC_49 {h : ea_H} (hs : ShC h) : 49 < ea_n h ∧ ea_c h 49 = 23 ∧ ea_l h 49 = 120 := hs.1 49 (by decide)
theorem cShC_50 {h : ea_H} (hs : ShC h) : 50 < ea_n h ∧ ea_c h 50 = 4 ∧ ea_l h 50 = 0 := hs.1 50 (by decide)
theorem cShC_51 {h : ea_H} (hs : ShC h) : 51 < ea_n h ∧ ea_c h 51 = 22 ∧ ea_l h 51 = 2240 := hs.1 51 (by decide)
theorem cShC_52 {h : ea_H} (hs : ShC h) : 52 < ea_n h ∧ ea_c h 52 = 1 ∧ ea_l h 52 = 0 := hs.1 52 (by decide)
theorem cShC_53 {h : ea_H} (hs : ShC h) : 53 < ea_n h ∧ ea_c h 53 = 20 ∧ ea_l h 53 = 120 := hs.1 53 (by decide)
theorem cShC_54 {h : ea_H} (hs : ShC h) : 54 < ea_n h ∧ ea_c h 54 = 20 ∧ ea_l h 54 = 120 := hs.1 54 (by decide)
theorem cShC_55 {h : ea_H} (hs : ShC h) : 55 < ea_n h ∧ ea_c h 55 = 20 ∧ ea_l h 55 = 120 := hs.1 55 (by decide)
theorem cShC_56 {h : ea_H} (hs : ShC h) : 56 < ea_n h ∧ ea_c h 56 = 20 ∧ ea_l h 56 = 120 := hs.1 56 (by decide)
theorem cShC_57 {h : ea_H} (hs : ShC h) : 57 < ea_n h ∧ ea_c h 57 = 21 ∧ ea_l h 57 = 120 := hs.1 57 (by decide)
theorem cShC_58 {h : ea_H} (hs : ShC h) : 58 < ea_n h ∧ ea_c h 58 = 20 ∧ ea_l h 58 = 70 := hs.1 58 (by decide)
theorem cShC_59 {h : ea_H} (hs : ShC h) : 59 < ea_n h ∧ ea_c h 59 = 20 ∧ ea_l h 59 = 120 := hs.1 59 (by decide)
theorem cShC_60 {h : ea_H} (hs : ShC h) : 60 < ea_n h ∧ ea_c h 60 = 20 ∧ ea_l h 60 = 12 := hs.1 60 (by decide)
theorem cShC_61 {h : ea_H} (hs : ShC h) : 61 < ea_n h ∧ ea_c h 61 = 20 ∧ ea_l h 61 = 70 := hs.1 61 (by decide)
theorem cShC_62 {h : ea_H} (hs : ShC h) : 62 < ea_n h ∧ ea_c h 62 = 1 ∧ ea_l h 62 = 0 := hs.1 62 (by decide)
theorem cShC_63 {h : ea_H} (hs : ShC h) : 63 < ea_n h ∧ ea_c h 63 = 20 ∧ ea_l h 63 = 120 := hs.1 63 (by decide)
theorem cShC_64 {h : ea_H} (hs : ShC h) : 64 < ea_n h ∧ ea_c h 64 = 20 ∧ ea_l h 64 = 120 := hs.1 64 (by decide)
theorem cShC_65 {h : ea_H} (hs : ShC h) : 65 < ea_n h ∧ ea_c h 65 = 20 ∧ ea_l h 65 = 120 := hs.1 65 (by decide)
theorem cShC_66 {h : ea_H} (hs : ShC h) : 66 < ea_n h ∧ ea_c h 66 = 20 ∧ ea_l h 66 = 120 := hs.1 66 (by decide)
theorem cShC_67 {h : ea_H} (hs : ShC h) : 67 < ea_n h ∧ ea_c h 67 = 21 ∧ ea_l h 67 = 120 := hs.1 67 (by decide)
theorem cShC_68 {h : ea_H} (hs : ShC h) : 68 < ea_n h ∧ ea_c h 68 = 20 ∧ ea_l h 68 = 70 := hs.1 68 (by decide)
theorem cShC_69 {h : ea_H} (hs : ShC h) : 69 < ea_n h ∧ ea_c h 69 = 20 ∧ ea_l h 69 = 120 := hs.1 69 (by decide)
theorem cShC_70 {h : ea_H} (hs : ShC h) : 70 < ea_n h ∧ ea_c h 70 = 20 ∧ ea_l h 70 = 12 := hs.1 70 (by decide)
theorem cShC_71 {h : ea_H} (hs : ShC h) : 71 < ea_n h ∧ ea_c h 71 = 20 ∧ ea_l h 71 = 70 := hs.1 71 (by decide)
theorem cShC_72 {h : ea_H} (hs : ShC h) : 72 < ea_n h ∧ ea_c h 72 = 24 ∧ ea_l h 72 = 10 := hs.1 72 (by decide)
theorem cShC_73 {h : ea_H} (hs : ShC h) : 73 < ea_n h ∧ ea_c h 73 = 20 ∧ ea_l h 73 = 20 := hs.1 73 (by decide)
theorem cShC_74 {h : ea_H} (hs : ShC h) : 74 < ea_n h ∧ ea_c h 74 = 20 ∧ ea_l h 74 = 20 := hs.1 74 (by decide)
theorem cShC_75 {h : ea_H} (hs : ShC h) : 75 < ea_n h ∧ ea_c h 75 = 20 ∧ ea_l h 75 = 120 := hs.1 75 (by decide)
theorem rShC_0_0 {h : ea_H} (hs : ShC h) : ea_r h 0 0 = some 1 := hs.2 (0, 0, some 1) (List.mem_of_getElem? (i := 0) rfl)
theorem rShC_0_1 {h : ea_H} (hs : ShC h) : ea_r h 0 1 = some 5 := hs.2 (0, 1, some 5) (List.mem_of_getElem? (i := 1) rfl)
theorem rShC_0_2 {h : ea_H} (hs : ShC h) : ea_r h 0 2 = some 13 := hs.2 (0, 2, some 13) (List.mem_of_getElem? (i := 2) rfl)
theorem rShC_0_3 {h : ea_H} (hs : ShC h) : ea_r h 0 3 = some 18 := hs.2 (0, 3, some 18) (List.mem_of_getElem? (i := 3) rfl)
theorem rShC_0_4 {h : ea_H} (hs : ShC h) : ea_r h 0 4 = some 23 := hs.2 (0, 4, some 23) (List.mem_of_getElem? (i := 4) rfl)
theorem rShC_0_5 {h : ea_H} (hs : ShC h) : ea_r h 0 5 = some 49 := hs.2 (0, 5, some 49) (List.mem_of_getElem? (i := 5) rfl)
theorem rShC_0_6 {h : ea_H} (hs : ShC h) : ea_r h 0 6 = some 50 := hs.2 (0, 6, some 50) (List.mem_of_getElem? (i := 6) rfl)
theorem rShC_0_7 {h : ea_H} (hs : ShC h) : ea_r h 0 7 = some 52 := hs.2 (0, 7, some 52) (List.mem_of_getElem? (i := 7) rfl)
theorem rShC_0_8 {h : ea_H} (hs : ShC h) : ea_r h 0 8 = some 62 := hs.2 (0, 8, some 62) (List.mem_of_getElem? (i := 8) rfl)
theorem rShC_0_9 {h : ea_H} (hs : ShC h) : ea_r h 0 9 = some 72 := hs.2 (0, 9, some 72) (List.mem_of_getElem? (i := 9) rfl)
theorem rShC_0_10 {h : ea_H} (hs : ShC h) : ea_r h 0 10 = some 73 := hs.2 (0, 10, some 73) (List.mem_of_getElem? (i := 10) rfl)
theorem rShC_0_11 {h : ea_H} (hs : ShC h) : ea_r h 0 11 = some 74 := hs.2 (0, 11, some 74) (List.mem_of_getElem? (i := 11) rfl)
theorem rShC_0_12 {h : ea_H} (hs : ShC h) : ea_r h 0 12 = some 75 := hs.2 (0, 12, some 75) (List.mem_of_getElem? (i := 12) rfl)
theorem rShC_1_1 {h : ea_H} (hs : ShC h) : ea_r h 1 1 = some 2 := hs.2 (1, 1, some 2) (List.mem_of_getElem? (i := 13) rfl)
theorem rShC_1_2 {h : ea_H} (hs : ShC h) : ea_r h 1 2 = some 3 := hs.2 (1, 2, some 3) (List.mem_of_getElem? (i := 14) rfl)
theorem rShC_1_3 {h : ea_H} (hs : ShC h) : ea_r h 1 3 = some 4 := hs.2 (1, 3, some 4) (List.mem_of_getElem? (i := 15) rfl)
theorem rShC_5_1 {h : ea_H} (hs : ShC h) : ea_r h 5 1 = some 6 := hs.2 (5, 1, some 6) (List.mem_of_getElem? (i := 16) rfl)
theorem rShC_5_2 {h : ea_H} (hs : ShC h) : ea_r h 5 2 = some 7 := hs.2 (5, 2, some 7) (List.mem_of_getElem? (i := 17) rfl)
theorem rShC_5_3 {h : ea_H} (hs : ShC h) : ea_r h 5 3 = some 8 := hs.2 (5, 3, some 8) (List.mem_of_getElem? (i := 18) rfl)
theorem rShC_5_4 {h : ea_H} (hs : ShC h) : ea_r h 5 4 = some 9 := hs.2 (5, 4, some 9) (List.mem_of_getElem? (i := 19) rfl)
theorem rShC_5_5 {h : ea_H} (hs : ShC h) : ea_r h 5 5 = some 10 := hs.2 (5, 5, some 10) (List.mem_of_getElem? (i := 20) rfl)
theorem rShC_5_6 {h : ea_H} (hs : ShC h) : ea_r h 5 6 = some 11 := hs.2 (5, 6, some 11) (List.mem_of_getElem? (i := 21) rfl)
theorem rShC_5_7 {h : ea_H} (hs : ShC h) : ea_r h 5 7 = some 12 := hs.2 (5, 7, some 12) (List.mem_of_getElem? (i := 22) rfl)
theorem rShC_13_2 {h : ea_H} (hs : ShC h) : ea_r h 13 2 = some 5 := hs.2 (13, 2, some 5) (List.mem_of_getElem? (i := 23) rfl)
theorem rShC_13_3 {h : ea_H} (hs : ShC h) : ea_r h 13 3 = some 14 := hs.2 (13, 3, some 14) (List.mem_of_getElem? (i := 24) rfl)
theorem rShC_13_4 {h : ea_H} (hs : ShC h) : ea_r h 13 4 = some 15 := hs.2 (13, 4, some 15) (List.mem_of_getElem? (i := 25) rfl)
theorem rShC_13_5 {h : ea_H} (hs : ShC h) : ea_r h 13 5 = some 16 := hs.2 (13, 5, some 16) (List.mem_of_getElem? (i := 26) rfl)
theorem rShC_13_6 {h : ea_H} (hs : ShC h) : ea_r h 13 6 = some 17 := hs.2 (13, 6, some 17) (List.mem_of_getElem? (i := 27) rfl)
theorem rShC_18_1 {h : ea_H} (hs : ShC h) : ea_r h 18 1 = some 19 := hs.2 (18, 1, some 19) (List.mem_of_getElem? (i := 28) rfl)
theorem rShC_18_2 {h : ea_H} (hs : ShC h) : ea_r h 18 2 = some 20 := hs.2 (18, 2, some 20) (List.mem_of_getElem? (i := 29) rfl)
theorem rShC_18_3 {h : ea_H} (hs : ShC h) : ea_r h 18 3 = some 21 := hs.2 (18, 3, some 21) (List.mem_of_getElem? (i := 30) rfl)
theorem rShC_18_4 {h : ea_H} (hs : ShC h) : ea_r h 18 4 = some 22 := hs.2 (18, 4, some 22) (List.mem_of_getElem? (i := 31) rfl)
theorem rShC_23_0 {h : ea_H} (hs : ShC h) : ea_r h 23 0 = some 24 := hs.2 (23, 0, some 24) (List.mem_of_getElem? (i := 32) rfl)
theorem rShC_23_2 {h : ea_H} (hs : ShC h) : ea_r h 23 2 = some 28 := hs.2 (23, 2, some 28) (List.mem_of_getElem? (i := 33) rfl)
theorem rShC_23_3 {h : ea_H} (hs : ShC h) : ea_r h 23 3 = some 29 := hs.2 (23, 3, some 29) (List.mem_of_getElem? (i := 34) rfl)
theorem rShC_23_4 {h : ea_H} (hs : ShC h) : ea_r h 23 4 = some 30 := hs.2 (23, 4, some 30) (List.mem_of_getElem? (i := 35) rfl)
theorem rShC_24_3 {h : ea_H} (hs : ShC h) : ea_r h 24 3 = some 25 := hs.2 (24, 3, some 25) (List.mem_of_getElem? (i := 36) rfl)
theorem rShC_24_4 {h : ea_H} (hs : ShC h) : ea_r h 24 4 = some 26 := hs.2 (24, 4, some 26) (List.mem_of_getElem? (i := 37) rfl)
theorem rShC_24_8 {h : ea_H} (hs : ShC h) : ea_r h 24 8 = some 27 := hs.2 (24, 8, some 27) (List.mem_of_getElem? (i := 38) rfl)
theorem rShC_50_0 {h : ea_H} (hs : ShC h) : ea_r h 50 0 = some 51 := hs.2 (50, 0, some 51) (List.mem_of_getElem? (i := 177) rfl)
theorem rShC_50_1 {h : ea_H} (hs : ShC h) : ea_r h 50 1 = some 5 := hs.2 (50, 1, some 5) (List.mem_of_getElem? (i := 178) rfl)
theorem rShC_50_2 {h : ea_H} (hs : ShC h) : ea_r h 50 2 = some 13 := hs.2 (50, 2, some 13) (List.mem_of_getElem? (i := 179) rfl)
theorem rShC_50_3 {h : ea_H} (hs : ShC h) : ea_r h 50 3 = some 49 := hs.2 (50, 3, some 49) (List.mem_of_getElem? (i := 180) rfl)
theorem rShC_52_1 {h : ea_H} (hs : ShC h) : ea_r h 52 1 = some 53 := hs.2 (52, 1, some 53) (List.mem_of_getElem? (i := 181) rfl)
theorem rShC_52_2 {h : ea_H} (hs : ShC h) : ea_r h 52 2 = some 54 := hs.2 (52, 2, some 54) (List.mem_of_getElem? (i := 182) rfl)
theorem rShC_52_3 {h : ea_H} (hs : ShC h) : ea_r h 52 3 = some 55 := hs.2 (52, 3, some 55) (List.mem_of_getElem? (i := 183) rfl)
theorem rShC_52_4 {h : ea_H} (hs : ShC h) : ea_r h 52 4 = some 56 := hs.2 (52, 4, some 56) (List.mem_of_getElem? (i := 184) rfl)
theorem rShC_52_5 {h : ea_H} (hs : ShC h) : ea_r h 52 5 = some 57 := hs.2 (52, 5, some 57) (List.mem_of_getElem? (i := 185) rfl)
theorem rShC_52_6 {h : ea_H} (hs : ShC h) : ea_r h 52 6 = some 58 := hs.2 (52, 6, some 58) (List.mem_of_getElem? (i := 186) rfl)
theorem rShC_52_7 {h : ea_H} (hs : ShC h) : ea_r h 52 7 = some 59 := hs.2 (52, 7, some 59) (List.mem_of_getElem? (i := 187) rfl)
theorem rShC_52_8 {h : ea_H} (hs : ShC h) : ea_r h 52 8 = some 60 := hs.2 (52, 8, some 60) (List.mem_of_getElem? (i := 188) rfl)
theorem rShC_52_9 {h : ea_H} (hs : ShC h) : ea_r h 52 9 = some 61 := hs.2 (52, 9, some 61) (List.mem_of_getElem? (i := 189) rfl)
theorem rShC_52_11 {h : ea_H} (hs : ShC h) : ea_r h 52 11 = some 5 := hs.2 (52, 11, some 5) (List.mem_of_getElem? (i := 190) rfl)
theorem rShC_52_12 {h : ea_H} (hs : ShC h) : ea_r h 52 12 = some 13 := hs.2 (52, 12, some 13) (List.mem_of_getElem? (i := 191) rfl)
theorem rShC_52_13 {h : ea_H} (hs : ShC h) : ea_r h 52 13 = some 18 := hs.2 (52, 13, some 18) (List.mem_of_getElem? (i := 192) rfl)
theorem rShC_52_14 {h : ea_H} (hs : ShC h) : ea_r h 52 14 = some 49 := hs.2 (52, 14, some 49) (List.mem_of_getElem? (i := 193) rfl)
theorem rShC_52_15 {h : ea_H} (hs : ShC h) : ea_r h 52 15 = some 50 := hs.2 (52, 15, some 50) (List.mem_of_getElem? (i := 194) rfl)
theorem rShC_62_1 {h : ea_H} (hs : ShC h) : ea_r h 62 1 = some 63 := hs.2 (62, 1, some 63) (List.mem_of_getElem? (i := 195) rfl)
theorem rShC_62_2 {h : ea_H} (hs : ShC h) : ea_r h 62 2 = some 64 := hs.2 (62, 2, some 64) (List.mem_of_getElem? (i := 196) rfl)
theorem rShC_62_3 {h : ea_H} (hs : ShC h) : ea_r h 62 3 = some 65 := hs.2 (62, 3, some 65) (List.mem_of_getElem? (i := 197) rfl)
theorem rShC_62_4 {h : ea_H} (hs : ShC h) : ea_r h 62 4 = some 66 := hs.2 (62, 4, some 66) (List.mem_of_getElem? (i := 198) rfl)
theorem rShC_62_5 {h : ea_H} (hs : ShC h) : ea_r h 62 5 = some 67 := hs.2 (62, 5, some 67) (List.mem_of_getElem? (i := 199) rfl)
theorem rShC_62_6 {h : ea_H} (hs : ShC h) : ea_r h 62 6 = some 68 := hs.2 (62, 6, some 68) (List.mem_of_getElem? (i := 200) rfl)
theorem rShC_62_7 {h : ea_H} (hs : ShC h) : ea_r h 62 7 = some 69 := hs.2 (62, 7, some 69) (List.mem_of_getElem? (i := 201) rfl)
theorem rShC_62_8 {h : ea_H} (hs : ShC h) : ea_r h 62 8 = some 70 := hs.2 (62, 8, some 70) (List.mem_of_getElem? (i := 202) rfl)
theorem rShC_62_9 {h : ea_H} (hs : ShC h) : ea_r h 62 9 = some 71 := hs.2 (62, 9, some 71) (List.mem_of_getElem? (i := 203) rfl)
theorem rShC_62_11 {h : ea_H} (hs : ShC h) : ea_r h 62 11 = some 5 := hs.2 (62, 11, some 5) (List.mem_of_getElem? (i := 204) rfl)
theorem rShC_62_12 {h : ea_H} (hs : ShC h) : ea_r h 62 12 = some 13 := hs.2 (62, 12, some 13) (List.mem_of_getElem? (i := 205) rfl)
theorem rShC_62_13 {h : ea_H} (hs : ShC h) : ea_r h 62 13 = some 18 := hs.2 (62, 13, some 18) (List.mem_of_getElem? (i := 206) rfl)
theorem rShC_62_14 {h : ea_H} (hs : ShC h) : ea_r h 62 14 = some 49 := hs.2 (62, 14, some 49) (List.mem_of_getElem? (i := 207) rfl)
theorem rShC_62_15 {h : ea_H} (hs : ShC h) : ea_r h 62 15 = none := hs.2 (62, 15, none) (List.mem_of_getElem? (i := 208) rfl)
theorem ea_sw_m19_m10 {x : Int} (q0 : ¬ x = -19) (q1 : ¬ x = -18) (q2 : ¬ x = -17) (q3 : ¬ x = -16) (q4 : ¬ x = -15) (q5 : ¬ x = -14) (q6 : ¬ x = -13) (q7 : ¬ x = -12) (q8 : ¬ x = -11) (q9 : ¬ x = -10) : x < -19 ∨ -10 < x := by omega
theorem ea_sw_0_2 {x : Int} (q0 : ¬ x = 0) (q1 : ¬ x = 1) (q2 : ¬ x = 2) : x < 0 ∨ 2 < x := by omega
theorem ea_sw_0_3 {x : Int} (q0 : ¬ x = 0) (q1 : ¬ x = 1) (q2 : ¬ x = 2) (q3 : ¬ x = 3) : x < 0 ∨ 3 < x := by omega
theorem ea_sw_0_4 {x : Int} (q0 : ¬ x = 0) (q1 : ¬ x = 1) (q2 : ¬ x = 2) (q3 : ¬ x = 3) (q4 : ¬ x = 4) : x < 0 ∨ 4 < x := by omega
theorem ea_sw_0_5 {x : Int} (q0 : ¬ x = 0) (q1 : ¬ x = 1) (q2 : ¬ x = 2) (q3 : ¬ x = 3) (q4 : ¬ x = 4) (q5 : ¬ x = 5) : x < 0 ∨ 5 < x := by omega
theorem ea_sw_0_7 {x : Int} (q0 : ¬ x = 0) (q1 : ¬ x = 1) (q2 : ¬ x = 2) (q3 : ¬ x = 3) (q4 : ¬ x = 4) (q5 : ¬ x = 5) (q6 : ¬ x = 6) (q7 : ¬ x = 7) : x < 0 ∨ 7 < x := by omega
theorem ea_sw_0_12 {x : Int} (q0 : ¬ x = 0) (q1 : ¬ x = 1) (q2 : ¬ x = 2) (q3 : ¬ x = 3) (q4 : ¬ x = 4) (q5 : ¬ x = 5) (q6 : ¬ x = 6) (q7 : ¬ x = 7) (q8 : ¬ x = 8) (q9 : ¬ x = 9) (q10 : ¬ x = 10) (q11 : ¬ x = 11) (q12 : ¬ x = 12) : x < 0 ∨ 12 < x := by omega
theorem ea_sw_1_4 {x : Int} (q0 : ¬ x = 1) (q1 : ¬ x = 2) (q2 : ¬ x = 3) (q3 : ¬ x = 4) : x < 1 ∨ 4 < x := by omega
theorem ea_sw_8_16 {x : Int} (q0 : ¬ x = 8) (q1 : ¬ x = 9) (q2 : ¬ x = 10) (q3 : ¬ x = 11) (q4 : ¬ x = 12) (q5 : ¬ x = 13) (q6 : ¬ x = 14) (q7 : ¬ x = 15) (q8 : ¬ x = 16) : x < 8 ∨ 16 < x := by omega
theorem ea_sw_40_62 {x : Int} (q0 : ¬ x = 40) (q1 : ¬ x = 41) (q2 : ¬ x = 42) (q3 : ¬ x = 43) (q4 : ¬ x = 44) (q5 : ¬ x = 45) (q6 : ¬ x = 46) (q7 : ¬ x = 47) (q8 : ¬ x = 48) (q9 : ¬ x = 49) (q10 : ¬ x = 50) (q11 : ¬ x = 51) (q12 : ¬ x = 52) (q13 : ¬ x = 53) (q14 : ¬ x = 54) (q15 : ¬ x = 55) (q16 : ¬ x = 56) (q17 : ¬ x = 57) (q18 : ¬ x = 58) (q19 : ¬ x = 59) (q20 : ¬ x = 60) (q21 : ¬ x = 61) (q22 : ¬ x = 62) : x < 40 ∨ 62 < x := by omega
theorem ea_sw_60_62 {x : Int} (q0 : ¬ x = 60) (q1 : ¬ x = 61) (q2 : ¬ x = 62) : x < 60 ∨ 62 < x := by omega
noncomputable def BJ7_fill_53178_0 (J5 : Option Nat → Int32 → Int32 → Int32 → ea_H → Option (Unit × ea_H)) (r0 : Option Nat) (x1 : Int32) (h : ea_H) : Option (Unit × ea_H) :=
  (gd (r0 = some (Option.getD r0 0)) (gd (((Option.getD r0 0) < ea_n h ∧ ea_c h (Option.getD r0 0) = 20)) (ea_let (Int32.ofNat (ea_l h (Option.getD r0 0))) fun (v3 : Int32) => (J5 (r0 : Option Nat) (x1 : Int32) (0 : Int32) (v3 : Int32) h))))
theorem tBJ7_fill_53178_0 {d : Nat} {h0 : ea_H} (hd : 1 ≤ d) {J5 : Option Nat → Int32 → Int32 → Int32 → ea_H → Option (Unit × ea_H)}  (kJ5 : ∀ (r0 : Option Nat) (x1 : Int32) (x2 : Int32) (x3 : Int32) (h : ea_H) (r : Unit) (h' : ea_H), J5 r0 x1 x2 x3 h = some (r, h') → ea_W mJ7_fill_53178 d h0 none h' 5 [(0, vR r0), (1, vI x1), (2, vI x2), (3, vI x3)] [] h) {r0 : Option Nat} {x1 : Int32} {h : ea_H} {r : Unit} {h' : ea_H} (E : BJ7_fill_53178_0 J5 r0 x1 h = some (r, h')) : ea_W mJ7_fill_53178 d h0 none h' 0 [(0, vR r0), (1, vI x1)] [] h := by
  unfold BJ7_fill_53178_0 at E
  obtain ⟨e1, E⟩ := gd_some E
  refine ea_iconst (pc := 0) dJ7_fill_53178_0 (v := 0) rfl ?_
  refine ea_istore_n (pc := 1) (lv' := [(0, vR r0), (1, vI x1), (2, vI 0)]) dJ7_fill_53178_1 rfl (Nat.le_of_ble_eq_true rfl) [1, 2, 0] rfl ?_
  refine ea_aload_n (pc := 2) dJ7_fill_53178_2 rfl 0 rfl ?_
  obtain ⟨f2, E⟩ := gd_some E
  obtain ⟨v3, ev3, E⟩ := let_some E
  refine ea_deref0 e1 ?_
  refine ea_alen (pc := 3) dJ7_fill_53178_3 f2.1 f2.2 (by decide) (by decide) ?_
  refine ea_istore_n (pc := 4) (lv' := [(0, vR r0), (1, vI x1), (2, vI 0), (3, vI v3)]) dJ7_fill_53178_4 rfl (Nat.le_of_ble_eq_true rfl) [1, 2, 3, 0] (by rw [ev3]; rfl) ?_
  exact (kJ5 (r0 : Option Nat) (x1 : Int32) (0 : Int32) (v3 : Int32) h _ _ E)
theorem kBJ7_fill_53178_0 {J5 : Option Nat → Int32 → Int32 → Int32 → ea_H → Option (Unit × ea_H)}  (cJ5 : ∀ (r0 : Option Nat) (x1 : Int32) (x2 : Int32) (x3 : Int32) (h : ea_H), kp (ea_core h) (J5 r0 x1 x2 x3 h)) {r0 : Option Nat} {x1 : Int32} {h : ea_H} : kp (ea_core h) (BJ7_fill_53178_0 J5 r0 x1 h) :=
  (kp_gd (kp_gd (kp_let (kp_tw (cJ5 _ _ _ _ _) rfl))))
theorem lBJ7_fill_53178_0 {J5 : Option Nat → Int32 → Int32 → Int32 → ea_H → Option (Unit × ea_H)} {J5_ : Option Nat → Int32 → Int32 → Int32 → ea_H → Option (Unit × ea_H)}  (mJ5 : ∀ (r0 : Option Nat) (x1 : Int32) (x2 : Int32) (x3 : Int32) (h : ea_H), fle (J5 r0 x1 x2 x3 h) (J5_ r0 x1 x2 x3 h)) {r0 : Option Nat} {x1 : Int32} {h : ea_H} : fle (BJ7_fill_53178_0 J5 r0 x1 h) (BJ7_fill_53178_0 J5_ r0 x1 h) :=
  (fle_gd (fle_gd (fle_let fun _ => (mJ5 _ _ _ _ _))))
theorem nBJ7_fill_53178_0 {J5 : Option Nat → Int32 → Int32 → Int32 → ea_H → Option (Unit × ea_H)} {J5_ : Nat → (Option Nat → Int32 → Int32 → Int32 → ea_H → Option (Unit × ea_H))}  (mJ5 : ∀ (r0 : Option Nat) (x1 : Int32) (x2 : Int32) (x3 : Int32) (h : ea_H), fct (J5 r0 x1 x2 x3 h) (fun f => J5_ f r0 x1 x2 x3 h)) {r0 : Option Nat} {x1 : Int32} {h : ea_H} : fct (BJ7_fill_53178_0 J5 r0 x1 h) (fun f => BJ7_fill_53178_0 (J5_ f) r0 x1 h) :=
  (fct_gd (fct_gd (fct_let fun _ => (mJ5 _ _ _ _ _))))
noncomputable def BJ7_fill_53178_5 (J5 : Option Nat → Int32 → Int32 → Int32 → ea_H → Option (Unit × ea_H)) (r0 : Option Nat) (x1 : Int32) (x2 : Int32) (x3 : Int32) (h : ea_H) : Option (Unit × ea_H) :=
  (if x3 ≤ x2 then (some ((), h)) else (gd (r0 = some (Option.getD r0 0)) (gd (((Option.getD r0 0) < ea_n h ∧ ea_c h (Option.getD r0 0) = 20)) (gd (vp_in x2 (ea_l h (Option.getD r0 0))) (ea_let (ea_wi h (Option.getD r0 0) (Int32.toNatClampNeg x2) x1) fun H7 => (J5 (r0 : Option Nat) (x1 : Int32) ((x2 + (1 : Int32)) : Int32) (x3 : Int32) H7))))))
theorem tBJ7_fill_53178_5 {d : Nat} {h0 : ea_H} (hd : 1 ≤ d) {J5 : Option Nat → Int32 → Int32 → Int32 → ea_H → Option (Unit × ea_H)}  (kJ5 : ∀ (r0 : Option Nat) (x1 : Int32) (x2 : Int32) (x3 : Int32) (h : ea_H) (r : Unit) (h' : ea_H), J5 r0 x1 x2 x3 h = some (r, h') → ea_W mJ7_fill_53178 d h0 none h' 5 [(0, vR r0), (1, vI x1), (2, vI x2), (3, vI x3)] [] h) {r0 : Option Nat} {x1 : Int32} {x2 : Int32} {x3 : Int32} {h : ea_H} {r : Unit} {h' : ea_H} (E : BJ7_fill_53178_5 J5 r0 x1 x2 x3 h = some (r, h')) : ea_W mJ7_fill_53178 d h0 none h' 5 [(0, vR r0), (1, vI x1), (2, vI x2), (3, vI x3)] [] h := by
  unfold BJ7_fill_53178_5 at E
  refine ea_iload_n (pc := 5) dJ7_fill_53178_5 rfl 2 rfl ?_
  refine ea_iload_n (pc := 6) dJ7_fill_53178_6 rfl 3 rfl ?_
  refine ea_icmp_ge (pc := 7) (tgt := 20) dJ7_fill_53178_7 rfl (fun c8 => ?_) (fun c8 => ?_)
  · have E := (if_pos c8).symm.trans E
    exact ea_vretO (pc := 20) dJ7_fill_53178_20 rfl E
  · have E := (if_neg c8).symm.trans E
    obtain ⟨e4, E⟩ := gd_some E
    refine ea_aload_n (pc := 10) dJ7_fill_53178_10 rfl 0 rfl ?_
    refine ea_iload_n (pc := 11) dJ7_fill_53178_11 rfl 2 rfl ?_
    refine ea_iload_n (pc := 12) dJ7_fill_53178_12 rfl 1 rfl ?_
    obtain ⟨f5, E⟩ := gd_some E
    obtain ⟨z6, E⟩ := gd_some E
    obtain ⟨H7, eH7, E⟩ := let_some E
    refine ea_deref2 e4 ?_
    refine ea_iast (pc := 13) dJ7_fill_53178_13 f5.1 f5.2 z6 ?_
    refine ea_nm eH7 ?_
    refine ea_iinc (pc := 14) (v := 1) (lv' := [(0, vR r0), (1, vI x1), (2, vI (x2 + (1 : Int32))), (3, vI x3)]) dJ7_fill_53178_14 2 rfl rfl (Nat.le_of_ble_eq_true rfl) [1, 2, 0, 3] rfl ?_
    refine ea_goto (pc := 17) (tgt := 5) dJ7_fill_53178_17 rfl ?_
    exact (kJ5 (r0 : Option Nat) (x1 : Int32) ((x2 + (1 : Int32)) : Int32) (x3 : Int32) H7 _ _ E)
theorem kBJ7_fill_53178_5 {J5 : Option Nat → Int32 → Int32 → Int32 → ea_H → Option (Unit × ea_H)}  (cJ5 : ∀ (r0 : Option Nat) (x1 : Int32) (x2 : Int32) (x3 : Int32) (h : ea_H), kp (ea_core h) (J5 r0 x1 x2 x3 h)) {r0 : Option Nat} {x1 : Int32} {x2 : Int32} {x3 : Int32} {h : ea_H} : kp (ea_core h) (BJ7_fill_53178_5 J5 r0 x1 x2 x3 h) :=
  (kp_ite (kp_ret rfl) (kp_gd (kp_gd (kp_gd (kp_let (kp_tw (cJ5 _ _ _ _ _) rfl))))))
theorem lBJ7_fill_53178_5 {J5 : Option Nat → Int32 → Int32 → Int32 → ea_H → Option (Unit × ea_H)} {J5_ : Option Nat → Int32 → Int32 → Int32 → ea_H → Option (Unit × ea_H)}  (mJ5 : ∀ (r0 : Option Nat) (x1 : Int32) (x2 : Int32) (x3 : Int32) (h : ea_H), fle (J5 r0 x1 x2 x3 h) (J5_ r0 x1 x2 x3 h)) {r0 : Option Nat} {x1 : Int32} {x2 : Int32} {x3 : Int32} {h : ea_H} : fle (BJ7_fill_53178_5 J5 r0 x1 x2 x3 h) (BJ7_fill_53178_5 J5_ r0 x1 x2 x3 h) :=
  (fle_ite (fle_rfl _) (fle_gd (fle_gd (fle_gd (fle_let fun _ => (mJ5 _ _ _ _ _))))))
theorem nBJ7_fill_53178_5 {J5 : Option Nat → Int32 → Int32 → Int32 → ea_H → Option (Unit × ea_H)} {J5_ : Nat → (Option Nat → Int32 → Int32 → Int32 → ea_H → Option (Unit × ea_H))}  (mJ5 : ∀ (r0 : Option Nat) (x1 : Int32) (x2 : Int32) (x3 : Int32) (h : ea_H), fct (J5 r0 x1 x2 x3 h) (fun f => J5_ f r0 x1 x2 x3 h)) {r0 : Option Nat} {x1 : Int32} {x2 : Int32} {x3 : Int32} {h : ea_H} : fct (BJ7_fill_53178_5 J5 r0 x1 x2 x3 h) (fun f => BJ7_fill_53178_5 (J5_ f) r0 x1 x2 x3 h) :=
  (fct_ite (fct_rfl _) (fct_gd (fct_gd (fct_gd (fct_let fun _ => (mJ5 _ _ _ _ _))))))
noncomputable def gJ7_fill_53178 : Nat → (Option Nat → Int32 → ea_H → Option (Unit × ea_H)) × (Option Nat → Int32 → Int32 → Int32 → ea_H → Option (Unit × ea_H))
  | 0 => (fun _ _ _ => none, fun _ _ _ _ _ => none)
  | f + 1 => (BJ7_fill_53178_0 (gJ7_fill_53178 f).2, BJ7_fill_53178_5 (gJ7_fill_53178 f).2)
theorem mgJ7_fill_53178 : ∀ f : Nat, (∀ (r0 : Option Nat) (x1 : Int32) (h : ea_H), fle ((gJ7_fill_53178 f).1 r0 x1 h) ((gJ7_fill_53178 (f + 1)).1 r0 x1 h)) ∧ (∀ (r0 : Option Nat) (x1 : Int32) (x2 : Int32) (x3 : Int32) (h : ea_H), fle ((gJ7_fill_53178 f).2 r0 x1 x2 x3 h) ((gJ7_fill_53178 (f + 1)).2 r0 x1 x2 x3 h)) := by
  intro f
  induction f with
  | zero => exact ⟨fun _ _ _ => fle_none _, fun _ _ _ _ _ => fle_none _⟩
  | succ f ih => exact ⟨fun _ _ _ => lBJ7_fill_53178_0 ih.2, fun _ _ _ _ _ => lBJ7_fill_53178_5 ih.2⟩
noncomputable def qJ7_fill_53178_0 (r0 : Option Nat) (x1 : Int32) (h : ea_H) : Option (Unit × ea_H) := flim fun f => (gJ7_fill_53178 f).1 r0 x1 h
noncomputable def qJ7_fill_53178_5 (r0 : Option Nat) (x1 : Int32) (x2 : Int32) (x3 : Int32) (h : ea_H) : Option (Unit × ea_H) := flim fun f => (gJ7_fill_53178 f).2 r0 x1 x2 x3 h
theorem fqJ7_fill_53178_0 (r0 : Option Nat) (x1 : Int32) (h : ea_H) : fct (qJ7_fill_53178_0 r0 x1 h) fun f => (gJ7_fill_53178 f).1 r0 x1 h := flim_ct fun f => (mgJ7_fill_53178 f).1 r0 x1 h
theorem fqJ7_fill_53178_5 (r0 : Option Nat) (x1 : Int32) (x2 : Int32) (x3 : Int32) (h : ea_H) : fct (qJ7_fill_53178_5 r0 x1 x2 x3 h) fun f => (gJ7_fill_53178 f).2 r0 x1 x2 x3 h := flim_ct fun f => (mgJ7_fill_53178 f).2 r0 x1 x2 x3 h
/-- how a block opens -/
theorem uqJ7_fill_53178_0 {r0 : Option Nat} {x1 : Int32} {h : ea_H} {P : Unit × ea_H → Prop} (H : sat (BJ7_fill_53178_0 qJ7_fill_53178_5 r0 x1 h) P) : sat (qJ7_fill_53178_0 r0 x1 h) P := by
  obtain ⟨x, e, hp⟩ := H
  obtain ⟨n, hn⟩ := nBJ7_fill_53178_0 fqJ7_fill_53178_5 x e
  exact ⟨x, flim_at (fun f => (mgJ7_fill_53178 f).1 r0 x1 h) (f := n + 1) (hn n (Nat.le_refl _)), hp⟩
/-- how a block opens -/
theorem uqJ7_fill_53178_5 {r0 : Option Nat} {x1 : Int32} {x2 : Int32} {x3 : Int32} {h : ea_H} {P : Unit × ea_H → Prop} (H : sat (BJ7_fill_53178_5 qJ7_fill_53178_5 r0 x1 x2 x3 h) P) : sat (qJ7_fill_53178_5 r0 x1 x2 x3 h) P := by
  obtain ⟨x, e, hp⟩ := H
  obtain ⟨n, hn⟩ := nBJ7_fill_53178_5 fqJ7_fill_53178_5 x e
  exact ⟨x, flim_at (fun f => (mgJ7_fill_53178 f).2 r0 x1 x2 x3 h) (f := n + 1) (hn n (Nat.le_refl _)), hp⟩
theorem kgJ7_fill_53178 : ∀ f : Nat, (∀ (r0 : Option Nat) (x1 : Int32) (h : ea_H), kp (ea_core h) ((gJ7_fill_53178 f).1 r0 x1 h)) ∧ (∀ (r0 : Option Nat) (x1 : Int32) (x2 : Int32) (x3 : Int32) (h : ea_H), kp (ea_core h) ((gJ7_fill_53178 f).2 r0 x1 x2 x3 h)) := by
  intro f
  induction f with
  | zero => exact ⟨fun _ _ _ => kp_none _, fun _ _ _ _ _ => kp_none _⟩
  | succ f ih => exact ⟨fun _ _ _ => kBJ7_fill_53178_0 ih.2, fun _ _ _ _ _ => kBJ7_fill_53178_5 ih.2⟩
theorem tgJ7_fill_53178 {d : Nat} {h0 : ea_H} (hd : 1 ≤ d) : ∀ f : Nat, (∀ (r0 : Option Nat) (x1 : Int32) (h : ea_H) (r : Unit) (h' : ea_H), (gJ7_fill_53178 f).1 r0 x1 h = some (r, h') → ea_W mJ7_fill_53178 d h0 none h' 0 [(0, vR r0), (1, vI x1)] [] h) ∧ (∀ (r0 : Option Nat) (x1 : Int32) (x2 : Int32) (x3 : Int32) (h : ea_H) (r : Unit) (h' : ea_H), (gJ7_fill_53178 f).2 r0 x1 x2 x3 h = some (r, h') → ea_W mJ7_fill_53178 d h0 none h' 5 [(0, vR r0), (1, vI x1), (2, vI x2), (3, vI x3)] [] h) := by
  intro f
  induction f with
  | zero => exact ⟨fun _ _ _ _ _ E => no_some E, fun _ _ _ _ _ _ _ E => no_some E⟩
  | succ f ih => exact ⟨fun _ _ _ _ _ E => tBJ7_fill_53178_0 hd ih.2 E, fun _ _ _ _ _ _ _ E => tBJ7_fill_53178_5 hd ih.2 E⟩
noncomputable def qJ7_fill_53178 (r0 : Option Nat) (x1 : Int32) (h : ea_H) : Option (Unit × ea_H) := qJ7_fill_53178_0 r0 x1 h
theorem sJ7_fill_53178 {d : Nat} {r0 : Option Nat} {x1 : Int32} {h : ea_H} {r : Unit} {h' : ea_H} (hd : 1 ≤ d) (K : qJ7_fill_53178 r0 x1 h = some (r, h')) : ea_Met mJ7_fill_53178 d [vR r0, vI x1] h none h' := by
  unfold qJ7_fill_53178 at K
  obtain ⟨n, hn⟩ := fqJ7_fill_53178_0 r0 x1 h _ K
  have W := (tgJ7_fill_53178 (d := d) (h0 := h) hd n).1 r0 x1 h _ _ (hn n (Nat.le_refl _))
  exact ea_enter rfl (Nat.le_of_ble_eq_true rfl) W
theorem kpJ7_fill_53178 (r0 : Option Nat) (x1 : Int32) (h : ea_H) : kp (ea_core h) (qJ7_fill_53178 r0 x1 h) := fun x e => by
  obtain ⟨n, hn⟩ := fqJ7_fill_53178_0 r0 x1 h x e
  exact (kgJ7_fill_53178 n).1 r0 x1 h x (hn n (Nat.le_refl _))
noncomputable def BJ7_fill_d0a16_0 (J6 : Option Nat → Int64 → Int32 → Int32 → ea_H → Option (Unit × ea_H)) (r0 : Option Nat) (y1 : Int64) (h : ea_H) : Option (Unit × ea_H) :=
  (gd (r0 = some (Option.getD r0 0)) (gd (((Option.getD r0 0) < ea_n h ∧ ea_c h (Option.getD r0 0) = 22)) (ea_let (Int32.ofNat (ea_l h (Option.getD r0 0))) fun (v3 : Int32) => (J6 (r0 : Option Nat) (y1 : Int64) (0 : Int32) (v3 : Int32) h))))
theorem tBJ7_fill_d0a16_0 {d : Nat} {h0 : ea_H} (hd : 1 ≤ d) {J6 : Option Nat → Int64 → Int32 → Int32 → ea_H → Option (Unit × ea_H)}  (kJ6 : ∀ (r0 : Option Nat) (y1 : Int64) (x3 : Int32) (x4 : Int32) (h : ea_H) (r : Unit) (h' : ea_H), J6 r0 y1 x3 x4 h = some (r, h') → ea_W mJ7_fill_d0a16 d h0 none h' 6 [(0, vR r0), (1, vJ y1), (3, vI x3), (4, vI x4)] [] h) {r0 : Option Nat} {y1 : Int64} {h : ea_H} {r : Unit} {h' : ea_H} (E : BJ7_fill_d0a16_0 J6 r0 y1 h = some (r, h')) : ea_W mJ7_fill_d0a16 d h0 none h' 0 [(0, vR r0), (1, vJ y1)] [] h := by
  unfold BJ7_fill_d0a16_0 at E
  obtain ⟨e1, E⟩ := gd_some E
  refine ea_iconst (pc := 0) dJ7_fill_d0a16_0 (v := 0) rfl ?_
  refine ea_istore_n (pc := 1) (lv' := [(0, vR r0), (1, vJ y1), (3, vI 0)]) dJ7_fill_d0a16_1 rfl (Nat.le_of_ble_eq_true rfl) [1, 2, 0] rfl ?_
  refine ea_aload_n (pc := 2) dJ7_fill_d0a16_2 rfl 0 rfl ?_
  obtain ⟨f2, E⟩ := gd_some E
  obtain ⟨v3, ev3, E⟩ := let_some E
  refine ea_deref0 e1 ?_
  refine ea_alen (pc := 3) dJ7_fill_d0a16_3 f2.1 f2.2 (by decide) (by decide) ?_
  refine ea_istore (pc := 4) (lv' := [(0, vR r0), (1, vJ y1), (3, vI 0), (4, vI v3)]) dJ7_fill_d0a16_4 (Nat.le_of_ble_eq_true rfl) [1, 2, 3, 0] (by rw [ev3]; rfl) ?_
  exact (kJ6 (r0 : Option Nat) (y1 : Int64) (0 : Int32) (v3 : Int32) h _ _ E)
theorem kBJ7_fill_d0a16_0 {J6 : Option Nat → Int64 → Int32 → Int32 → ea_H → Option (Unit × ea_H)}  (cJ6 : ∀ (r0 : Option Nat) (y1 : Int64) (x3 : Int32) (x4 : Int32) (h : ea_H), kp (ea_core h) (J6 r0 y1 x3 x4 h)) {r0 : Option Nat} {y1 : Int64} {h : ea_H} : kp (ea_core h) (BJ7_fill_d0a16_0 J6 r0 y1 h) :=
  (kp_gd (kp_gd (kp_let (kp_tw (cJ6 _ _ _ _ _) rfl))))
theorem lBJ7_fill_d0a16_0 {J6 : Option Nat → Int64 → Int32 → Int32 → ea_H → Option (Unit × ea_H)} {J6_ : Option Nat → Int64 → Int32 → Int32 → ea_H → Option (Unit × ea_H)}  (mJ6 : ∀ (r0 : Option Nat) (y1 : Int64) (x3 : Int32) (x4 : Int32) (h : ea_H), fle (J6 r0 y1 x3 x4 h) (J6_ r0 y1 x3 x4 h)) {r0 : Option Nat} {y1 : Int64} {h : ea_H} : fle (BJ7_fill_d0a16_0 J6 r0 y1 h) (BJ7_fill_d0a16_0 J6_ r0 y1 h) :=
  (fle_gd (fle_gd (fle_let fun _ => (mJ6 _ _ _ _ _))))
theorem nBJ7_fill_d0a16_0 {J6 : Option Nat → Int64 → Int32 → Int32 → ea_H → Option (Unit × ea_H)} {J6_ : Nat → (Option Nat → Int64 → Int32 → Int32 → ea_H → Option (Unit × ea_H))}  (mJ6 : ∀ (r0 : Option Nat) (y1 : Int64) (x3 : Int32) (x4 : Int32) (h : ea_H), fct (J6 r0 y1 x3 x4 h) (fun f => J6_ f r0 y1 x3 x4 h)) {r0 : Option Nat} {y1 : Int64} {h : ea_H} : fct (BJ7_fill_d0a16_0 J6 r0 y1 h) (fun f => BJ7_fill_d0a16_0 (J6_ f) r0 y1 h) :=
  (fct_gd (fct_gd (fct_let fun _ => (mJ6 _ _ _ _ _))))
noncomputable def BJ7_fill_d0a16_6 (J6 : Option Nat → Int64 → Int32 → Int32 → ea_H → Option (Unit × ea_H)) (r0 : Option Nat) (y1 : Int64) (x3 : Int32) (x4 : Int32) (h : ea_H) : Option (Unit × ea_H) :=
  (if x4 ≤ x3 then (some ((), h)) else (gd (r0 = some (Option.getD r0 0)) (gd (((Option.getD r0 0) < ea_n h ∧ ea_c h (Option.getD r0 0) = 22)) (gd (vp_in x3 (ea_l h (Option.getD r0 0))) (ea_let (ea_wj h (Option.getD r0 0) (Int32.toNatClampNeg x3) y1) fun H7 => (J6 (r0 : Option Nat) (y1 : Int64) ((x3 + (1 : Int32)) : Int32) (x4 : Int32) H7))))))
theorem tBJ7_fill_d0a16_6 {d : Nat} {h0 : ea_H} (hd : 1 ≤ d) {J6 : Option Nat → Int64 → Int32 → Int32 → ea_H → Option (Unit × ea_H)}  (kJ6 : ∀ (r0 : Option Nat) (y1 : Int64) (x3 : Int32) (x4 : Int32) (h : ea_H) (r : Unit) (h' : ea_H), J6 r0 y1 x3 x4 h = some (r, h') → ea_W mJ7_fill_d0a16 d h0 none h' 6 [(0, vR r0), (1, vJ y1), (3, vI x3), (4, vI x4)] [] h) {r0 : Option Nat} {y1 : Int64} {x3 : Int32} {x4 : Int32} {h : ea_H} {r : Unit} {h' : ea_H} (E : BJ7_fill_d0a16_6 J6 r0 y1 x3 x4 h = some (r, h')) : ea_W mJ7_fill_d0a16 d h0 none h' 6 [(0, vR r0), (1, vJ y1), (3, vI x3), (4, vI x4)] [] h := by
  unfold BJ7_fill_d0a16_6 at E
  refine ea_iload_n (pc := 6) dJ7_fill_d0a16_6 rfl 2 rfl ?_
  refine ea_iload (pc := 7) dJ7_fill_d0a16_7 3 rfl ?_
  refine ea_icmp_ge (pc := 9) (tgt := 22) dJ7_fill_d0a16_9 rfl (fun c8 => ?_) (fun c8 => ?_)
  · have E := (if_pos c8).symm.trans E
    exact ea_vretO (pc := 22) dJ7_fill_d0a16_22 rfl E
  · have E := (if_neg c8).symm.trans E
    obtain ⟨e4, E⟩ := gd_some E
    refine ea_aload_n (pc := 12) dJ7_fill_d0a16_12 rfl 0 rfl ?_
    refine ea_iload_n (pc := 13) dJ7_fill_d0a16_13 rfl 2 rfl ?_
    refine ea_lload_n (pc := 14) dJ7_fill_d0a16_14 rfl 1 rfl ?_
    obtain ⟨f5, E⟩ := gd_some E
    obtain ⟨z6, E⟩ := gd_some E
    obtain ⟨H7, eH7, E⟩ := let_some E
    refine ea_deref2 e4 ?_
    refine ea_last (pc := 15) dJ7_fill_d0a16_15 f5.1 f5.2 z6 ?_
    refine ea_nm eH7 ?_
    refine ea_iinc (pc := 16) (v := 1) (lv' := [(0, vR r0), (1, vJ y1), (3, vI (x3 + (1 : Int32))), (4, vI x4)]) dJ7_fill_d0a16_16 2 rfl rfl (Nat.le_of_ble_eq_true rfl) [1, 2, 0, 3] rfl ?_
    refine ea_goto (pc := 19) (tgt := 6) dJ7_fill_d0a16_19 rfl ?_
    exact (kJ6 (r0 : Option Nat) (y1 : Int64) ((x3 + (1 : Int32)) : Int32) (x4 : Int32) H7 _ _ E)
theorem kBJ7_fill_d0a16_6 {J6 : Option Nat → Int64 → Int32 → Int32 → ea_H → Option (Unit × ea_H)}  (cJ6 : ∀ (r0 : Option Nat) (y1 : Int64) (x3 : Int32) (x4 : Int32) (h : ea_H), kp (ea_core h) (J6 r0 y1 x3 x4 h)) {r0 : Option Nat} {y1 : Int64} {x3 : Int32} {x4 : Int32} {h : ea_H} : kp (ea_core h) (BJ7_fill_d0a16_6 J6 r0 y1 x3 x4 h) :=
  (kp_ite (kp_ret rfl) (kp_gd (kp_gd (kp_gd (kp_let (kp_tw (cJ6 _ _ _ _ _) rfl))))))
theorem lBJ7_fill_d0a16_6 {J6 : Option Nat → Int64 → Int32 → Int32 → ea_H → Option (Unit × ea_H)} {J6_ : Option Nat → Int64 → Int32 → Int32 → ea_H → Option (Unit × ea_H)}  (mJ6 : ∀ (r0 : Option Nat) (y1 : Int64) (x3 : Int32) (x4 : Int32) (h : ea_H), fle (J6 r0 y1 x3 x4 h) (J6_ r0 y1 x3 x4 h)) {r0 : Option Nat} {y1 : Int64} {x3 : Int32} {x4 : Int32} {h : ea_H} : fle (BJ7_fill_d0a16_6 J6 r0 y1 x3 x4 h) (BJ7_fill_d0a16_6 J6_ r0 y1 x3 x4 h) :=
  (fle_ite (fle_rfl _) (fle_gd (fle_gd (fle_gd (fle_let fun _ => (mJ6 _ _ _ _ _))))))
theorem nBJ7_fill_d0a16_6 {J6 : Option Nat → Int64 → Int32 → Int32 → ea_H → Option (Unit × ea_H)} {J6_ : Nat → (Option Nat → Int64 → Int32 → Int32 → ea_H → Option (Unit × ea_H))}  (mJ6 : ∀ (r0 : Option Nat) (y1 : Int64) (x3 : Int32) (x4 : Int32) (h : ea_H), fct (J6 r0 y1 x3 x4 h) (fun f => J6_ f r0 y1 x3 x4 h)) {r0 : Option Nat} {y1 : Int64} {x3 : Int32} {x4 : Int32} {h : ea_H} : fct (BJ7_fill_d0a16_6 J6 r0 y1 x3 x4 h) (fun f => BJ7_fill_d0a16_6 (J6_ f) r0 y1 x3 x4 h) :=
  (fct_ite (fct_rfl _) (fct_gd (fct_gd (fct_gd (fct_let fun _ => (mJ6 _ _ _ _ _))))))
noncomputable def gJ7_fill_d0a16 : Nat → (Option Nat → Int64 → ea_H → Option (Unit × ea_H)) × (Option Nat → Int64 → Int32 → Int32 → ea_H → Option (Unit × ea_H))
  | 0 => (fun _ _ _ => none, fun _ _ _ _ _ => none)
  | f + 1 => (BJ7_fill_d0a16_0 (gJ7_fill_d0a16 f).2, BJ7_fill_d0a16_6 (gJ7_fill_d0a16 f).2)
theorem mgJ7_fill_d0a16 : ∀ f : Nat, (∀ (r0 : Option Nat) (y1 : Int64) (h : ea_H), fle ((gJ7_fill_d0a16 f).1 r0 y1 h) ((gJ7_fill_d0a16 (f + 1)).1 r0 y1 h)) ∧ (∀ (r0 : Option Nat) (y1 : Int64) (x3 : Int32) (x4 : Int32) (h : ea_H), fle ((gJ7_fill_d0a16 f).2 r0 y1 x3 x4 h) ((gJ7_fill_d0a16 (f + 1)).2 r0 y1 x3 x4 h)) := by
  intro f
  induction f with
  | zero => exact ⟨fun _ _ _ => fle_none _, fun _ _ _ _ _ => fle_none _⟩
  | succ f ih => exact ⟨fun _ _ _ => lBJ7_fill_d0a16_0 ih.2, fun _ _ _ _ _ => lBJ7_fill_d0a16_6 ih.2⟩
noncomputable def qJ7_fill_d0a16_0 (r0 : Option Nat) (y1 : Int64) (h : ea_H) : Option (Unit × ea_H) := flim fun f => (gJ7_fill_d0a16 f).1 r0 y1 h
noncomputable def qJ7_fill_d0a16_6 (r0 : Option Nat) (y1 : Int64) (x3 : Int32) (x4 : Int32) (h : ea_H) : Option (Unit × ea_H) := flim fun f => (gJ7_fill_d0a16 f).2 r0 y1 x3 x4 h
theorem fqJ7_fill_d0a16_0 (r0 : Option Nat) (y1 : Int64) (h : ea_H) : fct (qJ7_fill_d0a16_0 r0 y1 h) fun f => (gJ7_fill_d0a16 f).1 r0 y1 h := flim_ct fun f => (mgJ7_fill_d0a16 f).1 r0 y1 h
theorem fqJ7_fill_d0a16_6 (r0 : Option Nat) (y1 : Int64) (x3 : Int32) (x4 : Int32) (h : ea_H) : fct (qJ7_fill_d0a16_6 r0 y1 x3 x4 h) fun f => (gJ7_fill_d0a16 f).2 r0 y1 x3 x4 h := flim_ct fun f => (mgJ7_fill_d0a16 f).2 r0 y1 x3 x4 h
/-- how a block opens -/
theorem uqJ7_fill_d0a16_0 {r0 : Option Nat} {y1 : Int64} {h : ea_H} {P : Unit × ea_H → Prop} (H : sat (BJ7_fill_d0a16_0 qJ7_fill_d0a16_6 r0 y1 h) P) : sat (qJ7_fill_d0a16_0 r0 y1 h) P := by
  obtain ⟨x, e, hp⟩ := H
  obtain ⟨n, hn⟩ := nBJ7_fill_d0a16_0 fqJ7_fill_d0a16_6 x e
  exact ⟨x, flim_at (fun f => (mgJ7_fill_d0a16 f).1 r0 y1 h) (f := n + 1) (hn n (Nat.le_refl _)), hp⟩
/-- how a block opens -/
theorem uqJ7_fill_d0a16_6 {r0 : Option Nat} {y1 : Int64} {x3 : Int32} {x4 : Int32} {h : ea_H} {P : Unit × ea_H → Prop} (H : sat (BJ7_fill_d0a16_6 qJ7_fill_d0a16_6 r0 y1 x3 x4 h) P) : sat (qJ7_fill_d0a16_6 r0 y1 x3 x4 h) P := by
  obtain ⟨x, e, hp⟩ := H
  obtain ⟨n, hn⟩ := nBJ7_fill_d0a16_6 fqJ7_fill_d0a16_6 x e
  exact ⟨x, flim_at (fun f => (mgJ7_fill_d0a16 f).2 r0 y1 x3 x4 h) (f := n + 1) (hn n (Nat.le_refl _)), hp⟩
theorem kgJ7_fill_d0a16 : ∀ f : Nat, (∀ (r0 : Option Nat) (y1 : Int64) (h : ea_H), kp (ea_core h) ((gJ7_fill_d0a16 f).1 r0 y1 h)) ∧ (∀ (r0 : Option Nat) (y1 : Int64) (x3 : Int32) (x4 : Int32) (h : ea_H), kp (ea_core h) ((gJ7_fill_d0a16 f).2 r0 y1 x3 x4 h)) := by
  intro f
  induction f with
  | zero => exact ⟨fun _ _ _ => kp_none _, fun _ _ _ _ _ => kp_none _⟩
  | succ f ih => exact ⟨fun _ _ _ => kBJ7_fill_d0a16_0 ih.2, fun _ _ _ _ _ => kBJ7_fill_d0a16_6 ih.2⟩
theorem tgJ7_fill_d0a16 {d : Nat} {h0 : ea_H} (hd : 1 ≤ d) : ∀ f : Nat, (∀ (r0 : Option Nat) (y1 : Int64) (h : ea_H) (r : Unit) (h' : ea_H), (gJ7_fill_d0a16 f).1 r0 y1 h = some (r, h') → ea_W mJ7_fill_d0a16 d h0 none h' 0 [(0, vR r0), (1, vJ y1)] [] h) ∧ (∀ (r0 : Option Nat) (y1 : Int64) (x3 : Int32) (x4 : Int32) (h : ea_H) (r : Unit) (h' : ea_H), (gJ7_fill_d0a16 f).2 r0 y1 x3 x4 h = some (r, h') → ea_W mJ7_fill_d0a16 d h0 none h' 6 [(0, vR r0), (1, vJ y1), (3, vI x3), (4, vI x4)] [] h) := by
  intro f
  induction f with
  | zero => exact ⟨fun _ _ _ _ _ E => no_some E, fun _ _ _ _ _ _ _ E => no_some E⟩
  | succ f ih => exact ⟨fun _ _ _ _ _ E => tBJ7_fill_d0a16_0 hd ih.2 E, fun _ _ _ _ _ _ _ E => tBJ7_fill_d0a16_6 hd ih.2 E⟩
noncomputable def qJ7_fill_d0a16 (r0 : Option Nat) (y1 : Int64) (h : ea_H) : Option (Unit × ea_H) := qJ7_fill_d0a16_0 r0 y1 h
theorem sJ7_fill_d0a16 {d : Nat} {r0 : Option Nat} {y1 : Int64} {h : ea_H} {r : Unit} {h' : ea_H} (hd : 1 ≤ d) (K : qJ7_fill_d0a16 r0 y1 h = some (r, h')) : ea_Met mJ7_fill_d0a16 d [vR r0, vJ y1] h none h' := by
  unfold qJ7_fill_d0a16 at K
  obtain ⟨n, hn⟩ := fqJ7_fill_d0a16_0 r0 y1 h _ K
  have W := (tgJ7_fill_d0a16 (d := d) (h0 := h) hd n).1 r0 y1 h _ _ (hn n (Nat.le_refl _))
  exact ea_enter rfl (Nat.le_of_ble_eq_true rfl) W
theorem kpJ7_fill_d0a16 (r0 : Option Nat) (y1 : Int64) (h : ea_H) : kp (ea_core h) (qJ7_fill_d0a16 r0 y1 h) := fun x e => by
  obtain ⟨n, hn⟩ := fqJ7_fill_d0a16_0 r0 y1 h x e
  exact (kgJ7_fill_d0a16 n).1 r0 y1 h x (hn n (Nat.le_refl _))
noncomputable def BX11_town_0 (h : ea_H) : Option (Int32 × ea_H) :=
  (if (ea_i h 1 0) < (12 : Int32) then (ea_let (ea_wi h 1 0 ((ea_i h 1 0) + (1 : Int32))) fun H1 => (some (((ea_i H1 1 0) - (1 : Int32)), H1))) else (some (((-1) : Int32), h)))
theorem tBX11_town_0 {d : Nat} {h0 : ea_H} (hd : 1 ≤ d)  {h : ea_H} {r : Int32} {h' : ea_H} (E : BX11_town_0 h = some (r, h')) (hs : ShC h) : ea_W mX11_town d h0 (some (vI r)) h' 0 [(0, vR (some 0))] [] h := by
  unfold BX11_town_0 at E
  refine ea_aload_n (pc := 0) dX11_town_0 rfl 0 rfl ?_
  refine ea_getR (pc := 1) dX11_town_1 ec_11 (k := 0) (Nat.le_of_ble_eq_true rfl) rfl (Or.inl ew_614) (cShC_0 hs).1 (cShC_0 hs).2.1 (rShC_0_0 hs) ?_
  refine ea_getI (pc := 4) dX11_town_4 ec_7 (k := 0) (Nat.le_of_ble_eq_true rfl) rfl (Or.inl ew_163) (cShC_1 hs).1 (cShC_1 hs).2.1 ?_
  refine ea_bipush (pc := 7) dX11_town_7 (v := 12) rfl ?_
  refine ea_icmp_lt (pc := 9) (tgt := 14) dX11_town_9 rfl (fun c2 => ?_) (fun c2 => ?_)
  · have E := (if_pos c2).symm.trans E
    obtain ⟨H1, eH1, E⟩ := let_some E
    refine ea_aload_n (pc := 14) dX11_town_14 rfl 0 rfl ?_
    refine ea_getR (pc := 15) dX11_town_15 ec_11 (k := 0) (Nat.le_of_ble_eq_true rfl) rfl (Or.inl ew_614) (cShC_0 hs).1 (cShC_0 hs).2.1 (rShC_0_0 hs) ?_
    refine ea_dup (pc := 18) dX11_town_18 rfl ?_
    refine ea_getI (pc := 19) dX11_town_19 ec_7 (k := 0) (Nat.le_of_ble_eq_true rfl) rfl (Or.inl ew_163) (cShC_1 hs).1 (cShC_1 hs).2.1 ?_
    refine ea_iconst (pc := 22) dX11_town_22 (v := 1) rfl ?_
    refine ea_iadd (pc := 23) dX11_town_23 ?_
    refine ea_putI (pc := 24) dX11_town_24 ec_7 (k := 0) (Nat.le_of_ble_eq_true rfl) rfl (Or.inl ⟨rfl, Or.inl ew_163⟩) rfl rfl (cShC_1 hs).1 (cShC_1 hs).2.1 ?_
    refine ea_nm eH1 ?_
    have hsH1 : ShC H1 := by rw [eH1]; exact hs
    refine ea_aload_n (pc := 27) dX11_town_27 rfl 0 rfl ?_
    refine ea_getR (pc := 28) dX11_town_28 ec_11 (k := 0) (Nat.le_of_ble_eq_true rfl) rfl (Or.inl ew_614) (cShC_0 hsH1).1 (cShC_0 hsH1).2.1 (rShC_0_0 hsH1) ?_
    refine ea_getI (pc := 31) dX11_town_31 ec_7 (k := 0) (Nat.le_of_ble_eq_true rfl) rfl (Or.inl ew_163) (cShC_1 hsH1).1 (cShC_1 hsH1).2.1 ?_
    refine ea_iconst (pc := 34) dX11_town_34 (v := 1) rfl ?_
    refine ea_isub (pc := 35) dX11_town_35 ?_
    exact ea_iretO (pc := 36) dX11_town_36 rfl rfl E
  · have E := (if_neg c2).symm.trans E
    refine ea_iconst (pc := 12) dX11_town_12 (v := (-1)) rfl ?_
    exact ea_iretO (pc := 13) dX11_town_13 rfl rfl E
theorem kBX11_town_0  {h : ea_H} : kp (ea_core h) (BX11_town_0 h) :=
  (kp_ite (kp_let (kp_ret rfl)) (kp_ret rfl))
noncomputable def qX11_town (h : ea_H) : Option (Int32 × ea_H) := BX11_town_0 h
theorem sX11_town {d : Nat} {h : ea_H} {r : Int32} {h' : ea_H} (hd : 1 ≤ d) (hs : ShC h) (K : qX11_town h = some (r, h')) : ea_Met mX11_town d [vR (some 0)] h (some (vI r)) h' := by
  unfold qX11_town at K
  have W := tBX11_town_0 hd (h0 := h) K hs
  exact ea_enter rfl (Nat.le_of_ble_eq_true rfl) W
theorem kpX11_town (h : ea_H) : kp (ea_core h) (qX11_town h) := kBX11_town_0
noncomputable def BX11_train_0 (h : ea_H) : Option (Int32 × ea_H) :=
  (if (ea_i h 5 0) < (10 : Int32) then (ea_let (ea_wi h 0 15 0) fun H1 => (ea_let (ea_wi H1 5 0 ((ea_i H1 5 0) + (1 : Int32))) fun H2 => (some (((ea_i H2 5 0) - (1 : Int32)), H2)))) else (some (((-1) : Int32), h)))
theorem tBX11_train_0 {d : Nat} {h0 : ea_H} (hd : 1 ≤ d)  {h : ea_H} {r : Int32} {h' : ea_H} (E : BX11_train_0 h = some (r, h')) (hs : ShC h) : ea_W mX11_train d h0 (some (vI r)) h' 0 [(0, vR (some 0))] [] h := by
  unfold BX11_train_0 at E
  refine ea_aload_n (pc := 0) dX11_train_0 rfl 0 rfl ?_
  refine ea_getR (pc := 1) dX11_train_1 ec_11 (k := 1) (Nat.le_of_ble_eq_true rfl) rfl (Or.inl ew_615) (cShC_0 hs).1 (cShC_0 hs).2.1 (rShC_0_1 hs) ?_
  refine ea_getI (pc := 4) dX11_train_4 ec_9 (k := 0) (Nat.le_of_ble_eq_true rfl) rfl (Or.inl ew_185) (cShC_5 hs).1 (cShC_5 hs).2.1 ?_
  refine ea_bipush (pc := 7) dX11_train_7 (v := 10) rfl ?_
  refine ea_icmp_lt (pc := 9) (tgt := 14) dX11_train_9 rfl (fun c3 => ?_) (fun c3 => ?_)
  · have E := (if_pos c3).symm.trans E
    obtain ⟨H1, eH1, E⟩ := let_some E
    refine ea_aload_n (pc := 14) dX11_train_14 rfl 0 rfl ?_
    refine ea_iconst (pc := 15) dX11_train_15 (v := 0) rfl ?_
    refine ea_putI (pc := 16) dX11_train_16 ec_11 (k := 15) (Nat.le_of_ble_eq_true rfl) rfl (Or.inl ⟨rfl, Or.inl ew_629⟩) (ea_bn (Or.inl rfl)) (ea_bf (Or.inl rfl)) (cShC_0 hs).1 (cShC_0 hs).2.1 ?_
    refine ea_nm eH1 ?_
    have hsH1 : ShC H1 := by rw [eH1]; exact hs
    obtain ⟨H2, eH2, E⟩ := let_some E
    refine ea_aload_n (pc := 19) dX11_train_19 rfl 0 rfl ?_
    refine ea_getR (pc := 20) dX11_train_20 ec_11 (k := 1) (Nat.le_of_ble_eq_true rfl) rfl (Or.inl ew_615) (cShC_0 hsH1).1 (cShC_0 hsH1).2.1 (rShC_0_1 hsH1) ?_
    refine ea_dup (pc := 23) dX11_train_23 rfl ?_
    refine ea_getI (pc := 24) dX11_train_24 ec_9 (k := 0) (Nat.le_of_ble_eq_true rfl) rfl (Or.inl ew_185) (cShC_5 hsH1).1 (cShC_5 hsH1).2.1 ?_
    refine ea_iconst (pc := 27) dX11_train_27 (v := 1) rfl ?_
    refine ea_iadd (pc := 28) dX11_train_28 ?_
    refine ea_putI (pc := 29) dX11_train_29 ec_9 (k := 0) (Nat.le_of_ble_eq_true rfl) rfl (Or.inl ⟨rfl, Or.inl ew_185⟩) rfl rfl (cShC_5 hsH1).1 (cShC_5 hsH1).2.1 ?_
    refine ea_nm eH2 ?_
    have hsH2 : ShC H2 := by rw [eH2]; exact hsH1
    refine ea_aload_n (pc := 32) dX11_train_32 rfl 0 rfl ?_
    refine ea_getR (pc := 33) dX11_train_33 ec_11 (k := 1) (Nat.le_of_ble_eq_true rfl) rfl (Or.inl ew_615) (cShC_0 hsH2).1 (cShC_0 hsH2).2.1 (rShC_0_1 hsH2) ?_
    refine ea_getI (pc := 36) dX11_train_36 ec_9 (k := 0) (Nat.le_of_ble_eq_true rfl) rfl (Or.inl ew_185) (cShC_5 hsH2).1 (cShC_5 hsH2).2.1 ?_
    refine ea_iconst (pc := 39) dX11_train_39 (v := 1) rfl ?_
    refine ea_isub (pc := 40) dX11_train_40 ?_
    exact ea_iretO (pc := 41) dX11_train_41 rfl rfl E
  · have E := (if_neg c3).symm.trans E
    refine ea_iconst (pc := 12) dX11_train_12 (v := (-1)) rfl ?_
    exact ea_iretO (pc := 13) dX11_train_13 rfl rfl E
theorem kBX11_train_0  {h : ea_H} : kp (ea_core h) (BX11_train_0 h) :=
  (kp_ite (kp_let (kp_let (kp_ret rfl))) (kp_ret rfl))
noncomputable def qX11_train (h : ea_H) : Option (Int32 × ea_H) := BX11_train_0 h
theorem sX11_train {d : Nat} {h : ea_H} {r : Int32} {h' : ea_H} (hd : 1 ≤ d) (hs : ShC h) (K : qX11_train h = some (r, h')) : ea_Met mX11_train d [vR (some 0)] h (some (vI r)) h' := by
  unfold qX11_train at K
  have W := tBX11_train_0 hd (h0 := h) K hs
  exact ea_enter rfl (Nat.le_of_ble_eq_true rfl) W
theorem kpX11_train (h : ea_H) : kp (ea_core h) (qX11_train h) := kBX11_train_0
noncomputable def BX11_end_0 (x1 : Int32) (h : ea_H) : Option (Int32 × ea_H) :=
  (if x1 < (0 : Int32) then (some ((0 : Int32), h)) else (if x1 ≤ (ea_i h 24 0) then (ea_let (ea_wi h 24 0 x1) fun H1 => (some ((1 : Int32), H1))) else (some ((0 : Int32), h))))
theorem tBX11_end_0 {d : Nat} {h0 : ea_H} (hd : 1 ≤ d)  {x1 : Int32} {h : ea_H} {r : Int32} {h' : ea_H} (E : BX11_end_0 x1 h = some (r, h')) (hs : ShC h) : ea_W mX11_end d h0 (some (vI r)) h' 0 [(0, vR (some 0)), (1, vI x1)] [] h := by
  unfold BX11_end_0 at E
  refine ea_iload_n (pc := 0) dX11_end_0 rfl 1 rfl ?_
  refine ea_if_lt (pc := 1) (tgt := 18) dX11_end_1 rfl (fun c3 => ?_) (fun c3 => ?_)
  · have E := (if_pos c3).symm.trans E
    refine ea_iconst (pc := 18) dX11_end_18 (v := 0) rfl ?_
    exact ea_iretO (pc := 19) dX11_end_19 rfl (ea_bn (Or.inl rfl)) E
  · have E := (if_neg c3).symm.trans E
    refine ea_iload_n (pc := 4) dX11_end_4 rfl 1 rfl ?_
    refine ea_aload_n (pc := 5) dX11_end_5 rfl 0 rfl ?_
    refine ea_getR (pc := 6) dX11_end_6 ec_11 (k := 4) (Nat.le_of_ble_eq_true rfl) rfl (Or.inl ew_618) (cShC_0 hs).1 (cShC_0 hs).2.1 (rShC_0_4 hs) ?_
    refine ea_getR (pc := 9) dX11_end_9 ec_8 (k := 0) (Nat.le_of_ble_eq_true rfl) rfl (Or.inl ew_397) (cShC_23 hs).1 (cShC_23 hs).2.1 (rShC_23_0 hs) ?_
    refine ea_getI (pc := 12) dX11_end_12 ec_6 (k := 0) (Nat.le_of_ble_eq_true rfl) rfl (Or.inl ew_295) (cShC_24 hs).1 (cShC_24 hs).2.1 ?_
    refine ea_icmp_le (pc := 15) (tgt := 20) dX11_end_15 rfl (fun c2 => ?_) (fun c2 => ?_)
    · have E := (if_pos c2).symm.trans E
      obtain ⟨H1, eH1, E⟩ := let_some E
      refine ea_aload_n (pc := 20) dX11_end_20 rfl 0 rfl ?_
      refine ea_getR (pc := 21) dX11_end_21 ec_11 (k := 4) (Nat.le_of_ble_eq_true rfl) rfl (Or.inl ew_618) (cShC_0 hs).1 (cShC_0 hs).2.1 (rShC_0_4 hs) ?_
      refine ea_getR (pc := 24) dX11_end_24 ec_8 (k := 0) (Nat.le_of_ble_eq_true rfl) rfl (Or.inl ew_397) (cShC_23 hs).1 (cShC_23 hs).2.1 (rShC_23_0 hs) ?_
      refine ea_iload_n (pc := 27) dX11_end_27 rfl 1 rfl ?_
      refine ea_putI (pc := 28) dX11_end_28 ec_6 (k := 0) (Nat.le_of_ble_eq_true rfl) rfl (Or.inl ⟨rfl, Or.inl ew_295⟩) rfl rfl (cShC_24 hs).1 (cShC_24 hs).2.1 ?_
      refine ea_nm eH1 ?_
      have hsH1 : ShC H1 := by rw [eH1]; exact hs
      refine ea_iconst (pc := 31) dX11_end_31 (v := 1) rfl ?_
      exact ea_iretO (pc := 32) dX11_end_32 rfl (ea_bn (Or.inr rfl)) E
    · have E := (if_neg c2).symm.trans E
      refine ea_iconst (pc := 18) dX11_end_18 (v := 0) rfl ?_
      exact ea_iretO (pc := 19) dX11_end_19 rfl (ea_bn (Or.inl rfl)) E
theorem kBX11_end_0  {x1 : Int32} {h : ea_H} : kp (ea_core h) (BX11_end_0 x1 h) :=
  (kp_ite (kp_ret rfl) (kp_ite (kp_let (kp_ret rfl)) (kp_ret rfl)))
noncomputable def qX11_end (x1 : Int32) (h : ea_H) : Option (Int32 × ea_H) := BX11_end_0 x1 h
theorem sX11_end {d : Nat} {x1 : Int32} {h : ea_H} {r : Int32} {h' : ea_H} (hd : 1 ≤ d) (hs : ShC h) (K : qX11_end x1 h = some (r, h')) : ea_Met mX11_end d [vR (some 0), vI x1] h (some (vI r)) h' := by
  unfold qX11_end at K
  have W := tBX11_end_0 hd (h0 := h) K hs
  exact ea_enter rfl (Nat.le_of_ble_eq_true rfl) W
theorem kpX11_end (x1 : Int32) (h : ea_H) : kp (ea_core h) (qX11_end x1 h) := kBX11_end_0
noncomputable def BX11_fault_0 (x1 : Int32) (h : ea_H) : Option (Int32 × ea_H) :=
  (if x1 = (0 : Int32) then (some ((ea_i h 24 1), h)) else (if x1 = (1 : Int32) then (some ((ea_i h 24 2), h)) else (some (((-1) : Int32), h))))
theorem tBX11_fault_0 {d : Nat} {h0 : ea_H} (hd : 1 ≤ d)  {x1 : Int32} {h : ea_H} {r : Int32} {h' : ea_H} (E : BX11_fault_0 x1 h = some (r, h')) (hs : ShC h) : ea_W mX11_fault d h0 (some (vI r)) h' 0 [(0, vR (some 0)), (1, vI x1)] [] h := by
  unfold BX11_fault_0 at E
  refine ea_iload_n (pc := 0) dX11_fault_0 rfl 1 rfl ?_
  refine ea_if_ne (pc := 1) (tgt := 15) dX11_fault_1 rfl (fun c2 => ?_) (fun c2 => ?_)
  · have E := (if_neg c2).symm.trans E
    refine ea_iload_n (pc := 15) dX11_fault_15 rfl 1 rfl ?_
    refine ea_iconst (pc := 16) dX11_fault_16 (v := 1) rfl ?_
    refine ea_icmp_ne (pc := 17) (tgt := 33) dX11_fault_17 rfl (fun c1 => ?_) (fun c1 => ?_)
    · have E := (if_neg c1).symm.trans E
      refine ea_iconst (pc := 33) dX11_fault_33 (v := (-1)) rfl ?_
      exact ea_iretO (pc := 34) dX11_fault_34 rfl rfl E
    · have E := (if_pos c1).symm.trans E
      refine ea_aload_n (pc := 20) dX11_fault_20 rfl 0 rfl ?_
      refine ea_getR (pc := 21) dX11_fault_21 ec_11 (k := 4) (Nat.le_of_ble_eq_true rfl) rfl (Or.inl ew_618) (cShC_0 hs).1 (cShC_0 hs).2.1 (rShC_0_4 hs) ?_
      refine ea_getR (pc := 24) dX11_fault_24 ec_8 (k := 0) (Nat.le_of_ble_eq_true rfl) rfl (Or.inl ew_397) (cShC_23 hs).1 (cShC_23 hs).2.1 (rShC_23_0 hs) ?_
      refine ea_getI (pc := 27) dX11_fault_27 ec_6 (k := 2) (Nat.le_of_ble_eq_true rfl) rfl (Or.inl ew_299) (cShC_24 hs).1 (cShC_24 hs).2.1 ?_
      refine ea_goto (pc := 30) (tgt := 34) dX11_fault_30 rfl ?_
      exact ea_iretO (pc := 34) dX11_fault_34 rfl rfl E
  · have E := (if_pos c2).symm.trans E
    refine ea_aload_n (pc := 4) dX11_fault_4 rfl 0 rfl ?_
    refine ea_getR (pc := 5) dX11_fault_5 ec_11 (k := 4) (Nat.le_of_ble_eq_true rfl) rfl (Or.inl ew_618) (cShC_0 hs).1 (cShC_0 hs).2.1 (rShC_0_4 hs) ?_
    refine ea_getR (pc := 8) dX11_fault_8 ec_8 (k := 0) (Nat.le_of_ble_eq_true rfl) rfl (Or.inl ew_397) (cShC_23 hs).1 (cShC_23 hs).2.1 (rShC_23_0 hs) ?_
    refine ea_getI (pc := 11) dX11_fault_11 ec_6 (k := 1) (Nat.le_of_ble_eq_true rfl) rfl (Or.inl ew_297) (cShC_24 hs).1 (cShC_24 hs).2.1 ?_
    exact ea_iretO (pc := 14) dX11_fault_14 rfl rfl E
theorem kBX11_fault_0  {x1 : Int32} {h : ea_H} : kp (ea_core h) (BX11_fault_0 x1 h) :=
  (kp_ite (kp_ret rfl) (kp_ite (kp_ret rfl) (kp_ret rfl)))
noncomputable def qX11_fault (x1 : Int32) (h : ea_H) : Option (Int32 × ea_H) := BX11_fault_0 x1 h
theorem sX11_fault {d : Nat} {x1 : Int32} {h : ea_H} {r : Int32} {h' : ea_H} (hd : 1 ≤ d) (hs : ShC h) (K : qX11_fault x1 h = some (r, h')) : ea_Met mX11_fault d [vR (some 0), vI x1] h (some (vI r)) h' := by
  unfold qX11_fault at K
  have W := tBX11_fault_0 hd (h0 := h) K hs
  exact ea_enter rfl (Nat.le_of_ble_eq_true rfl) W
theorem kpX11_fault (x1 : Int32) (h : ea_H) : kp (ea_core h) (qX11_fault x1 h) := kBX11_fault_0
noncomputable def BX11_tableChanged_0 (h : ea_H) : Option (Unit × ea_H) :=
  (ea_let (ea_wi h 13 0 0) fun H1 => (ea_let (ea_wi H1 0 15 0) fun H2 => (some ((), H2))))
theorem tBX11_tableChanged_0 {d : Nat} {h0 : ea_H} (hd : 1 ≤ d)  {h : ea_H} {r : Unit} {h' : ea_H} (E : BX11_tableChanged_0 h = some (r, h')) (hs : ShC h) : ea_W mX11_tableChanged d h0 none h' 0 [(0, vR (some 0))] [] h := by
  unfold BX11_tableChanged_0 at E
  obtain ⟨H1, eH1, E⟩ := let_some E
  refine ea_aload_n (pc := 0) dX11_tableChanged_0 rfl 0 rfl ?_
  refine ea_getR (pc := 1) dX11_tableChanged_1 ec_11 (k := 2) (Nat.le_of_ble_eq_true rfl) rfl (Or.inl ew_616) (cShC_0 hs).1 (cShC_0 hs).2.1 (rShC_0_2 hs) ?_
  refine ea_iconst (pc := 4) dX11_tableChanged_4 (v := 0) rfl ?_
  refine ea_putI (pc := 5) dX11_tableChanged_5 ec_10 (k := 0) (Nat.le_of_ble_eq_true rfl) rfl (Or.inl ⟨rfl, Or.inl ew_233⟩) (ea_bn (Or.inl rfl)) (ea_bf (Or.inl rfl)) (cShC_13 hs).1 (cShC_13 hs).2.1 ?_
  refine ea_nm eH1 ?_
  have hsH1 : ShC H1 := by rw [eH1]; exact hs
  obtain ⟨H2, eH2, E⟩ := let_some E
  refine ea_aload_n (pc := 8) dX11_tableChanged_8 rfl 0 rfl ?_
  refine ea_iconst (pc := 9) dX11_tableChanged_9 (v := 0) rfl ?_
  refine ea_putI (pc := 10) dX11_tableChanged_10 ec_11 (k := 15) (Nat.le_of_ble_eq_true rfl) rfl (Or.inl ⟨rfl, Or.inl ew_629⟩) (ea_bn (Or.inl rfl)) (ea_bf (Or.inl rfl)) (cShC_0 hsH1).1 (cShC_0 hsH1).2.1 ?_
  refine ea_nm eH2 ?_
  have hsH2 : ShC H2 := by rw [eH2]; exact hsH1
  exact ea_vretO (pc := 13) dX11_tableChanged_13 rfl E
theorem kBX11_tableChanged_0  {h : ea_H} : kp (ea_core h) (BX11_tableChanged_0 h) :=
  (kp_let (kp_let (kp_ret rfl)))
noncomputable def qX11_tableChanged (h : ea_H) : Option (Unit × ea_H) := BX11_tableChanged_0 h
theorem sX11_tableChanged {d : Nat} {h : ea_H} {r : Unit} {h' : ea_H} (hd : 1 ≤ d) (hs : ShC h) (K : qX11_tableChanged h = some (r, h')) : ea_Met mX11_tableChanged d [vR (some 0)] h none h' := by
  unfold qX11_tableChanged at K
  have W := tBX11_tableChanged_0 hd (h0 := h) K hs
  exact ea_enter rfl (Nat.le_of_ble_eq_true rfl) W
theorem kpX11_tableChanged (h : ea_H) : kp (ea_core h) (qX11_tableChanged h) := kBX11_tableChanged_0
noncomputable def BX11_letterOf_0 (x1 : Int32) (h : ea_H) : Option (Option Nat × ea_H) :=
  (if x1 < (0 : Int32) then (some (none, h)) else (if (ea_i h 52 0) ≤ x1 then (some (none, h)) else (gd (vp_in x1 120) (some ((ea_r h 49 (Int32.toNatClampNeg x1)), h)))))
theorem tBX11_letterOf_0 {d : Nat} {h0 : ea_H} (hd : 1 ≤ d)  {x1 : Int32} {h : ea_H} {r : Option Nat} {h' : ea_H} (E : BX11_letterOf_0 x1 h = some (r, h')) (hs : ShC h) : ea_W mX11_letterOf d h0 (some (vR r)) h' 0 [(0, vR (some 0)), (1, vI x1)] [] h := by
  unfold BX11_letterOf_0 at E
  refine ea_iload_n (pc := 0) dX11_letterOf_0 rfl 1 rfl ?_
  refine ea_if_lt (pc := 1) (tgt := 24) dX11_letterOf_1 rfl (fun c3 => ?_) (fun c3 => ?_)
  · have E := (if_pos c3).symm.trans E
    refine ea_null (pc := 24) dX11_letterOf_24 ?_
    exact ea_aretO (pc := 25) dX11_letterOf_25 rfl (Or.inl ⟨_, rfl⟩) E
  · have E := (if_neg c3).symm.trans E
    refine ea_iload_n (pc := 4) dX11_letterOf_4 rfl 1 rfl ?_
    refine ea_aload_n (pc := 5) dX11_letterOf_5 rfl 0 rfl ?_
    refine ea_getR (pc := 6) dX11_letterOf_6 ec_11 (k := 7) (Nat.le_of_ble_eq_true rfl) rfl (Or.inl ew_621) (cShC_0 hs).1 (cShC_0 hs).2.1 (rShC_0_7 hs) ?_
    refine ea_getI (pc := 9) dX11_letterOf_9 ec_1 (k := 0) (Nat.le_of_ble_eq_true rfl) rfl (Or.inl ew_442) (cShC_52 hs).1 (cShC_52 hs).2.1 ?_
    refine ea_icmp_ge (pc := 12) (tgt := 24) dX11_letterOf_12 rfl (fun c2 => ?_) (fun c2 => ?_)
    · have E := (if_pos c2).symm.trans E
      refine ea_null (pc := 24) dX11_letterOf_24 ?_
      exact ea_aretO (pc := 25) dX11_letterOf_25 rfl (Or.inl ⟨_, rfl⟩) E
    · have E := (if_neg c2).symm.trans E
      obtain ⟨z1, E⟩ := gd_some E
      refine ea_aload_n (pc := 15) dX11_letterOf_15 rfl 0 rfl ?_
      refine ea_getR (pc := 16) dX11_letterOf_16 ec_11 (k := 5) (Nat.le_of_ble_eq_true rfl) rfl (Or.inl ew_619) (cShC_0 hs).1 (cShC_0 hs).2.1 (rShC_0_5 hs) ?_
      refine ea_iload_n (pc := 19) dX11_letterOf_19 rfl 1 rfl ?_
      refine ea_aald23 (pc := 20) dX11_letterOf_20 (cShC_49 hs).1 (cShC_49 hs).2.1 (ea_vpl (cShC_49 hs).2.2 z1) rfl ?_
      refine ea_goto (pc := 21) (tgt := 25) dX11_letterOf_21 rfl ?_
      exact ea_aretO (pc := 25) dX11_letterOf_25 rfl (Or.inl ⟨_, rfl⟩) E
theorem kBX11_letterOf_0  {x1 : Int32} {h : ea_H} : kp (ea_core h) (BX11_letterOf_0 x1 h) :=
  (kp_ite (kp_ret rfl) (kp_ite (kp_ret rfl) (kp_gd (kp_ret rfl))))
noncomputable def qX11_letterOf (x1 : Int32) (h : ea_H) : Option (Option Nat × ea_H) := BX11_letterOf_0 x1 h
theorem sX11_letterOf {d : Nat} {x1 : Int32} {h : ea_H} {r : Option Nat} {h' : ea_H} (hd : 1 ≤ d) (hs : ShC h) (K : qX11_letterOf x1 h = some (r, h')) : ea_Met mX11_letterOf d [vR (some 0), vI x1] h (some (vR r)) h' := by
  unfold qX11_letterOf at K
  have W := tBX11_letterOf_0 hd (h0 := h) K hs
  exact ea_enter rfl (Nat.le_of_ble_eq_true rfl) W
theorem kpX11_letterOf (x1 : Int32) (h : ea_H) : kp (ea_core h) (qX11_letterOf x1 h) := kBX11_letterOf_0
noncomputable def BX11_isBetween_0 (x1 : Int32) (x2 : Int32) (x3 : Int32) (h : ea_H) : Option (Int32 × ea_H) :=
  (gd (vp_in x1 120) (gd ((ea_r h 49 (Int32.toNatClampNeg x1)) = some (Option.getD (ea_r h 49 (Int32.toNatClampNeg x1)) 0)) (gd (((Option.getD (ea_r h 49 (Int32.toNatClampNeg x1)) 0) < ea_n h ∧ ea_c h (Option.getD (ea_r h 49 (Int32.toNatClampNeg x1)) 0) = 5)) (if (ea_i h (Option.getD (ea_r h 49 (Int32.toNatClampNeg x1)) 0) 1) = x2 then (gd (vp_in x1 120) (gd ((ea_r h 49 (Int32.toNatClampNeg x1)) = some (Option.getD (ea_r h 49 (Int32.toNatClampNeg x1)) 0)) (gd (((Option.getD (ea_r h 49 (Int32.toNatClampNeg x1)) 0) < ea_n h ∧ ea_c h (Option.getD (ea_r h 49 (Int32.toNatClampNeg x1)) 0) = 5)) (if (ea_i h (Option.getD (ea_r h 49 (Int32.toNatClampNeg x1)) 0) 2) = x3 then (some ((1 : Int32), h)) else (some ((0 : Int32), h)))))) else (some ((0 : Int32), h))))))
theorem tBX11_isBetween_0 {d : Nat} {h0 : ea_H} (hd : 1 ≤ d)  {x1 : Int32} {x2 : Int32} {x3 : Int32} {h : ea_H} {r : Int32} {h' : ea_H} (E : BX11_isBetween_0 x1 x2 x3 h = some (r, h')) (hs : ShC h) : ea_W mX11_isBetween d h0 (some (vI r)) h' 0 [(0, vR (some 0)), (1, vI x1), (2, vI x2), (3, vI x3)] [] h := by
  unfold BX11_isBetween_0 at E
  obtain ⟨z1, E⟩ := gd_some E
  refine ea_aload_n (pc := 0) dX11_isBetween_0 rfl 0 rfl ?_
  refine ea_getR (pc := 1) dX11_isBetween_1 ec_11 (k := 5) (Nat.le_of_ble_eq_true rfl) rfl (Or.inl ew_619) (cShC_0 hs).1 (cShC_0 hs).2.1 (rShC_0_5 hs) ?_
  refine ea_iload_n (pc := 4) dX11_isBetween_4 rfl 1 rfl ?_
  obtain ⟨e2, E⟩ := gd_some E
  refine ea_aald23 (pc := 5) dX11_isBetween_5 (cShC_49 hs).1 (cShC_49 hs).2.1 (ea_vpl (cShC_49 hs).2.2 z1) rfl ?_
  obtain ⟨f3, E⟩ := gd_some E
  refine ea_deref0 e2 ?_
  refine ea_getI (pc := 6) dX11_isBetween_6 ec_5 (k := 1) (Nat.le_of_ble_eq_true rfl) rfl (Or.inl ew_509) f3.1 f3.2 ?_
  refine ea_iload_n (pc := 9) dX11_isBetween_9 rfl 2 rfl ?_
  refine ea_icmp_ne (pc := 10) (tgt := 30) dX11_isBetween_10 rfl (fun c8 => ?_) (fun c8 => ?_)
  · have E := (if_neg c8).symm.trans E
    refine ea_iconst (pc := 30) dX11_isBetween_30 (v := 0) rfl ?_
    exact ea_iretO (pc := 31) dX11_isBetween_31 rfl (ea_bn (Or.inl rfl)) E
  · have E := (if_pos c8).symm.trans E
    obtain ⟨z4, E⟩ := gd_some E
    refine ea_aload_n (pc := 13) dX11_isBetween_13 rfl 0 rfl ?_
    refine ea_getR (pc := 14) dX11_isBetween_14 ec_11 (k := 5) (Nat.le_of_ble_eq_true rfl) rfl (Or.inl ew_619) (cShC_0 hs).1 (cShC_0 hs).2.1 (rShC_0_5 hs) ?_
    refine ea_iload_n (pc := 17) dX11_isBetween_17 rfl 1 rfl ?_
    obtain ⟨e5, E⟩ := gd_some E
    refine ea_aald23 (pc := 18) dX11_isBetween_18 (cShC_49 hs).1 (cShC_49 hs).2.1 (ea_vpl (cShC_49 hs).2.2 z4) rfl ?_
    obtain ⟨f6, E⟩ := gd_some E
    refine ea_deref0 e5 ?_
    refine ea_getI (pc := 19) dX11_isBetween_19 ec_5 (k := 2) (Nat.le_of_ble_eq_true rfl) rfl (Or.inl ew_512) f6.1 f6.2 ?_
    refine ea_iload_n (pc := 22) dX11_isBetween_22 rfl 3 rfl ?_
    refine ea_icmp_ne (pc := 23) (tgt := 30) dX11_isBetween_23 rfl (fun c7 => ?_) (fun c7 => ?_)
    · have E := (if_neg c7).symm.trans E
      refine ea_iconst (pc := 30) dX11_isBetween_30 (v := 0) rfl ?_
      exact ea_iretO (pc := 31) dX11_isBetween_31 rfl (ea_bn (Or.inl rfl)) E
    · have E := (if_pos c7).symm.trans E
      refine ea_iconst (pc := 26) dX11_isBetween_26 (v := 1) rfl ?_
      refine ea_goto (pc := 27) (tgt := 31) dX11_isBetween_27 rfl ?_
      exact ea_iretO (pc := 31) dX11_isBetween_31 rfl (ea_bn (Or.inr rfl)) E
theorem kBX11_isBetween_0  {x1 : Int32} {x2 : Int32} {x3 : Int32} {h : ea_H} : kp (ea_core h) (BX11_isBetween_0 x1 x2 x3 h) :=
  (kp_gd (kp_gd (kp_gd (kp_ite (kp_gd (kp_gd (kp_gd (kp_ite (kp_ret rfl) (kp_ret rfl))))) (kp_ret rfl)))))
noncomputable def qX11_isBetween (x1 : Int32) (x2 : Int32) (x3 : Int32) (h : ea_H) : Option (Int32 × ea_H) := BX11_isBetween_0 x1 x2 x3 h
theorem sX11_isBetween {d : Nat} {x1 : Int32} {x2 : Int32} {x3 : Int32} {h : ea_H} {r : Int32} {h' : ea_H} (hd : 1 ≤ d) (hs : ShC h) (K : qX11_isBetween x1 x2 x3 h = some (r, h')) : ea_Met mX11_isBetween d [vR (some 0), vI x1, vI x2, vI x3] h (some (vI r)) h' := by
  unfold qX11_isBetween at K
  have W := tBX11_isBetween_0 hd (h0 := h) K hs
  exact ea_enter rfl (Nat.le_of_ble_eq_true rfl) W
theorem kpX11_isBetween (x1 : Int32) (x2 : Int32) (x3 : Int32) (h : ea_H) : kp (ea_core h) (qX11_isBetween x1 x2 x3 h) := kBX11_isBetween_0
noncomputable def BX11_isTaken_0 (x1 : Int32) (x2 : Int32) (h : ea_H) : Option (Int32 × ea_H) :=
  (gd (vp_in x1 120) (if (ea_i h 53 (Int32.toNatClampNeg x1)) = (4 : Int32) then (gd (vp_in x1 120) (if (ea_i h 75 (Int32.toNatClampNeg x1)) = x2 then (some ((1 : Int32), h)) else (some ((0 : Int32), h)))) else (some ((0 : Int32), h))))
theorem tBX11_isTaken_0 {d : Nat} {h0 : ea_H} (hd : 1 ≤ d)  {x1 : Int32} {x2 : Int32} {h : ea_H} {r : Int32} {h' : ea_H} (E : BX11_isTaken_0 x1 x2 h = some (r, h')) (hs : ShC h) : ea_W mX11_isTaken d h0 (some (vI r)) h' 0 [(0, vR (some 0)), (1, vI x1), (2, vI x2)] [] h := by
  unfold BX11_isTaken_0 at E
  obtain ⟨z1, E⟩ := gd_some E
  refine ea_aload_n (pc := 0) dX11_isTaken_0 rfl 0 rfl ?_
  refine ea_getR (pc := 1) dX11_isTaken_1 ec_11 (k := 7) (Nat.le_of_ble_eq_true rfl) rfl (Or.inl ew_621) (cShC_0 hs).1 (cShC_0 hs).2.1 (rShC_0_7 hs) ?_
  refine ea_getR (pc := 4) dX11_isTaken_4 ec_1 (k := 1) (Nat.le_of_ble_eq_true rfl) rfl (Or.inl ew_444) (cShC_52 hs).1 (cShC_52 hs).2.1 (rShC_52_1 hs) ?_
  refine ea_iload_n (pc := 7) dX11_isTaken_7 rfl 1 rfl ?_
  refine ea_iald (pc := 8) dX11_isTaken_8 (cShC_53 hs).1 (cShC_53 hs).2.1 (ea_vpl (cShC_53 hs).2.2 z1) ?_
  refine ea_iconst (pc := 9) dX11_isTaken_9 (v := 4) rfl ?_
  refine ea_icmp_ne (pc := 10) (tgt := 27) dX11_isTaken_10 rfl (fun c4 => ?_) (fun c4 => ?_)
  · have E := (if_neg c4).symm.trans E
    refine ea_iconst (pc := 27) dX11_isTaken_27 (v := 0) rfl ?_
    exact ea_iretO (pc := 28) dX11_isTaken_28 rfl (ea_bn (Or.inl rfl)) E
  · have E := (if_pos c4).symm.trans E
    obtain ⟨z2, E⟩ := gd_some E
    refine ea_aload_n (pc := 13) dX11_isTaken_13 rfl 0 rfl ?_
    refine ea_getR (pc := 14) dX11_isTaken_14 ec_11 (k := 12) (Nat.le_of_ble_eq_true rfl) rfl (Or.inl ew_626) (cShC_0 hs).1 (cShC_0 hs).2.1 (rShC_0_12 hs) ?_
    refine ea_iload_n (pc := 17) dX11_isTaken_17 rfl 1 rfl ?_
    refine ea_iald (pc := 18) dX11_isTaken_18 (cShC_75 hs).1 (cShC_75 hs).2.1 (ea_vpl (cShC_75 hs).2.2 z2) ?_
    refine ea_iload_n (pc := 19) dX11_isTaken_19 rfl 2 rfl ?_
    refine ea_icmp_ne (pc := 20) (tgt := 27) dX11_isTaken_20 rfl (fun c3 => ?_) (fun c3 => ?_)
    · have E := (if_neg c3).symm.trans E
      refine ea_iconst (pc := 27) dX11_isTaken_27 (v := 0) rfl ?_
      exact ea_iretO (pc := 28) dX11_isTaken_28 rfl (ea_bn (Or.inl rfl)) E
    · have E := (if_pos c3).symm.trans E
      refine ea_iconst (pc := 23) dX11_isTaken_23 (v := 1) rfl ?_
      refine ea_goto (pc := 24) (tgt := 28) dX11_isTaken_24 rfl ?_
      exact ea_iretO (pc := 28) dX11_isTaken_28 rfl (ea_bn (Or.inr rfl)) E
theorem kBX11_isTaken_0  {x1 : Int32} {x2 : Int32} {h : ea_H} : kp (ea_core h) (BX11_isTaken_0 x1 x2 h) :=
  (kp_gd (kp_ite (kp_gd (kp_ite (kp_ret rfl) (kp_ret rfl))) (kp_ret rfl)))
noncomputable def qX11_isTaken (x1 : Int32) (x2 : Int32) (h : ea_H) : Option (Int32 × ea_H) := BX11_isTaken_0 x1 x2 h
theorem sX11_isTaken {d : Nat} {x1 : Int32} {x2 : Int32} {h : ea_H} {r : Int32} {h' : ea_H} (hd : 1 ≤ d) (hs : ShC h) (K : qX11_isTaken x1 x2 h = some (r, h')) : ea_Met mX11_isTaken d [vR (some 0), vI x1, vI x2] h (some (vI r)) h' := by
  unfold qX11_isTaken at K
  have W := tBX11_isTaken_0 hd (h0 := h) K hs
  exact ea_enter rfl (Nat.le_of_ble_eq_true rfl) W
theorem kpX11_isTaken (x1 : Int32) (x2 : Int32) (h : ea_H) : kp (ea_core h) (qX11_isTaken x1 x2 h) := kBX11_isTaken_0
noncomputable def BX11_taken_0 (J4 : Int32 → Int32 → Int32 → ea_H → Option (Int32 × ea_H)) (x1 : Int32) (h : ea_H) : Option (Int32 × ea_H) :=
  (J4 (x1 : Int32) (0 : Int32) (0 : Int32) h)
theorem tBX11_taken_0 {d : Nat} {h0 : ea_H} (hd : 2 ≤ d) {J4 : Int32 → Int32 → Int32 → ea_H → Option (Int32 × ea_H)}  (kJ4 : ∀ (x1 : Int32) (x2 : Int32) (x3 : Int32) (h : ea_H) (r : Int32) (h' : ea_H), J4 x1 x2 x3 h = some (r, h') → ShC h → ea_W mX11_taken d h0 (some (vI r)) h' 4 [(0, vR (some 0)), (1, vI x1), (2, vI x2), (3, vI x3)] [] h) {x1 : Int32} {h : ea_H} {r : Int32} {h' : ea_H} (E : BX11_taken_0 J4 x1 h = some (r, h')) (hs : ShC h) : ea_W mX11_taken d h0 (some (vI r)) h' 0 [(0, vR (some 0)), (1, vI x1)] [] h := by
  unfold BX11_taken_0 at E
  refine ea_iconst (pc := 0) dX11_taken_0 (v := 0) rfl ?_
  refine ea_istore_n (pc := 1) (lv' := [(0, vR (some 0)), (1, vI x1), (2, vI 0)]) dX11_taken_1 rfl (Nat.le_of_ble_eq_true rfl) [1, 2, 0] rfl ?_
  refine ea_iconst (pc := 2) dX11_taken_2 (v := 0) rfl ?_
  refine ea_istore_n (pc := 3) (lv' := [(0, vR (some 0)), (1, vI x1), (2, vI 0), (3, vI 0)]) dX11_taken_3 rfl (Nat.le_of_ble_eq_true rfl) [1, 2, 3, 0] rfl ?_
  exact (kJ4 (x1 : Int32) (0 : Int32) (0 : Int32) h _ _ E hs)
theorem kBX11_taken_0 {J4 : Int32 → Int32 → Int32 → ea_H → Option (Int32 × ea_H)}  (cJ4 : ∀ (x1 : Int32) (x2 : Int32) (x3 : Int32) (h : ea_H), kp (ea_core h) (J4 x1 x2 x3 h)) {x1 : Int32} {h : ea_H} : kp (ea_core h) (BX11_taken_0 J4 x1 h) :=
  (kp_tw (cJ4 _ _ _ _) rfl)
theorem lBX11_taken_0 {J4 : Int32 → Int32 → Int32 → ea_H → Option (Int32 × ea_H)} {J4_ : Int32 → Int32 → Int32 → ea_H → Option (Int32 × ea_H)}  (mJ4 : ∀ (x1 : Int32) (x2 : Int32) (x3 : Int32) (h : ea_H), fle (J4 x1 x2 x3 h) (J4_ x1 x2 x3 h)) {x1 : Int32} {h : ea_H} : fle (BX11_taken_0 J4 x1 h) (BX11_taken_0 J4_ x1 h) :=
  (mJ4 _ _ _ _)
theorem nBX11_taken_0 {J4 : Int32 → Int32 → Int32 → ea_H → Option (Int32 × ea_H)} {J4_ : Nat → (Int32 → Int32 → Int32 → ea_H → Option (Int32 × ea_H))}  (mJ4 : ∀ (x1 : Int32) (x2 : Int32) (x3 : Int32) (h : ea_H), fct (J4 x1 x2 x3 h) (fun f => J4_ f x1 x2 x3 h)) {x1 : Int32} {h : ea_H} : fct (BX11_taken_0 J4 x1 h) (fun f => BX11_taken_0 (J4_ f) x1 h) :=
  (mJ4 _ _ _ _)
noncomputable def BX11_taken_4 (J4 : Int32 → Int32 → Int32 → ea_H → Option (Int32 × ea_H)) (x1 : Int32) (x2 : Int32) (x3 : Int32) (h : ea_H) : Option (Int32 × ea_H) :=
  (if (ea_i h 52 0) ≤ x3 then (some (x2, h)) else (Option.bind (qX11_isTaken (x3 : Int32) (x1 : Int32) h) fun w1 => (if w1.1 = (0 : Int32) then (J4 (x1 : Int32) (x2 : Int32) ((x3 + (1 : Int32)) : Int32) w1.2) else (J4 (x1 : Int32) ((x2 + (1 : Int32)) : Int32) ((x3 + (1 : Int32)) : Int32) w1.2))))
theorem tBX11_taken_4 {d : Nat} {h0 : ea_H} (hd : 2 ≤ d) {J4 : Int32 → Int32 → Int32 → ea_H → Option (Int32 × ea_H)}  (kJ4 : ∀ (x1 : Int32) (x2 : Int32) (x3 : Int32) (h : ea_H) (r : Int32) (h' : ea_H), J4 x1 x2 x3 h = some (r, h') → ShC h → ea_W mX11_taken d h0 (some (vI r)) h' 4 [(0, vR (some 0)), (1, vI x1), (2, vI x2), (3, vI x3)] [] h) {x1 : Int32} {x2 : Int32} {x3 : Int32} {h : ea_H} {r : Int32} {h' : ea_H} (E : BX11_taken_4 J4 x1 x2 x3 h = some (r, h')) (hs : ShC h) : ea_W mX11_taken d h0 (some (vI r)) h' 4 [(0, vR (some 0)), (1, vI x1), (2, vI x2), (3, vI x3)] [] h := by
  unfold BX11_taken_4 at E
  refine ea_iload_n (pc := 4) dX11_taken_4 rfl 3 rfl ?_
  refine ea_aload_n (pc := 5) dX11_taken_5 rfl 0 rfl ?_
  refine ea_getR (pc := 6) dX11_taken_6 ec_11 (k := 7) (Nat.le_of_ble_eq_true rfl) rfl (Or.inl ew_621) (cShC_0 hs).1 (cShC_0 hs).2.1 (rShC_0_7 hs) ?_
  refine ea_getI (pc := 9) dX11_taken_9 ec_1 (k := 0) (Nat.le_of_ble_eq_true rfl) rfl (Or.inl ew_442) (cShC_52 hs).1 (cShC_52 hs).2.1 ?_
  refine ea_icmp_ge (pc := 12) (tgt := 33) dX11_taken_12 rfl (fun c3 => ?_) (fun c3 => ?_)
  · have E := (if_pos c3).symm.trans E
    refine ea_iload_n (pc := 33) dX11_taken_33 rfl 2 rfl ?_
    exact ea_iretO (pc := 34) dX11_taken_34 rfl rfl E
  · have E := (if_neg c3).symm.trans E
    obtain ⟨w1, Ew1, E⟩ := bd_some E
    have hsw1 : ShC w1.2 := ShC_core ((kpX11_isTaken _ _ _) _ Ew1) hs
    refine ea_aload_n (pc := 15) dX11_taken_15 rfl 0 rfl ?_
    refine ea_iload_n (pc := 16) dX11_taken_16 rfl 3 rfl ?_
    refine ea_iload_n (pc := 17) dX11_taken_17 rfl 1 rfl ?_
    refine ea_callV (pc := 18) (d' := d - 1) (As := [vI x3, vI x1]) (st := []) dX11_taken_18 kX11_isTaken (sX11_isTaken (d := d - 1) (by omega) hs Ew1) (by omega) rfl (Nat.le_of_ble_eq_true rfl) ew_1317 ew_1319 ew_48 (ci := 11) rfl (by decide) (cShC_0 hs).1 (cShC_0 hs).2.1 ?_
    refine ea_if_eq (pc := 21) (tgt := 27) dX11_taken_21 rfl (fun c2 => ?_) (fun c2 => ?_)
    · have E := (if_pos c2).symm.trans E
      refine ea_iinc (pc := 27) (v := 1) (lv' := [(0, vR (some 0)), (1, vI x1), (2, vI x2), (3, vI (x3 + (1 : Int32)))]) dX11_taken_27 3 rfl rfl (Nat.le_of_ble_eq_true rfl) [1, 2, 3, 0] rfl ?_
      refine ea_goto (pc := 30) (tgt := 4) dX11_taken_30 rfl ?_
      exact (kJ4 (x1 : Int32) (x2 : Int32) ((x3 + (1 : Int32)) : Int32) w1.2 _ _ E hsw1)
    · have E := (if_neg c2).symm.trans E
      refine ea_iinc (pc := 24) (v := 1) (lv' := [(0, vR (some 0)), (1, vI x1), (2, vI (x2 + (1 : Int32))), (3, vI x3)]) dX11_taken_24 2 rfl rfl (Nat.le_of_ble_eq_true rfl) [1, 2, 0, 3] rfl ?_
      refine ea_iinc (pc := 27) (v := 1) (lv' := [(0, vR (some 0)), (1, vI x1), (2, vI (x2 + (1 : Int32))), (3, vI (x3 + (1 : Int32)))]) dX11_taken_27 3 rfl rfl (Nat.le_of_ble_eq_true rfl) [1, 2, 3, 0] rfl ?_
      refine ea_goto (pc := 30) (tgt := 4) dX11_taken_30 rfl ?_
      exact (kJ4 (x1 : Int32) ((x2 + (1 : Int32)) : Int32) ((x3 + (1 : Int32)) : Int32) w1.2 _ _ E hsw1)
theorem kBX11_taken_4 {J4 : Int32 → Int32 → Int32 → ea_H → Option (Int32 × ea_H)}  (cJ4 : ∀ (x1 : Int32) (x2 : Int32) (x3 : Int32) (h : ea_H), kp (ea_core h) (J4 x1 x2 x3 h)) {x1 : Int32} {x2 : Int32} {x3 : Int32} {h : ea_H} : kp (ea_core h) (BX11_taken_4 J4 x1 x2 x3 h) :=
  (kp_ite (kp_ret rfl) (kp_bind (kp_tw (kpX11_isTaken _ _ _) rfl) fun w1 hcw1 => (kp_ite (kp_tw (cJ4 _ _ _ _) hcw1) (kp_tw (cJ4 _ _ _ _) hcw1))))
theorem lBX11_taken_4 {J4 : Int32 → Int32 → Int32 → ea_H → Option (Int32 × ea_H)} {J4_ : Int32 → Int32 → Int32 → ea_H → Option (Int32 × ea_H)}  (mJ4 : ∀ (x1 : Int32) (x2 : Int32) (x3 : Int32) (h : ea_H), fle (J4 x1 x2 x3 h) (J4_ x1 x2 x3 h)) {x1 : Int32} {x2 : Int32} {x3 : Int32} {h : ea_H} : fle (BX11_taken_4 J4 x1 x2 x3 h) (BX11_taken_4 J4_ x1 x2 x3 h) :=
  (fle_ite (fle_rfl _) (fle_bind (fle_rfl _) fun _ => (fle_ite (mJ4 _ _ _ _) (mJ4 _ _ _ _))))
theorem nBX11_taken_4 {J4 : Int32 → Int32 → Int32 → ea_H → Option (Int32 × ea_H)} {J4_ : Nat → (Int32 → Int32 → Int32 → ea_H → Option (Int32 × ea_H))}  (mJ4 : ∀ (x1 : Int32) (x2 : Int32) (x3 : Int32) (h : ea_H), fct (J4 x1 x2 x3 h) (fun f => J4_ f x1 x2 x3 h)) {x1 : Int32} {x2 : Int32} {x3 : Int32} {h : ea_H} : fct (BX11_taken_4 J4 x1 x2 x3 h) (fun f => BX11_taken_4 (J4_ f) x1 x2 x3 h) :=
  (fct_ite (fct_rfl _) (fct_bind (fct_rfl _) fun _ => (fct_ite (mJ4 _ _ _ _) (mJ4 _ _ _ _))))
noncomputable def gX11_taken : Nat → (Int32 → ea_H → Option (Int32 × ea_H)) × (Int32 → Int32 → Int32 → ea_H → Option (Int32 × ea_H))
  | 0 => (fun _ _ => none, fun _ _ _ _ => none)
  | f + 1 => (BX11_taken_0 (gX11_taken f).2, BX11_taken_4 (gX11_taken f).2)
theorem mgX11_taken : ∀ f : Nat, (∀ (x1 : Int32) (h : ea_H), fle ((gX11_taken f).1 x1 h) ((gX11_taken (f + 1)).1 x1 h)) ∧ (∀ (x1 : Int32) (x2 : Int32) (x3 : Int32) (h : ea_H), fle ((gX11_taken f).2 x1 x2 x3 h) ((gX11_taken (f + 1)).2 x1 x2 x3 h)) := by
  intro f
  induction f with
  | zero => exact ⟨fun _ _ => fle_none _, fun _ _ _ _ => fle_none _⟩
  | succ f ih => exact ⟨fun _ _ => lBX11_taken_0 ih.2, fun _ _ _ _ => lBX11_taken_4 ih.2⟩
noncomputable def qX11_taken_0 (x1 : Int32) (h : ea_H) : Option (Int32 × ea_H) := flim fun f => (gX11_taken f).1 x1 h
noncomputable def qX11_taken_4 (x1 : Int32) (x2 : Int32) (x3 : Int32) (h : ea_H) : Option (Int32 × ea_H) := flim fun f => (gX11_taken f).2 x1 x2 x3 h
theorem fqX11_taken_0 (x1 : Int32) (h : ea_H) : fct (qX11_taken_0 x1 h) fun f => (gX11_taken f).1 x1 h := flim_ct fun f => (mgX11_taken f).1 x1 h
theorem fqX11_taken_4 (x1 : Int32) (x2 : Int32) (x3 : Int32) (h : ea_H) : fct (qX11_taken_4 x1 x2 x3 h) fun f => (gX11_taken f).2 x1 x2 x3 h := flim_ct fun f => (mgX11_taken f).2 x1 x2 x3 h
/-- how a block opens -/
theorem uqX11_taken_0 {x1 : Int32} {h : ea_H} {P : Int32 × ea_H → Prop} (H : sat (BX11_taken_0 qX11_taken_4 x1 h) P) : sat (qX11_taken_0 x1 h) P := by
  obtain ⟨x, e, hp⟩ := H
  obtain ⟨n, hn⟩ := nBX11_taken_0 fqX11_taken_4 x e
  exact ⟨x, flim_at (fun f => (mgX11_taken f).1 x1 h) (f := n + 1) (hn n (Nat.le_refl _)), hp⟩
/-- how a block opens -/
theorem uqX11_taken_4 {x1 : Int32} {x2 : Int32} {x3 : Int32} {h : ea_H} {P : Int32 × ea_H → Prop} (H : sat (BX11_taken_4 qX11_taken_4 x1 x2 x3 h) P) : sat (qX11_taken_4 x1 x2 x3 h) P := by
  obtain ⟨x, e, hp⟩ := H
  obtain ⟨n, hn⟩ := nBX11_taken_4 fqX11_taken_4 x e
  exact ⟨x, flim_at (fun f => (mgX11_taken f).2 x1 x2 x3 h) (f := n + 1) (hn n (Nat.le_refl _)), hp⟩
theorem kgX11_taken : ∀ f : Nat, (∀ (x1 : Int32) (h : ea_H), kp (ea_core h) ((gX11_taken f).1 x1 h)) ∧ (∀ (x1 : Int32) (x2 : Int32) (x3 : Int32) (h : ea_H), kp (ea_core h) ((gX11_taken f).2 x1 x2 x3 h)) := by
  intro f
  induction f with
  | zero => exact ⟨fun _ _ => kp_none _, fun _ _ _ _ => kp_none _⟩
  | succ f ih => exact ⟨fun _ _ => kBX11_taken_0 ih.2, fun _ _ _ _ => kBX11_taken_4 ih.2⟩
theorem tgX11_taken {d : Nat} {h0 : ea_H} (hd : 2 ≤ d) : ∀ f : Nat, (∀ (x1 : Int32) (h : ea_H) (r : Int32) (h' : ea_H), (gX11_taken f).1 x1 h = some (r, h') → ShC h → ea_W mX11_taken d h0 (some (vI r)) h' 0 [(0, vR (some 0)), (1, vI x1)] [] h) ∧ (∀ (x1 : Int32) (x2 : Int32) (x3 : Int32) (h : ea_H) (r : Int32) (h' : ea_H), (gX11_taken f).2 x1 x2 x3 h = some (r, h') → ShC h → ea_W mX11_taken d h0 (some (vI r)) h' 4 [(0, vR (some 0)), (1, vI x1), (2, vI x2), (3, vI x3)] [] h) := by
  intro f
  induction f with
  | zero => exact ⟨fun _ _ _ _ E => no_some E, fun _ _ _ _ _ _ E => no_some E⟩
  | succ f ih => exact ⟨fun _ _ _ _ E hs => tBX11_taken_0 hd ih.2 E hs, fun _ _ _ _ _ _ E hs => tBX11_taken_4 hd ih.2 E hs⟩
noncomputable def qX11_taken (x1 : Int32) (h : ea_H) : Option (Int32 × ea_H) := qX11_taken_0 x1 h
theorem sX11_taken {d : Nat} {x1 : Int32} {h : ea_H} {r : Int32} {h' : ea_H} (hd : 2 ≤ d) (hs : ShC h) (K : qX11_taken x1 h = some (r, h')) : ea_Met mX11_taken d [vR (some 0), vI x1] h (some (vI r)) h' := by
  unfold qX11_taken at K
  obtain ⟨n, hn⟩ := fqX11_taken_0 x1 h _ K
  have W := (tgX11_taken (d := d) (h0 := h) hd n).1 x1 h _ _ (hn n (Nat.le_refl _)) hs
  exact ea_enter rfl (Nat.le_of_ble_eq_true rfl) W
theorem kpX11_taken (x1 : Int32) (h : ea_H) : kp (ea_core h) (qX11_taken x1 h) := fun x e => by
  obtain ⟨n, hn⟩ := fqX11_taken_0 x1 h x e
  exact (kgX11_taken n).1 x1 h x (hn n (Nat.le_refl _))
noncomputable def BX11_takenLetter_0 (J5 : Int32 → Int32 → Int32 → Int32 → ea_H → Option (Int32 × ea_H)) (x1 : Int32) (x2 : Int32) (h : ea_H) : Option (Int32 × ea_H) :=
  (J5 (x1 : Int32) (x2 : Int32) (0 : Int32) (0 : Int32) h)
theorem tBX11_takenLetter_0 {d : Nat} {h0 : ea_H} (hd : 2 ≤ d) {J5 : Int32 → Int32 → Int32 → Int32 → ea_H → Option (Int32 × ea_H)}  (kJ5 : ∀ (x1 : Int32) (x2 : Int32) (x3 : Int32) (x4 : Int32) (h : ea_H) (r : Int32) (h' : ea_H), J5 x1 x2 x3 x4 h = some (r, h') → ShC h → ea_W mX11_takenLetter d h0 (some (vI r)) h' 5 [(0, vR (some 0)), (1, vI x1), (2, vI x2), (3, vI x3), (4, vI x4)] [] h) {x1 : Int32} {x2 : Int32} {h : ea_H} {r : Int32} {h' : ea_H} (E : BX11_takenLetter_0 J5 x1 x2 h = some (r, h')) (hs : ShC h) : ea_W mX11_takenLetter d h0 (some (vI r)) h' 0 [(0, vR (some 0)), (1, vI x1), (2, vI x2)] [] h := by
  unfold BX11_takenLetter_0 at E
  refine ea_iconst (pc := 0) dX11_takenLetter_0 (v := 0) rfl ?_
  refine ea_istore_n (pc := 1) (lv' := [(0, vR (some 0)), (1, vI x1), (2, vI x2), (3, vI 0)]) dX11_takenLetter_1 rfl (Nat.le_of_ble_eq_true rfl) [1, 2, 3, 0] rfl ?_
  refine ea_iconst (pc := 2) dX11_takenLetter_2 (v := 0) rfl ?_
  refine ea_istore (pc := 3) (lv' := [(0, vR (some 0)), (1, vI x1), (2, vI x2), (3, vI 0), (4, vI 0)]) dX11_takenLetter_3 (Nat.le_of_ble_eq_true rfl) [1, 2, 3, 4, 0] rfl ?_
  exact (kJ5 (x1 : Int32) (x2 : Int32) (0 : Int32) (0 : Int32) h _ _ E hs)
theorem kBX11_takenLetter_0 {J5 : Int32 → Int32 → Int32 → Int32 → ea_H → Option (Int32 × ea_H)}  (cJ5 : ∀ (x1 : Int32) (x2 : Int32) (x3 : Int32) (x4 : Int32) (h : ea_H), kp (ea_core h) (J5 x1 x2 x3 x4 h)) {x1 : Int32} {x2 : Int32} {h : ea_H} : kp (ea_core h) (BX11_takenLetter_0 J5 x1 x2 h) :=
  (kp_tw (cJ5 _ _ _ _ _) rfl)
theorem lBX11_takenLetter_0 {J5 : Int32 → Int32 → Int32 → Int32 → ea_H → Option (Int32 × ea_H)} {J5_ : Int32 → Int32 → Int32 → Int32 → ea_H → Option (Int32 × ea_H)}  (mJ5 : ∀ (x1 : Int32) (x2 : Int32) (x3 : Int32) (x4 : Int32) (h : ea_H), fle (J5 x1 x2 x3 x4 h) (J5_ x1 x2 x3 x4 h)) {x1 : Int32} {x2 : Int32} {h : ea_H} : fle (BX11_takenLetter_0 J5 x1 x2 h) (BX11_takenLetter_0 J5_ x1 x2 h) :=
  (mJ5 _ _ _ _ _)
theorem nBX11_takenLetter_0 {J5 : Int32 → Int32 → Int32 → Int32 → ea_H → Option (Int32 × ea_H)} {J5_ : Nat → (Int32 → Int32 → Int32 → Int32 → ea_H → Option (Int32 × ea_H))}  (mJ5 : ∀ (x1 : Int32) (x2 : Int32) (x3 : Int32) (x4 : Int32) (h : ea_H), fct (J5 x1 x2 x3 x4 h) (fun f => J5_ f x1 x2 x3 x4 h)) {x1 : Int32} {x2 : Int32} {h : ea_H} : fct (BX11_takenLetter_0 J5 x1 x2 h) (fun f => BX11_takenLetter_0 (J5_ f) x1 x2 h) :=
  (mJ5 _ _ _ _ _)
noncomputable def BX11_takenLetter_5 (J5 : Int32 → Int32 → Int32 → Int32 → ea_H → Option (Int32 × ea_H)) (x1 : Int32) (x2 : Int32) (x3 : Int32) (x4 : Int32) (h : ea_H) : Option (Int32 × ea_H) :=
  (if (ea_i h 52 0) ≤ x4 then (some (((-1) : Int32), h)) else (Option.bind (qX11_isTaken (x4 : Int32) (x1 : Int32) h) fun w1 => (if w1.1 = (0 : Int32) then (J5 (x1 : Int32) (x2 : Int32) (x3 : Int32) ((x4 + (1 : Int32)) : Int32) w1.2) else (if x3 = x2 then (some (x4, w1.2)) else (J5 (x1 : Int32) (x2 : Int32) ((x3 + (1 : Int32)) : Int32) ((x4 + (1 : Int32)) : Int32) w1.2)))))
theorem tBX11_takenLetter_5 {d : Nat} {h0 : ea_H} (hd : 2 ≤ d) {J5 : Int32 → Int32 → Int32 → Int32 → ea_H → Option (Int32 × ea_H)}  (kJ5 : ∀ (x1 : Int32) (x2 : Int32) (x3 : Int32) (x4 : Int32) (h : ea_H) (r : Int32) (h' : ea_H), J5 x1 x2 x3 x4 h = some (r, h') → ShC h → ea_W mX11_takenLetter d h0 (some (vI r)) h' 5 [(0, vR (some 0)), (1, vI x1), (2, vI x2), (3, vI x3), (4, vI x4)] [] h) {x1 : Int32} {x2 : Int32} {x3 : Int32} {x4 : Int32} {h : ea_H} {r : Int32} {h' : ea_H} (E : BX11_takenLetter_5 J5 x1 x2 x3 x4 h = some (r, h')) (hs : ShC h) : ea_W mX11_takenLetter d h0 (some (vI r)) h' 5 [(0, vR (some 0)), (1, vI x1), (2, vI x2), (3, vI x3), (4, vI x4)] [] h := by
  unfold BX11_takenLetter_5 at E
  refine ea_iload (pc := 5) dX11_takenLetter_5 4 rfl ?_
  refine ea_aload_n (pc := 7) dX11_takenLetter_7 rfl 0 rfl ?_
  refine ea_getR (pc := 8) dX11_takenLetter_8 ec_11 (k := 7) (Nat.le_of_ble_eq_true rfl) rfl (Or.inl ew_621) (cShC_0 hs).1 (cShC_0 hs).2.1 (rShC_0_7 hs) ?_
  refine ea_getI (pc := 11) dX11_takenLetter_11 ec_1 (k := 0) (Nat.le_of_ble_eq_true rfl) rfl (Or.inl ew_442) (cShC_52 hs).1 (cShC_52 hs).2.1 ?_
  refine ea_icmp_ge (pc := 14) (tgt := 44) dX11_takenLetter_14 rfl (fun c4 => ?_) (fun c4 => ?_)
  · have E := (if_pos c4).symm.trans E
    refine ea_iconst (pc := 44) dX11_takenLetter_44 (v := (-1)) rfl ?_
    exact ea_iretO (pc := 45) dX11_takenLetter_45 rfl rfl E
  · have E := (if_neg c4).symm.trans E
    obtain ⟨w1, Ew1, E⟩ := bd_some E
    have hsw1 : ShC w1.2 := ShC_core ((kpX11_isTaken _ _ _) _ Ew1) hs
    refine ea_aload_n (pc := 17) dX11_takenLetter_17 rfl 0 rfl ?_
    refine ea_iload (pc := 18) dX11_takenLetter_18 4 rfl ?_
    refine ea_iload_n (pc := 20) dX11_takenLetter_20 rfl 1 rfl ?_
    refine ea_callV (pc := 21) (d' := d - 1) (As := [vI x4, vI x1]) (st := []) dX11_takenLetter_21 kX11_isTaken (sX11_isTaken (d := d - 1) (by omega) hs Ew1) (by omega) rfl (Nat.le_of_ble_eq_true rfl) ew_1317 ew_1319 ew_48 (ci := 11) rfl (by decide) (cShC_0 hs).1 (cShC_0 hs).2.1 ?_
    refine ea_if_eq (pc := 24) (tgt := 38) dX11_takenLetter_24 rfl (fun c3 => ?_) (fun c3 => ?_)
    · have E := (if_pos c3).symm.trans E
      refine ea_iinc (pc := 38) (v := 1) (lv' := [(0, vR (some 0)), (1, vI x1), (2, vI x2), (3, vI x3), (4, vI (x4 + (1 : Int32)))]) dX11_takenLetter_38 4 rfl rfl (Nat.le_of_ble_eq_true rfl) [1, 2, 3, 4, 0] rfl ?_
      refine ea_goto (pc := 41) (tgt := 5) dX11_takenLetter_41 rfl ?_
      exact (kJ5 (x1 : Int32) (x2 : Int32) (x3 : Int32) ((x4 + (1 : Int32)) : Int32) w1.2 _ _ E hsw1)
    · have E := (if_neg c3).symm.trans E
      refine ea_iload_n (pc := 27) dX11_takenLetter_27 rfl 3 rfl ?_
      refine ea_iload_n (pc := 28) dX11_takenLetter_28 rfl 2 rfl ?_
      refine ea_icmp_ne (pc := 29) (tgt := 35) dX11_takenLetter_29 rfl (fun c2 => ?_) (fun c2 => ?_)
      · have E := (if_neg c2).symm.trans E
        refine ea_iinc (pc := 35) (v := 1) (lv' := [(0, vR (some 0)), (1, vI x1), (2, vI x2), (3, vI (x3 + (1 : Int32))), (4, vI x4)]) dX11_takenLetter_35 3 rfl rfl (Nat.le_of_ble_eq_true rfl) [1, 2, 3, 0, 4] rfl ?_
        refine ea_iinc (pc := 38) (v := 1) (lv' := [(0, vR (some 0)), (1, vI x1), (2, vI x2), (3, vI (x3 + (1 : Int32))), (4, vI (x4 + (1 : Int32)))]) dX11_takenLetter_38 4 rfl rfl (Nat.le_of_ble_eq_true rfl) [1, 2, 3, 4, 0] rfl ?_
        refine ea_goto (pc := 41) (tgt := 5) dX11_takenLetter_41 rfl ?_
        exact (kJ5 (x1 : Int32) (x2 : Int32) ((x3 + (1 : Int32)) : Int32) ((x4 + (1 : Int32)) : Int32) w1.2 _ _ E hsw1)
      · have E := (if_pos c2).symm.trans E
        refine ea_iload (pc := 32) dX11_takenLetter_32 4 rfl ?_
        exact ea_iretO (pc := 34) dX11_takenLetter_34 rfl rfl E
theorem kBX11_takenLetter_5 {J5 : Int32 → Int32 → Int32 → Int32 → ea_H → Option (Int32 × ea_H)}  (cJ5 : ∀ (x1 : Int32) (x2 : Int32) (x3 : Int32) (x4 : Int32) (h : ea_H), kp (ea_core h) (J5 x1 x2 x3 x4 h)) {x1 : Int32} {x2 : Int32} {x3 : Int32} {x4 : Int32} {h : ea_H} : kp (ea_core h) (BX11_takenLetter_5 J5 x1 x2 x3 x4 h) :=
  (kp_ite (kp_ret rfl) (kp_bind (kp_tw (kpX11_isTaken _ _ _) rfl) fun w1 hcw1 => (kp_ite (kp_tw (cJ5 _ _ _ _ _) hcw1) (kp_ite (kp_ret hcw1) (kp_tw (cJ5 _ _ _ _ _) hcw1)))))
theorem lBX11_takenLetter_5 {J5 : Int32 → Int32 → Int32 → Int32 → ea_H → Option (Int32 × ea_H)} {J5_ : Int32 → Int32 → Int32 → Int32 → ea_H → Option (Int32 × ea_H)}  (mJ5 : ∀ (x1 : Int32) (x2 : Int32) (x3 : Int32) (x4 : Int32) (h : ea_H), fle (J5 x1 x2 x3 x4 h) (J5_ x1 x2 x3 x4 h)) {x1 : Int32} {x2 : Int32} {x3 : Int32} {x4 : Int32} {h : ea_H} : fle (BX11_takenLetter_5 J5 x1 x2 x3 x4 h) (BX11_takenLetter_5 J5_ x1 x2 x3 x4 h) :=
  (fle_ite (fle_rfl _) (fle_bind (fle_rfl _) fun _ => (fle_ite (mJ5 _ _ _ _ _) (fle_ite (fle_rfl _) (mJ5 _ _ _ _ _)))))
theorem nBX11_takenLetter_5 {J5 : Int32 → Int32 → Int32 → Int32 → ea_H → Option (Int32 × ea_H)} {J5_ : Nat → (Int32 → Int32 → Int32 → Int32 → ea_H → Option (Int32 × ea_H))}  (mJ5 : ∀ (x1 : Int32) (x2 : Int32) (x3 : Int32) (x4 : Int32) (h : ea_H), fct (J5 x1 x2 x3 x4 h) (fun f => J5_ f x1 x2 x3 x4 h)) {x1 : Int32} {x2 : Int32} {x3 : Int32} {x4 : Int32} {h : ea_H} : fct (BX11_takenLetter_5 J5 x1 x2 x3 x4 h) (fun f => BX11_takenLetter_5 (J5_ f) x1 x2 x3 x4 h) :=
  (fct_ite (fct_rfl _) (fct_bind (fct_rfl _) fun _ => (fct_ite (mJ5 _ _ _ _ _) (fct_ite (fct_rfl _) (mJ5 _ _ _ _ _)))))
noncomputable def gX11_takenLetter : Nat → (Int32 → Int32 → ea_H → Option (Int32 × ea_H)) × (Int32 → Int32 → Int32 → Int32 → ea_H → Option (Int32 × ea_H))
  | 0 => (fun _ _ _ => none, fun _ _ _ _ _ => none)
  | f + 1 => (BX11_takenLetter_0 (gX11_takenLetter f).2, BX11_takenLetter_5 (gX11_takenLetter f).2)
theorem mgX11_takenLetter : ∀ f : Nat, (∀ (x1 : Int32) (x2 : Int32) (h : ea_H), fle ((gX11_takenLetter f).1 x1 x2 h) ((gX11_takenLetter (f + 1)).1 x1 x2 h)) ∧ (∀ (x1 : Int32) (x2 : Int32) (x3 : Int32) (x4 : Int32) (h : ea_H), fle ((gX11_takenLetter f).2 x1 x2 x3 x4 h) ((gX11_takenLetter (f + 1)).2 x1 x2 x3 x4 h)) := by
  intro f
  induction f with
  | zero => exact ⟨fun _ _ _ => fle_none _, fun _ _ _ _ _ => fle_none _⟩
  | succ f ih => exact ⟨fun _ _ _ => lBX11_takenLetter_0 ih.2, fun _ _ _ _ _ => lBX11_takenLetter_5 ih.2⟩
noncomputable def qX11_takenLetter_0 (x1 : Int32) (x2 : Int32) (h : ea_H) : Option (Int32 × ea_H) := flim fun f => (gX11_takenLetter f).1 x1 x2 h
noncomputable def qX11_takenLetter_5 (x1 : Int32) (x2 : Int32) (x3 : Int32) (x4 : Int32) (h : ea_H) : Option (Int32 × ea_H) := flim fun f => (gX11_takenLetter f).2 x1 x2 x3 x4 h
theorem fqX11_takenLetter_0 (x1 : Int32) (x2 : Int32) (h : ea_H) : fct (qX11_takenLetter_0 x1 x2 h) fun f => (gX11_takenLetter f).1 x1 x2 h := flim_ct fun f => (mgX11_takenLetter f).1 x1 x2 h
theorem fqX11_takenLetter_5 (x1 : Int32) (x2 : Int32) (x3 : Int32) (x4 : Int32) (h : ea_H) : fct (qX11_takenLetter_5 x1 x2 x3 x4 h) fun f => (gX11_takenLetter f).2 x1 x2 x3 x4 h := flim_ct fun f => (mgX11_takenLetter f).2 x1 x2 x3 x4 h
/-- how a block opens -/
theorem uqX11_takenLetter_0 {x1 : Int32} {x2 : Int32} {h : ea_H} {P : Int32 × ea_H → Prop} (H : sat (BX11_takenLetter_0 qX11_takenLetter_5 x1 x2 h) P) : sat (qX11_takenLetter_0 x1 x2 h) P := by
  obtain ⟨x, e, hp⟩ := H
  obtain ⟨n, hn⟩ := nBX11_takenLetter_0 fqX11_takenLetter_5 x e
  exact ⟨x, flim_at (fun f => (mgX11_takenLetter f).1 x1 x2 h) (f := n + 1) (hn n (Nat.le_refl _)), hp⟩
/-- how a block opens -/
theorem uqX11_takenLetter_5 {x1 : Int32} {x2 : Int32} {x3 : Int32} {x4 : Int32} {h : ea_H} {P : Int32 × ea_H → Prop} (H : sat (BX11_takenLetter_5 qX11_takenLetter_5 x1 x2 x3 x4 h) P) : sat (qX11_takenLetter_5 x1 x2 x3 x4 h) P := by
  obtain ⟨x, e, hp⟩ := H
  obtain ⟨n, hn⟩ := nBX11_takenLetter_5 fqX11_takenLetter_5 x e
  exact ⟨x, flim_at (fun f => (mgX11_takenLetter f).2 x1 x2 x3 x4 h) (f := n + 1) (hn n (Nat.le_refl _)), hp⟩
theorem kgX11_takenLetter : ∀ f : Nat, (∀ (x1 : Int32) (x2 : Int32) (h : ea_H), kp (ea_core h) ((gX11_takenLetter f).1 x1 x2 h)) ∧ (∀ (x1 : Int32) (x2 : Int32) (x3 : Int32) (x4 : Int32) (h : ea_H), kp (ea_core h) ((gX11_takenLetter f).2 x1 x2 x3 x4 h)) := by
  intro f
  induction f with
  | zero => exact ⟨fun _ _ _ => kp_none _, fun _ _ _ _ _ => kp_none _⟩
  | succ f ih => exact ⟨fun _ _ _ => kBX11_takenLetter_0 ih.2, fun _ _ _ _ _ => kBX11_takenLetter_5 ih.2⟩
theorem tgX11_takenLetter {d : Nat} {h0 : ea_H} (hd : 2 ≤ d) : ∀ f : Nat, (∀ (x1 : Int32) (x2 : Int32) (h : ea_H) (r : Int32) (h' : ea_H), (gX11_takenLetter f).1 x1 x2 h = some (r, h') → ShC h → ea_W mX11_takenLetter d h0 (some (vI r)) h' 0 [(0, vR (some 0)), (1, vI x1), (2, vI x2)] [] h) ∧ (∀ (x1 : Int32) (x2 : Int32) (x3 : Int32) (x4 : Int32) (h : ea_H) (r : Int32) (h' : ea_H), (gX11_takenLetter f).2 x1 x2 x3 x4 h = some (r, h') → ShC h → ea_W mX11_takenLetter d h0 (some (vI r)) h' 5 [(0, vR (some 0)), (1, vI x1), (2, vI x2), (3, vI x3), (4, vI x4)] [] h) := by
  intro f
  induction f with
  | zero => exact ⟨fun _ _ _ _ _ E => no_some E, fun _ _ _ _ _ _ _ E => no_some E⟩
  | succ f ih => exact ⟨fun _ _ _ _ _ E hs => tBX11_takenLetter_0 hd ih.2 E hs, fun _ _ _ _ _ _ _ E hs => tBX11_takenLetter_5 hd ih.2 E hs⟩
noncomputable def qX11_takenLetter (x1 : Int32) (x2 : Int32) (h : ea_H) : Option (Int32 × ea_H) := qX11_takenLetter_0 x1 x2 h
theorem sX11_takenLetter {d : Nat} {x1 : Int32} {x2 : Int32} {h : ea_H} {r : Int32} {h' : ea_H} (hd : 2 ≤ d) (hs : ShC h) (K : qX11_takenLetter x1 x2 h = some (r, h')) : ea_Met mX11_takenLetter d [vR (some 0), vI x1, vI x2] h (some (vI r)) h' := by
  unfold qX11_takenLetter at K
  obtain ⟨n, hn⟩ := fqX11_takenLetter_0 x1 x2 h _ K
  have W := (tgX11_takenLetter (d := d) (h0 := h) hd n).1 x1 x2 h _ _ (hn n (Nat.le_refl _)) hs
  exact ea_enter rfl (Nat.le_of_ble_eq_true rfl) W
theorem kpX11_takenLetter (x1 : Int32) (x2 : Int32) (h : ea_H) : kp (ea_core h) (qX11_takenLetter x1 x2 h) := fun x e => by
  obtain ⟨n, hn⟩ := fqX11_takenLetter_0 x1 x2 h x e
  exact (kgX11_takenLetter n).1 x1 x2 h x (hn n (Nat.le_refl _))
noncomputable def BX0_init_0 (a0 : Nat) (h : ea_H) : Option (Unit × ea_H) :=
  (ea_let (ea_new h 20 24 24) fun H1 => (gd ((a0 < ea_n H1 ∧ ea_c H1 a0 = 0)) (ea_let (ea_wr H1 a0 9 (some (ea_n h))) fun H3 => (ea_let (ea_new H3 20 24 24) fun H4 => (gd ((a0 < ea_n H4 ∧ ea_c H4 a0 = 0)) (ea_let (ea_wr H4 a0 10 (some (ea_n H3))) fun H6 => (some ((), H6))))))))
theorem tBX0_init_0 {d : Nat} {a0 : Nat} {h0 : ea_H} (hd : 2 ≤ d)  {h : ea_H} {r : Unit} {h' : ea_H} (E : BX0_init_0 a0 h = some (r, h')) : ea_W mX0_init d h0 none h' 0 [(0, vR (some a0))] [] h := by
  unfold BX0_init_0 at E
  obtain ⟨H1, eH1, E⟩ := let_some E
  refine ea_aload_n (pc := 0) dX0_init_0 rfl 0 rfl ?_
  refine ea_objInit (pc := 1) dX0_init_1 ew_334 ew_141 ew_142 (by omega) (Nat.le_of_ble_eq_true rfl) ?_
  refine ea_aload_n (pc := 4) dX0_init_4 rfl 0 rfl ?_
  refine ea_bipush (pc := 5) dX0_init_5 (v := 24) rfl ?_
  refine ea_newI (pc := 7) (N := 24) dX0_init_7 ew_177 (by decide) rfl (Nat.le_of_ble_eq_true rfl) ?_
  refine ea_nm eH1 ?_
  obtain ⟨f2, E⟩ := gd_some E
  obtain ⟨H3, eH3, E⟩ := let_some E
  refine ea_putR (pc := 9) dX0_init_9 ec_0 (k := 9) (Nat.le_of_ble_eq_true rfl) rfl (Or.inr ⟨rfl, rfl, rfl, ew_367⟩) f2.1 f2.2 ?_
  refine ea_nm eH3 ?_
  obtain ⟨H4, eH4, E⟩ := let_some E
  refine ea_aload_n (pc := 12) dX0_init_12 rfl 0 rfl ?_
  refine ea_bipush (pc := 13) dX0_init_13 (v := 24) rfl ?_
  refine ea_newI (pc := 15) (N := 24) dX0_init_15 ew_177 (by decide) rfl (Nat.le_of_ble_eq_true rfl) ?_
  refine ea_nm eH4 ?_
  obtain ⟨f5, E⟩ := gd_some E
  obtain ⟨H6, eH6, E⟩ := let_some E
  refine ea_putR (pc := 17) dX0_init_17 ec_0 (k := 10) (Nat.le_of_ble_eq_true rfl) rfl (Or.inr ⟨rfl, rfl, rfl, ew_370⟩) f5.1 f5.2 ?_
  refine ea_nm eH6 ?_
  exact ea_vretO (pc := 20) dX0_init_20 rfl E
noncomputable def qX0_init (a0 : Nat) (h : ea_H) : Option (Unit × ea_H) := BX0_init_0 a0 h
theorem sX0_init {d : Nat} {a0 : Nat} {h : ea_H} {r : Unit} {h' : ea_H} (hd : 2 ≤ d) (K : qX0_init a0 h = some (r, h')) : ea_Met mX0_init d [vR (some a0)] h none h' := by
  unfold qX0_init at K
  have W := tBX0_init_0 hd (h0 := h) K
  exact ea_enter rfl (Nat.le_of_ble_eq_true rfl) W
noncomputable def BX0_begin_0 (a0 : Nat) (x1 : Int32) (h : ea_H) : Option (Unit × ea_H) :=
  (gd ((a0 < ea_n h ∧ ea_c h a0 = 0)) (ea_let (ea_wi h a0 0 x1) fun H2 => (gd ((a0 < ea_n H2 ∧ ea_c H2 a0 = 0)) (ea_let (ea_wi H2 a0 1 0) fun H4 => (gd ((a0 < ea_n H4 ∧ ea_c H4 a0 = 0)) (ea_let (ea_wi H4 a0 2 0) fun H6 => (gd ((a0 < ea_n H6 ∧ ea_c H6 a0 = 0)) (ea_let (ea_wi H6 a0 3 1439) fun H8 => (gd ((a0 < ea_n H8 ∧ ea_c H8 a0 = 0)) (ea_let (ea_wi H8 a0 4 0) fun H10 => (gd ((a0 < ea_n H10 ∧ ea_c H10 a0 = 0)) (ea_let (ea_wi H10 a0 5 0) fun H12 => (gd ((a0 < ea_n H12 ∧ ea_c H12 a0 = 0)) (ea_let (ea_wi H12 a0 6 0) fun H14 => (gd ((a0 < ea_n H14 ∧ ea_c H14 a0 = 0)) (ea_let (ea_wi H14 a0 7 3) fun H16 => (gd ((a0 < ea_n H16 ∧ ea_c H16 a0 = 0)) (ea_let (ea_wi H16 a0 8 0) fun H18 => (some ((), H18))))))))))))))))))))
theorem tBX0_begin_0 {d : Nat} {a0 : Nat} {h0 : ea_H} (hd : 1 ≤ d)  {x1 : Int32} {h : ea_H} {r : Unit} {h' : ea_H} (E : BX0_begin_0 a0 x1 h = some (r, h')) : ea_W mX0_begin d h0 none h' 0 [(0, vR (some a0)), (1, vI x1)] [] h := by
  unfold BX0_begin_0 at E
  obtain ⟨f1, E⟩ := gd_some E
  refine ea_aload_n (pc := 0) dX0_begin_0 rfl 0 rfl ?_
  refine ea_iload_n (pc := 1) dX0_begin_1 rfl 1 rfl ?_
  obtain ⟨H2, eH2, E⟩ := let_some E
  refine ea_putI (pc := 2) dX0_begin_2 ec_0 (k := 0) (Nat.le_of_ble_eq_true rfl) rfl (Or.inl ⟨rfl, Or.inl ew_335⟩) rfl rfl f1.1 f1.2 ?_
  refine ea_nm eH2 ?_
  obtain ⟨f3, E⟩ := gd_some E
  refine ea_aload_n (pc := 5) dX0_begin_5 rfl 0 rfl ?_
  refine ea_iconst (pc := 6) dX0_begin_6 (v := 0) rfl ?_
  obtain ⟨H4, eH4, E⟩ := let_some E
  refine ea_putI (pc := 7) dX0_begin_7 ec_0 (k := 1) (Nat.le_of_ble_eq_true rfl) rfl (Or.inl ⟨rfl, Or.inl ew_337⟩) rfl rfl f3.1 f3.2 ?_
  refine ea_nm eH4 ?_
  obtain ⟨f5, E⟩ := gd_some E
  refine ea_aload_n (pc := 10) dX0_begin_10 rfl 0 rfl ?_
  refine ea_iconst (pc := 11) dX0_begin_11 (v := 0) rfl ?_
  obtain ⟨H6, eH6, E⟩ := let_some E
  refine ea_putI (pc := 12) dX0_begin_12 ec_0 (k := 2) (Nat.le_of_ble_eq_true rfl) rfl (Or.inl ⟨rfl, Or.inl ew_340⟩) rfl rfl f5.1 f5.2 ?_
  refine ea_nm eH6 ?_
  obtain ⟨f7, E⟩ := gd_some E
  refine ea_aload_n (pc := 15) dX0_begin_15 rfl 0 rfl ?_
  refine ea_sipush (pc := 16) dX0_begin_16 (v := 1439) rfl ?_
  obtain ⟨H8, eH8, E⟩ := let_some E
  refine ea_putI (pc := 19) dX0_begin_19 ec_0 (k := 3) (Nat.le_of_ble_eq_true rfl) rfl (Or.inl ⟨rfl, Or.inl ew_344⟩) rfl rfl f7.1 f7.2 ?_
  refine ea_nm eH8 ?_
  obtain ⟨f9, E⟩ := gd_some E
  refine ea_aload_n (pc := 22) dX0_begin_22 rfl 0 rfl ?_
  refine ea_iconst (pc := 23) dX0_begin_23 (v := 0) rfl ?_
  obtain ⟨H10, eH10, E⟩ := let_some E
  refine ea_putI (pc := 24) dX0_begin_24 ec_0 (k := 4) (Nat.le_of_ble_eq_true rfl) rfl (Or.inl ⟨rfl, Or.inl ew_348⟩) rfl rfl f9.1 f9.2 ?_
  refine ea_nm eH10 ?_
  obtain ⟨f11, E⟩ := gd_some E
  refine ea_aload_n (pc := 27) dX0_begin_27 rfl 0 rfl ?_
  refine ea_iconst (pc := 28) dX0_begin_28 (v := 0) rfl ?_
  obtain ⟨H12, eH12, E⟩ := let_some E
  refine ea_putI (pc := 29) dX0_begin_29 ec_0 (k := 5) (Nat.le_of_ble_eq_true rfl) rfl (Or.inl ⟨rfl, Or.inl ew_352⟩) rfl rfl f11.1 f11.2 ?_
  refine ea_nm eH12 ?_
  obtain ⟨f13, E⟩ := gd_some E
  refine ea_aload_n (pc := 32) dX0_begin_32 rfl 0 rfl ?_
  refine ea_iconst (pc := 33) dX0_begin_33 (v := 0) rfl ?_
  obtain ⟨H14, eH14, E⟩ := let_some E
  refine ea_putI (pc := 34) dX0_begin_34 ec_0 (k := 6) (Nat.le_of_ble_eq_true rfl) rfl (Or.inl ⟨rfl, Or.inl ew_356⟩) rfl rfl f13.1 f13.2 ?_
  refine ea_nm eH14 ?_
  obtain ⟨f15, E⟩ := gd_some E
  refine ea_aload_n (pc := 37) dX0_begin_37 rfl 0 rfl ?_
  refine ea_iconst (pc := 38) dX0_begin_38 (v := 3) rfl ?_
  obtain ⟨H16, eH16, E⟩ := let_some E
  refine ea_putI (pc := 39) dX0_begin_39 ec_0 (k := 7) (Nat.le_of_ble_eq_true rfl) rfl (Or.inl ⟨rfl, Or.inl ew_360⟩) rfl rfl f15.1 f15.2 ?_
  refine ea_nm eH16 ?_
  obtain ⟨f17, E⟩ := gd_some E
  refine ea_aload_n (pc := 42) dX0_begin_42 rfl 0 rfl ?_
  refine ea_iconst (pc := 43) dX0_begin_43 (v := 0) rfl ?_
  obtain ⟨H18, eH18, E⟩ := let_some E
  refine ea_putI (pc := 44) dX0_begin_44 ec_0 (k := 8) (Nat.le_of_ble_eq_true rfl) rfl (Or.inl ⟨rfl, Or.inl ew_364⟩) rfl rfl f17.1 f17.2 ?_
  refine ea_nm eH18 ?_
  exact ea_vretO (pc := 47) dX0_begin_47 rfl E
theorem kBX0_begin_0 {a0 : Nat}  {x1 : Int32} {h : ea_H} : kp (ea_core h) (BX0_begin_0 a0 x1 h) :=
  (kp_gd (kp_let (kp_gd (kp_let (kp_gd (kp_let (kp_gd (kp_let (kp_gd (kp_let (kp_gd (kp_let (kp_gd (kp_let (kp_gd (kp_let (kp_gd (kp_let (kp_ret rfl)))))))))))))))))))
noncomputable def qX0_begin (a0 : Nat) (x1 : Int32) (h : ea_H) : Option (Unit × ea_H) := BX0_begin_0 a0 x1 h
theorem sX0_begin {d : Nat} {a0 : Nat} {x1 : Int32} {h : ea_H} {r : Unit} {h' : ea_H} (hd : 1 ≤ d) (K : qX0_begin a0 x1 h = some (r, h')) : ea_Met mX0_begin d [vR (some a0), vI x1] h none h' := by
  unfold qX0_begin at K
  have W := tBX0_begin_0 hd (h0 := h) K
  exact ea_enter rfl (Nat.le_of_ble_eq_true rfl) W
theorem kpX0_begin (a0 : Nat) (x1 : Int32) (h : ea_H) : kp (ea_core h) (qX0_begin a0 x1 h) := kBX0_begin_0
noncomputable def BX1_init_0 (a0 : Nat) (r1 : Option Nat) (r2 : Option Nat) (r3 : Option Nat) (r4 : Option Nat) (r5 : Option Nat) (h : ea_H) : Option (Unit × ea_H) :=
  (ea_let (ea_new h 20 120 120) fun H1 => (gd ((a0 < ea_n H1 ∧ ea_c H1 a0 = 1)) (ea_let (ea_wr H1 a0 1 (some (ea_n h))) fun H3 => (ea_let (ea_new H3 20 120 120) fun H4 => (gd ((a0 < ea_n H4 ∧ ea_c H4 a0 = 1)) (ea_let (ea_wr H4 a0 2 (some (ea_n H3))) fun H6 => (ea_let (ea_new H6 20 120 120) fun H7 => (gd ((a0 < ea_n H7 ∧ ea_c H7 a0 = 1)) (ea_let (ea_wr H7 a0 3 (some (ea_n H6))) fun H9 => (ea_let (ea_new H9 20 120 120) fun H10 => (gd ((a0 < ea_n H10 ∧ ea_c H10 a0 = 1)) (ea_let (ea_wr H10 a0 4 (some (ea_n H9))) fun H12 => (ea_let (ea_new H12 21 120 120) fun H13 => (gd ((a0 < ea_n H13 ∧ ea_c H13 a0 = 1)) (ea_let (ea_wr H13 a0 5 (some (ea_n H12))) fun H15 => (ea_let (ea_new H15 20 70 70) fun H16 => (gd ((a0 < ea_n H16 ∧ ea_c H16 a0 = 1)) (ea_let (ea_wr H16 a0 6 (some (ea_n H15))) fun H18 => (ea_let (ea_new H18 20 120 120) fun H19 => (gd ((a0 < ea_n H19 ∧ ea_c H19 a0 = 1)) (ea_let (ea_wr H19 a0 7 (some (ea_n H18))) fun H21 => (ea_let (ea_new H21 20 12 12) fun H22 => (gd ((a0 < ea_n H22 ∧ ea_c H22 a0 = 1)) (ea_let (ea_wr H22 a0 8 (some (ea_n H21))) fun H24 => (ea_let (ea_new H24 20 70 70) fun H25 => (gd ((a0 < ea_n H25 ∧ ea_c H25 a0 = 1)) (ea_let (ea_wr H25 a0 9 (some (ea_n H24))) fun H27 => (gd ((a0 < ea_n H27 ∧ ea_c H27 a0 = 1)) (ea_let (ea_wr H27 a0 11 r1) fun H29 => (gd ((a0 < ea_n H29 ∧ ea_c H29 a0 = 1)) (ea_let (ea_wr H29 a0 12 r2) fun H31 => (gd ((a0 < ea_n H31 ∧ ea_c H31 a0 = 1)) (ea_let (ea_wr H31 a0 13 r3) fun H33 => (gd ((a0 < ea_n H33 ∧ ea_c H33 a0 = 1)) (ea_let (ea_wr H33 a0 14 r4) fun H35 => (gd ((a0 < ea_n H35 ∧ ea_c H35 a0 = 1)) (ea_let (ea_wr H35 a0 15 r5) fun H37 => (some ((), H37)))))))))))))))))))))))))))))))))))))))
theorem tBX1_init_0 {d : Nat} {a0 : Nat} {h0 : ea_H} (hd : 2 ≤ d)  {r1 : Option Nat} {r2 : Option Nat} {r3 : Option Nat} {r4 : Option Nat} {r5 : Option Nat} {h : ea_H} {r : Unit} {h' : ea_H} (E : BX1_init_0 a0 r1 r2 r3 r4 r5 h = some (r, h')) : ea_W mX1_init d h0 none h' 0 [(0, vR (some a0)), (1, vR r1), (2, vR r2), (3, vR r3), (4, vR r4), (5, vR r5)] [] h := by
  unfold BX1_init_0 at E
  obtain ⟨H1, eH1, E⟩ := let_some E
  refine ea_aload_n (pc := 0) dX1_init_0 rfl 0 rfl ?_
  refine ea_objInit (pc := 1) dX1_init_1 ew_440 ew_141 ew_142 (by omega) (Nat.le_of_ble_eq_true rfl) ?_
  refine ea_aload_n (pc := 4) dX1_init_4 rfl 0 rfl ?_
  refine ea_bipush (pc := 5) dX1_init_5 (v := 120) rfl ?_
  refine ea_newI (pc := 7) (N := 120) dX1_init_7 ew_177 (by decide) rfl (Nat.le_of_ble_eq_true rfl) ?_
  refine ea_nm eH1 ?_
  obtain ⟨f2, E⟩ := gd_some E
  obtain ⟨H3, eH3, E⟩ := let_some E
  refine ea_putR (pc := 9) dX1_init_9 ec_1 (k := 1) (Nat.le_of_ble_eq_true rfl) rfl (Or.inr ⟨rfl, rfl, rfl, ew_443⟩) f2.1 f2.2 ?_
  refine ea_nm eH3 ?_
  obtain ⟨H4, eH4, E⟩ := let_some E
  refine ea_aload_n (pc := 12) dX1_init_12 rfl 0 rfl ?_
  refine ea_bipush (pc := 13) dX1_init_13 (v := 120) rfl ?_
  refine ea_newI (pc := 15) (N := 120) dX1_init_15 ew_177 (by decide) rfl (Nat.le_of_ble_eq_true rfl) ?_
  refine ea_nm eH4 ?_
  obtain ⟨f5, E⟩ := gd_some E
  obtain ⟨H6, eH6, E⟩ := let_some E
  refine ea_putR (pc := 17) dX1_init_17 ec_1 (k := 2) (Nat.le_of_ble_eq_true rfl) rfl (Or.inr ⟨rfl, rfl, rfl, ew_445⟩) f5.1 f5.2 ?_
  refine ea_nm eH6 ?_
  obtain ⟨H7, eH7, E⟩ := let_some E
  refine ea_aload_n (pc := 20) dX1_init_20 rfl 0 rfl ?_
  refine ea_bipush (pc := 21) dX1_init_21 (v := 120) rfl ?_
  refine ea_newI (pc := 23) (N := 120) dX1_init_23 ew_177 (by decide) rfl (Nat.le_of_ble_eq_true rfl) ?_
  refine ea_nm eH7 ?_
  obtain ⟨f8, E⟩ := gd_some E
  obtain ⟨H9, eH9, E⟩ := let_some E
  refine ea_putR (pc := 25) dX1_init_25 ec_1 (k := 3) (Nat.le_of_ble_eq_true rfl) rfl (Or.inr ⟨rfl, rfl, rfl, ew_447⟩) f8.1 f8.2 ?_
  refine ea_nm eH9 ?_
  obtain ⟨H10, eH10, E⟩ := let_some E
  refine ea_aload_n (pc := 28) dX1_init_28 rfl 0 rfl ?_
  refine ea_bipush (pc := 29) dX1_init_29 (v := 120) rfl ?_
  refine ea_newI (pc := 31) (N := 120) dX1_init_31 ew_177 (by decide) rfl (Nat.le_of_ble_eq_true rfl) ?_
  refine ea_nm eH10 ?_
  obtain ⟨f11, E⟩ := gd_some E
  obtain ⟨H12, eH12, E⟩ := let_some E
  refine ea_putR (pc := 33) dX1_init_33 ec_1 (k := 4) (Nat.le_of_ble_eq_true rfl) rfl (Or.inr ⟨rfl, rfl, rfl, ew_449⟩) f11.1 f11.2 ?_
  refine ea_nm eH12 ?_
  obtain ⟨H13, eH13, E⟩ := let_some E
  refine ea_aload_n (pc := 36) dX1_init_36 rfl 0 rfl ?_
  refine ea_bipush (pc := 37) dX1_init_37 (v := 120) rfl ?_
  refine ea_newZ (pc := 39) (N := 120) dX1_init_39 ew_225 (by decide) rfl (Nat.le_of_ble_eq_true rfl) ?_
  refine ea_nm eH13 ?_
  obtain ⟨f14, E⟩ := gd_some E
  obtain ⟨H15, eH15, E⟩ := let_some E
  refine ea_putR (pc := 41) dX1_init_41 ec_1 (k := 5) (Nat.le_of_ble_eq_true rfl) rfl (Or.inr ⟨rfl, rfl, rfl, ew_451⟩) f14.1 f14.2 ?_
  refine ea_nm eH15 ?_
  obtain ⟨H16, eH16, E⟩ := let_some E
  refine ea_aload_n (pc := 44) dX1_init_44 rfl 0 rfl ?_
  refine ea_bipush (pc := 45) dX1_init_45 (v := 70) rfl ?_
  refine ea_newI (pc := 47) (N := 70) dX1_init_47 ew_177 (by decide) rfl (Nat.le_of_ble_eq_true rfl) ?_
  refine ea_nm eH16 ?_
  obtain ⟨f17, E⟩ := gd_some E
  obtain ⟨H18, eH18, E⟩ := let_some E
  refine ea_putR (pc := 49) dX1_init_49 ec_1 (k := 6) (Nat.le_of_ble_eq_true rfl) rfl (Or.inr ⟨rfl, rfl, rfl, ew_453⟩) f17.1 f17.2 ?_
  refine ea_nm eH18 ?_
  obtain ⟨H19, eH19, E⟩ := let_some E
  refine ea_aload_n (pc := 52) dX1_init_52 rfl 0 rfl ?_
  refine ea_bipush (pc := 53) dX1_init_53 (v := 120) rfl ?_
  refine ea_newI (pc := 55) (N := 120) dX1_init_55 ew_177 (by decide) rfl (Nat.le_of_ble_eq_true rfl) ?_
  refine ea_nm eH19 ?_
  obtain ⟨f20, E⟩ := gd_some E
  obtain ⟨H21, eH21, E⟩ := let_some E
  refine ea_putR (pc := 57) dX1_init_57 ec_1 (k := 7) (Nat.le_of_ble_eq_true rfl) rfl (Or.inr ⟨rfl, rfl, rfl, ew_455⟩) f20.1 f20.2 ?_
  refine ea_nm eH21 ?_
  obtain ⟨H22, eH22, E⟩ := let_some E
  refine ea_aload_n (pc := 60) dX1_init_60 rfl 0 rfl ?_
  refine ea_bipush (pc := 61) dX1_init_61 (v := 12) rfl ?_
  refine ea_newI (pc := 63) (N := 12) dX1_init_63 ew_177 (by decide) rfl (Nat.le_of_ble_eq_true rfl) ?_
  refine ea_nm eH22 ?_
  obtain ⟨f23, E⟩ := gd_some E
  obtain ⟨H24, eH24, E⟩ := let_some E
  refine ea_putR (pc := 65) dX1_init_65 ec_1 (k := 8) (Nat.le_of_ble_eq_true rfl) rfl (Or.inr ⟨rfl, rfl, rfl, ew_456⟩) f23.1 f23.2 ?_
  refine ea_nm eH24 ?_
  obtain ⟨H25, eH25, E⟩ := let_some E
  refine ea_aload_n (pc := 68) dX1_init_68 rfl 0 rfl ?_
  refine ea_bipush (pc := 69) dX1_init_69 (v := 70) rfl ?_
  refine ea_newI (pc := 71) (N := 70) dX1_init_71 ew_177 (by decide) rfl (Nat.le_of_ble_eq_true rfl) ?_
  refine ea_nm eH25 ?_
  obtain ⟨f26, E⟩ := gd_some E
  obtain ⟨H27, eH27, E⟩ := let_some E
  refine ea_putR (pc := 73) dX1_init_73 ec_1 (k := 9) (Nat.le_of_ble_eq_true rfl) rfl (Or.inr ⟨rfl, rfl, rfl, ew_457⟩) f26.1 f26.2 ?_
  refine ea_nm eH27 ?_
  obtain ⟨f28, E⟩ := gd_some E
  refine ea_aload_n (pc := 76) dX1_init_76 rfl 0 rfl ?_
  refine ea_aload_n (pc := 77) dX1_init_77 rfl 1 rfl ?_
  obtain ⟨H29, eH29, E⟩ := let_some E
  refine ea_putR (pc := 78) dX1_init_78 ec_1 (k := 11) (Nat.le_of_ble_eq_true rfl) rfl (Or.inr ⟨rfl, rfl, rfl, ew_459⟩) f28.1 f28.2 ?_
  refine ea_nm eH29 ?_
  obtain ⟨f30, E⟩ := gd_some E
  refine ea_aload_n (pc := 81) dX1_init_81 rfl 0 rfl ?_
  refine ea_aload_n (pc := 82) dX1_init_82 rfl 2 rfl ?_
  obtain ⟨H31, eH31, E⟩ := let_some E
  refine ea_putR (pc := 83) dX1_init_83 ec_1 (k := 12) (Nat.le_of_ble_eq_true rfl) rfl (Or.inr ⟨rfl, rfl, rfl, ew_460⟩) f30.1 f30.2 ?_
  refine ea_nm eH31 ?_
  obtain ⟨f32, E⟩ := gd_some E
  refine ea_aload_n (pc := 86) dX1_init_86 rfl 0 rfl ?_
  refine ea_aload_n (pc := 87) dX1_init_87 rfl 3 rfl ?_
  obtain ⟨H33, eH33, E⟩ := let_some E
  refine ea_putR (pc := 88) dX1_init_88 ec_1 (k := 13) (Nat.le_of_ble_eq_true rfl) rfl (Or.inr ⟨rfl, rfl, rfl, ew_461⟩) f32.1 f32.2 ?_
  refine ea_nm eH33 ?_
  obtain ⟨f34, E⟩ := gd_some E
  refine ea_aload_n (pc := 91) dX1_init_91 rfl 0 rfl ?_
  refine ea_aload (pc := 92) dX1_init_92 4 rfl ?_
  obtain ⟨H35, eH35, E⟩ := let_some E
  refine ea_putR (pc := 94) dX1_init_94 ec_1 (k := 14) (Nat.le_of_ble_eq_true rfl) rfl (Or.inr ⟨rfl, rfl, rfl, ew_462⟩) f34.1 f34.2 ?_
  refine ea_nm eH35 ?_
  obtain ⟨f36, E⟩ := gd_some E
  refine ea_aload_n (pc := 97) dX1_init_97 rfl 0 rfl ?_
  refine ea_aload (pc := 98) dX1_init_98 5 rfl ?_
  obtain ⟨H37, eH37, E⟩ := let_some E
  refine ea_putR (pc := 100) dX1_init_100 ec_1 (k := 15) (Nat.le_of_ble_eq_true rfl) rfl (Or.inr ⟨rfl, rfl, rfl, ew_463⟩) f36.1 f36.2 ?_
  refine ea_nm eH37 ?_
  exact ea_vretO (pc := 103) dX1_init_103 rfl E
noncomputable def qX1_init (a0 : Nat) (r1 : Option Nat) (r2 : Option Nat) (r3 : Option Nat) (r4 : Option Nat) (r5 : Option Nat) (h : ea_H) : Option (Unit × ea_H) := BX1_init_0 a0 r1 r2 r3 r4 r5 h
theorem sX1_init {d : Nat} {a0 : Nat} {r1 : Option Nat} {r2 : Option Nat} {r3 : Option Nat} {r4 : Option Nat} {r5 : Option Nat} {h : ea_H} {r : Unit} {h' : ea_H} (hd : 2 ≤ d) (K : qX1_init a0 r1 r2 r3 r4 r5 h = some (r, h')) : ea_Met mX1_init d [vR (some a0), vR r1, vR r2, vR r3, vR r4, vR r5] h none h' := by
  unfold qX1_init at K
  have W := tBX1_init_0 hd (h0 := h) K
  exact ea_enter rfl (Nat.le_of_ble_eq_true rfl) W
noncomputable def BX1_isAboard_at52_0 (x1 : Int32) (x2 : Int32) (h : ea_H) : Option (Int32 × ea_H) :=
  (gd (vp_in x1 120) (if (ea_i h 53 (Int32.toNatClampNeg x1)) = (1 : Int32) then (gd (vp_in x1 120) (if (ea_i h 54 (Int32.toNatClampNeg x1)) = x2 then (some ((1 : Int32), h)) else (some ((0 : Int32), h)))) else (some ((0 : Int32), h))))
theorem tBX1_isAboard_at52_0 {d : Nat} {h0 : ea_H} (hd : 1 ≤ d)  {x1 : Int32} {x2 : Int32} {h : ea_H} {r : Int32} {h' : ea_H} (E : BX1_isAboard_at52_0 x1 x2 h = some (r, h')) (hs : ShC h) : ea_W mX1_isAboard d h0 (some (vI r)) h' 0 [(0, vR (some 52)), (1, vI x1), (2, vI x2)] [] h := by
  unfold BX1_isAboard_at52_0 at E
  obtain ⟨z1, E⟩ := gd_some E
  refine ea_aload_n (pc := 0) dX1_isAboard_0 rfl 0 rfl ?_
  refine ea_getR (pc := 1) dX1_isAboard_1 ec_1 (k := 1) (Nat.le_of_ble_eq_true rfl) rfl (Or.inl ew_443) (cShC_52 hs).1 (cShC_52 hs).2.1 (rShC_52_1 hs) ?_
  refine ea_iload_n (pc := 4) dX1_isAboard_4 rfl 1 rfl ?_
  refine ea_iald (pc := 5) dX1_isAboard_5 (cShC_53 hs).1 (cShC_53 hs).2.1 (ea_vpl (cShC_53 hs).2.2 z1) ?_
  refine ea_iconst (pc := 6) dX1_isAboard_6 (v := 1) rfl ?_
  refine ea_icmp_ne (pc := 7) (tgt := 24) dX1_isAboard_7 rfl (fun c4 => ?_) (fun c4 => ?_)
  · have E := (if_neg c4).symm.trans E
    refine ea_iconst (pc := 24) dX1_isAboard_24 (v := 0) rfl ?_
    exact ea_iretO (pc := 25) dX1_isAboard_25 rfl (ea_bn (Or.inl rfl)) E
  · have E := (if_pos c4).symm.trans E
    obtain ⟨z2, E⟩ := gd_some E
    refine ea_aload_n (pc := 10) dX1_isAboard_10 rfl 0 rfl ?_
    refine ea_getR (pc := 11) dX1_isAboard_11 ec_1 (k := 2) (Nat.le_of_ble_eq_true rfl) rfl (Or.inl ew_445) (cShC_52 hs).1 (cShC_52 hs).2.1 (rShC_52_2 hs) ?_
    refine ea_iload_n (pc := 14) dX1_isAboard_14 rfl 1 rfl ?_
    refine ea_iald (pc := 15) dX1_isAboard_15 (cShC_54 hs).1 (cShC_54 hs).2.1 (ea_vpl (cShC_54 hs).2.2 z2) ?_
    refine ea_iload_n (pc := 16) dX1_isAboard_16 rfl 2 rfl ?_
    refine ea_icmp_ne (pc := 17) (tgt := 24) dX1_isAboard_17 rfl (fun c3 => ?_) (fun c3 => ?_)
    · have E := (if_neg c3).symm.trans E
      refine ea_iconst (pc := 24) dX1_isAboard_24 (v := 0) rfl ?_
      exact ea_iretO (pc := 25) dX1_isAboard_25 rfl (ea_bn (Or.inl rfl)) E
    · have E := (if_pos c3).symm.trans E
      refine ea_iconst (pc := 20) dX1_isAboard_20 (v := 1) rfl ?_
      refine ea_goto (pc := 21) (tgt := 25) dX1_isAboard_21 rfl ?_
      exact ea_iretO (pc := 25) dX1_isAboard_25 rfl (ea_bn (Or.inr rfl)) E
theorem kBX1_isAboard_at52_0  {x1 : Int32} {x2 : Int32} {h : ea_H} : kp (ea_core h) (BX1_isAboard_at52_0 x1 x2 h) :=
  (kp_gd (kp_ite (kp_gd (kp_ite (kp_ret rfl) (kp_ret rfl))) (kp_ret rfl)))
noncomputable def qX1_isAboard_at52 (x1 : Int32) (x2 : Int32) (h : ea_H) : Option (Int32 × ea_H) := BX1_isAboard_at52_0 x1 x2 h
theorem sX1_isAboard_at52 {d : Nat} {x1 : Int32} {x2 : Int32} {h : ea_H} {r : Int32} {h' : ea_H} (hd : 1 ≤ d) (hs : ShC h) (K : qX1_isAboard_at52 x1 x2 h = some (r, h')) : ea_Met mX1_isAboard d [vR (some 52), vI x1, vI x2] h (some (vI r)) h' := by
  unfold qX1_isAboard_at52 at K
  have W := tBX1_isAboard_at52_0 hd (h0 := h) K hs
  exact ea_enter rfl (Nat.le_of_ble_eq_true rfl) W
theorem kpX1_isAboard_at52 (x1 : Int32) (x2 : Int32) (h : ea_H) : kp (ea_core h) (qX1_isAboard_at52 x1 x2 h) := kBX1_isAboard_at52_0
noncomputable def BX1_isAboard_at62_0 (x1 : Int32) (x2 : Int32) (h : ea_H) : Option (Int32 × ea_H) :=
  (gd (vp_in x1 120) (if (ea_i h 63 (Int32.toNatClampNeg x1)) = (1 : Int32) then (gd (vp_in x1 120) (if (ea_i h 64 (Int32.toNatClampNeg x1)) = x2 then (some ((1 : Int32), h)) else (some ((0 : Int32), h)))) else (some ((0 : Int32), h))))
theorem tBX1_isAboard_at62_0 {d : Nat} {h0 : ea_H} (hd : 1 ≤ d)  {x1 : Int32} {x2 : Int32} {h : ea_H} {r : Int32} {h' : ea_H} (E : BX1_isAboard_at62_0 x1 x2 h = some (r, h')) (hs : ShC h) : ea_W mX1_isAboard d h0 (some (vI r)) h' 0 [(0, vR (some 62)), (1, vI x1), (2, vI x2)] [] h := by
  unfold BX1_isAboard_at62_0 at E
  obtain ⟨z1, E⟩ := gd_some E
  refine ea_aload_n (pc := 0) dX1_isAboard_0 rfl 0 rfl ?_
  refine ea_getR (pc := 1) dX1_isAboard_1 ec_1 (k := 1) (Nat.le_of_ble_eq_true rfl) rfl (Or.inl ew_443) (cShC_62 hs).1 (cShC_62 hs).2.1 (rShC_62_1 hs) ?_
  refine ea_iload_n (pc := 4) dX1_isAboard_4 rfl 1 rfl ?_
  refine ea_iald (pc := 5) dX1_isAboard_5 (cShC_63 hs).1 (cShC_63 hs).2.1 (ea_vpl (cShC_63 hs).2.2 z1) ?_
  refine ea_iconst (pc := 6) dX1_isAboard_6 (v := 1) rfl ?_
  refine ea_icmp_ne (pc := 7) (tgt := 24) dX1_isAboard_7 rfl (fun c4 => ?_) (fun c4 => ?_)
  · have E := (if_neg c4).symm.trans E
    refine ea_iconst (pc := 24) dX1_isAboard_24 (v := 0) rfl ?_
    exact ea_iretO (pc := 25) dX1_isAboard_25 rfl (ea_bn (Or.inl rfl)) E
  · have E := (if_pos c4).symm.trans E
    obtain ⟨z2, E⟩ := gd_some E
    refine ea_aload_n (pc := 10) dX1_isAboard_10 rfl 0 rfl ?_
    refine ea_getR (pc := 11) dX1_isAboard_11 ec_1 (k := 2) (Nat.le_of_ble_eq_true rfl) rfl (Or.inl ew_445) (cShC_62 hs).1 (cShC_62 hs).2.1 (rShC_62_2 hs) ?_
    refine ea_iload_n (pc := 14) dX1_isAboard_14 rfl 1 rfl ?_
    refine ea_iald (pc := 15) dX1_isAboard_15 (cShC_64 hs).1 (cShC_64 hs).2.1 (ea_vpl (cShC_64 hs).2.2 z2) ?_
    refine ea_iload_n (pc := 16) dX1_isAboard_16 rfl 2 rfl ?_
    refine ea_icmp_ne (pc := 17) (tgt := 24) dX1_isAboard_17 rfl (fun c3 => ?_) (fun c3 => ?_)
    · have E := (if_neg c3).symm.trans E
      refine ea_iconst (pc := 24) dX1_isAboard_24 (v := 0) rfl ?_
      exact ea_iretO (pc := 25) dX1_isAboard_25 rfl (ea_bn (Or.inl rfl)) E
    · have E := (if_pos c3).symm.trans E
      refine ea_iconst (pc := 20) dX1_isAboard_20 (v := 1) rfl ?_
      refine ea_goto (pc := 21) (tgt := 25) dX1_isAboard_21 rfl ?_
      exact ea_iretO (pc := 25) dX1_isAboard_25 rfl (ea_bn (Or.inr rfl)) E
theorem kBX1_isAboard_at62_0  {x1 : Int32} {x2 : Int32} {h : ea_H} : kp (ea_core h) (BX1_isAboard_at62_0 x1 x2 h) :=
  (kp_gd (kp_ite (kp_gd (kp_ite (kp_ret rfl) (kp_ret rfl))) (kp_ret rfl)))
noncomputable def qX1_isAboard_at62 (x1 : Int32) (x2 : Int32) (h : ea_H) : Option (Int32 × ea_H) := BX1_isAboard_at62_0 x1 x2 h
theorem sX1_isAboard_at62 {d : Nat} {x1 : Int32} {x2 : Int32} {h : ea_H} {r : Int32} {h' : ea_H} (hd : 1 ≤ d) (hs : ShC h) (K : qX1_isAboard_at62 x1 x2 h = some (r, h')) : ea_Met mX1_isAboard d [vR (some 62), vI x1, vI x2] h (some (vI r)) h' := by
  unfold qX1_isAboard_at62 at K
  have W := tBX1_isAboard_at62_0 hd (h0 := h) K hs
  exact ea_enter rfl (Nat.le_of_ble_eq_true rfl) W
theorem kpX1_isAboard_at62 (x1 : Int32) (x2 : Int32) (h : ea_H) : kp (ea_core h) (qX1_isAboard_at62 x1 x2 h) := kBX1_isAboard_at62_0
noncomputable def BX1_inState_at52_0 (J4 : Int32 → Int32 → Int32 → ea_H → Option (Int32 × ea_H)) (x1 : Int32) (h : ea_H) : Option (Int32 × ea_H) :=
  (J4 (x1 : Int32) (0 : Int32) (0 : Int32) h)
theorem tBX1_inState_at52_0 {d : Nat} {h0 : ea_H} (hd : 1 ≤ d) {J4 : Int32 → Int32 → Int32 → ea_H → Option (Int32 × ea_H)}  (kJ4 : ∀ (x1 : Int32) (x2 : Int32) (x3 : Int32) (h : ea_H) (r : Int32) (h' : ea_H), J4 x1 x2 x3 h = some (r, h') → ShC h → ea_W mX1_inState d h0 (some (vI r)) h' 4 [(0, vR (some 52)), (1, vI x1), (2, vI x2), (3, vI x3)] [] h) {x1 : Int32} {h : ea_H} {r : Int32} {h' : ea_H} (E : BX1_inState_at52_0 J4 x1 h = some (r, h')) (hs : ShC h) : ea_W mX1_inState d h0 (some (vI r)) h' 0 [(0, vR (some 52)), (1, vI x1)] [] h := by
  unfold BX1_inState_at52_0 at E
  refine ea_iconst (pc := 0) dX1_inState_0 (v := 0) rfl ?_
  refine ea_istore_n (pc := 1) (lv' := [(0, vR (some 52)), (1, vI x1), (2, vI 0)]) dX1_inState_1 rfl (Nat.le_of_ble_eq_true rfl) [1, 2, 0] rfl ?_
  refine ea_iconst (pc := 2) dX1_inState_2 (v := 0) rfl ?_
  refine ea_istore_n (pc := 3) (lv' := [(0, vR (some 52)), (1, vI x1), (2, vI 0), (3, vI 0)]) dX1_inState_3 rfl (Nat.le_of_ble_eq_true rfl) [1, 2, 3, 0] rfl ?_
  exact (kJ4 (x1 : Int32) (0 : Int32) (0 : Int32) h _ _ E hs)
theorem kBX1_inState_at52_0 {J4 : Int32 → Int32 → Int32 → ea_H → Option (Int32 × ea_H)}  (cJ4 : ∀ (x1 : Int32) (x2 : Int32) (x3 : Int32) (h : ea_H), kp (ea_core h) (J4 x1 x2 x3 h)) {x1 : Int32} {h : ea_H} : kp (ea_core h) (BX1_inState_at52_0 J4 x1 h) :=
  (kp_tw (cJ4 _ _ _ _) rfl)
theorem lBX1_inState_at52_0 {J4 : Int32 → Int32 → Int32 → ea_H → Option (Int32 × ea_H)} {J4_ : Int32 → Int32 → Int32 → ea_H → Option (Int32 × ea_H)}  (mJ4 : ∀ (x1 : Int32) (x2 : Int32) (x3 : Int32) (h : ea_H), fle (J4 x1 x2 x3 h) (J4_ x1 x2 x3 h)) {x1 : Int32} {h : ea_H} : fle (BX1_inState_at52_0 J4 x1 h) (BX1_inState_at52_0 J4_ x1 h) :=
  (mJ4 _ _ _ _)
theorem nBX1_inState_at52_0 {J4 : Int32 → Int32 → Int32 → ea_H → Option (Int32 × ea_H)} {J4_ : Nat → (Int32 → Int32 → Int32 → ea_H → Option (Int32 × ea_H))}  (mJ4 : ∀ (x1 : Int32) (x2 : Int32) (x3 : Int32) (h : ea_H), fct (J4 x1 x2 x3 h) (fun f => J4_ f x1 x2 x3 h)) {x1 : Int32} {h : ea_H} : fct (BX1_inState_at52_0 J4 x1 h) (fun f => BX1_inState_at52_0 (J4_ f) x1 h) :=
  (mJ4 _ _ _ _)
noncomputable def BX1_inState_at52_4 (J4 : Int32 → Int32 → Int32 → ea_H → Option (Int32 × ea_H)) (x1 : Int32) (x2 : Int32) (x3 : Int32) (h : ea_H) : Option (Int32 × ea_H) :=
  (if (ea_i h 52 0) ≤ x3 then (some (x2, h)) else (gd (vp_in x3 120) (if (ea_i h 53 (Int32.toNatClampNeg x3)) = x1 then (J4 (x1 : Int32) ((x2 + (1 : Int32)) : Int32) ((x3 + (1 : Int32)) : Int32) h) else (J4 (x1 : Int32) (x2 : Int32) ((x3 + (1 : Int32)) : Int32) h))))
theorem tBX1_inState_at52_4 {d : Nat} {h0 : ea_H} (hd : 1 ≤ d) {J4 : Int32 → Int32 → Int32 → ea_H → Option (Int32 × ea_H)}  (kJ4 : ∀ (x1 : Int32) (x2 : Int32) (x3 : Int32) (h : ea_H) (r : Int32) (h' : ea_H), J4 x1 x2 x3 h = some (r, h') → ShC h → ea_W mX1_inState d h0 (some (vI r)) h' 4 [(0, vR (some 52)), (1, vI x1), (2, vI x2), (3, vI x3)] [] h) {x1 : Int32} {x2 : Int32} {x3 : Int32} {h : ea_H} {r : Int32} {h' : ea_H} (E : BX1_inState_at52_4 J4 x1 x2 x3 h = some (r, h')) (hs : ShC h) : ea_W mX1_inState d h0 (some (vI r)) h' 4 [(0, vR (some 52)), (1, vI x1), (2, vI x2), (3, vI x3)] [] h := by
  unfold BX1_inState_at52_4 at E
  refine ea_iload_n (pc := 4) dX1_inState_4 rfl 3 rfl ?_
  refine ea_aload_n (pc := 5) dX1_inState_5 rfl 0 rfl ?_
  refine ea_getI (pc := 6) dX1_inState_6 ec_1 (k := 0) (Nat.le_of_ble_eq_true rfl) rfl (Or.inl ew_441) (cShC_52 hs).1 (cShC_52 hs).2.1 ?_
  refine ea_icmp_ge (pc := 9) (tgt := 31) dX1_inState_9 rfl (fun c3 => ?_) (fun c3 => ?_)
  · have E := (if_pos c3).symm.trans E
    refine ea_iload_n (pc := 31) dX1_inState_31 rfl 2 rfl ?_
    exact ea_iretO (pc := 32) dX1_inState_32 rfl rfl E
  · have E := (if_neg c3).symm.trans E
    obtain ⟨z1, E⟩ := gd_some E
    refine ea_aload_n (pc := 12) dX1_inState_12 rfl 0 rfl ?_
    refine ea_getR (pc := 13) dX1_inState_13 ec_1 (k := 1) (Nat.le_of_ble_eq_true rfl) rfl (Or.inl ew_443) (cShC_52 hs).1 (cShC_52 hs).2.1 (rShC_52_1 hs) ?_
    refine ea_iload_n (pc := 16) dX1_inState_16 rfl 3 rfl ?_
    refine ea_iald (pc := 17) dX1_inState_17 (cShC_53 hs).1 (cShC_53 hs).2.1 (ea_vpl (cShC_53 hs).2.2 z1) ?_
    refine ea_iload_n (pc := 18) dX1_inState_18 rfl 1 rfl ?_
    refine ea_icmp_ne (pc := 19) (tgt := 25) dX1_inState_19 rfl (fun c2 => ?_) (fun c2 => ?_)
    · have E := (if_neg c2).symm.trans E
      refine ea_iinc (pc := 25) (v := 1) (lv' := [(0, vR (some 52)), (1, vI x1), (2, vI x2), (3, vI (x3 + (1 : Int32)))]) dX1_inState_25 3 rfl rfl (Nat.le_of_ble_eq_true rfl) [1, 2, 3, 0] rfl ?_
      refine ea_goto (pc := 28) (tgt := 4) dX1_inState_28 rfl ?_
      exact (kJ4 (x1 : Int32) (x2 : Int32) ((x3 + (1 : Int32)) : Int32) h _ _ E hs)
    · have E := (if_pos c2).symm.trans E
      refine ea_iinc (pc := 22) (v := 1) (lv' := [(0, vR (some 52)), (1, vI x1), (2, vI (x2 + (1 : Int32))), (3, vI x3)]) dX1_inState_22 2 rfl rfl (Nat.le_of_ble_eq_true rfl) [1, 2, 0, 3] rfl ?_
      refine ea_iinc (pc := 25) (v := 1) (lv' := [(0, vR (some 52)), (1, vI x1), (2, vI (x2 + (1 : Int32))), (3, vI (x3 + (1 : Int32)))]) dX1_inState_25 3 rfl rfl (Nat.le_of_ble_eq_true rfl) [1, 2, 3, 0] rfl ?_
      refine ea_goto (pc := 28) (tgt := 4) dX1_inState_28 rfl ?_
      exact (kJ4 (x1 : Int32) ((x2 + (1 : Int32)) : Int32) ((x3 + (1 : Int32)) : Int32) h _ _ E hs)
theorem kBX1_inState_at52_4 {J4 : Int32 → Int32 → Int32 → ea_H → Option (Int32 × ea_H)}  (cJ4 : ∀ (x1 : Int32) (x2 : Int32) (x3 : Int32) (h : ea_H), kp (ea_core h) (J4 x1 x2 x3 h)) {x1 : Int32} {x2 : Int32} {x3 : Int32} {h : ea_H} : kp (ea_core h) (BX1_inState_at52_4 J4 x1 x2 x3 h) :=
  (kp_ite (kp_ret rfl) (kp_gd (kp_ite (kp_tw (cJ4 _ _ _ _) rfl) (kp_tw (cJ4 _ _ _ _) rfl))))
theorem lBX1_inState_at52_4 {J4 : Int32 → Int32 → Int32 → ea_H → Option (Int32 × ea_H)} {J4_ : Int32 → Int32 → Int32 → ea_H → Option (Int32 × ea_H)}  (mJ4 : ∀ (x1 : Int32) (x2 : Int32) (x3 : Int32) (h : ea_H), fle (J4 x1 x2 x3 h) (J4_ x1 x2 x3 h)) {x1 : Int32} {x2 : Int32} {x3 : Int32} {h : ea_H} : fle (BX1_inState_at52_4 J4 x1 x2 x3 h) (BX1_inState_at52_4 J4_ x1 x2 x3 h) :=
  (fle_ite (fle_rfl _) (fle_gd (fle_ite (mJ4 _ _ _ _) (mJ4 _ _ _ _))))
theorem nBX1_inState_at52_4 {J4 : Int32 → Int32 → Int32 → ea_H → Option (Int32 × ea_H)} {J4_ : Nat → (Int32 → Int32 → Int32 → ea_H → Option (Int32 × ea_H))}  (mJ4 : ∀ (x1 : Int32) (x2 : Int32) (x3 : Int32) (h : ea_H), fct (J4 x1 x2 x3 h) (fun f => J4_ f x1 x2 x3 h)) {x1 : Int32} {x2 : Int32} {x3 : Int32} {h : ea_H} : fct (BX1_inState_at52_4 J4 x1 x2 x3 h) (fun f => BX1_inState_at52_4 (J4_ f) x1 x2 x3 h) :=
  (fct_ite (fct_rfl _) (fct_gd (fct_ite (mJ4 _ _ _ _) (mJ4 _ _ _ _))))
noncomputable def gX1_inState_at52 : Nat → (Int32 → ea_H → Option (Int32 × ea_H)) × (Int32 → Int32 → Int32 → ea_H → Option (Int32 × ea_H))
  | 0 => (fun _ _ => none, fun _ _ _ _ => none)
  | f + 1 => (BX1_inState_at52_0 (gX1_inState_at52 f).2, BX1_inState_at52_4 (gX1_inState_at52 f).2)
theorem mgX1_inState_at52 : ∀ f : Nat, (∀ (x1 : Int32) (h : ea_H), fle ((gX1_inState_at52 f).1 x1 h) ((gX1_inState_at52 (f + 1)).1 x1 h)) ∧ (∀ (x1 : Int32) (x2 : Int32) (x3 : Int32) (h : ea_H), fle ((gX1_inState_at52 f).2 x1 x2 x3 h) ((gX1_inState_at52 (f + 1)).2 x1 x2 x3 h)) := by
  intro f
  induction f with
  | zero => exact ⟨fun _ _ => fle_none _, fun _ _ _ _ => fle_none _⟩
  | succ f ih => exact ⟨fun _ _ => lBX1_inState_at52_0 ih.2, fun _ _ _ _ => lBX1_inState_at52_4 ih.2⟩
noncomputable def qX1_inState_at52_0 (x1 : Int32) (h : ea_H) : Option (Int32 × ea_H) := flim fun f => (gX1_inState_at52 f).1 x1 h
noncomputable def qX1_inState_at52_4 (x1 : Int32) (x2 : Int32) (x3 : Int32) (h : ea_H) : Option (Int32 × ea_H) := flim fun f => (gX1_inState_at52 f).2 x1 x2 x3 h
theorem fqX1_inState_at52_0 (x1 : Int32) (h : ea_H) : fct (qX1_inState_at52_0 x1 h) fun f => (gX1_inState_at52 f).1 x1 h := flim_ct fun f => (mgX1_inState_at52 f).1 x1 h
theorem fqX1_inState_at52_4 (x1 : Int32) (x2 : Int32) (x3 : Int32) (h : ea_H) : fct (qX1_inState_at52_4 x1 x2 x3 h) fun f => (gX1_inState_at52 f).2 x1 x2 x3 h := flim_ct fun f => (mgX1_inState_at52 f).2 x1 x2 x3 h
/-- how a block opens -/
theorem uqX1_inState_at52_0 {x1 : Int32} {h : ea_H} {P : Int32 × ea_H → Prop} (H : sat (BX1_inState_at52_0 qX1_inState_at52_4 x1 h) P) : sat (qX1_inState_at52_0 x1 h) P := by
  obtain ⟨x, e, hp⟩ := H
  obtain ⟨n, hn⟩ := nBX1_inState_at52_0 fqX1_inState_at52_4 x e
  exact ⟨x, flim_at (fun f => (mgX1_inState_at52 f).1 x1 h) (f := n + 1) (hn n (Nat.le_refl _)), hp⟩
/-- how a block opens -/
theorem uqX1_inState_at52_4 {x1 : Int32} {x2 : Int32} {x3 : Int32} {h : ea_H} {P : Int32 × ea_H → Prop} (H : sat (BX1_inState_at52_4 qX1_inState_at52_4 x1 x2 x3 h) P) : sat (qX1_inState_at52_4 x1 x2 x3 h) P := by
  obtain ⟨x, e, hp⟩ := H
  obtain ⟨n, hn⟩ := nBX1_inState_at52_4 fqX1_inState_at52_4 x e
  exact ⟨x, flim_at (fun f => (mgX1_inState_at52 f).2 x1 x2 x3 h) (f := n + 1) (hn n (Nat.le_refl _)), hp⟩
theorem kgX1_inState_at52 : ∀ f : Nat, (∀ (x1 : Int32) (h : ea_H), kp (ea_core h) ((gX1_inState_at52 f).1 x1 h)) ∧ (∀ (x1 : Int32) (x2 : Int32) (x3 : Int32) (h : ea_H), kp (ea_core h) ((gX1_inState_at52 f).2 x1 x2 x3 h)) := by
  intro f
  induction f with
  | zero => exact ⟨fun _ _ => kp_none _, fun _ _ _ _ => kp_none _⟩
  | succ f ih => exact ⟨fun _ _ => kBX1_inState_at52_0 ih.2, fun _ _ _ _ => kBX1_inState_at52_4 ih.2⟩
theorem tgX1_inState_at52 {d : Nat} {h0 : ea_H} (hd : 1 ≤ d) : ∀ f : Nat, (∀ (x1 : Int32) (h : ea_H) (r : Int32) (h' : ea_H), (gX1_inState_at52 f).1 x1 h = some (r, h') → ShC h → ea_W mX1_inState d h0 (some (vI r)) h' 0 [(0, vR (some 52)), (1, vI x1)] [] h) ∧ (∀ (x1 : Int32) (x2 : Int32) (x3 : Int32) (h : ea_H) (r : Int32) (h' : ea_H), (gX1_inState_at52 f).2 x1 x2 x3 h = some (r, h') → ShC h → ea_W mX1_inState d h0 (some (vI r)) h' 4 [(0, vR (some 52)), (1, vI x1), (2, vI x2), (3, vI x3)] [] h) := by
  intro f
  induction f with
  | zero => exact ⟨fun _ _ _ _ E => no_some E, fun _ _ _ _ _ _ E => no_some E⟩
  | succ f ih => exact ⟨fun _ _ _ _ E hs => tBX1_inState_at52_0 hd ih.2 E hs, fun _ _ _ _ _ _ E hs => tBX1_inState_at52_4 hd ih.2 E hs⟩
noncomputable def qX1_inState_at52 (x1 : Int32) (h : ea_H) : Option (Int32 × ea_H) := qX1_inState_at52_0 x1 h
theorem sX1_inState_at52 {d : Nat} {x1 : Int32} {h : ea_H} {r : Int32} {h' : ea_H} (hd : 1 ≤ d) (hs : ShC h) (K : qX1_inState_at52 x1 h = some (r, h')) : ea_Met mX1_inState d [vR (some 52), vI x1] h (some (vI r)) h' := by
  unfold qX1_inState_at52 at K
  obtain ⟨n, hn⟩ := fqX1_inState_at52_0 x1 h _ K
  have W := (tgX1_inState_at52 (d := d) (h0 := h) hd n).1 x1 h _ _ (hn n (Nat.le_refl _)) hs
  exact ea_enter rfl (Nat.le_of_ble_eq_true rfl) W
theorem kpX1_inState_at52 (x1 : Int32) (h : ea_H) : kp (ea_core h) (qX1_inState_at52 x1 h) := fun x e => by
  obtain ⟨n, hn⟩ := fqX1_inState_at52_0 x1 h x e
  exact (kgX1_inState_at52 n).1 x1 h x (hn n (Nat.le_refl _))
noncomputable def BX1_inState_at62_0 (J4 : Int32 → Int32 → Int32 → ea_H → Option (Int32 × ea_H)) (x1 : Int32) (h : ea_H) : Option (Int32 × ea_H) :=
  (J4 (x1 : Int32) (0 : Int32) (0 : Int32) h)
theorem tBX1_inState_at62_0 {d : Nat} {h0 : ea_H} (hd : 1 ≤ d) {J4 : Int32 → Int32 → Int32 → ea_H → Option (Int32 × ea_H)}  (kJ4 : ∀ (x1 : Int32) (x2 : Int32) (x3 : Int32) (h : ea_H) (r : Int32) (h' : ea_H), J4 x1 x2 x3 h = some (r, h') → ShC h → ea_W mX1_inState d h0 (some (vI r)) h' 4 [(0, vR (some 62)), (1, vI x1), (2, vI x2), (3, vI x3)] [] h) {x1 : Int32} {h : ea_H} {r : Int32} {h' : ea_H} (E : BX1_inState_at62_0 J4 x1 h = some (r, h')) (hs : ShC h) : ea_W mX1_inState d h0 (some (vI r)) h' 0 [(0, vR (some 62)), (1, vI x1)] [] h := by
  unfold BX1_inState_at62_0 at E
  refine ea_iconst (pc := 0) dX1_inState_0 (v := 0) rfl ?_
  refine ea_istore_n (pc := 1) (lv' := [(0, vR (some 62)), (1, vI x1), (2, vI 0)]) dX1_inState_1 rfl (Nat.le_of_ble_eq_true rfl) [1, 2, 0] rfl ?_
  refine ea_iconst (pc := 2) dX1_inState_2 (v := 0) rfl ?_
  refine ea_istore_n (pc := 3) (lv' := [(0, vR (some 62)), (1, vI x1), (2, vI 0), (3, vI 0)]) dX1_inState_3 rfl (Nat.le_of_ble_eq_true rfl) [1, 2, 3, 0] rfl ?_
  exact (kJ4 (x1 : Int32) (0 : Int32) (0 : Int32) h _ _ E hs)
theorem kBX1_inState_at62_0 {J4 : Int32 → Int32 → Int32 → ea_H → Option (Int32 × ea_H)}  (cJ4 : ∀ (x1 : Int32) (x2 : Int32) (x3 : Int32) (h : ea_H), kp (ea_core h) (J4 x1 x2 x3 h)) {x1 : Int32} {h : ea_H} : kp (ea_core h) (BX1_inState_at62_0 J4 x1 h) :=
  (kp_tw (cJ4 _ _ _ _) rfl)
theorem lBX1_inState_at62_0 {J4 : Int32 → Int32 → Int32 → ea_H → Option (Int32 × ea_H)} {J4_ : Int32 → Int32 → Int32 → ea_H → Option (Int32 × ea_H)}  (mJ4 : ∀ (x1 : Int32) (x2 : Int32) (x3 : Int32) (h : ea_H), fle (J4 x1 x2 x3 h) (J4_ x1 x2 x3 h)) {x1 : Int32} {h : ea_H} : fle (BX1_inState_at62_0 J4 x1 h) (BX1_inState_at62_0 J4_ x1 h) :=
  (mJ4 _ _ _ _)
theorem nBX1_inState_at62_0 {J4 : Int32 → Int32 → Int32 → ea_H → Option (Int32 × ea_H)} {J4_ : Nat → (Int32 → Int32 → Int32 → ea_H → Option (Int32 × ea_H))}  (mJ4 : ∀ (x1 : Int32) (x2 : Int32) (x3 : Int32) (h : ea_H), fct (J4 x1 x2 x3 h) (fun f => J4_ f x1 x2 x3 h)) {x1 : Int32} {h : ea_H} : fct (BX1_inState_at62_0 J4 x1 h) (fun f => BX1_inState_at62_0 (J4_ f) x1 h) :=
  (mJ4 _ _ _ _)
noncomputable def BX1_inState_at62_4 (J4 : Int32 → Int32 → Int32 → ea_H → Option (Int32 × ea_H)) (x1 : Int32) (x2 : Int32) (x3 : Int32) (h : ea_H) : Option (Int32 × ea_H) :=
  (if (ea_i h 62 0) ≤ x3 then (some (x2, h)) else (gd (vp_in x3 120) (if (ea_i h 63 (Int32.toNatClampNeg x3)) = x1 then (J4 (x1 : Int32) ((x2 + (1 : Int32)) : Int32) ((x3 + (1 : Int32)) : Int32) h) else (J4 (x1 : Int32) (x2 : Int32) ((x3 + (1 : Int32)) : Int32) h))))
theorem tBX1_inState_at62_4 {d : Nat} {h0 : ea_H} (hd : 1 ≤ d) {J4 : Int32 → Int32 → Int32 → ea_H → Option (Int32 × ea_H)}  (kJ4 : ∀ (x1 : Int32) (x2 : Int32) (x3 : Int32) (h : ea_H) (r : Int32) (h' : ea_H), J4 x1 x2 x3 h = some (r, h') → ShC h → ea_W mX1_inState d h0 (some (vI r)) h' 4 [(0, vR (some 62)), (1, vI x1), (2, vI x2), (3, vI x3)] [] h) {x1 : Int32} {x2 : Int32} {x3 : Int32} {h : ea_H} {r : Int32} {h' : ea_H} (E : BX1_inState_at62_4 J4 x1 x2 x3 h = some (r, h')) (hs : ShC h) : ea_W mX1_inState d h0 (some (vI r)) h' 4 [(0, vR (some 62)), (1, vI x1), (2, vI x2), (3, vI x3)] [] h := by
  unfold BX1_inState_at62_4 at E
  refine ea_iload_n (pc := 4) dX1_inState_4 rfl 3 rfl ?_
  refine ea_aload_n (pc := 5) dX1_inState_5 rfl 0 rfl ?_
  refine ea_getI (pc := 6) dX1_inState_6 ec_1 (k := 0) (Nat.le_of_ble_eq_true rfl) rfl (Or.inl ew_441) (cShC_62 hs).1 (cShC_62 hs).2.1 ?_
  refine ea_icmp_ge (pc := 9) (tgt := 31) dX1_inState_9 rfl (fun c3 => ?_) (fun c3 => ?_)
  · have E := (if_pos c3).symm.trans E
    refine ea_iload_n (pc := 31) dX1_inState_31 rfl 2 rfl ?_
    exact ea_iretO (pc := 32) dX1_inState_32 rfl rfl E
  · have E := (if_neg c3).symm.trans E
    obtain ⟨z1, E⟩ := gd_some E
    refine ea_aload_n (pc := 12) dX1_inState_12 rfl 0 rfl ?_
    refine ea_getR (pc := 13) dX1_inState_13 ec_1 (k := 1) (Nat.le_of_ble_eq_true rfl) rfl (Or.inl ew_443) (cShC_62 hs).1 (cShC_62 hs).2.1 (rShC_62_1 hs) ?_
    refine ea_iload_n (pc := 16) dX1_inState_16 rfl 3 rfl ?_
    refine ea_iald (pc := 17) dX1_inState_17 (cShC_63 hs).1 (cShC_63 hs).2.1 (ea_vpl (cShC_63 hs).2.2 z1) ?_
    refine ea_iload_n (pc := 18) dX1_inState_18 rfl 1 rfl ?_
    refine ea_icmp_ne (pc := 19) (tgt := 25) dX1_inState_19 rfl (fun c2 => ?_) (fun c2 => ?_)
    · have E := (if_neg c2).symm.trans E
      refine ea_iinc (pc := 25) (v := 1) (lv' := [(0, vR (some 62)), (1, vI x1), (2, vI x2), (3, vI (x3 + (1 : Int32)))]) dX1_inState_25 3 rfl rfl (Nat.le_of_ble_eq_true rfl) [1, 2, 3, 0] rfl ?_
      refine ea_goto (pc := 28) (tgt := 4) dX1_inState_28 rfl ?_
      exact (kJ4 (x1 : Int32) (x2 : Int32) ((x3 + (1 : Int32)) : Int32) h _ _ E hs)
    · have E := (if_pos c2).symm.trans E
      refine ea_iinc (pc := 22) (v := 1) (lv' := [(0, vR (some 62)), (1, vI x1), (2, vI (x2 + (1 : Int32))), (3, vI x3)]) dX1_inState_22 2 rfl rfl (Nat.le_of_ble_eq_true rfl) [1, 2, 0, 3] rfl ?_
      refine ea_iinc (pc := 25) (v := 1) (lv' := [(0, vR (some 62)), (1, vI x1), (2, vI (x2 + (1 : Int32))), (3, vI (x3 + (1 : Int32)))]) dX1_inState_25 3 rfl rfl (Nat.le_of_ble_eq_true rfl) [1, 2, 3, 0] rfl ?_
      refine ea_goto (pc := 28) (tgt := 4) dX1_inState_28 rfl ?_
      exact (kJ4 (x1 : Int32) ((x2 + (1 : Int32)) : Int32) ((x3 + (1 : Int32)) : Int32) h _ _ E hs)
theorem kBX1_inState_at62_4 {J4 : Int32 → Int32 → Int32 → ea_H → Option (Int32 × ea_H)}  (cJ4 : ∀ (x1 : Int32) (x2 : Int32) (x3 : Int32) (h : ea_H), kp (ea_core h) (J4 x1 x2 x3 h)) {x1 : Int32} {x2 : Int32} {x3 : Int32} {h : ea_H} : kp (ea_core h) (BX1_inState_at62_4 J4 x1 x2 x3 h) :=
  (kp_ite (kp_ret rfl) (kp_gd (kp_ite (kp_tw (cJ4 _ _ _ _) rfl) (kp_tw (cJ4 _ _ _ _) rfl))))
theorem lBX1_inState_at62_4 {J4 : Int32 → Int32 → Int32 → ea_H → Option (Int32 × ea_H)} {J4_ : Int32 → Int32 → Int32 → ea_H → Option (Int32 × ea_H)}  (mJ4 : ∀ (x1 : Int32) (x2 : Int32) (x3 : Int32) (h : ea_H), fle (J4 x1 x2 x3 h) (J4_ x1 x2 x3 h)) {x1 : Int32} {x2 : Int32} {x3 : Int32} {h : ea_H} : fle (BX1_inState_at62_4 J4 x1 x2 x3 h) (BX1_inState_at62_4 J4_ x1 x2 x3 h) :=
  (fle_ite (fle_rfl _) (fle_gd (fle_ite (mJ4 _ _ _ _) (mJ4 _ _ _ _))))
theorem nBX1_inState_at62_4 {J4 : Int32 → Int32 → Int32 → ea_H → Option (Int32 × ea_H)} {J4_ : Nat → (Int32 → Int32 → Int32 → ea_H → Option (Int32 × ea_H))}  (mJ4 : ∀ (x1 : Int32) (x2 : Int32) (x3 : Int32) (h : ea_H), fct (J4 x1 x2 x3 h) (fun f => J4_ f x1 x2 x3 h)) {x1 : Int32} {x2 : Int32} {x3 : Int32} {h : ea_H} : fct (BX1_inState_at62_4 J4 x1 x2 x3 h) (fun f => BX1_inState_at62_4 (J4_ f) x1 x2 x3 h) :=
  (fct_ite (fct_rfl _) (fct_gd (fct_ite (mJ4 _ _ _ _) (mJ4 _ _ _ _))))
noncomputable def gX1_inState_at62 : Nat → (Int32 → ea_H → Option (Int32 × ea_H)) × (Int32 → Int32 → Int32 → ea_H → Option (Int32 × ea_H))
  | 0 => (fun _ _ => none, fun _ _ _ _ => none)
  | f + 1 => (BX1_inState_at62_0 (gX1_inState_at62 f).2, BX1_inState_at62_4 (gX1_inState_at62 f).2)
theorem mgX1_inState_at62 : ∀ f : Nat, (∀ (x1 : Int32) (h : ea_H), fle ((gX1_inState_at62 f).1 x1 h) ((gX1_inState_at62 (f + 1)).1 x1 h)) ∧ (∀ (x1 : Int32) (x2 : Int32) (x3 : Int32) (h : ea_H), fle ((gX1_inState_at62 f).2 x1 x2 x3 h) ((gX1_inState_at62 (f + 1)).2 x1 x2 x3 h)) := by
  intro f
  induction f with
  | zero => exact ⟨fun _ _ => fle_none _, fun _ _ _ _ => fle_none _⟩
  | succ f ih => exact ⟨fun _ _ => lBX1_inState_at62_0 ih.2, fun _ _ _ _ => lBX1_inState_at62_4 ih.2⟩
noncomputable def qX1_inState_at62_0 (x1 : Int32) (h : ea_H) : Option (Int32 × ea_H) := flim fun f => (gX1_inState_at62 f).1 x1 h
noncomputable def qX1_inState_at62_4 (x1 : Int32) (x2 : Int32) (x3 : Int32) (h : ea_H) : Option (Int32 × ea_H) := flim fun f => (gX1_inState_at62 f).2 x1 x2 x3 h
theorem fqX1_inState_at62_0 (x1 : Int32) (h : ea_H) : fct (qX1_inState_at62_0 x1 h) fun f => (gX1_inState_at62 f).1 x1 h := flim_ct fun f => (mgX1_inState_at62 f).1 x1 h
theorem fqX1_inState_at62_4 (x1 : Int32) (x2 : Int32) (x3 : Int32) (h : ea_H) : fct (qX1_inState_at62_4 x1 x2 x3 h) fun f => (gX1_inState_at62 f).2 x1 x2 x3 h := flim_ct fun f => (mgX1_inState_at62 f).2 x1 x2 x3 h
/-- how a block opens -/
theorem uqX1_inState_at62_0 {x1 : Int32} {h : ea_H} {P : Int32 × ea_H → Prop} (H : sat (BX1_inState_at62_0 qX1_inState_at62_4 x1 h) P) : sat (qX1_inState_at62_0 x1 h) P := by
  obtain ⟨x, e, hp⟩ := H
  obtain ⟨n, hn⟩ := nBX1_inState_at62_0 fqX1_inState_at62_4 x e
  exact ⟨x, flim_at (fun f => (mgX1_inState_at62 f).1 x1 h) (f := n + 1) (hn n (Nat.le_refl _)), hp⟩
/-- how a block opens -/
theorem uqX1_inState_at62_4 {x1 : Int32} {x2 : Int32} {x3 : Int32} {h : ea_H} {P : Int32 × ea_H → Prop} (H : sat (BX1_inState_at62_4 qX1_inState_at62_4 x1 x2 x3 h) P) : sat (qX1_inState_at62_4 x1 x2 x3 h) P := by
  obtain ⟨x, e, hp⟩ := H
  obtain ⟨n, hn⟩ := nBX1_inState_at62_4 fqX1_inState_at62_4 x e
  exact ⟨x, flim_at (fun f => (mgX1_inState_at62 f).2 x1 x2 x3 h) (f := n + 1) (hn n (Nat.le_refl _)), hp⟩
theorem kgX1_inState_at62 : ∀ f : Nat, (∀ (x1 : Int32) (h : ea_H), kp (ea_core h) ((gX1_inState_at62 f).1 x1 h)) ∧ (∀ (x1 : Int32) (x2 : Int32) (x3 : Int32) (h : ea_H), kp (ea_core h) ((gX1_inState_at62 f).2 x1 x2 x3 h)) := by
  intro f
  induction f with
  | zero => exact ⟨fun _ _ => kp_none _, fun _ _ _ _ => kp_none _⟩
  | succ f ih => exact ⟨fun _ _ => kBX1_inState_at62_0 ih.2, fun _ _ _ _ => kBX1_inState_at62_4 ih.2⟩
theorem tgX1_inState_at62 {d : Nat} {h0 : ea_H} (hd : 1 ≤ d) : ∀ f : Nat, (∀ (x1 : Int32) (h : ea_H) (r : Int32) (h' : ea_H), (gX1_inState_at62 f).1 x1 h = some (r, h') → ShC h → ea_W mX1_inState d h0 (some (vI r)) h' 0 [(0, vR (some 62)), (1, vI x1)] [] h) ∧ (∀ (x1 : Int32) (x2 : Int32) (x3 : Int32) (h : ea_H) (r : Int32) (h' : ea_H), (gX1_inState_at62 f).2 x1 x2 x3 h = some (r, h') → ShC h → ea_W mX1_inState d h0 (some (vI r)) h' 4 [(0, vR (some 62)), (1, vI x1), (2, vI x2), (3, vI x3)] [] h) := by
  intro f
  induction f with
  | zero => exact ⟨fun _ _ _ _ E => no_some E, fun _ _ _ _ _ _ E => no_some E⟩
  | succ f ih => exact ⟨fun _ _ _ _ E hs => tBX1_inState_at62_0 hd ih.2 E hs, fun _ _ _ _ _ _ E hs => tBX1_inState_at62_4 hd ih.2 E hs⟩
noncomputable def qX1_inState_at62 (x1 : Int32) (h : ea_H) : Option (Int32 × ea_H) := qX1_inState_at62_0 x1 h
theorem sX1_inState_at62 {d : Nat} {x1 : Int32} {h : ea_H} {r : Int32} {h' : ea_H} (hd : 1 ≤ d) (hs : ShC h) (K : qX1_inState_at62 x1 h = some (r, h')) : ea_Met mX1_inState d [vR (some 62), vI x1] h (some (vI r)) h' := by
  unfold qX1_inState_at62 at K
  obtain ⟨n, hn⟩ := fqX1_inState_at62_0 x1 h _ K
  have W := (tgX1_inState_at62 (d := d) (h0 := h) hd n).1 x1 h _ _ (hn n (Nat.le_refl _)) hs
  exact ea_enter rfl (Nat.le_of_ble_eq_true rfl) W
theorem kpX1_inState_at62 (x1 : Int32) (h : ea_H) : kp (ea_core h) (qX1_inState_at62 x1 h) := fun x e => by
  obtain ⟨n, hn⟩ := fqX1_inState_at62_0 x1 h x e
  exact (kgX1_inState_at62 n).1 x1 h x (hn n (Nat.le_refl _))
noncomputable def BX1_aboardOf_at52_0 (J5 : Int32 → Int32 → Int32 → Int32 → ea_H → Option (Int32 × ea_H)) (x1 : Int32) (x2 : Int32) (h : ea_H) : Option (Int32 × ea_H) :=
  (J5 (x1 : Int32) (x2 : Int32) (0 : Int32) (0 : Int32) h)
theorem tBX1_aboardOf_at52_0 {d : Nat} {h0 : ea_H} (hd : 2 ≤ d) {J5 : Int32 → Int32 → Int32 → Int32 → ea_H → Option (Int32 × ea_H)}  (kJ5 : ∀ (x1 : Int32) (x2 : Int32) (x3 : Int32) (x4 : Int32) (h : ea_H) (r : Int32) (h' : ea_H), J5 x1 x2 x3 x4 h = some (r, h') → ShC h → ea_W mX1_aboardOf d h0 (some (vI r)) h' 5 [(0, vR (some 52)), (1, vI x1), (2, vI x2), (3, vI x3), (4, vI x4)] [] h) {x1 : Int32} {x2 : Int32} {h : ea_H} {r : Int32} {h' : ea_H} (E : BX1_aboardOf_at52_0 J5 x1 x2 h = some (r, h')) (hs : ShC h) : ea_W mX1_aboardOf d h0 (some (vI r)) h' 0 [(0, vR (some 52)), (1, vI x1), (2, vI x2)] [] h := by
  unfold BX1_aboardOf_at52_0 at E
  refine ea_iconst (pc := 0) dX1_aboardOf_0 (v := 0) rfl ?_
  refine ea_istore_n (pc := 1) (lv' := [(0, vR (some 52)), (1, vI x1), (2, vI x2), (3, vI 0)]) dX1_aboardOf_1 rfl (Nat.le_of_ble_eq_true rfl) [1, 2, 3, 0] rfl ?_
  refine ea_iconst (pc := 2) dX1_aboardOf_2 (v := 0) rfl ?_
  refine ea_istore (pc := 3) (lv' := [(0, vR (some 52)), (1, vI x1), (2, vI x2), (3, vI 0), (4, vI 0)]) dX1_aboardOf_3 (Nat.le_of_ble_eq_true rfl) [1, 2, 3, 4, 0] rfl ?_
  exact (kJ5 (x1 : Int32) (x2 : Int32) (0 : Int32) (0 : Int32) h _ _ E hs)
theorem kBX1_aboardOf_at52_0 {J5 : Int32 → Int32 → Int32 → Int32 → ea_H → Option (Int32 × ea_H)}  (cJ5 : ∀ (x1 : Int32) (x2 : Int32) (x3 : Int32) (x4 : Int32) (h : ea_H), kp (ea_core h) (J5 x1 x2 x3 x4 h)) {x1 : Int32} {x2 : Int32} {h : ea_H} : kp (ea_core h) (BX1_aboardOf_at52_0 J5 x1 x2 h) :=
  (kp_tw (cJ5 _ _ _ _ _) rfl)
theorem lBX1_aboardOf_at52_0 {J5 : Int32 → Int32 → Int32 → Int32 → ea_H → Option (Int32 × ea_H)} {J5_ : Int32 → Int32 → Int32 → Int32 → ea_H → Option (Int32 × ea_H)}  (mJ5 : ∀ (x1 : Int32) (x2 : Int32) (x3 : Int32) (x4 : Int32) (h : ea_H), fle (J5 x1 x2 x3 x4 h) (J5_ x1 x2 x3 x4 h)) {x1 : Int32} {x2 : Int32} {h : ea_H} : fle (BX1_aboardOf_at52_0 J5 x1 x2 h) (BX1_aboardOf_at52_0 J5_ x1 x2 h) :=
  (mJ5 _ _ _ _ _)
theorem nBX1_aboardOf_at52_0 {J5 : Int32 → Int32 → Int32 → Int32 → ea_H → Option (Int32 × ea_H)} {J5_ : Nat → (Int32 → Int32 → Int32 → Int32 → ea_H → Option (Int32 × ea_H))}  (mJ5 : ∀ (x1 : Int32) (x2 : Int32) (x3 : Int32) (x4 : Int32) (h : ea_H), fct (J5 x1 x2 x3 x4 h) (fun f => J5_ f x1 x2 x3 x4 h)) {x1 : Int32} {x2 : Int32} {h : ea_H} : fct (BX1_aboardOf_at52_0 J5 x1 x2 h) (fun f => BX1_aboardOf_at52_0 (J5_ f) x1 x2 h) :=
  (mJ5 _ _ _ _ _)
noncomputable def BX1_aboardOf_at52_5 (J5 : Int32 → Int32 → Int32 → Int32 → ea_H → Option (Int32 × ea_H)) (x1 : Int32) (x2 : Int32) (x3 : Int32) (x4 : Int32) (h : ea_H) : Option (Int32 × ea_H) :=
  (if (ea_i h 52 0) ≤ x4 then (some (x3, h)) else (Option.bind (qX1_isAboard_at52 (x4 : Int32) (x1 : Int32) h) fun w1 => (if w1.1 = (0 : Int32) then (J5 (x1 : Int32) (x2 : Int32) (x3 : Int32) ((x4 + (1 : Int32)) : Int32) w1.2) else (gd (vp_in x4 120) (if (ea_i w1.2 57 (Int32.toNatClampNeg x4)) = x2 then (J5 (x1 : Int32) (x2 : Int32) ((x3 + (1 : Int32)) : Int32) ((x4 + (1 : Int32)) : Int32) w1.2) else (J5 (x1 : Int32) (x2 : Int32) (x3 : Int32) ((x4 + (1 : Int32)) : Int32) w1.2))))))
theorem tBX1_aboardOf_at52_5 {d : Nat} {h0 : ea_H} (hd : 2 ≤ d) {J5 : Int32 → Int32 → Int32 → Int32 → ea_H → Option (Int32 × ea_H)}  (kJ5 : ∀ (x1 : Int32) (x2 : Int32) (x3 : Int32) (x4 : Int32) (h : ea_H) (r : Int32) (h' : ea_H), J5 x1 x2 x3 x4 h = some (r, h') → ShC h → ea_W mX1_aboardOf d h0 (some (vI r)) h' 5 [(0, vR (some 52)), (1, vI x1), (2, vI x2), (3, vI x3), (4, vI x4)] [] h) {x1 : Int32} {x2 : Int32} {x3 : Int32} {x4 : Int32} {h : ea_H} {r : Int32} {h' : ea_H} (E : BX1_aboardOf_at52_5 J5 x1 x2 x3 x4 h = some (r, h')) (hs : ShC h) : ea_W mX1_aboardOf d h0 (some (vI r)) h' 5 [(0, vR (some 52)), (1, vI x1), (2, vI x2), (3, vI x3), (4, vI x4)] [] h := by
  unfold BX1_aboardOf_at52_5 at E
  refine ea_iload (pc := 5) dX1_aboardOf_5 4 rfl ?_
  refine ea_aload_n (pc := 7) dX1_aboardOf_7 rfl 0 rfl ?_
  refine ea_getI (pc := 8) dX1_aboardOf_8 ec_1 (k := 0) (Nat.le_of_ble_eq_true rfl) rfl (Or.inl ew_441) (cShC_52 hs).1 (cShC_52 hs).2.1 ?_
  refine ea_icmp_ge (pc := 11) (tgt := 44) dX1_aboardOf_11 rfl (fun c5 => ?_) (fun c5 => ?_)
  · have E := (if_pos c5).symm.trans E
    refine ea_iload_n (pc := 44) dX1_aboardOf_44 rfl 3 rfl ?_
    exact ea_iretO (pc := 45) dX1_aboardOf_45 rfl rfl E
  · have E := (if_neg c5).symm.trans E
    obtain ⟨w1, Ew1, E⟩ := bd_some E
    have hsw1 : ShC w1.2 := ShC_core ((kpX1_isAboard_at52 _ _ _) _ Ew1) hs
    refine ea_aload_n (pc := 14) dX1_aboardOf_14 rfl 0 rfl ?_
    refine ea_iload (pc := 15) dX1_aboardOf_15 4 rfl ?_
    refine ea_iload_n (pc := 17) dX1_aboardOf_17 rfl 1 rfl ?_
    refine ea_callV (pc := 18) (d' := d - 1) (As := [vI x4, vI x1]) (st := []) dX1_aboardOf_18 kX1_isAboard (sX1_isAboard_at52 (d := d - 1) (by omega) hs Ew1) (by omega) rfl (Nat.le_of_ble_eq_true rfl) ew_896 ew_897 ew_898 (ci := 1) rfl (by decide) (cShC_52 hs).1 (cShC_52 hs).2.1 ?_
    refine ea_if_eq (pc := 21) (tgt := 38) dX1_aboardOf_21 rfl (fun c4 => ?_) (fun c4 => ?_)
    · have E := (if_pos c4).symm.trans E
      refine ea_iinc (pc := 38) (v := 1) (lv' := [(0, vR (some 52)), (1, vI x1), (2, vI x2), (3, vI x3), (4, vI (x4 + (1 : Int32)))]) dX1_aboardOf_38 4 rfl rfl (Nat.le_of_ble_eq_true rfl) [1, 2, 3, 4, 0] rfl ?_
      refine ea_goto (pc := 41) (tgt := 5) dX1_aboardOf_41 rfl ?_
      exact (kJ5 (x1 : Int32) (x2 : Int32) (x3 : Int32) ((x4 + (1 : Int32)) : Int32) w1.2 _ _ E hsw1)
    · have E := (if_neg c4).symm.trans E
      obtain ⟨z2, E⟩ := gd_some E
      refine ea_aload_n (pc := 24) dX1_aboardOf_24 rfl 0 rfl ?_
      refine ea_getR (pc := 25) dX1_aboardOf_25 ec_1 (k := 5) (Nat.le_of_ble_eq_true rfl) rfl (Or.inl ew_451) (cShC_52 hsw1).1 (cShC_52 hsw1).2.1 (rShC_52_5 hsw1) ?_
      refine ea_iload (pc := 28) dX1_aboardOf_28 4 rfl ?_
      refine ea_zald (pc := 30) dX1_aboardOf_30 (cShC_57 hsw1).1 (cShC_57 hsw1).2.1 (ea_vpl (cShC_57 hsw1).2.2 z2) ?_
      refine ea_iload_n (pc := 31) dX1_aboardOf_31 rfl 2 rfl ?_
      refine ea_icmp_ne (pc := 32) (tgt := 38) dX1_aboardOf_32 rfl (fun c3 => ?_) (fun c3 => ?_)
      · have E := (if_neg c3).symm.trans E
        refine ea_iinc (pc := 38) (v := 1) (lv' := [(0, vR (some 52)), (1, vI x1), (2, vI x2), (3, vI x3), (4, vI (x4 + (1 : Int32)))]) dX1_aboardOf_38 4 rfl rfl (Nat.le_of_ble_eq_true rfl) [1, 2, 3, 4, 0] rfl ?_
        refine ea_goto (pc := 41) (tgt := 5) dX1_aboardOf_41 rfl ?_
        exact (kJ5 (x1 : Int32) (x2 : Int32) (x3 : Int32) ((x4 + (1 : Int32)) : Int32) w1.2 _ _ E hsw1)
      · have E := (if_pos c3).symm.trans E
        refine ea_iinc (pc := 35) (v := 1) (lv' := [(0, vR (some 52)), (1, vI x1), (2, vI x2), (3, vI (x3 + (1 : Int32))), (4, vI x4)]) dX1_aboardOf_35 3 rfl rfl (Nat.le_of_ble_eq_true rfl) [1, 2, 3, 0, 4] rfl ?_
        refine ea_iinc (pc := 38) (v := 1) (lv' := [(0, vR (some 52)), (1, vI x1), (2, vI x2), (3, vI (x3 + (1 : Int32))), (4, vI (x4 + (1 : Int32)))]) dX1_aboardOf_38 4 rfl rfl (Nat.le_of_ble_eq_true rfl) [1, 2, 3, 4, 0] rfl ?_
        refine ea_goto (pc := 41) (tgt := 5) dX1_aboardOf_41 rfl ?_
        exact (kJ5 (x1 : Int32) (x2 : Int32) ((x3 + (1 : Int32)) : Int32) ((x4 + (1 : Int32)) : Int32) w1.2 _ _ E hsw1)
theorem kBX1_aboardOf_at52_5 {J5 : Int32 → Int32 → Int32 → Int32 → ea_H → Option (Int32 × ea_H)}  (cJ5 : ∀ (x1 : Int32) (x2 : Int32) (x3 : Int32) (x4 : Int32) (h : ea_H), kp (ea_core h) (J5 x1 x2 x3 x4 h)) {x1 : Int32} {x2 : Int32} {x3 : Int32} {x4 : Int32} {h : ea_H} : kp (ea_core h) (BX1_aboardOf_at52_5 J5 x1 x2 x3 x4 h) :=
  (kp_ite (kp_ret rfl) (kp_bind (kp_tw (kpX1_isAboard_at52 _ _ _) rfl) fun w1 hcw1 => (kp_ite (kp_tw (cJ5 _ _ _ _ _) hcw1) (kp_gd (kp_ite (kp_tw (cJ5 _ _ _ _ _) hcw1) (kp_tw (cJ5 _ _ _ _ _) hcw1))))))
theorem lBX1_aboardOf_at52_5 {J5 : Int32 → Int32 → Int32 → Int32 → ea_H → Option (Int32 × ea_H)} {J5_ : Int32 → Int32 → Int32 → Int32 → ea_H → Option (Int32 × ea_H)}  (mJ5 : ∀ (x1 : Int32) (x2 : Int32) (x3 : Int32) (x4 : Int32) (h : ea_H), fle (J5 x1 x2 x3 x4 h) (J5_ x1 x2 x3 x4 h)) {x1 : Int32} {x2 : Int32} {x3 : Int32} {x4 : Int32} {h : ea_H} : fle (BX1_aboardOf_at52_5 J5 x1 x2 x3 x4 h) (BX1_aboardOf_at52_5 J5_ x1 x2 x3 x4 h) :=
  (fle_ite (fle_rfl _) (fle_bind (fle_rfl _) fun _ => (fle_ite (mJ5 _ _ _ _ _) (fle_gd (fle_ite (mJ5 _ _ _ _ _) (mJ5 _ _ _ _ _))))))
theorem nBX1_aboardOf_at52_5 {J5 : Int32 → Int32 → Int32 → Int32 → ea_H → Option (Int32 × ea_H)} {J5_ : Nat → (Int32 → Int32 → Int32 → Int32 → ea_H → Option (Int32 × ea_H))}  (mJ5 : ∀ (x1 : Int32) (x2 : Int32) (x3 : Int32) (x4 : Int32) (h : ea_H), fct (J5 x1 x2 x3 x4 h) (fun f => J5_ f x1 x2 x3 x4 h)) {x1 : Int32} {x2 : Int32} {x3 : Int32} {x4 : Int32} {h : ea_H} : fct (BX1_aboardOf_at52_5 J5 x1 x2 x3 x4 h) (fun f => BX1_aboardOf_at52_5 (J5_ f) x1 x2 x3 x4 h) :=
  (fct_ite (fct_rfl _) (fct_bind (fct_rfl _) fun _ => (fct_ite (mJ5 _ _ _ _ _) (fct_gd (fct_ite (mJ5 _ _ _ _ _) (mJ5 _ _ _ _ _))))))
noncomputable def gX1_aboardOf_at52 : Nat → (Int32 → Int32 → ea_H → Option (Int32 × ea_H)) × (Int32 → Int32 → Int32 → Int32 → ea_H → Option (Int32 × ea_H))
  | 0 => (fun _ _ _ => none, fun _ _ _ _ _ => none)
  | f + 1 => (BX1_aboardOf_at52_0 (gX1_aboardOf_at52 f).2, BX1_aboardOf_at52_5 (gX1_aboardOf_at52 f).2)
theorem mgX1_aboardOf_at52 : ∀ f : Nat, (∀ (x1 : Int32) (x2 : Int32) (h : ea_H), fle ((gX1_aboardOf_at52 f).1 x1 x2 h) ((gX1_aboardOf_at52 (f + 1)).1 x1 x2 h)) ∧ (∀ (x1 : Int32) (x2 : Int32) (x3 : Int32) (x4 : Int32) (h : ea_H), fle ((gX1_aboardOf_at52 f).2 x1 x2 x3 x4 h) ((gX1_aboardOf_at52 (f + 1)).2 x1 x2 x3 x4 h)) := by
  intro f
  induction f with
  | zero => exact ⟨fun _ _ _ => fle_none _, fun _ _ _ _ _ => fle_none _⟩
  | succ f ih => exact ⟨fun _ _ _ => lBX1_aboardOf_at52_0 ih.2, fun _ _ _ _ _ => lBX1_aboardOf_at52_5 ih.2⟩
noncomputable def qX1_aboardOf_at52_0 (x1 : Int32) (x2 : Int32) (h : ea_H) : Option (Int32 × ea_H) := flim fun f => (gX1_aboardOf_at52 f).1 x1 x2 h
noncomputable def qX1_aboardOf_at52_5 (x1 : Int32) (x2 : Int32) (x3 : Int32) (x4 : Int32) (h : ea_H) : Option (Int32 × ea_H) := flim fun f => (gX1_aboardOf_at52 f).2 x1 x2 x3 x4 h
theorem fqX1_aboardOf_at52_0 (x1 : Int32) (x2 : Int32) (h : ea_H) : fct (qX1_aboardOf_at52_0 x1 x2 h) fun f => (gX1_aboardOf_at52 f).1 x1 x2 h := flim_ct fun f => (mgX1_aboardOf_at52 f).1 x1 x2 h
theorem fqX1_aboardOf_at52_5 (x1 : Int32) (x2 : Int32) (x3 : Int32) (x4 : Int32) (h : ea_H) : fct (qX1_aboardOf_at52_5 x1 x2 x3 x4 h) fun f => (gX1_aboardOf_at52 f).2 x1 x2 x3 x4 h := flim_ct fun f => (mgX1_aboardOf_at52 f).2 x1 x2 x3 x4 h
/-- how a block opens -/
theorem uqX1_aboardOf_at52_0 {x1 : Int32} {x2 : Int32} {h : ea_H} {P : Int32 × ea_H → Prop} (H : sat (BX1_aboardOf_at52_0 qX1_aboardOf_at52_5 x1 x2 h) P) : sat (qX1_aboardOf_at52_0 x1 x2 h) P := by
  obtain ⟨x, e, hp⟩ := H
  obtain ⟨n, hn⟩ := nBX1_aboardOf_at52_0 fqX1_aboardOf_at52_5 x e
  exact ⟨x, flim_at (fun f => (mgX1_aboardOf_at52 f).1 x1 x2 h) (f := n + 1) (hn n (Nat.le_refl _)), hp⟩
/-- how a block opens -/
theorem uqX1_aboardOf_at52_5 {x1 : Int32} {x2 : Int32} {x3 : Int32} {x4 : Int32} {h : ea_H} {P : Int32 × ea_H → Prop} (H : sat (BX1_aboardOf_at52_5 qX1_aboardOf_at52_5 x1 x2 x3 x4 h) P) : sat (qX1_aboardOf_at52_5 x1 x2 x3 x4 h) P := by
  obtain ⟨x, e, hp⟩ := H
  obtain ⟨n, hn⟩ := nBX1_aboardOf_at52_5 fqX1_aboardOf_at52_5 x e
  exact ⟨x, flim_at (fun f => (mgX1_aboardOf_at52 f).2 x1 x2 x3 x4 h) (f := n + 1) (hn n (Nat.le_refl _)), hp⟩
theorem kgX1_aboardOf_at52 : ∀ f : Nat, (∀ (x1 : Int32) (x2 : Int32) (h : ea_H), kp (ea_core h) ((gX1_aboardOf_at52 f).1 x1 x2 h)) ∧ (∀ (x1 : Int32) (x2 : Int32) (x3 : Int32) (x4 : Int32) (h : ea_H), kp (ea_core h) ((gX1_aboardOf_at52 f).2 x1 x2 x3 x4 h)) := by
  intro f
  induction f with
  | zero => exact ⟨fun _ _ _ => kp_none _, fun _ _ _ _ _ => kp_none _⟩
  | succ f ih => exact ⟨fun _ _ _ => kBX1_aboardOf_at52_0 ih.2, fun _ _ _ _ _ => kBX1_aboardOf_at52_5 ih.2⟩
theorem tgX1_aboardOf_at52 {d : Nat} {h0 : ea_H} (hd : 2 ≤ d) : ∀ f : Nat, (∀ (x1 : Int32) (x2 : Int32) (h : ea_H) (r : Int32) (h' : ea_H), (gX1_aboardOf_at52 f).1 x1 x2 h = some (r, h') → ShC h → ea_W mX1_aboardOf d h0 (some (vI r)) h' 0 [(0, vR (some 52)), (1, vI x1), (2, vI x2)] [] h) ∧ (∀ (x1 : Int32) (x2 : Int32) (x3 : Int32) (x4 : Int32) (h : ea_H) (r : Int32) (h' : ea_H), (gX1_aboardOf_at52 f).2 x1 x2 x3 x4 h = some (r, h') → ShC h → ea_W mX1_aboardOf d h0 (some (vI r)) h' 5 [(0, vR (some 52)), (1, vI x1), (2, vI x2), (3, vI x3), (4, vI x4)] [] h) := by
  intro f
  induction f with
  | zero => exact ⟨fun _ _ _ _ _ E => no_some E, fun _ _ _ _ _ _ _ E => no_some E⟩
  | succ f ih => exact ⟨fun _ _ _ _ _ E hs => tBX1_aboardOf_at52_0 hd ih.2 E hs, fun _ _ _ _ _ _ _ E hs => tBX1_aboardOf_at52_5 hd ih.2 E hs⟩
noncomputable def qX1_aboardOf_at52 (x1 : Int32) (x2 : Int32) (h : ea_H) : Option (Int32 × ea_H) := qX1_aboardOf_at52_0 x1 x2 h
theorem sX1_aboardOf_at52 {d : Nat} {x1 : Int32} {x2 : Int32} {h : ea_H} {r : Int32} {h' : ea_H} (hd : 2 ≤ d) (hs : ShC h) (K : qX1_aboardOf_at52 x1 x2 h = some (r, h')) : ea_Met mX1_aboardOf d [vR (some 52), vI x1, vI x2] h (some (vI r)) h' := by
  unfold qX1_aboardOf_at52 at K
  obtain ⟨n, hn⟩ := fqX1_aboardOf_at52_0 x1 x2 h _ K
  have W := (tgX1_aboardOf_at52 (d := d) (h0 := h) hd n).1 x1 x2 h _ _ (hn n (Nat.le_refl _)) hs
  exact ea_enter rfl (Nat.le_of_ble_eq_true rfl) W
theorem kpX1_aboardOf_at52 (x1 : Int32) (x2 : Int32) (h : ea_H) : kp (ea_core h) (qX1_aboardOf_at52 x1 x2 h) := fun x e => by
  obtain ⟨n, hn⟩ := fqX1_aboardOf_at52_0 x1 x2 h x e
  exact (kgX1_aboardOf_at52 n).1 x1 x2 h x (hn n (Nat.le_refl _))
noncomputable def BX1_aboardOf_at62_0 (J5 : Int32 → Int32 → Int32 → Int32 → ea_H → Option (Int32 × ea_H)) (x1 : Int32) (x2 : Int32) (h : ea_H) : Option (Int32 × ea_H) :=
  (J5 (x1 : Int32) (x2 : Int32) (0 : Int32) (0 : Int32) h)
theorem tBX1_aboardOf_at62_0 {d : Nat} {h0 : ea_H} (hd : 2 ≤ d) {J5 : Int32 → Int32 → Int32 → Int32 → ea_H → Option (Int32 × ea_H)}  (kJ5 : ∀ (x1 : Int32) (x2 : Int32) (x3 : Int32) (x4 : Int32) (h : ea_H) (r : Int32) (h' : ea_H), J5 x1 x2 x3 x4 h = some (r, h') → ShC h → ea_W mX1_aboardOf d h0 (some (vI r)) h' 5 [(0, vR (some 62)), (1, vI x1), (2, vI x2), (3, vI x3), (4, vI x4)] [] h) {x1 : Int32} {x2 : Int32} {h : ea_H} {r : Int32} {h' : ea_H} (E : BX1_aboardOf_at62_0 J5 x1 x2 h = some (r, h')) (hs : ShC h) : ea_W mX1_aboardOf d h0 (some (vI r)) h' 0 [(0, vR (some 62)), (1, vI x1), (2, vI x2)] [] h := by
  unfold BX1_aboardOf_at62_0 at E
  refine ea_iconst (pc := 0) dX1_aboardOf_0 (v := 0) rfl ?_
  refine ea_istore_n (pc := 1) (lv' := [(0, vR (some 62)), (1, vI x1), (2, vI x2), (3, vI 0)]) dX1_aboardOf_1 rfl (Nat.le_of_ble_eq_true rfl) [1, 2, 3, 0] rfl ?_
  refine ea_iconst (pc := 2) dX1_aboardOf_2 (v := 0) rfl ?_
  refine ea_istore (pc := 3) (lv' := [(0, vR (some 62)), (1, vI x1), (2, vI x2), (3, vI 0), (4, vI 0)]) dX1_aboardOf_3 (Nat.le_of_ble_eq_true rfl) [1, 2, 3, 4, 0] rfl ?_
  exact (kJ5 (x1 : Int32) (x2 : Int32) (0 : Int32) (0 : Int32) h _ _ E hs)
theorem kBX1_aboardOf_at62_0 {J5 : Int32 → Int32 → Int32 → Int32 → ea_H → Option (Int32 × ea_H)}  (cJ5 : ∀ (x1 : Int32) (x2 : Int32) (x3 : Int32) (x4 : Int32) (h : ea_H), kp (ea_core h) (J5 x1 x2 x3 x4 h)) {x1 : Int32} {x2 : Int32} {h : ea_H} : kp (ea_core h) (BX1_aboardOf_at62_0 J5 x1 x2 h) :=
  (kp_tw (cJ5 _ _ _ _ _) rfl)
theorem lBX1_aboardOf_at62_0 {J5 : Int32 → Int32 → Int32 → Int32 → ea_H → Option (Int32 × ea_H)} {J5_ : Int32 → Int32 → Int32 → Int32 → ea_H → Option (Int32 × ea_H)}  (mJ5 : ∀ (x1 : Int32) (x2 : Int32) (x3 : Int32) (x4 : Int32) (h : ea_H), fle (J5 x1 x2 x3 x4 h) (J5_ x1 x2 x3 x4 h)) {x1 : Int32} {x2 : Int32} {h : ea_H} : fle (BX1_aboardOf_at62_0 J5 x1 x2 h) (BX1_aboardOf_at62_0 J5_ x1 x2 h) :=
  (mJ5 _ _ _ _ _)
theorem nBX1_aboardOf_at62_0 {J5 : Int32 → Int32 → Int32 → Int32 → ea_H → Option (Int32 × ea_H)} {J5_ : Nat → (Int32 → Int32 → Int32 → Int32 → ea_H → Option (Int32 × ea_H))}  (mJ5 : ∀ (x1 : Int32) (x2 : Int32) (x3 : Int32) (x4 : Int32) (h : ea_H), fct (J5 x1 x2 x3 x4 h) (fun f => J5_ f x1 x2 x3 x4 h)) {x1 : Int32} {x2 : Int32} {h : ea_H} : fct (BX1_aboardOf_at62_0 J5 x1 x2 h) (fun f => BX1_aboardOf_at62_0 (J5_ f) x1 x2 h) :=
  (mJ5 _ _ _ _ _)
noncomputable def BX1_aboardOf_at62_5 (J5 : Int32 → Int32 → Int32 → Int32 → ea_H → Option (Int32 × ea_H)) (x1 : Int32) (x2 : Int32) (x3 : Int32) (x4 : Int32) (h : ea_H) : Option (Int32 × ea_H) :=
  (if (ea_i h 62 0) ≤ x4 then (some (x3, h)) else (Option.bind (qX1_isAboard_at62 (x4 : Int32) (x1 : Int32) h) fun w1 => (if w1.1 = (0 : Int32) then (J5 (x1 : Int32) (x2 : Int32) (x3 : Int32) ((x4 + (1 : Int32)) : Int32) w1.2) else (gd (vp_in x4 120) (if (ea_i w1.2 67 (Int32.toNatClampNeg x4)) = x2 then (J5 (x1 : Int32) (x2 : Int32) ((x3 + (1 : Int32)) : Int32) ((x4 + (1 : Int32)) : Int32) w1.2) else (J5 (x1 : Int32) (x2 : Int32) (x3 : Int32) ((x4 + (1 : Int32)) : Int32) w1.2))))))
theorem tBX1_aboardOf_at62_5 {d : Nat} {h0 : ea_H} (hd : 2 ≤ d) {J5 : Int32 → Int32 → Int32 → Int32 → ea_H → Option (Int32 × ea_H)}  (kJ5 : ∀ (x1 : Int32) (x2 : Int32) (x3 : Int32) (x4 : Int32) (h : ea_H) (r : Int32) (h' : ea_H), J5 x1 x2 x3 x4 h = some (r, h') → ShC h → ea_W mX1_aboardOf d h0 (some (vI r)) h' 5 [(0, vR (some 62)), (1, vI x1), (2, vI x2), (3, vI x3), (4, vI x4)] [] h) {x1 : Int32} {x2 : Int32} {x3 : Int32} {x4 : Int32} {h : ea_H} {r : Int32} {h' : ea_H} (E : BX1_aboardOf_at62_5 J5 x1 x2 x3 x4 h = some (r, h')) (hs : ShC h) : ea_W mX1_aboardOf d h0 (some (vI r)) h' 5 [(0, vR (some 62)), (1, vI x1), (2, vI x2), (3, vI x3), (4, vI x4)] [] h := by
  unfold BX1_aboardOf_at62_5 at E
  refine ea_iload (pc := 5) dX1_aboardOf_5 4 rfl ?_
  refine ea_aload_n (pc := 7) dX1_aboardOf_7 rfl 0 rfl ?_
  refine ea_getI (pc := 8) dX1_aboardOf_8 ec_1 (k := 0) (Nat.le_of_ble_eq_true rfl) rfl (Or.inl ew_441) (cShC_62 hs).1 (cShC_62 hs).2.1 ?_
  refine ea_icmp_ge (pc := 11) (tgt := 44) dX1_aboardOf_11 rfl (fun c5 => ?_) (fun c5 => ?_)
  · have E := (if_pos c5).symm.trans E
    refine ea_iload_n (pc := 44) dX1_aboardOf_44 rfl 3 rfl ?_
    exact ea_iretO (pc := 45) dX1_aboardOf_45 rfl rfl E
  · have E := (if_neg c5).symm.trans E
    obtain ⟨w1, Ew1, E⟩ := bd_some E
    have hsw1 : ShC w1.2 := ShC_core ((kpX1_isAboard_at62 _ _ _) _ Ew1) hs
    refine ea_aload_n (pc := 14) dX1_aboardOf_14 rfl 0 rfl ?_
    refine ea_iload (pc := 15) dX1_aboardOf_15 4 rfl ?_
    refine ea_iload_n (pc := 17) dX1_aboardOf_17 rfl 1 rfl ?_
    refine ea_callV (pc := 18) (d' := d - 1) (As := [vI x4, vI x1]) (st := []) dX1_aboardOf_18 kX1_isAboard (sX1_isAboard_at62 (d := d - 1) (by omega) hs Ew1) (by omega) rfl (Nat.le_of_ble_eq_true rfl) ew_896 ew_897 ew_898 (ci := 1) rfl (by decide) (cShC_62 hs).1 (cShC_62 hs).2.1 ?_
    refine ea_if_eq (pc := 21) (tgt := 38) dX1_aboardOf_21 rfl (fun c4 => ?_) (fun c4 => ?_)
    · have E := (if_pos c4).symm.trans E
      refine ea_iinc (pc := 38) (v := 1) (lv' := [(0, vR (some 62)), (1, vI x1), (2, vI x2), (3, vI x3), (4, vI (x4 + (1 : Int32)))]) dX1_aboardOf_38 4 rfl rfl (Nat.le_of_ble_eq_true rfl) [1, 2, 3, 4, 0] rfl ?_
      refine ea_goto (pc := 41) (tgt := 5) dX1_aboardOf_41 rfl ?_
      exact (kJ5 (x1 : Int32) (x2 : Int32) (x3 : Int32) ((x4 + (1 : Int32)) : Int32) w1.2 _ _ E hsw1)
    · have E := (if_neg c4).symm.trans E
      obtain ⟨z2, E⟩ := gd_some E
      refine ea_aload_n (pc := 24) dX1_aboardOf_24 rfl 0 rfl ?_
      refine ea_getR (pc := 25) dX1_aboardOf_25 ec_1 (k := 5) (Nat.le_of_ble_eq_true rfl) rfl (Or.inl ew_451) (cShC_62 hsw1).1 (cShC_62 hsw1).2.1 (rShC_62_5 hsw1) ?_
      refine ea_iload (pc := 28) dX1_aboardOf_28 4 rfl ?_
      refine ea_zald (pc := 30) dX1_aboardOf_30 (cShC_67 hsw1).1 (cShC_67 hsw1).2.1 (ea_vpl (cShC_67 hsw1).2.2 z2) ?_
      refine ea_iload_n (pc := 31) dX1_aboardOf_31 rfl 2 rfl ?_
      refine ea_icmp_ne (pc := 32) (tgt := 38) dX1_aboardOf_32 rfl (fun c3 => ?_) (fun c3 => ?_)
      · have E := (if_neg c3).symm.trans E
        refine ea_iinc (pc := 38) (v := 1) (lv' := [(0, vR (some 62)), (1, vI x1), (2, vI x2), (3, vI x3), (4, vI (x4 + (1 : Int32)))]) dX1_aboardOf_38 4 rfl rfl (Nat.le_of_ble_eq_true rfl) [1, 2, 3, 4, 0] rfl ?_
        refine ea_goto (pc := 41) (tgt := 5) dX1_aboardOf_41 rfl ?_
        exact (kJ5 (x1 : Int32) (x2 : Int32) (x3 : Int32) ((x4 + (1 : Int32)) : Int32) w1.2 _ _ E hsw1)
      · have E := (if_pos c3).symm.trans E
        refine ea_iinc (pc := 35) (v := 1) (lv' := [(0, vR (some 62)), (1, vI x1), (2, vI x2), (3, vI (x3 + (1 : Int32))), (4, vI x4)]) dX1_aboardOf_35 3 rfl rfl (Nat.le_of_ble_eq_true rfl) [1, 2, 3, 0, 4] rfl ?_
        refine ea_iinc (pc := 38) (v := 1) (lv' := [(0, vR (some 62)), (1, vI x1), (2, vI x2), (3, vI (x3 + (1 : Int32))), (4, vI (x4 + (1 : Int32)))]) dX1_aboardOf_38 4 rfl rfl (Nat.le_of_ble_eq_true rfl) [1, 2, 3, 4, 0] rfl ?_
        refine ea_goto (pc := 41) (tgt := 5) dX1_aboardOf_41 rfl ?_
        exact (kJ5 (x1 : Int32) (x2 : Int32) ((x3 + (1 : Int32)) : Int32) ((x4 + (1 : Int32)) : Int32) w1.2 _ _ E hsw1)
theorem kBX1_aboardOf_at62_5 {J5 : Int32 → Int32 → Int32 → Int32 → ea_H → Option (Int32 × ea_H)}  (cJ5 : ∀ (x1 : Int32) (x2 : Int32) (x3 : Int32) (x4 : Int32) (h : ea_H), kp (ea_core h) (J5 x1 x2 x3 x4 h)) {x1 : Int32} {x2 : Int32} {x3 : Int32} {x4 : Int32} {h : ea_H} : kp (ea_core h) (BX1_aboardOf_at62_5 J5 x1 x2 x3 x4 h) :=
  (kp_ite (kp_ret rfl) (kp_bind (kp_tw (kpX1_isAboard_at62 _ _ _) rfl) fun w1 hcw1 => (kp_ite (kp_tw (cJ5 _ _ _ _ _) hcw1) (kp_gd (kp_ite (kp_tw (cJ5 _ _ _ _ _) hcw1) (kp_tw (cJ5 _ _ _ _ _) hcw1))))))
theorem lBX1_aboardOf_at62_5 {J5 : Int32 → Int32 → Int32 → Int32 → ea_H → Option (Int32 × ea_H)} {J5_ : Int32 → Int32 → Int32 → Int32 → ea_H → Option (Int32 × ea_H)}  (mJ5 : ∀ (x1 : Int32) (x2 : Int32) (x3 : Int32) (x4 : Int32) (h : ea_H), fle (J5 x1 x2 x3 x4 h) (J5_ x1 x2 x3 x4 h)) {x1 : Int32} {x2 : Int32} {x3 : Int32} {x4 : Int32} {h : ea_H} : fle (BX1_aboardOf_at62_5 J5 x1 x2 x3 x4 h) (BX1_aboardOf_at62_5 J5_ x1 x2 x3 x4 h) :=
  (fle_ite (fle_rfl _) (fle_bind (fle_rfl _) fun _ => (fle_ite (mJ5 _ _ _ _ _) (fle_gd (fle_ite (mJ5 _ _ _ _ _) (mJ5 _ _ _ _ _))))))
theorem nBX1_aboardOf_at62_5 {J5 : Int32 → Int32 → Int32 → Int32 → ea_H → Option (Int32 × ea_H)} {J5_ : Nat → (Int32 → Int32 → Int32 → Int32 → ea_H → Option (Int32 × ea_H))}  (mJ5 : ∀ (x1 : Int32) (x2 : Int32) (x3 : Int32) (x4 : Int32) (h : ea_H), fct (J5 x1 x2 x3 x4 h) (fun f => J5_ f x1 x2 x3 x4 h)) {x1 : Int32} {x2 : Int32} {x3 : Int32} {x4 : Int32} {h : ea_H} : fct (BX1_aboardOf_at62_5 J5 x1 x2 x3 x4 h) (fun f => BX1_aboardOf_at62_5 (J5_ f) x1 x2 x3 x4 h) :=
  (fct_ite (fct_rfl _) (fct_bind (fct_rfl _) fun _ => (fct_ite (mJ5 _ _ _ _ _) (fct_gd (fct_ite (mJ5 _ _ _ _ _) (mJ5 _ _ _ _ _))))))
noncomputable def gX1_aboardOf_at62 : Nat → (Int32 → Int32 → ea_H → Option (Int32 × ea_H)) × (Int32 → Int32 → Int32 → Int32 → ea_H → Option (Int32 × ea_H))
  | 0 => (fun _ _ _ => none, fun _ _ _ _ _ => none)
  | f + 1 => (BX1_aboardOf_at62_0 (gX1_aboardOf_at62 f).2, BX1_aboardOf_at62_5 (gX1_aboardOf_at62 f).2)
theorem mgX1_aboardOf_at62 : ∀ f : Nat, (∀ (x1 : Int32) (x2 : Int32) (h : ea_H), fle ((gX1_aboardOf_at62 f).1 x1 x2 h) ((gX1_aboardOf_at62 (f + 1)).1 x1 x2 h)) ∧ (∀ (x1 : Int32) (x2 : Int32) (x3 : Int32) (x4 : Int32) (h : ea_H), fle ((gX1_aboardOf_at62 f).2 x1 x2 x3 x4 h) ((gX1_aboardOf_at62 (f + 1)).2 x1 x2 x3 x4 h)) := by
  intro f
  induction f with
  | zero => exact ⟨fun _ _ _ => fle_none _, fun _ _ _ _ _ => fle_none _⟩
  | succ f ih => exact ⟨fun _ _ _ => lBX1_aboardOf_at62_0 ih.2, fun _ _ _ _ _ => lBX1_aboardOf_at62_5 ih.2⟩
noncomputable def qX1_aboardOf_at62_0 (x1 : Int32) (x2 : Int32) (h : ea_H) : Option (Int32 × ea_H) := flim fun f => (gX1_aboardOf_at62 f).1 x1 x2 h
noncomputable def qX1_aboardOf_at62_5 (x1 : Int32) (x2 : Int32) (x3 : Int32) (x4 : Int32) (h : ea_H) : Option (Int32 × ea_H) := flim fun f => (gX1_aboardOf_at62 f).2 x1 x2 x3 x4 h
theorem fqX1_aboardOf_at62_0 (x1 : Int32) (x2 : Int32) (h : ea_H) : fct (qX1_aboardOf_at62_0 x1 x2 h) fun f => (gX1_aboardOf_at62 f).1 x1 x2 h := flim_ct fun f => (mgX1_aboardOf_at62 f).1 x1 x2 h
theorem fqX1_aboardOf_at62_5 (x1 : Int32) (x2 : Int32) (x3 : Int32) (x4 : Int32) (h : ea_H) : fct (qX1_aboardOf_at62_5 x1 x2 x3 x4 h) fun f => (gX1_aboardOf_at62 f).2 x1 x2 x3 x4 h := flim_ct fun f => (mgX1_aboardOf_at62 f).2 x1 x2 x3 x4 h
/-- how a block opens -/
theorem uqX1_aboardOf_at62_0 {x1 : Int32} {x2 : Int32} {h : ea_H} {P : Int32 × ea_H → Prop} (H : sat (BX1_aboardOf_at62_0 qX1_aboardOf_at62_5 x1 x2 h) P) : sat (qX1_aboardOf_at62_0 x1 x2 h) P := by
  obtain ⟨x, e, hp⟩ := H
  obtain ⟨n, hn⟩ := nBX1_aboardOf_at62_0 fqX1_aboardOf_at62_5 x e
  exact ⟨x, flim_at (fun f => (mgX1_aboardOf_at62 f).1 x1 x2 h) (f := n + 1) (hn n (Nat.le_refl _)), hp⟩
/-- how a block opens -/
theorem uqX1_aboardOf_at62_5 {x1 : Int32} {x2 : Int32} {x3 : Int32} {x4 : Int32} {h : ea_H} {P : Int32 × ea_H → Prop} (H : sat (BX1_aboardOf_at62_5 qX1_aboardOf_at62_5 x1 x2 x3 x4 h) P) : sat (qX1_aboardOf_at62_5 x1 x2 x3 x4 h) P := by
  obtain ⟨x, e, hp⟩ := H
  obtain ⟨n, hn⟩ := nBX1_aboardOf_at62_5 fqX1_aboardOf_at62_5 x e
  exact ⟨x, flim_at (fun f => (mgX1_aboardOf_at62 f).2 x1 x2 x3 x4 h) (f := n + 1) (hn n (Nat.le_refl _)), hp⟩
theorem kgX1_aboardOf_at62 : ∀ f : Nat, (∀ (x1 : Int32) (x2 : Int32) (h : ea_H), kp (ea_core h) ((gX1_aboardOf_at62 f).1 x1 x2 h)) ∧ (∀ (x1 : Int32) (x2 : Int32) (x3 : Int32) (x4 : Int32) (h : ea_H), kp (ea_core h) ((gX1_aboardOf_at62 f).2 x1 x2 x3 x4 h)) := by
  intro f
  induction f with
  | zero => exact ⟨fun _ _ _ => kp_none _, fun _ _ _ _ _ => kp_none _⟩
  | succ f ih => exact ⟨fun _ _ _ => kBX1_aboardOf_at62_0 ih.2, fun _ _ _ _ _ => kBX1_aboardOf_at62_5 ih.2⟩
theorem tgX1_aboardOf_at62 {d : Nat} {h0 : ea_H} (hd : 2 ≤ d) : ∀ f : Nat, (∀ (x1 : Int32) (x2 : Int32) (h : ea_H) (r : Int32) (h' : ea_H), (gX1_aboardOf_at62 f).1 x1 x2 h = some (r, h') → ShC h → ea_W mX1_aboardOf d h0 (some (vI r)) h' 0 [(0, vR (some 62)), (1, vI x1), (2, vI x2)] [] h) ∧ (∀ (x1 : Int32) (x2 : Int32) (x3 : Int32) (x4 : Int32) (h : ea_H) (r : Int32) (h' : ea_H), (gX1_aboardOf_at62 f).2 x1 x2 x3 x4 h = some (r, h') → ShC h → ea_W mX1_aboardOf d h0 (some (vI r)) h' 5 [(0, vR (some 62)), (1, vI x1), (2, vI x2), (3, vI x3), (4, vI x4)] [] h) := by
  intro f
  induction f with
  | zero => exact ⟨fun _ _ _ _ _ E => no_some E, fun _ _ _ _ _ _ _ E => no_some E⟩
  | succ f ih => exact ⟨fun _ _ _ _ _ E hs => tBX1_aboardOf_at62_0 hd ih.2 E hs, fun _ _ _ _ _ _ _ E hs => tBX1_aboardOf_at62_5 hd ih.2 E hs⟩
noncomputable def qX1_aboardOf_at62 (x1 : Int32) (x2 : Int32) (h : ea_H) : Option (Int32 × ea_H) := qX1_aboardOf_at62_0 x1 x2 h
theorem sX1_aboardOf_at62 {d : Nat} {x1 : Int32} {x2 : Int32} {h : ea_H} {r : Int32} {h' : ea_H} (hd : 2 ≤ d) (hs : ShC h) (K : qX1_aboardOf_at62 x1 x2 h = some (r, h')) : ea_Met mX1_aboardOf d [vR (some 62), vI x1, vI x2] h (some (vI r)) h' := by
  unfold qX1_aboardOf_at62 at K
  obtain ⟨n, hn⟩ := fqX1_aboardOf_at62_0 x1 x2 h _ K
  have W := (tgX1_aboardOf_at62 (d := d) (h0 := h) hd n).1 x1 x2 h _ _ (hn n (Nat.le_refl _)) hs
  exact ea_enter rfl (Nat.le_of_ble_eq_true rfl) W
theorem kpX1_aboardOf_at62 (x1 : Int32) (x2 : Int32) (h : ea_H) : kp (ea_core h) (qX1_aboardOf_at62 x1 x2 h) := fun x e => by
  obtain ⟨n, hn⟩ := fqX1_aboardOf_at62_0 x1 x2 h x e
  exact (kgX1_aboardOf_at62 n).1 x1 x2 h x (hn n (Nat.le_refl _))
noncomputable def BX1_copy_at52_0 (r1 : Option Nat) (h : ea_H) : Option (Unit × ea_H) :=
  (gd (r1 = some (Option.getD r1 0)) (gd (((Option.getD r1 0) < ea_n h ∧ ea_c h (Option.getD r1 0) = 1)) (ea_let (ea_wi h 52 0 (ea_i h (Option.getD r1 0) 0)) fun H3 => (gd (r1 = some (Option.getD r1 0)) (gd (((Option.getD r1 0) < ea_n H3 ∧ ea_c H3 (Option.getD r1 0) = 1)) (ea_let (ea_wi H3 52 10 (ea_i H3 (Option.getD r1 0) 10)) fun H6 => (gd (r1 = some (Option.getD r1 0)) (gd (((Option.getD r1 0) < ea_n H6 ∧ ea_c H6 (Option.getD r1 0) = 1)) (gd ((ea_r H6 (Option.getD r1 0) 1) = some (Option.getD (ea_r H6 (Option.getD r1 0) 1) 0)) (gd (((Option.getD (ea_r H6 (Option.getD r1 0) 1) 0) < ea_n H6 ∧ ea_c H6 (Option.getD (ea_r H6 (Option.getD r1 0) 1) 0) = 20)) (gd ((¬ (0 : Int32) < 0)) (gd ((¬ (0 : Int32) < 0)) (gd ((¬ (120 : Int32) < 0)) (gd (((Int32.toNatClampNeg 0) + (Int32.toNatClampNeg 120) ≤ ea_l H6 (Option.getD (ea_r H6 (Option.getD r1 0) 1) 0))) (gd (((Int32.toNatClampNeg 0) + (Int32.toNatClampNeg 120) ≤ ea_l H6 53)) (ea_let (ea_wa H6 53 (va_cpy (ea_i H6 (Option.getD (ea_r H6 (Option.getD r1 0) 1) 0)) (ea_i H6 53) (Int32.toNatClampNeg 0) (Int32.toNatClampNeg 0) (Int32.toNatClampNeg 120))) fun H17 => (gd (r1 = some (Option.getD r1 0)) (gd (((Option.getD r1 0) < ea_n H17 ∧ ea_c H17 (Option.getD r1 0) = 1)) (gd ((ea_r H17 (Option.getD r1 0) 2) = some (Option.getD (ea_r H17 (Option.getD r1 0) 2) 0)) (gd (((Option.getD (ea_r H17 (Option.getD r1 0) 2) 0) < ea_n H17 ∧ ea_c H17 (Option.getD (ea_r H17 (Option.getD r1 0) 2) 0) = 20)) (gd ((¬ (0 : Int32) < 0)) (gd ((¬ (0 : Int32) < 0)) (gd ((¬ (120 : Int32) < 0)) (gd (((Int32.toNatClampNeg 0) + (Int32.toNatClampNeg 120) ≤ ea_l H17 (Option.getD (ea_r H17 (Option.getD r1 0) 2) 0))) (gd (((Int32.toNatClampNeg 0) + (Int32.toNatClampNeg 120) ≤ ea_l H17 54)) (ea_let (ea_wa H17 54 (va_cpy (ea_i H17 (Option.getD (ea_r H17 (Option.getD r1 0) 2) 0)) (ea_i H17 54) (Int32.toNatClampNeg 0) (Int32.toNatClampNeg 0) (Int32.toNatClampNeg 120))) fun H28 => (gd (r1 = some (Option.getD r1 0)) (gd (((Option.getD r1 0) < ea_n H28 ∧ ea_c H28 (Option.getD r1 0) = 1)) (gd ((ea_r H28 (Option.getD r1 0) 3) = some (Option.getD (ea_r H28 (Option.getD r1 0) 3) 0)) (gd (((Option.getD (ea_r H28 (Option.getD r1 0) 3) 0) < ea_n H28 ∧ ea_c H28 (Option.getD (ea_r H28 (Option.getD r1 0) 3) 0) = 20)) (gd ((¬ (0 : Int32) < 0)) (gd ((¬ (0 : Int32) < 0)) (gd ((¬ (120 : Int32) < 0)) (gd (((Int32.toNatClampNeg 0) + (Int32.toNatClampNeg 120) ≤ ea_l H28 (Option.getD (ea_r H28 (Option.getD r1 0) 3) 0))) (gd (((Int32.toNatClampNeg 0) + (Int32.toNatClampNeg 120) ≤ ea_l H28 55)) (ea_let (ea_wa H28 55 (va_cpy (ea_i H28 (Option.getD (ea_r H28 (Option.getD r1 0) 3) 0)) (ea_i H28 55) (Int32.toNatClampNeg 0) (Int32.toNatClampNeg 0) (Int32.toNatClampNeg 120))) fun H39 => (gd (r1 = some (Option.getD r1 0)) (gd (((Option.getD r1 0) < ea_n H39 ∧ ea_c H39 (Option.getD r1 0) = 1)) (gd ((ea_r H39 (Option.getD r1 0) 4) = some (Option.getD (ea_r H39 (Option.getD r1 0) 4) 0)) (gd (((Option.getD (ea_r H39 (Option.getD r1 0) 4) 0) < ea_n H39 ∧ ea_c H39 (Option.getD (ea_r H39 (Option.getD r1 0) 4) 0) = 20)) (gd ((¬ (0 : Int32) < 0)) (gd ((¬ (0 : Int32) < 0)) (gd ((¬ (120 : Int32) < 0)) (gd (((Int32.toNatClampNeg 0) + (Int32.toNatClampNeg 120) ≤ ea_l H39 (Option.getD (ea_r H39 (Option.getD r1 0) 4) 0))) (gd (((Int32.toNatClampNeg 0) + (Int32.toNatClampNeg 120) ≤ ea_l H39 56)) (ea_let (ea_wa H39 56 (va_cpy (ea_i H39 (Option.getD (ea_r H39 (Option.getD r1 0) 4) 0)) (ea_i H39 56) (Int32.toNatClampNeg 0) (Int32.toNatClampNeg 0) (Int32.toNatClampNeg 120))) fun H50 => (gd (r1 = some (Option.getD r1 0)) (gd (((Option.getD r1 0) < ea_n H50 ∧ ea_c H50 (Option.getD r1 0) = 1)) (gd ((ea_r H50 (Option.getD r1 0) 7) = some (Option.getD (ea_r H50 (Option.getD r1 0) 7) 0)) (gd (((Option.getD (ea_r H50 (Option.getD r1 0) 7) 0) < ea_n H50 ∧ ea_c H50 (Option.getD (ea_r H50 (Option.getD r1 0) 7) 0) = 20)) (gd ((¬ (0 : Int32) < 0)) (gd ((¬ (0 : Int32) < 0)) (gd ((¬ (120 : Int32) < 0)) (gd (((Int32.toNatClampNeg 0) + (Int32.toNatClampNeg 120) ≤ ea_l H50 (Option.getD (ea_r H50 (Option.getD r1 0) 7) 0))) (gd (((Int32.toNatClampNeg 0) + (Int32.toNatClampNeg 120) ≤ ea_l H50 59)) (ea_let (ea_wa H50 59 (va_cpy (ea_i H50 (Option.getD (ea_r H50 (Option.getD r1 0) 7) 0)) (ea_i H50 59) (Int32.toNatClampNeg 0) (Int32.toNatClampNeg 0) (Int32.toNatClampNeg 120))) fun H61 => (gd (r1 = some (Option.getD r1 0)) (gd (((Option.getD r1 0) < ea_n H61 ∧ ea_c H61 (Option.getD r1 0) = 1)) (gd ((ea_r H61 (Option.getD r1 0) 5) = some (Option.getD (ea_r H61 (Option.getD r1 0) 5) 0)) (gd (((Option.getD (ea_r H61 (Option.getD r1 0) 5) 0) < ea_n H61 ∧ ea_c H61 (Option.getD (ea_r H61 (Option.getD r1 0) 5) 0) = 21)) (gd ((¬ (0 : Int32) < 0)) (gd ((¬ (0 : Int32) < 0)) (gd ((¬ (120 : Int32) < 0)) (gd (((Int32.toNatClampNeg 0) + (Int32.toNatClampNeg 120) ≤ ea_l H61 (Option.getD (ea_r H61 (Option.getD r1 0) 5) 0))) (gd (((Int32.toNatClampNeg 0) + (Int32.toNatClampNeg 120) ≤ ea_l H61 57)) (gd ((∀ i, i < (Int32.toNatClampNeg 120) → (ea_i H61 (Option.getD (ea_r H61 (Option.getD r1 0) 5) 0) ((Int32.toNatClampNeg 0) + i) = 0 ∨ ea_i H61 (Option.getD (ea_r H61 (Option.getD r1 0) 5) 0) ((Int32.toNatClampNeg 0) + i) = 1))) (ea_let (ea_wa H61 57 (va_cpy (ea_i H61 (Option.getD (ea_r H61 (Option.getD r1 0) 5) 0)) (ea_i H61 57) (Int32.toNatClampNeg 0) (Int32.toNatClampNeg 0) (Int32.toNatClampNeg 120))) fun H72 => (gd (r1 = some (Option.getD r1 0)) (gd (((Option.getD r1 0) < ea_n H72 ∧ ea_c H72 (Option.getD r1 0) = 1)) (gd ((ea_r H72 (Option.getD r1 0) 6) = some (Option.getD (ea_r H72 (Option.getD r1 0) 6) 0)) (gd (((Option.getD (ea_r H72 (Option.getD r1 0) 6) 0) < ea_n H72 ∧ ea_c H72 (Option.getD (ea_r H72 (Option.getD r1 0) 6) 0) = 20)) (gd ((¬ (0 : Int32) < 0)) (gd ((¬ (0 : Int32) < 0)) (gd ((¬ (70 : Int32) < 0)) (gd (((Int32.toNatClampNeg 0) + (Int32.toNatClampNeg 70) ≤ ea_l H72 (Option.getD (ea_r H72 (Option.getD r1 0) 6) 0))) (gd (((Int32.toNatClampNeg 0) + (Int32.toNatClampNeg 70) ≤ ea_l H72 58)) (ea_let (ea_wa H72 58 (va_cpy (ea_i H72 (Option.getD (ea_r H72 (Option.getD r1 0) 6) 0)) (ea_i H72 58) (Int32.toNatClampNeg 0) (Int32.toNatClampNeg 0) (Int32.toNatClampNeg 70))) fun H83 => (gd (r1 = some (Option.getD r1 0)) (gd (((Option.getD r1 0) < ea_n H83 ∧ ea_c H83 (Option.getD r1 0) = 1)) (gd ((ea_r H83 (Option.getD r1 0) 9) = some (Option.getD (ea_r H83 (Option.getD r1 0) 9) 0)) (gd (((Option.getD (ea_r H83 (Option.getD r1 0) 9) 0) < ea_n H83 ∧ ea_c H83 (Option.getD (ea_r H83 (Option.getD r1 0) 9) 0) = 20)) (gd ((¬ (0 : Int32) < 0)) (gd ((¬ (0 : Int32) < 0)) (gd ((¬ (70 : Int32) < 0)) (gd (((Int32.toNatClampNeg 0) + (Int32.toNatClampNeg 70) ≤ ea_l H83 (Option.getD (ea_r H83 (Option.getD r1 0) 9) 0))) (gd (((Int32.toNatClampNeg 0) + (Int32.toNatClampNeg 70) ≤ ea_l H83 61)) (ea_let (ea_wa H83 61 (va_cpy (ea_i H83 (Option.getD (ea_r H83 (Option.getD r1 0) 9) 0)) (ea_i H83 61) (Int32.toNatClampNeg 0) (Int32.toNatClampNeg 0) (Int32.toNatClampNeg 70))) fun H94 => (gd (r1 = some (Option.getD r1 0)) (gd (((Option.getD r1 0) < ea_n H94 ∧ ea_c H94 (Option.getD r1 0) = 1)) (gd ((ea_r H94 (Option.getD r1 0) 8) = some (Option.getD (ea_r H94 (Option.getD r1 0) 8) 0)) (gd (((Option.getD (ea_r H94 (Option.getD r1 0) 8) 0) < ea_n H94 ∧ ea_c H94 (Option.getD (ea_r H94 (Option.getD r1 0) 8) 0) = 20)) (gd ((¬ (0 : Int32) < 0)) (gd ((¬ (0 : Int32) < 0)) (gd ((¬ (12 : Int32) < 0)) (gd (((Int32.toNatClampNeg 0) + (Int32.toNatClampNeg 12) ≤ ea_l H94 (Option.getD (ea_r H94 (Option.getD r1 0) 8) 0))) (gd (((Int32.toNatClampNeg 0) + (Int32.toNatClampNeg 12) ≤ ea_l H94 60)) (ea_let (ea_wa H94 60 (va_cpy (ea_i H94 (Option.getD (ea_r H94 (Option.getD r1 0) 8) 0)) (ea_i H94 60) (Int32.toNatClampNeg 0) (Int32.toNatClampNeg 0) (Int32.toNatClampNeg 12))) fun H105 => (some ((), H105)))))))))))))))))))))))))))))))))))))))))))))))))))))))))))))))))))))))))))))))))))))))))))))))))))
theorem tBX1_copy_at52_0 {d : Nat} {h0 : ea_H} (hd : 2 ≤ d)  {r1 : Option Nat} {h : ea_H} {r : Unit} {h' : ea_H} (E : BX1_copy_at52_0 r1 h = some (r, h')) (hs : ShC h) : ea_W mX1_copy d h0 none h' 0 [(0, vR (some 52)), (1, vR r1)] [] h := by
  unfold BX1_copy_at52_0 at E
  obtain ⟨e1, E⟩ := gd_some E
  refine ea_aload_n (pc := 0) dX1_copy_0 rfl 0 rfl ?_
  refine ea_aload_n (pc := 1) dX1_copy_1 rfl 1 rfl ?_
  obtain ⟨f2, E⟩ := gd_some E
  obtain ⟨H3, eH3, E⟩ := let_some E
  refine ea_deref0 e1 ?_
  refine ea_getI (pc := 2) dX1_copy_2 ec_1 (k := 0) (Nat.le_of_ble_eq_true rfl) rfl (Or.inl ew_441) f2.1 f2.2 ?_
  refine ea_putI (pc := 5) dX1_copy_5 ec_1 (k := 0) (Nat.le_of_ble_eq_true rfl) rfl (Or.inl ⟨rfl, Or.inl ew_441⟩) rfl rfl (cShC_52 hs).1 (cShC_52 hs).2.1 ?_
  refine ea_nm eH3 ?_
  have hsH3 : ShC H3 := by rw [eH3]; exact hs
  obtain ⟨e4, E⟩ := gd_some E
  refine ea_aload_n (pc := 8) dX1_copy_8 rfl 0 rfl ?_
  refine ea_aload_n (pc := 9) dX1_copy_9 rfl 1 rfl ?_
  obtain ⟨f5, E⟩ := gd_some E
  obtain ⟨H6, eH6, E⟩ := let_some E
  refine ea_deref0 e4 ?_
  refine ea_getI (pc := 10) dX1_copy_10 ec_1 (k := 10) (Nat.le_of_ble_eq_true rfl) rfl (Or.inl ew_458) f5.1 f5.2 ?_
  refine ea_putI (pc := 13) dX1_copy_13 ec_1 (k := 10) (Nat.le_of_ble_eq_true rfl) rfl (Or.inl ⟨rfl, Or.inl ew_458⟩) rfl rfl (cShC_52 hsH3).1 (cShC_52 hsH3).2.1 ?_
  refine ea_nm eH6 ?_
  have hsH6 : ShC H6 := by rw [eH6]; exact hsH3
  obtain ⟨e7, E⟩ := gd_some E
  refine ea_aload_n (pc := 16) dX1_copy_16 rfl 1 rfl ?_
  obtain ⟨f8, E⟩ := gd_some E
  obtain ⟨e9, E⟩ := gd_some E
  refine ea_deref0 e7 ?_
  refine ea_getR (pc := 17) dX1_copy_17 ec_1 (k := 1) (Nat.le_of_ble_eq_true rfl) rfl (Or.inl ew_443) f8.1 f8.2 rfl ?_
  refine ea_iconst (pc := 20) dX1_copy_20 (v := 0) rfl ?_
  refine ea_aload_n (pc := 21) dX1_copy_21 rfl 0 rfl ?_
  refine ea_getR (pc := 22) dX1_copy_22 ec_1 (k := 1) (Nat.le_of_ble_eq_true rfl) rfl (Or.inl ew_443) (cShC_52 hsH6).1 (cShC_52 hsH6).2.1 (rShC_52_1 hsH6) ?_
  refine ea_iconst (pc := 25) dX1_copy_25 (v := 0) rfl ?_
  refine ea_bipush (pc := 26) dX1_copy_26 (v := 120) rfl ?_
  obtain ⟨f10, E⟩ := gd_some E
  obtain ⟨z11, E⟩ := gd_some E
  obtain ⟨z12, E⟩ := gd_some E
  obtain ⟨z13, E⟩ := gd_some E
  obtain ⟨z14, E⟩ := gd_some E
  obtain ⟨z15, E⟩ := gd_some E
  obtain ⟨H17, eH17, E⟩ := let_some E
  refine ea_deref4 e9 ?_
  refine ea_copyX (pc := 28) (sp := 0) (dp := 0) (n := 120) 0 (fun _ => rfl) (Or.inl rfl) rfl dX1_copy_28 ew_1381 ew_159 ew_158 ew_118 ⟨f10.1, f10.2⟩ ⟨(cShC_53 hsH6).1, (cShC_53 hsH6).2.1⟩ z11 z12 z13 z14 z15 (fun _ _ => rfl) (by omega) (Nat.le_of_ble_eq_true rfl) ?_
  refine ea_nm eH17 ?_
  have hsH17 : ShC H17 := by rw [eH17]; exact hsH6
  obtain ⟨e18, E⟩ := gd_some E
  refine ea_aload_n (pc := 31) dX1_copy_31 rfl 1 rfl ?_
  obtain ⟨f19, E⟩ := gd_some E
  obtain ⟨e20, E⟩ := gd_some E
  refine ea_deref0 e18 ?_
  refine ea_getR (pc := 32) dX1_copy_32 ec_1 (k := 2) (Nat.le_of_ble_eq_true rfl) rfl (Or.inl ew_445) f19.1 f19.2 rfl ?_
  refine ea_iconst (pc := 35) dX1_copy_35 (v := 0) rfl ?_
  refine ea_aload_n (pc := 36) dX1_copy_36 rfl 0 rfl ?_
  refine ea_getR (pc := 37) dX1_copy_37 ec_1 (k := 2) (Nat.le_of_ble_eq_true rfl) rfl (Or.inl ew_445) (cShC_52 hsH17).1 (cShC_52 hsH17).2.1 (rShC_52_2 hsH17) ?_
  refine ea_iconst (pc := 40) dX1_copy_40 (v := 0) rfl ?_
  refine ea_bipush (pc := 41) dX1_copy_41 (v := 120) rfl ?_
  obtain ⟨f21, E⟩ := gd_some E
  obtain ⟨z22, E⟩ := gd_some E
  obtain ⟨z23, E⟩ := gd_some E
  obtain ⟨z24, E⟩ := gd_some E
  obtain ⟨z25, E⟩ := gd_some E
  obtain ⟨z26, E⟩ := gd_some E
  obtain ⟨H28, eH28, E⟩ := let_some E
  refine ea_deref4 e20 ?_
  refine ea_copyX (pc := 43) (sp := 0) (dp := 0) (n := 120) 0 (fun _ => rfl) (Or.inl rfl) rfl dX1_copy_43 ew_1381 ew_159 ew_158 ew_118 ⟨f21.1, f21.2⟩ ⟨(cShC_54 hsH17).1, (cShC_54 hsH17).2.1⟩ z22 z23 z24 z25 z26 (fun _ _ => rfl) (by omega) (Nat.le_of_ble_eq_true rfl) ?_
  refine ea_nm eH28 ?_
  have hsH28 : ShC H28 := by rw [eH28]; exact hsH17
  obtain ⟨e29, E⟩ := gd_some E
  refine ea_aload_n (pc := 46) dX1_copy_46 rfl 1 rfl ?_
  obtain ⟨f30, E⟩ := gd_some E
  obtain ⟨e31, E⟩ := gd_some E
  refine ea_deref0 e29 ?_
  refine ea_getR (pc := 47) dX1_copy_47 ec_1 (k := 3) (Nat.le_of_ble_eq_true rfl) rfl (Or.inl ew_447) f30.1 f30.2 rfl ?_
  refine ea_iconst (pc := 50) dX1_copy_50 (v := 0) rfl ?_
  refine ea_aload_n (pc := 51) dX1_copy_51 rfl 0 rfl ?_
  refine ea_getR (pc := 52) dX1_copy_52 ec_1 (k := 3) (Nat.le_of_ble_eq_true rfl) rfl (Or.inl ew_447) (cShC_52 hsH28).1 (cShC_52 hsH28).2.1 (rShC_52_3 hsH28) ?_
  refine ea_iconst (pc := 55) dX1_copy_55 (v := 0) rfl ?_
  refine ea_bipush (pc := 56) dX1_copy_56 (v := 120) rfl ?_
  obtain ⟨f32, E⟩ := gd_some E
  obtain ⟨z33, E⟩ := gd_some E
  obtain ⟨z34, E⟩ := gd_some E
  obtain ⟨z35, E⟩ := gd_some E
  obtain ⟨z36, E⟩ := gd_some E
  obtain ⟨z37, E⟩ := gd_some E
  obtain ⟨H39, eH39, E⟩ := let_some E
  refine ea_deref4 e31 ?_
  refine ea_copyX (pc := 58) (sp := 0) (dp := 0) (n := 120) 0 (fun _ => rfl) (Or.inl rfl) rfl dX1_copy_58 ew_1381 ew_159 ew_158 ew_118 ⟨f32.1, f32.2⟩ ⟨(cShC_55 hsH28).1, (cShC_55 hsH28).2.1⟩ z33 z34 z35 z36 z37 (fun _ _ => rfl) (by omega) (Nat.le_of_ble_eq_true rfl) ?_
  refine ea_nm eH39 ?_
  have hsH39 : ShC H39 := by rw [eH39]; exact hsH28
  obtain ⟨e40, E⟩ := gd_some E
  refine ea_aload_n (pc := 61) dX1_copy_61 rfl 1 rfl ?_
  obtain ⟨f41, E⟩ := gd_some E
  obtain ⟨e42, E⟩ := gd_some E
  refine ea_deref0 e40 ?_
  refine ea_getR (pc := 62) dX1_copy_62 ec_1 (k := 4) (Nat.le_of_ble_eq_true rfl) rfl (Or.inl ew_449) f41.1 f41.2 rfl ?_
  refine ea_iconst (pc := 65) dX1_copy_65 (v := 0) rfl ?_
  refine ea_aload_n (pc := 66) dX1_copy_66 rfl 0 rfl ?_
  refine ea_getR (pc := 67) dX1_copy_67 ec_1 (k := 4) (Nat.le_of_ble_eq_true rfl) rfl (Or.inl ew_449) (cShC_52 hsH39).1 (cShC_52 hsH39).2.1 (rShC_52_4 hsH39) ?_
  refine ea_iconst (pc := 70) dX1_copy_70 (v := 0) rfl ?_
  refine ea_bipush (pc := 71) dX1_copy_71 (v := 120) rfl ?_
  obtain ⟨f43, E⟩ := gd_some E
  obtain ⟨z44, E⟩ := gd_some E
  obtain ⟨z45, E⟩ := gd_some E
  obtain ⟨z46, E⟩ := gd_some E
  obtain ⟨z47, E⟩ := gd_some E
  obtain ⟨z48, E⟩ := gd_some E
  obtain ⟨H50, eH50, E⟩ := let_some E
  refine ea_deref4 e42 ?_
  refine ea_copyX (pc := 73) (sp := 0) (dp := 0) (n := 120) 0 (fun _ => rfl) (Or.inl rfl) rfl dX1_copy_73 ew_1381 ew_159 ew_158 ew_118 ⟨f43.1, f43.2⟩ ⟨(cShC_56 hsH39).1, (cShC_56 hsH39).2.1⟩ z44 z45 z46 z47 z48 (fun _ _ => rfl) (by omega) (Nat.le_of_ble_eq_true rfl) ?_
  refine ea_nm eH50 ?_
  have hsH50 : ShC H50 := by rw [eH50]; exact hsH39
  obtain ⟨e51, E⟩ := gd_some E
  refine ea_aload_n (pc := 76) dX1_copy_76 rfl 1 rfl ?_
  obtain ⟨f52, E⟩ := gd_some E
  obtain ⟨e53, E⟩ := gd_some E
  refine ea_deref0 e51 ?_
  refine ea_getR (pc := 77) dX1_copy_77 ec_1 (k := 7) (Nat.le_of_ble_eq_true rfl) rfl (Or.inl ew_455) f52.1 f52.2 rfl ?_
  refine ea_iconst (pc := 80) dX1_copy_80 (v := 0) rfl ?_
  refine ea_aload_n (pc := 81) dX1_copy_81 rfl 0 rfl ?_
  refine ea_getR (pc := 82) dX1_copy_82 ec_1 (k := 7) (Nat.le_of_ble_eq_true rfl) rfl (Or.inl ew_455) (cShC_52 hsH50).1 (cShC_52 hsH50).2.1 (rShC_52_7 hsH50) ?_
  refine ea_iconst (pc := 85) dX1_copy_85 (v := 0) rfl ?_
  refine ea_bipush (pc := 86) dX1_copy_86 (v := 120) rfl ?_
  obtain ⟨f54, E⟩ := gd_some E
  obtain ⟨z55, E⟩ := gd_some E
  obtain ⟨z56, E⟩ := gd_some E
  obtain ⟨z57, E⟩ := gd_some E
  obtain ⟨z58, E⟩ := gd_some E
  obtain ⟨z59, E⟩ := gd_some E
  obtain ⟨H61, eH61, E⟩ := let_some E
  refine ea_deref4 e53 ?_
  refine ea_copyX (pc := 88) (sp := 0) (dp := 0) (n := 120) 0 (fun _ => rfl) (Or.inl rfl) rfl dX1_copy_88 ew_1381 ew_159 ew_158 ew_118 ⟨f54.1, f54.2⟩ ⟨(cShC_59 hsH50).1, (cShC_59 hsH50).2.1⟩ z55 z56 z57 z58 z59 (fun _ _ => rfl) (by omega) (Nat.le_of_ble_eq_true rfl) ?_
  refine ea_nm eH61 ?_
  have hsH61 : ShC H61 := by rw [eH61]; exact hsH50
  obtain ⟨e62, E⟩ := gd_some E
  refine ea_aload_n (pc := 91) dX1_copy_91 rfl 1 rfl ?_
  obtain ⟨f63, E⟩ := gd_some E
  obtain ⟨e64, E⟩ := gd_some E
  refine ea_deref0 e62 ?_
  refine ea_getR (pc := 92) dX1_copy_92 ec_1 (k := 5) (Nat.le_of_ble_eq_true rfl) rfl (Or.inl ew_451) f63.1 f63.2 rfl ?_
  refine ea_iconst (pc := 95) dX1_copy_95 (v := 0) rfl ?_
  refine ea_aload_n (pc := 96) dX1_copy_96 rfl 0 rfl ?_
  refine ea_getR (pc := 97) dX1_copy_97 ec_1 (k := 5) (Nat.le_of_ble_eq_true rfl) rfl (Or.inl ew_451) (cShC_52 hsH61).1 (cShC_52 hsH61).2.1 (rShC_52_5 hsH61) ?_
  refine ea_iconst (pc := 100) dX1_copy_100 (v := 0) rfl ?_
  refine ea_bipush (pc := 101) dX1_copy_101 (v := 120) rfl ?_
  obtain ⟨f65, E⟩ := gd_some E
  obtain ⟨z66, E⟩ := gd_some E
  obtain ⟨z67, E⟩ := gd_some E
  obtain ⟨z68, E⟩ := gd_some E
  obtain ⟨z69, E⟩ := gd_some E
  obtain ⟨z70, E⟩ := gd_some E
  obtain ⟨z71, E⟩ := gd_some E
  obtain ⟨H72, eH72, E⟩ := let_some E
  refine ea_deref4 e64 ?_
  refine ea_copyX (pc := 103) (sp := 0) (dp := 0) (n := 120) 1 (fun _ => rfl) (Or.inr rfl) rfl dX1_copy_103 ew_1381 ew_159 ew_158 ew_118 ⟨f65.1, f65.2⟩ ⟨(cShC_57 hsH61).1, (cShC_57 hsH61).2.1⟩ z66 z67 z68 z69 z70 (fun i hi => ea_bf (z71 i hi)) (by omega) (Nat.le_of_ble_eq_true rfl) ?_
  refine ea_nm eH72 ?_
  have hsH72 : ShC H72 := by rw [eH72]; exact hsH61
  obtain ⟨e73, E⟩ := gd_some E
  refine ea_aload_n (pc := 106) dX1_copy_106 rfl 1 rfl ?_
  obtain ⟨f74, E⟩ := gd_some E
  obtain ⟨e75, E⟩ := gd_some E
  refine ea_deref0 e73 ?_
  refine ea_getR (pc := 107) dX1_copy_107 ec_1 (k := 6) (Nat.le_of_ble_eq_true rfl) rfl (Or.inl ew_453) f74.1 f74.2 rfl ?_
  refine ea_iconst (pc := 110) dX1_copy_110 (v := 0) rfl ?_
  refine ea_aload_n (pc := 111) dX1_copy_111 rfl 0 rfl ?_
  refine ea_getR (pc := 112) dX1_copy_112 ec_1 (k := 6) (Nat.le_of_ble_eq_true rfl) rfl (Or.inl ew_453) (cShC_52 hsH72).1 (cShC_52 hsH72).2.1 (rShC_52_6 hsH72) ?_
  refine ea_iconst (pc := 115) dX1_copy_115 (v := 0) rfl ?_
  refine ea_bipush (pc := 116) dX1_copy_116 (v := 70) rfl ?_
  obtain ⟨f76, E⟩ := gd_some E
  obtain ⟨z77, E⟩ := gd_some E
  obtain ⟨z78, E⟩ := gd_some E
  obtain ⟨z79, E⟩ := gd_some E
  obtain ⟨z80, E⟩ := gd_some E
  obtain ⟨z81, E⟩ := gd_some E
  obtain ⟨H83, eH83, E⟩ := let_some E
  refine ea_deref4 e75 ?_
  refine ea_copyX (pc := 118) (sp := 0) (dp := 0) (n := 70) 0 (fun _ => rfl) (Or.inl rfl) rfl dX1_copy_118 ew_1381 ew_159 ew_158 ew_118 ⟨f76.1, f76.2⟩ ⟨(cShC_58 hsH72).1, (cShC_58 hsH72).2.1⟩ z77 z78 z79 z80 z81 (fun _ _ => rfl) (by omega) (Nat.le_of_ble_eq_true rfl) ?_
  refine ea_nm eH83 ?_
  have hsH83 : ShC H83 := by rw [eH83]; exact hsH72
  obtain ⟨e84, E⟩ := gd_some E
  refine ea_aload_n (pc := 121) dX1_copy_121 rfl 1 rfl ?_
  obtain ⟨f85, E⟩ := gd_some E
  obtain ⟨e86, E⟩ := gd_some E
  refine ea_deref0 e84 ?_
  refine ea_getR (pc := 122) dX1_copy_122 ec_1 (k := 9) (Nat.le_of_ble_eq_true rfl) rfl (Or.inl ew_457) f85.1 f85.2 rfl ?_
  refine ea_iconst (pc := 125) dX1_copy_125 (v := 0) rfl ?_
  refine ea_aload_n (pc := 126) dX1_copy_126 rfl 0 rfl ?_
  refine ea_getR (pc := 127) dX1_copy_127 ec_1 (k := 9) (Nat.le_of_ble_eq_true rfl) rfl (Or.inl ew_457) (cShC_52 hsH83).1 (cShC_52 hsH83).2.1 (rShC_52_9 hsH83) ?_
  refine ea_iconst (pc := 130) dX1_copy_130 (v := 0) rfl ?_
  refine ea_bipush (pc := 131) dX1_copy_131 (v := 70) rfl ?_
  obtain ⟨f87, E⟩ := gd_some E
  obtain ⟨z88, E⟩ := gd_some E
  obtain ⟨z89, E⟩ := gd_some E
  obtain ⟨z90, E⟩ := gd_some E
  obtain ⟨z91, E⟩ := gd_some E
  obtain ⟨z92, E⟩ := gd_some E
  obtain ⟨H94, eH94, E⟩ := let_some E
  refine ea_deref4 e86 ?_
  refine ea_copyX (pc := 133) (sp := 0) (dp := 0) (n := 70) 0 (fun _ => rfl) (Or.inl rfl) rfl dX1_copy_133 ew_1381 ew_159 ew_158 ew_118 ⟨f87.1, f87.2⟩ ⟨(cShC_61 hsH83).1, (cShC_61 hsH83).2.1⟩ z88 z89 z90 z91 z92 (fun _ _ => rfl) (by omega) (Nat.le_of_ble_eq_true rfl) ?_
  refine ea_nm eH94 ?_
  have hsH94 : ShC H94 := by rw [eH94]; exact hsH83
  obtain ⟨e95, E⟩ := gd_some E
  refine ea_aload_n (pc := 136) dX1_copy_136 rfl 1 rfl ?_
  obtain ⟨f96, E⟩ := gd_some E
  obtain ⟨e97, E⟩ := gd_some E
  refine ea_deref0 e95 ?_
  refine ea_getR (pc := 137) dX1_copy_137 ec_1 (k := 8) (Nat.le_of_ble_eq_true rfl) rfl (Or.inl ew_456) f96.1 f96.2 rfl ?_
  refine ea_iconst (pc := 140) dX1_copy_140 (v := 0) rfl ?_
  refine ea_aload_n (pc := 141) dX1_copy_141 rfl 0 rfl ?_
  refine ea_getR (pc := 142) dX1_copy_142 ec_1 (k := 8) (Nat.le_of_ble_eq_true rfl) rfl (Or.inl ew_456) (cShC_52 hsH94).1 (cShC_52 hsH94).2.1 (rShC_52_8 hsH94) ?_
  refine ea_iconst (pc := 145) dX1_copy_145 (v := 0) rfl ?_
  refine ea_bipush (pc := 146) dX1_copy_146 (v := 12) rfl ?_
  obtain ⟨f98, E⟩ := gd_some E
  obtain ⟨z99, E⟩ := gd_some E
  obtain ⟨z100, E⟩ := gd_some E
  obtain ⟨z101, E⟩ := gd_some E
  obtain ⟨z102, E⟩ := gd_some E
  obtain ⟨z103, E⟩ := gd_some E
  obtain ⟨H105, eH105, E⟩ := let_some E
  refine ea_deref4 e97 ?_
  refine ea_copyX (pc := 148) (sp := 0) (dp := 0) (n := 12) 0 (fun _ => rfl) (Or.inl rfl) rfl dX1_copy_148 ew_1381 ew_159 ew_158 ew_118 ⟨f98.1, f98.2⟩ ⟨(cShC_60 hsH94).1, (cShC_60 hsH94).2.1⟩ z99 z100 z101 z102 z103 (fun _ _ => rfl) (by omega) (Nat.le_of_ble_eq_true rfl) ?_
  refine ea_nm eH105 ?_
  have hsH105 : ShC H105 := by rw [eH105]; exact hsH94
  exact ea_vretO (pc := 151) dX1_copy_151 rfl E
theorem kBX1_copy_at52_0  {r1 : Option Nat} {h : ea_H} : kp (ea_core h) (BX1_copy_at52_0 r1 h) :=
  (kp_gd (kp_gd (kp_let (kp_gd (kp_gd (kp_let (kp_gd (kp_gd (kp_gd (kp_gd (kp_gd (kp_gd (kp_gd (kp_gd (kp_gd (kp_let (kp_gd (kp_gd (kp_gd (kp_gd (kp_gd (kp_gd (kp_gd (kp_gd (kp_gd (kp_let (kp_gd (kp_gd (kp_gd (kp_gd (kp_gd (kp_gd (kp_gd (kp_gd (kp_gd (kp_let (kp_gd (kp_gd (kp_gd (kp_gd (kp_gd (kp_gd (kp_gd (kp_gd (kp_gd (kp_let (kp_gd (kp_gd (kp_gd (kp_gd (kp_gd (kp_gd (kp_gd (kp_gd (kp_gd (kp_let (kp_gd (kp_gd (kp_gd (kp_gd (kp_gd (kp_gd (kp_gd (kp_gd (kp_gd (kp_gd (kp_let (kp_gd (kp_gd (kp_gd (kp_gd (kp_gd (kp_gd (kp_gd (kp_gd (kp_gd (kp_let (kp_gd (kp_gd (kp_gd (kp_gd (kp_gd (kp_gd (kp_gd (kp_gd (kp_gd (kp_let (kp_gd (kp_gd (kp_gd (kp_gd (kp_gd (kp_gd (kp_gd (kp_gd (kp_gd (kp_let (kp_ret rfl))))))))))))))))))))))))))))))))))))))))))))))))))))))))))))))))))))))))))))))))))))))))))))))))))
noncomputable def qX1_copy_at52 (r1 : Option Nat) (h : ea_H) : Option (Unit × ea_H) := BX1_copy_at52_0 r1 h
theorem sX1_copy_at52 {d : Nat} {r1 : Option Nat} {h : ea_H} {r : Unit} {h' : ea_H} (hd : 2 ≤ d) (hs : ShC h) (K : qX1_copy_at52 r1 h = some (r, h')) : ea_Met mX1_copy d [vR (some 52), vR r1] h none h' := by
  unfold qX1_copy_at52 at K
  have W := tBX1_copy_at52_0 hd (h0 := h) K hs
  exact ea_enter rfl (Nat.le_of_ble_eq_true rfl) W
theorem kpX1_copy_at52 (r1 : Option Nat) (h : ea_H) : kp (ea_core h) (qX1_copy_at52 r1 h) := kBX1_copy_at52_0
noncomputable def BX1_copy_at62_0 (r1 : Option Nat) (h : ea_H) : Option (Unit × ea_H) :=
  (gd (r1 = some (Option.getD r1 0)) (gd (((Option.getD r1 0) < ea_n h ∧ ea_c h (Option.getD r1 0) = 1)) (ea_let (ea_wi h 62 0 (ea_i h (Option.getD r1 0) 0)) fun H3 => (gd (r1 = some (Option.getD r1 0)) (gd (((Option.getD r1 0) < ea_n H3 ∧ ea_c H3 (Option.getD r1 0) = 1)) (ea_let (ea_wi H3 62 10 (ea_i H3 (Option.getD r1 0) 10)) fun H6 => (gd (r1 = some (Option.getD r1 0)) (gd (((Option.getD r1 0) < ea_n H6 ∧ ea_c H6 (Option.getD r1 0) = 1)) (gd ((ea_r H6 (Option.getD r1 0) 1) = some (Option.getD (ea_r H6 (Option.getD r1 0) 1) 0)) (gd (((Option.getD (ea_r H6 (Option.getD r1 0) 1) 0) < ea_n H6 ∧ ea_c H6 (Option.getD (ea_r H6 (Option.getD r1 0) 1) 0) = 20)) (gd ((¬ (0 : Int32) < 0)) (gd ((¬ (0 : Int32) < 0)) (gd ((¬ (120 : Int32) < 0)) (gd (((Int32.toNatClampNeg 0) + (Int32.toNatClampNeg 120) ≤ ea_l H6 (Option.getD (ea_r H6 (Option.getD r1 0) 1) 0))) (gd (((Int32.toNatClampNeg 0) + (Int32.toNatClampNeg 120) ≤ ea_l H6 63)) (ea_let (ea_wa H6 63 (va_cpy (ea_i H6 (Option.getD (ea_r H6 (Option.getD r1 0) 1) 0)) (ea_i H6 63) (Int32.toNatClampNeg 0) (Int32.toNatClampNeg 0) (Int32.toNatClampNeg 120))) fun H17 => (gd (r1 = some (Option.getD r1 0)) (gd (((Option.getD r1 0) < ea_n H17 ∧ ea_c H17 (Option.getD r1 0) = 1)) (gd ((ea_r H17 (Option.getD r1 0) 2) = some (Option.getD (ea_r H17 (Option.getD r1 0) 2) 0)) (gd (((Option.getD (ea_r H17 (Option.getD r1 0) 2) 0) < ea_n H17 ∧ ea_c H17 (Option.getD (ea_r H17 (Option.getD r1 0) 2) 0) = 20)) (gd ((¬ (0 : Int32) < 0)) (gd ((¬ (0 : Int32) < 0)) (gd ((¬ (120 : Int32) < 0)) (gd (((Int32.toNatClampNeg 0) + (Int32.toNatClampNeg 120) ≤ ea_l H17 (Option.getD (ea_r H17 (Option.getD r1 0) 2) 0))) (gd (((Int32.toNatClampNeg 0) + (Int32.toNatClampNeg 120) ≤ ea_l H17 64)) (ea_let (ea_wa H17 64 (va_cpy (ea_i H17 (Option.getD (ea_r H17 (Option.getD r1 0) 2) 0)) (ea_i H17 64) (Int32.toNatClampNeg 0) (Int32.toNatClampNeg 0) (Int32.toNatClampNeg 120))) fun H28 => (gd (r1 = some (Option.getD r1 0)) (gd (((Option.getD r1 0) < ea_n H28 ∧ ea_c H28 (Option.getD r1 0) = 1)) (gd ((ea_r H28 (Option.getD r1 0) 3) = some (Option.getD (ea_r H28 (Option.getD r1 0) 3) 0)) (gd (((Option.getD (ea_r H28 (Option.getD r1 0) 3) 0) < ea_n H28 ∧ ea_c H28 (Option.getD (ea_r H28 (Option.getD r1 0) 3) 0) = 20)) (gd ((¬ (0 : Int32) < 0)) (gd ((¬ (0 : Int32) < 0)) (gd ((¬ (120 : Int32) < 0)) (gd (((Int32.toNatClampNeg 0) + (Int32.toNatClampNeg 120) ≤ ea_l H28 (Option.getD (ea_r H28 (Option.getD r1 0) 3) 0))) (gd (((Int32.toNatClampNeg 0) + (Int32.toNatClampNeg 120) ≤ ea_l H28 65)) (ea_let (ea_wa H28 65 (va_cpy (ea_i H28 (Option.getD (ea_r H28 (Option.getD r1 0) 3) 0)) (ea_i H28 65) (Int32.toNatClampNeg 0) (Int32.toNatClampNeg 0) (Int32.toNatClampNeg 120))) fun H39 => (gd (r1 = some (Option.getD r1 0)) (gd (((Option.getD r1 0) < ea_n H39 ∧ ea_c H39 (Option.getD r1 0) = 1)) (gd ((ea_r H39 (Option.getD r1 0) 4) = some (Option.getD (ea_r H39 (Option.getD r1 0) 4) 0)) (gd (((Option.getD (ea_r H39 (Option.getD r1 0) 4) 0) < ea_n H39 ∧ ea_c H39 (Option.getD (ea_r H39 (Option.getD r1 0) 4) 0) = 20)) (gd ((¬ (0 : Int32) < 0)) (gd ((¬ (0 : Int32) < 0)) (gd ((¬ (120 : Int32) < 0)) (gd (((Int32.toNatClampNeg 0) + (Int32.toNatClampNeg 120) ≤ ea_l H39 (Option.getD (ea_r H39 (Option.getD r1 0) 4) 0))) (gd (((Int32.toNatClampNeg 0) + (Int32.toNatClampNeg 120) ≤ ea_l H39 66)) (ea_let (ea_wa H39 66 (va_cpy (ea_i H39 (Option.getD (ea_r H39 (Option.getD r1 0) 4) 0)) (ea_i H39 66) (Int32.toNatClampNeg 0) (Int32.toNatClampNeg 0) (Int32.toNatClampNeg 120))) fun H50 => (gd (r1 = some (Option.getD r1 0)) (gd (((Option.getD r1 0) < ea_n H50 ∧ ea_c H50 (Option.getD r1 0) = 1)) (gd ((ea_r H50 (Option.getD r1 0) 7) = some (Option.getD (ea_r H50 (Option.getD r1 0) 7) 0)) (gd (((Option.getD (ea_r H50 (Option.getD r1 0) 7) 0) < ea_n H50 ∧ ea_c H50 (Option.getD (ea_r H50 (Option.getD r1 0) 7) 0) = 20)) (gd ((¬ (0 : Int32) < 0)) (gd ((¬ (0 : Int32) < 0)) (gd ((¬ (120 : Int32) < 0)) (gd (((Int32.toNatClampNeg 0) + (Int32.toNatClampNeg 120) ≤ ea_l H50 (Option.getD (ea_r H50 (Option.getD r1 0) 7) 0))) (gd (((Int32.toNatClampNeg 0) + (Int32.toNatClampNeg 120) ≤ ea_l H50 69)) (ea_let (ea_wa H50 69 (va_cpy (ea_i H50 (Option.getD (ea_r H50 (Option.getD r1 0) 7) 0)) (ea_i H50 69) (Int32.toNatClampNeg 0) (Int32.toNatClampNeg 0) (Int32.toNatClampNeg 120))) fun H61 => (gd (r1 = some (Option.getD r1 0)) (gd (((Option.getD r1 0) < ea_n H61 ∧ ea_c H61 (Option.getD r1 0) = 1)) (gd ((ea_r H61 (Option.getD r1 0) 5) = some (Option.getD (ea_r H61 (Option.getD r1 0) 5) 0)) (gd (((Option.getD (ea_r H61 (Option.getD r1 0) 5) 0) < ea_n H61 ∧ ea_c H61 (Option.getD (ea_r H61 (Option.getD r1 0) 5) 0) = 21)) (gd ((¬ (0 : Int32) < 0)) (gd ((¬ (0 : Int32) < 0)) (gd ((¬ (120 : Int32) < 0)) (gd (((Int32.toNatClampNeg 0) + (Int32.toNatClampNeg 120) ≤ ea_l H61 (Option.getD (ea_r H61 (Option.getD r1 0) 5) 0))) (gd (((Int32.toNatClampNeg 0) + (Int32.toNatClampNeg 120) ≤ ea_l H61 67)) (gd ((∀ i, i < (Int32.toNatClampNeg 120) → (ea_i H61 (Option.getD (ea_r H61 (Option.getD r1 0) 5) 0) ((Int32.toNatClampNeg 0) + i) = 0 ∨ ea_i H61 (Option.getD (ea_r H61 (Option.getD r1 0) 5) 0) ((Int32.toNatClampNeg 0) + i) = 1))) (ea_let (ea_wa H61 67 (va_cpy (ea_i H61 (Option.getD (ea_r H61 (Option.getD r1 0) 5) 0)) (ea_i H61 67) (Int32.toNatClampNeg 0) (Int32.toNatClampNeg 0) (Int32.toNatClampNeg 120))) fun H72 => (gd (r1 = some (Option.getD r1 0)) (gd (((Option.getD r1 0) < ea_n H72 ∧ ea_c H72 (Option.getD r1 0) = 1)) (gd ((ea_r H72 (Option.getD r1 0) 6) = some (Option.getD (ea_r H72 (Option.getD r1 0) 6) 0)) (gd (((Option.getD (ea_r H72 (Option.getD r1 0) 6) 0) < ea_n H72 ∧ ea_c H72 (Option.getD (ea_r H72 (Option.getD r1 0) 6) 0) = 20)) (gd ((¬ (0 : Int32) < 0)) (gd ((¬ (0 : Int32) < 0)) (gd ((¬ (70 : Int32) < 0)) (gd (((Int32.toNatClampNeg 0) + (Int32.toNatClampNeg 70) ≤ ea_l H72 (Option.getD (ea_r H72 (Option.getD r1 0) 6) 0))) (gd (((Int32.toNatClampNeg 0) + (Int32.toNatClampNeg 70) ≤ ea_l H72 68)) (ea_let (ea_wa H72 68 (va_cpy (ea_i H72 (Option.getD (ea_r H72 (Option.getD r1 0) 6) 0)) (ea_i H72 68) (Int32.toNatClampNeg 0) (Int32.toNatClampNeg 0) (Int32.toNatClampNeg 70))) fun H83 => (gd (r1 = some (Option.getD r1 0)) (gd (((Option.getD r1 0) < ea_n H83 ∧ ea_c H83 (Option.getD r1 0) = 1)) (gd ((ea_r H83 (Option.getD r1 0) 9) = some (Option.getD (ea_r H83 (Option.getD r1 0) 9) 0)) (gd (((Option.getD (ea_r H83 (Option.getD r1 0) 9) 0) < ea_n H83 ∧ ea_c H83 (Option.getD (ea_r H83 (Option.getD r1 0) 9) 0) = 20)) (gd ((¬ (0 : Int32) < 0)) (gd ((¬ (0 : Int32) < 0)) (gd ((¬ (70 : Int32) < 0)) (gd (((Int32.toNatClampNeg 0) + (Int32.toNatClampNeg 70) ≤ ea_l H83 (Option.getD (ea_r H83 (Option.getD r1 0) 9) 0))) (gd (((Int32.toNatClampNeg 0) + (Int32.toNatClampNeg 70) ≤ ea_l H83 71)) (ea_let (ea_wa H83 71 (va_cpy (ea_i H83 (Option.getD (ea_r H83 (Option.getD r1 0) 9) 0)) (ea_i H83 71) (Int32.toNatClampNeg 0) (Int32.toNatClampNeg 0) (Int32.toNatClampNeg 70))) fun H94 => (gd (r1 = some (Option.getD r1 0)) (gd (((Option.getD r1 0) < ea_n H94 ∧ ea_c H94 (Option.getD r1 0) = 1)) (gd ((ea_r H94 (Option.getD r1 0) 8) = some (Option.getD (ea_r H94 (Option.getD r1 0) 8) 0)) (gd (((Option.getD (ea_r H94 (Option.getD r1 0) 8) 0) < ea_n H94 ∧ ea_c H94 (Option.getD (ea_r H94 (Option.getD r1 0) 8) 0) = 20)) (gd ((¬ (0 : Int32) < 0)) (gd ((¬ (0 : Int32) < 0)) (gd ((¬ (12 : Int32) < 0)) (gd (((Int32.toNatClampNeg 0) + (Int32.toNatClampNeg 12) ≤ ea_l H94 (Option.getD (ea_r H94 (Option.getD r1 0) 8) 0))) (gd (((Int32.toNatClampNeg 0) + (Int32.toNatClampNeg 12) ≤ ea_l H94 70)) (ea_let (ea_wa H94 70 (va_cpy (ea_i H94 (Option.getD (ea_r H94 (Option.getD r1 0) 8) 0)) (ea_i H94 70) (Int32.toNatClampNeg 0) (Int32.toNatClampNeg 0) (Int32.toNatClampNeg 12))) fun H105 => (some ((), H105)))))))))))))))))))))))))))))))))))))))))))))))))))))))))))))))))))))))))))))))))))))))))))))))))))
theorem tBX1_copy_at62_0 {d : Nat} {h0 : ea_H} (hd : 2 ≤ d)  {r1 : Option Nat} {h : ea_H} {r : Unit} {h' : ea_H} (E : BX1_copy_at62_0 r1 h = some (r, h')) (hs : ShC h) : ea_W mX1_copy d h0 none h' 0 [(0, vR (some 62)), (1, vR r1)] [] h := by
  unfold BX1_copy_at62_0 at E
  obtain ⟨e1, E⟩ := gd_some E
  refine ea_aload_n (pc := 0) dX1_copy_0 rfl 0 rfl ?_
  refine ea_aload_n (pc := 1) dX1_copy_1 rfl 1 rfl ?_
  obtain ⟨f2, E⟩ := gd_some E
  obtain ⟨H3, eH3, E⟩ := let_some E
  refine ea_deref0 e1 ?_
  refine ea_getI (pc := 2) dX1_copy_2 ec_1 (k := 0) (Nat.le_of_ble_eq_true rfl) rfl (Or.inl ew_441) f2.1 f2.2 ?_
  refine ea_putI (pc := 5) dX1_copy_5 ec_1 (k := 0) (Nat.le_of_ble_eq_true rfl) rfl (Or.inl ⟨rfl, Or.inl ew_441⟩) rfl rfl (cShC_62 hs).1 (cShC_62 hs).2.1 ?_
  refine ea_nm eH3 ?_
  have hsH3 : ShC H3 := by rw [eH3]; exact hs
  obtain ⟨e4, E⟩ := gd_some E
  refine ea_aload_n (pc := 8) dX1_copy_8 rfl 0 rfl ?_
  refine ea_aload_n (pc := 9) dX1_copy_9 rfl 1 rfl ?_
  obtain ⟨f5, E⟩ := gd_some E
  obtain ⟨H6, eH6, E⟩ := let_some E
  refine ea_deref0 e4 ?_
  refine ea_getI (pc := 10) dX1_copy_10 ec_1 (k := 10) (Nat.le_of_ble_eq_true rfl) rfl (Or.inl ew_458) f5.1 f5.2 ?_
  refine ea_putI (pc := 13) dX1_copy_13 ec_1 (k := 10) (Nat.le_of_ble_eq_true rfl) rfl (Or.inl ⟨rfl, Or.inl ew_458⟩) rfl rfl (cShC_62 hsH3).1 (cShC_62 hsH3).2.1 ?_
  refine ea_nm eH6 ?_
  have hsH6 : ShC H6 := by rw [eH6]; exact hsH3
  obtain ⟨e7, E⟩ := gd_some E
  refine ea_aload_n (pc := 16) dX1_copy_16 rfl 1 rfl ?_
  obtain ⟨f8, E⟩ := gd_some E
  obtain ⟨e9, E⟩ := gd_some E
  refine ea_deref0 e7 ?_
  refine ea_getR (pc := 17) dX1_copy_17 ec_1 (k := 1) (Nat.le_of_ble_eq_true rfl) rfl (Or.inl ew_443) f8.1 f8.2 rfl ?_
  refine ea_iconst (pc := 20) dX1_copy_20 (v := 0) rfl ?_
  refine ea_aload_n (pc := 21) dX1_copy_21 rfl 0 rfl ?_
  refine ea_getR (pc := 22) dX1_copy_22 ec_1 (k := 1) (Nat.le_of_ble_eq_true rfl) rfl (Or.inl ew_443) (cShC_62 hsH6).1 (cShC_62 hsH6).2.1 (rShC_62_1 hsH6) ?_
  refine ea_iconst (pc := 25) dX1_copy_25 (v := 0) rfl ?_
  refine ea_bipush (pc := 26) dX1_copy_26 (v := 120) rfl ?_
  obtain ⟨f10, E⟩ := gd_some E
  obtain ⟨z11, E⟩ := gd_some E
  obtain ⟨z12, E⟩ := gd_some E
  obtain ⟨z13, E⟩ := gd_some E
  obtain ⟨z14, E⟩ := gd_some E
  obtain ⟨z15, E⟩ := gd_some E
  obtain ⟨H17, eH17, E⟩ := let_some E
  refine ea_deref4 e9 ?_
  refine ea_copyX (pc := 28) (sp := 0) (dp := 0) (n := 120) 0 (fun _ => rfl) (Or.inl rfl) rfl dX1_copy_28 ew_1381 ew_159 ew_158 ew_118 ⟨f10.1, f10.2⟩ ⟨(cShC_63 hsH6).1, (cShC_63 hsH6).2.1⟩ z11 z12 z13 z14 z15 (fun _ _ => rfl) (by omega) (Nat.le_of_ble_eq_true rfl) ?_
  refine ea_nm eH17 ?_
  have hsH17 : ShC H17 := by rw [eH17]; exact hsH6
  obtain ⟨e18, E⟩ := gd_some E
  refine ea_aload_n (pc := 31) dX1_copy_31 rfl 1 rfl ?_
  obtain ⟨f19, E⟩ := gd_some E
  obtain ⟨e20, E⟩ := gd_some E
  refine ea_deref0 e18 ?_
  refine ea_getR (pc := 32) dX1_copy_32 ec_1 (k := 2) (Nat.le_of_ble_eq_true rfl) rfl (Or.inl ew_445) f19.1 f19.2 rfl ?_
  refine ea_iconst (pc := 35) dX1_copy_35 (v := 0) rfl ?_
  refine ea_aload_n (pc := 36) dX1_copy_36 rfl 0 rfl ?_
  refine ea_getR (pc := 37) dX1_copy_37 ec_1 (k := 2) (Nat.le_of_ble_eq_true rfl) rfl (Or.inl ew_445) (cShC_62 hsH17).1 (cShC_62 hsH17).2.1 (rShC_62_2 hsH17) ?_
  refine ea_iconst (pc := 40) dX1_copy_40 (v := 0) rfl ?_
  refine ea_bipush (pc := 41) dX1_copy_41 (v := 120) rfl ?_
  obtain ⟨f21, E⟩ := gd_some E
  obtain ⟨z22, E⟩ := gd_some E
  obtain ⟨z23, E⟩ := gd_some E
  obtain ⟨z24, E⟩ := gd_some E
  obtain ⟨z25, E⟩ := gd_some E
  obtain ⟨z26, E⟩ := gd_some E
  obtain ⟨H28, eH28, E⟩ := let_some E
  refine ea_deref4 e20 ?_
  refine ea_copyX (pc := 43) (sp := 0) (dp := 0) (n := 120) 0 (fun _ => rfl) (Or.inl rfl) rfl dX1_copy_43 ew_1381 ew_159 ew_158 ew_118 ⟨f21.1, f21.2⟩ ⟨(cShC_64 hsH17).1, (cShC_64 hsH17).2.1⟩ z22 z23 z24 z25 z26 (fun _ _ => rfl) (by omega) (Nat.le_of_ble_eq_true rfl) ?_
  refine ea_nm eH28 ?_
  have hsH28 : ShC H28 := by rw [eH28]; exact hsH17
  obtain ⟨e29, E⟩ := gd_some E
  refine ea_aload_n (pc := 46) dX1_copy_46 rfl 1 rfl ?_
  obtain ⟨f30, E⟩ := gd_some E
  obtain ⟨e31, E⟩ := gd_some E
  refine ea_deref0 e29 ?_
  refine ea_getR (pc := 47) dX1_copy_47 ec_1 (k := 3) (Nat.le_of_ble_eq_true rfl) rfl (Or.inl ew_447) f30.1 f30.2 rfl ?_
  refine ea_iconst (pc := 50) dX1_copy_50 (v := 0) rfl ?_
  refine ea_aload_n (pc := 51) dX1_copy_51 rfl 0 rfl ?_
  refine ea_getR (pc := 52) dX1_copy_52 ec_1 (k := 3) (Nat.le_of_ble_eq_true rfl) rfl (Or.inl ew_447) (cShC_62 hsH28).1 (cShC_62 hsH28).2.1 (rShC_62_3 hsH28) ?_
  refine ea_iconst (pc := 55) dX1_copy_55 (v := 0) rfl ?_
  refine ea_bipush (pc := 56) dX1_copy_56 (v := 120) rfl ?_
  obtain ⟨f32, E⟩ := gd_some E
  obtain ⟨z33, E⟩ := gd_some E
  obtain ⟨z34, E⟩ := gd_some E
  obtain ⟨z35, E⟩ := gd_some E
  obtain ⟨z36, E⟩ := gd_some E
  obtain ⟨z37, E⟩ := gd_some E
  obtain ⟨H39, eH39, E⟩ := let_some E
  refine ea_deref4 e31 ?_
  refine ea_copyX (pc := 58) (sp := 0) (dp := 0) (n := 120) 0 (fun _ => rfl) (Or.inl rfl) rfl dX1_copy_58 ew_1381 ew_159 ew_158 ew_118 ⟨f32.1, f32.2⟩ ⟨(cShC_65 hsH28).1, (cShC_65 hsH28).2.1⟩ z33 z34 z35 z36 z37 (fun _ _ => rfl) (by omega) (Nat.le_of_ble_eq_true rfl) ?_
  refine ea_nm eH39 ?_
  have hsH39 : ShC H39 := by rw [eH39]; exact hsH28
  obtain ⟨e40, E⟩ := gd_some E
  refine ea_aload_n (pc := 61) dX1_copy_61 rfl 1 rfl ?_
  obtain ⟨f41, E⟩ := gd_some E
  obtain ⟨e42, E⟩ := gd_some E
  refine ea_deref0 e40 ?_
  refine ea_getR (pc := 62) dX1_copy_62 ec_1 (k := 4) (Nat.le_of_ble_eq_true rfl) rfl (Or.inl ew_449) f41.1 f41.2 rfl ?_
  refine ea_iconst (pc := 65) dX1_copy_65 (v := 0) rfl ?_
  refine ea_aload_n (pc := 66) dX1_copy_66 rfl 0 rfl ?_
  refine ea_getR (pc := 67) dX1_copy_67 ec_1 (k := 4) (Nat.le_of_ble_eq_true rfl) rfl (Or.inl ew_449) (cShC_62 hsH39).1 (cShC_62 hsH39).2.1 (rShC_62_4 hsH39) ?_
  refine ea_iconst (pc := 70) dX1_copy_70 (v := 0) rfl ?_
  refine ea_bipush (pc := 71) dX1_copy_71 (v := 120) rfl ?_
  obtain ⟨f43, E⟩ := gd_some E
  obtain ⟨z44, E⟩ := gd_some E
  obtain ⟨z45, E⟩ := gd_some E
  obtain ⟨z46, E⟩ := gd_some E
  obtain ⟨z47, E⟩ := gd_some E
  obtain ⟨z48, E⟩ := gd_some E
  obtain ⟨H50, eH50, E⟩ := let_some E
  refine ea_deref4 e42 ?_
  refine ea_copyX (pc := 73) (sp := 0) (dp := 0) (n := 120) 0 (fun _ => rfl) (Or.inl rfl) rfl dX1_copy_73 ew_1381 ew_159 ew_158 ew_118 ⟨f43.1, f43.2⟩ ⟨(cShC_66 hsH39).1, (cShC_66 hsH39).2.1⟩ z44 z45 z46 z47 z48 (fun _ _ => rfl) (by omega) (Nat.le_of_ble_eq_true rfl) ?_
  refine ea_nm eH50 ?_
  have hsH50 : ShC H50 := by rw [eH50]; exact hsH39
  obtain ⟨e51, E⟩ := gd_some E
  refine ea_aload_n (pc := 76) dX1_copy_76 rfl 1 rfl ?_
  obtain ⟨f52, E⟩ := gd_some E
  obtain ⟨e53, E⟩ := gd_some E
  refine ea_deref0 e51 ?_
  refine ea_getR (pc := 77) dX1_copy_77 ec_1 (k := 7) (Nat.le_of_ble_eq_true rfl) rfl (Or.inl ew_455) f52.1 f52.2 rfl ?_
  refine ea_iconst (pc := 80) dX1_copy_80 (v := 0) rfl ?_
  refine ea_aload_n (pc := 81) dX1_copy_81 rfl 0 rfl ?_
  refine ea_getR (pc := 82) dX1_copy_82 ec_1 (k := 7) (Nat.le_of_ble_eq_true rfl) rfl (Or.inl ew_455) (cShC_62 hsH50).1 (cShC_62 hsH50).2.1 (rShC_62_7 hsH50) ?_
  refine ea_iconst (pc := 85) dX1_copy_85 (v := 0) rfl ?_
  refine ea_bipush (pc := 86) dX1_copy_86 (v := 120) rfl ?_
  obtain ⟨f54, E⟩ := gd_some E
  obtain ⟨z55, E⟩ := gd_some E
  obtain ⟨z56, E⟩ := gd_some E
  obtain ⟨z57, E⟩ := gd_some E
  obtain ⟨z58, E⟩ := gd_some E
  obtain ⟨z59, E⟩ := gd_some E
  obtain ⟨H61, eH61, E⟩ := let_some E
  refine ea_deref4 e53 ?_
  refine ea_copyX (pc := 88) (sp := 0) (dp := 0) (n := 120) 0 (fun _ => rfl) (Or.inl rfl) rfl dX1_copy_88 ew_1381 ew_159 ew_158 ew_118 ⟨f54.1, f54.2⟩ ⟨(cShC_69 hsH50).1, (cShC_69 hsH50).2.1⟩ z55 z56 z57 z58 z59 (fun _ _ => rfl) (by omega) (Nat.le_of_ble_eq_true rfl) ?_
  refine ea_nm eH61 ?_
  have hsH61 : ShC H61 := by rw [eH61]; exact hsH50
  obtain ⟨e62, E⟩ := gd_some E
  refine ea_aload_n (pc := 91) dX1_copy_91 rfl 1 rfl ?_
  obtain ⟨f63, E⟩ := gd_some E
  obtain ⟨e64, E⟩ := gd_some E
  refine ea_deref0 e62 ?_
  refine ea_getR (pc := 92) dX1_copy_92 ec_1 (k := 5) (Nat.le_of_ble_eq_true rfl) rfl (Or.inl ew_451) f63.1 f63.2 rfl ?_
  refine ea_iconst (pc := 95) dX1_copy_95 (v := 0) rfl ?_
  refine ea_aload_n (pc := 96) dX1_copy_96 rfl 0 rfl ?_
  refine ea_getR (pc := 97) dX1_copy_97 ec_1 (k := 5) (Nat.le_of_ble_eq_true rfl) rfl (Or.inl ew_451) (cShC_62 hsH61).1 (cShC_62 hsH61).2.1 (rShC_62_5 hsH61) ?_
  refine ea_iconst (pc := 100) dX1_copy_100 (v := 0) rfl ?_
  refine ea_bipush (pc := 101) dX1_copy_101 (v := 120) rfl ?_
  obtain ⟨f65, E⟩ := gd_some E
  obtain ⟨z66, E⟩ := gd_some E
  obtain ⟨z67, E⟩ := gd_some E
  obtain ⟨z68, E⟩ := gd_some E
  obtain ⟨z69, E⟩ := gd_some E
  obtain ⟨z70, E⟩ := gd_some E
  obtain ⟨z71, E⟩ := gd_some E
  obtain ⟨H72, eH72, E⟩ := let_some E
  refine ea_deref4 e64 ?_
  refine ea_copyX (pc := 103) (sp := 0) (dp := 0) (n := 120) 1 (fun _ => rfl) (Or.inr rfl) rfl dX1_copy_103 ew_1381 ew_159 ew_158 ew_118 ⟨f65.1, f65.2⟩ ⟨(cShC_67 hsH61).1, (cShC_67 hsH61).2.1⟩ z66 z67 z68 z69 z70 (fun i hi => ea_bf (z71 i hi)) (by omega) (Nat.le_of_ble_eq_true rfl) ?_
  refine ea_nm eH72 ?_
  have hsH72 : ShC H72 := by rw [eH72]; exact hsH61
  obtain ⟨e73, E⟩ := gd_some E
  refine ea_aload_n (pc := 106) dX1_copy_106 rfl 1 rfl ?_
  obtain ⟨f74, E⟩ := gd_some E
  obtain ⟨e75, E⟩ := gd_some E
  refine ea_deref0 e73 ?_
  refine ea_getR (pc := 107) dX1_copy_107 ec_1 (k := 6) (Nat.le_of_ble_eq_true rfl) rfl (Or.inl ew_453) f74.1 f74.2 rfl ?_
  refine ea_iconst (pc := 110) dX1_copy_110 (v := 0) rfl ?_
  refine ea_aload_n (pc := 111) dX1_copy_111 rfl 0 rfl ?_
  refine ea_getR (pc := 112) dX1_copy_112 ec_1 (k := 6) (Nat.le_of_ble_eq_true rfl) rfl (Or.inl ew_453) (cShC_62 hsH72).1 (cShC_62 hsH72).2.1 (rShC_62_6 hsH72) ?_
  refine ea_iconst (pc := 115) dX1_copy_115 (v := 0) rfl ?_
  refine ea_bipush (pc := 116) dX1_copy_116 (v := 70) rfl ?_
  obtain ⟨f76, E⟩ := gd_some E
  obtain ⟨z77, E⟩ := gd_some E
  obtain ⟨z78, E⟩ := gd_some E
  obtain ⟨z79, E⟩ := gd_some E
  obtain ⟨z80, E⟩ := gd_some E
  obtain ⟨z81, E⟩ := gd_some E
  obtain ⟨H83, eH83, E⟩ := let_some E
  refine ea_deref4 e75 ?_
  refine ea_copyX (pc := 118) (sp := 0) (dp := 0) (n := 70) 0 (fun _ => rfl) (Or.inl rfl) rfl dX1_copy_118 ew_1381 ew_159 ew_158 ew_118 ⟨f76.1, f76.2⟩ ⟨(cShC_68 hsH72).1, (cShC_68 hsH72).2.1⟩ z77 z78 z79 z80 z81 (fun _ _ => rfl) (by omega) (Nat.le_of_ble_eq_true rfl) ?_
  refine ea_nm eH83 ?_
  have hsH83 : ShC H83 := by rw [eH83]; exact hsH72
  obtain ⟨e84, E⟩ := gd_some E
  refine ea_aload_n (pc := 121) dX1_copy_121 rfl 1 rfl ?_
  obtain ⟨f85, E⟩ := gd_some E
  obtain ⟨e86, E⟩ := gd_some E
  refine ea_deref0 e84 ?_
  refine ea_getR (pc := 122) dX1_copy_122 ec_1 (k := 9) (Nat.le_of_ble_eq_true rfl) rfl (Or.inl ew_457) f85.1 f85.2 rfl ?_
  refine ea_iconst (pc := 125) dX1_copy_125 (v := 0) rfl ?_
  refine ea_aload_n (pc := 126) dX1_copy_126 rfl 0 rfl ?_
  refine ea_getR (pc := 127) dX1_copy_127 ec_1 (k := 9) (Nat.le_of_ble_eq_true rfl) rfl (Or.inl ew_457) (cShC_62 hsH83).1 (cShC_62 hsH83).2.1 (rShC_62_9 hsH83) ?_
  refine ea_iconst (pc := 130) dX1_copy_130 (v := 0) rfl ?_
  refine ea_bipush (pc := 131) dX1_copy_131 (v := 70) rfl ?_
  obtain ⟨f87, E⟩ := gd_some E
  obtain ⟨z88, E⟩ := gd_some E
  obtain ⟨z89, E⟩ := gd_some E
  obtain ⟨z90, E⟩ := gd_some E
  obtain ⟨z91, E⟩ := gd_some E
  obtain ⟨z92, E⟩ := gd_some E
  obtain ⟨H94, eH94, E⟩ := let_some E
  refine ea_deref4 e86 ?_
  refine ea_copyX (pc := 133) (sp := 0) (dp := 0) (n := 70) 0 (fun _ => rfl) (Or.inl rfl) rfl dX1_copy_133 ew_1381 ew_159 ew_158 ew_118 ⟨f87.1, f87.2⟩ ⟨(cShC_71 hsH83).1, (cShC_71 hsH83).2.1⟩ z88 z89 z90 z91 z92 (fun _ _ => rfl) (by omega) (Nat.le_of_ble_eq_true rfl) ?_
  refine ea_nm eH94 ?_
  have hsH94 : ShC H94 := by rw [eH94]; exact hsH83
  obtain ⟨e95, E⟩ := gd_some E
  refine ea_aload_n (pc := 136) dX1_copy_136 rfl 1 rfl ?_
  obtain ⟨f96, E⟩ := gd_some E
  obtain ⟨e97, E⟩ := gd_some E
  refine ea_deref0 e95 ?_
  refine ea_getR (pc := 137) dX1_copy_137 ec_1 (k := 8) (Nat.le_of_ble_eq_true rfl) rfl (Or.inl ew_456) f96.1 f96.2 rfl ?_
  refine ea_iconst (pc := 140) dX1_copy_140 (v := 0) rfl ?_
  refine ea_aload_n (pc := 141) dX1_copy_141 rfl 0 rfl ?_
  refine ea_getR (pc := 142) dX1_copy_142 ec_1 (k := 8) (Nat.le_of_ble_eq_true rfl) rfl (Or.inl ew_456) (cShC_62 hsH94).1 (cShC_62 hsH94).2.1 (rShC_62_8 hsH94) ?_
  refine ea_iconst (pc := 145) dX1_copy_145 (v := 0) rfl ?_
  refine ea_bipush (pc := 146) dX1_copy_146 (v := 12) rfl ?_
  obtain ⟨f98, E⟩ := gd_some E
  obtain ⟨z99, E⟩ := gd_some E
  obtain ⟨z100, E⟩ := gd_some E
  obtain ⟨z101, E⟩ := gd_some E
  obtain ⟨z102, E⟩ := gd_some E
  obtain ⟨z103, E⟩ := gd_some E
  obtain ⟨H105, eH105, E⟩ := let_some E
  refine ea_deref4 e97 ?_
  refine ea_copyX (pc := 148) (sp := 0) (dp := 0) (n := 12) 0 (fun _ => rfl) (Or.inl rfl) rfl dX1_copy_148 ew_1381 ew_159 ew_158 ew_118 ⟨f98.1, f98.2⟩ ⟨(cShC_70 hsH94).1, (cShC_70 hsH94).2.1⟩ z99 z100 z101 z102 z103 (fun _ _ => rfl) (by omega) (Nat.le_of_ble_eq_true rfl) ?_
  refine ea_nm eH105 ?_
  have hsH105 : ShC H105 := by rw [eH105]; exact hsH94
  exact ea_vretO (pc := 151) dX1_copy_151 rfl E
theorem kBX1_copy_at62_0  {r1 : Option Nat} {h : ea_H} : kp (ea_core h) (BX1_copy_at62_0 r1 h) :=
  (kp_gd (kp_gd (kp_let (kp_gd (kp_gd (kp_let (kp_gd (kp_gd (kp_gd (kp_gd (kp_gd (kp_gd (kp_gd (kp_gd (kp_gd (kp_let (kp_gd (kp_gd (kp_gd (kp_gd (kp_gd (kp_gd (kp_gd (kp_gd (kp_gd (kp_let (kp_gd (kp_gd (kp_gd (kp_gd (kp_gd (kp_gd (kp_gd (kp_gd (kp_gd (kp_let (kp_gd (kp_gd (kp_gd (kp_gd (kp_gd (kp_gd (kp_gd (kp_gd (kp_gd (kp_let (kp_gd (kp_gd (kp_gd (kp_gd (kp_gd (kp_gd (kp_gd (kp_gd (kp_gd (kp_let (kp_gd (kp_gd (kp_gd (kp_gd (kp_gd (kp_gd (kp_gd (kp_gd (kp_gd (kp_gd (kp_let (kp_gd (kp_gd (kp_gd (kp_gd (kp_gd (kp_gd (kp_gd (kp_gd (kp_gd (kp_let (kp_gd (kp_gd (kp_gd (kp_gd (kp_gd (kp_gd (kp_gd (kp_gd (kp_gd (kp_let (kp_gd (kp_gd (kp_gd (kp_gd (kp_gd (kp_gd (kp_gd (kp_gd (kp_gd (kp_let (kp_ret rfl))))))))))))))))))))))))))))))))))))))))))))))))))))))))))))))))))))))))))))))))))))))))))))))))))
noncomputable def qX1_copy_at62 (r1 : Option Nat) (h : ea_H) : Option (Unit × ea_H) := BX1_copy_at62_0 r1 h
theorem sX1_copy_at62 {d : Nat} {r1 : Option Nat} {h : ea_H} {r : Unit} {h' : ea_H} (hd : 2 ≤ d) (hs : ShC h) (K : qX1_copy_at62 r1 h = some (r, h')) : ea_Met mX1_copy d [vR (some 62), vR r1] h none h' := by
  unfold qX1_copy_at62 at K
  have W := tBX1_copy_at62_0 hd (h0 := h) K hs
  exact ea_enter rfl (Nat.le_of_ble_eq_true rfl) W
theorem kpX1_copy_at62 (r1 : Option Nat) (h : ea_H) : kp (ea_core h) (qX1_copy_at62 r1 h) := kBX1_copy_at62_0
noncomputable def BX1_sumOfMinutes_at52_0 (J4 : Int32 → Int32 → ea_H → Option (Int32 × ea_H)) (h : ea_H) : Option (Int32 × ea_H) :=
  (J4 (0 : Int32) (0 : Int32) h)
theorem tBX1_sumOfMinutes_at52_0 {d : Nat} {h0 : ea_H} (hd : 1 ≤ d) {J4 : Int32 → Int32 → ea_H → Option (Int32 × ea_H)}  (kJ4 : ∀ (x1 : Int32) (x2 : Int32) (h : ea_H) (r : Int32) (h' : ea_H), J4 x1 x2 h = some (r, h') → ShC h → ea_W mX1_sumOfMinutes d h0 (some (vI r)) h' 4 [(0, vR (some 52)), (1, vI x1), (2, vI x2)] [] h) {h : ea_H} {r : Int32} {h' : ea_H} (E : BX1_sumOfMinutes_at52_0 J4 h = some (r, h')) (hs : ShC h) : ea_W mX1_sumOfMinutes d h0 (some (vI r)) h' 0 [(0, vR (some 52))] [] h := by
  unfold BX1_sumOfMinutes_at52_0 at E
  refine ea_iconst (pc := 0) dX1_sumOfMinutes_0 (v := 0) rfl ?_
  refine ea_istore_n (pc := 1) (lv' := [(0, vR (some 52)), (1, vI 0)]) dX1_sumOfMinutes_1 rfl (Nat.le_of_ble_eq_true rfl) [1, 0] rfl ?_
  refine ea_iconst (pc := 2) dX1_sumOfMinutes_2 (v := 0) rfl ?_
  refine ea_istore_n (pc := 3) (lv' := [(0, vR (some 52)), (1, vI 0), (2, vI 0)]) dX1_sumOfMinutes_3 rfl (Nat.le_of_ble_eq_true rfl) [1, 2, 0] rfl ?_
  exact (kJ4 (0 : Int32) (0 : Int32) h _ _ E hs)
theorem kBX1_sumOfMinutes_at52_0 {J4 : Int32 → Int32 → ea_H → Option (Int32 × ea_H)}  (cJ4 : ∀ (x1 : Int32) (x2 : Int32) (h : ea_H), kp (ea_core h) (J4 x1 x2 h)) {h : ea_H} : kp (ea_core h) (BX1_sumOfMinutes_at52_0 J4 h) :=
  (kp_tw (cJ4 _ _ _) rfl)
theorem lBX1_sumOfMinutes_at52_0 {J4 : Int32 → Int32 → ea_H → Option (Int32 × ea_H)} {J4_ : Int32 → Int32 → ea_H → Option (Int32 × ea_H)}  (mJ4 : ∀ (x1 : Int32) (x2 : Int32) (h : ea_H), fle (J4 x1 x2 h) (J4_ x1 x2 h)) {h : ea_H} : fle (BX1_sumOfMinutes_at52_0 J4 h) (BX1_sumOfMinutes_at52_0 J4_ h) :=
  (mJ4 _ _ _)
theorem nBX1_sumOfMinutes_at52_0 {J4 : Int32 → Int32 → ea_H → Option (Int32 × ea_H)} {J4_ : Nat → (Int32 → Int32 → ea_H → Option (Int32 × ea_H))}  (mJ4 : ∀ (x1 : Int32) (x2 : Int32) (h : ea_H), fct (J4 x1 x2 h) (fun f => J4_ f x1 x2 h)) {h : ea_H} : fct (BX1_sumOfMinutes_at52_0 J4 h) (fun f => BX1_sumOfMinutes_at52_0 (J4_ f) h) :=
  (mJ4 _ _ _)
noncomputable def BX1_sumOfMinutes_at52_4 (J4 : Int32 → Int32 → ea_H → Option (Int32 × ea_H)) (x1 : Int32) (x2 : Int32) (h : ea_H) : Option (Int32 × ea_H) :=
  (if (ea_i h 52 0) ≤ x2 then (some (x1, h)) else (gd (vp_in x2 120) (if (ea_i h 53 (Int32.toNatClampNeg x2)) = (2 : Int32) then (gd (vp_in x2 120) (ea_let (x1 + (ea_i h 59 (Int32.toNatClampNeg x2))) fun (v7 : Int32) => (J4 (v7 : Int32) ((x2 + (1 : Int32)) : Int32) h))) else (gd (vp_in x2 120) (if (ea_i h 53 (Int32.toNatClampNeg x2)) = (0 : Int32) then (J4 ((x1 + (10080 : Int32)) : Int32) ((x2 + (1 : Int32)) : Int32) h) else (gd (vp_in x2 120) (if (ea_i h 53 (Int32.toNatClampNeg x2)) = (1 : Int32) then (J4 ((x1 + (10080 : Int32)) : Int32) ((x2 + (1 : Int32)) : Int32) h) else (J4 (x1 : Int32) ((x2 + (1 : Int32)) : Int32) h))))))))
theorem tBX1_sumOfMinutes_at52_4 {d : Nat} {h0 : ea_H} (hd : 1 ≤ d) {J4 : Int32 → Int32 → ea_H → Option (Int32 × ea_H)}  (kJ4 : ∀ (x1 : Int32) (x2 : Int32) (h : ea_H) (r : Int32) (h' : ea_H), J4 x1 x2 h = some (r, h') → ShC h → ea_W mX1_sumOfMinutes d h0 (some (vI r)) h' 4 [(0, vR (some 52)), (1, vI x1), (2, vI x2)] [] h) {x1 : Int32} {x2 : Int32} {h : ea_H} {r : Int32} {h' : ea_H} (E : BX1_sumOfMinutes_at52_4 J4 x1 x2 h = some (r, h')) (hs : ShC h) : ea_W mX1_sumOfMinutes d h0 (some (vI r)) h' 4 [(0, vR (some 52)), (1, vI x1), (2, vI x2)] [] h := by
  unfold BX1_sumOfMinutes_at52_4 at E
  refine ea_iload_n (pc := 4) dX1_sumOfMinutes_4 rfl 2 rfl ?_
  refine ea_aload_n (pc := 5) dX1_sumOfMinutes_5 rfl 0 rfl ?_
  refine ea_getI (pc := 6) dX1_sumOfMinutes_6 ec_1 (k := 0) (Nat.le_of_ble_eq_true rfl) rfl (Or.inl ew_441) (cShC_52 hs).1 (cShC_52 hs).2.1 ?_
  refine ea_icmp_ge (pc := 9) (tgt := 65) dX1_sumOfMinutes_9 rfl (fun c9 => ?_) (fun c9 => ?_)
  · have E := (if_pos c9).symm.trans E
    refine ea_iload_n (pc := 65) dX1_sumOfMinutes_65 rfl 1 rfl ?_
    exact ea_iretO (pc := 66) dX1_sumOfMinutes_66 rfl rfl E
  · have E := (if_neg c9).symm.trans E
    obtain ⟨z1, E⟩ := gd_some E
    refine ea_aload_n (pc := 12) dX1_sumOfMinutes_12 rfl 0 rfl ?_
    refine ea_getR (pc := 13) dX1_sumOfMinutes_13 ec_1 (k := 1) (Nat.le_of_ble_eq_true rfl) rfl (Or.inl ew_443) (cShC_52 hs).1 (cShC_52 hs).2.1 (rShC_52_1 hs) ?_
    refine ea_iload_n (pc := 16) dX1_sumOfMinutes_16 rfl 2 rfl ?_
    refine ea_iald (pc := 17) dX1_sumOfMinutes_17 (cShC_53 hs).1 (cShC_53 hs).2.1 (ea_vpl (cShC_53 hs).2.2 z1) ?_
    refine ea_iconst (pc := 18) dX1_sumOfMinutes_18 (v := 2) rfl ?_
    refine ea_icmp_ne (pc := 19) (tgt := 34) dX1_sumOfMinutes_19 rfl (fun c8 => ?_) (fun c8 => ?_)
    · have E := (if_neg c8).symm.trans E
      obtain ⟨z2, E⟩ := gd_some E
      refine ea_aload_n (pc := 34) dX1_sumOfMinutes_34 rfl 0 rfl ?_
      refine ea_getR (pc := 35) dX1_sumOfMinutes_35 ec_1 (k := 1) (Nat.le_of_ble_eq_true rfl) rfl (Or.inl ew_443) (cShC_52 hs).1 (cShC_52 hs).2.1 (rShC_52_1 hs) ?_
      refine ea_iload_n (pc := 38) dX1_sumOfMinutes_38 rfl 2 rfl ?_
      refine ea_iald (pc := 39) dX1_sumOfMinutes_39 (cShC_53 hs).1 (cShC_53 hs).2.1 (ea_vpl (cShC_53 hs).2.2 z2) ?_
      refine ea_if_eq (pc := 40) (tgt := 53) dX1_sumOfMinutes_40 rfl (fun c5 => ?_) (fun c5 => ?_)
      · have E := (if_pos c5).symm.trans E
        refine ea_iincW (pc := 53) (v := 10080) (lv' := [(0, vR (some 52)), (1, vI (x1 + (10080 : Int32))), (2, vI x2)]) dX1_sumOfMinutes_53 1 rfl rfl (Nat.le_of_ble_eq_true rfl) [1, 0, 2] rfl ?_
        refine ea_iinc (pc := 59) (v := 1) (lv' := [(0, vR (some 52)), (1, vI (x1 + (10080 : Int32))), (2, vI (x2 + (1 : Int32)))]) dX1_sumOfMinutes_59 2 rfl rfl (Nat.le_of_ble_eq_true rfl) [1, 2, 0] rfl ?_
        refine ea_goto (pc := 62) (tgt := 4) dX1_sumOfMinutes_62 rfl ?_
        exact (kJ4 ((x1 + (10080 : Int32)) : Int32) ((x2 + (1 : Int32)) : Int32) h _ _ E hs)
      · have E := (if_neg c5).symm.trans E
        obtain ⟨z3, E⟩ := gd_some E
        refine ea_aload_n (pc := 43) dX1_sumOfMinutes_43 rfl 0 rfl ?_
        refine ea_getR (pc := 44) dX1_sumOfMinutes_44 ec_1 (k := 1) (Nat.le_of_ble_eq_true rfl) rfl (Or.inl ew_443) (cShC_52 hs).1 (cShC_52 hs).2.1 (rShC_52_1 hs) ?_
        refine ea_iload_n (pc := 47) dX1_sumOfMinutes_47 rfl 2 rfl ?_
        refine ea_iald (pc := 48) dX1_sumOfMinutes_48 (cShC_53 hs).1 (cShC_53 hs).2.1 (ea_vpl (cShC_53 hs).2.2 z3) ?_
        refine ea_iconst (pc := 49) dX1_sumOfMinutes_49 (v := 1) rfl ?_
        refine ea_icmp_ne (pc := 50) (tgt := 59) dX1_sumOfMinutes_50 rfl (fun c4 => ?_) (fun c4 => ?_)
        · have E := (if_neg c4).symm.trans E
          refine ea_iinc (pc := 59) (v := 1) (lv' := [(0, vR (some 52)), (1, vI x1), (2, vI (x2 + (1 : Int32)))]) dX1_sumOfMinutes_59 2 rfl rfl (Nat.le_of_ble_eq_true rfl) [1, 2, 0] rfl ?_
          refine ea_goto (pc := 62) (tgt := 4) dX1_sumOfMinutes_62 rfl ?_
          exact (kJ4 (x1 : Int32) ((x2 + (1 : Int32)) : Int32) h _ _ E hs)
        · have E := (if_pos c4).symm.trans E
          refine ea_iincW (pc := 53) (v := 10080) (lv' := [(0, vR (some 52)), (1, vI (x1 + (10080 : Int32))), (2, vI x2)]) dX1_sumOfMinutes_53 1 rfl rfl (Nat.le_of_ble_eq_true rfl) [1, 0, 2] rfl ?_
          refine ea_iinc (pc := 59) (v := 1) (lv' := [(0, vR (some 52)), (1, vI (x1 + (10080 : Int32))), (2, vI (x2 + (1 : Int32)))]) dX1_sumOfMinutes_59 2 rfl rfl (Nat.le_of_ble_eq_true rfl) [1, 2, 0] rfl ?_
          refine ea_goto (pc := 62) (tgt := 4) dX1_sumOfMinutes_62 rfl ?_
          exact (kJ4 ((x1 + (10080 : Int32)) : Int32) ((x2 + (1 : Int32)) : Int32) h _ _ E hs)
    · have E := (if_pos c8).symm.trans E
      obtain ⟨z6, E⟩ := gd_some E
      refine ea_iload_n (pc := 22) dX1_sumOfMinutes_22 rfl 1 rfl ?_
      refine ea_aload_n (pc := 23) dX1_sumOfMinutes_23 rfl 0 rfl ?_
      refine ea_getR (pc := 24) dX1_sumOfMinutes_24 ec_1 (k := 7) (Nat.le_of_ble_eq_true rfl) rfl (Or.inl ew_455) (cShC_52 hs).1 (cShC_52 hs).2.1 (rShC_52_7 hs) ?_
      refine ea_iload_n (pc := 27) dX1_sumOfMinutes_27 rfl 2 rfl ?_
      obtain ⟨v7, ev7, E⟩ := let_some E
      refine ea_iald (pc := 28) dX1_sumOfMinutes_28 (cShC_59 hs).1 (cShC_59 hs).2.1 (ea_vpl (cShC_59 hs).2.2 z6) ?_
      refine ea_iadd (pc := 29) dX1_sumOfMinutes_29 ?_
      refine ea_istore_n (pc := 30) (lv' := [(0, vR (some 52)), (1, vI v7), (2, vI x2)]) dX1_sumOfMinutes_30 rfl (Nat.le_of_ble_eq_true rfl) [1, 0, 2] (by rw [ev7]; rfl) ?_
      refine ea_goto (pc := 31) (tgt := 59) dX1_sumOfMinutes_31 rfl ?_
      refine ea_iinc (pc := 59) (v := 1) (lv' := [(0, vR (some 52)), (1, vI v7), (2, vI (x2 + (1 : Int32)))]) dX1_sumOfMinutes_59 2 rfl rfl (Nat.le_of_ble_eq_true rfl) [1, 2, 0] rfl ?_
      refine ea_goto (pc := 62) (tgt := 4) dX1_sumOfMinutes_62 rfl ?_
      exact (kJ4 (v7 : Int32) ((x2 + (1 : Int32)) : Int32) h _ _ E hs)
theorem kBX1_sumOfMinutes_at52_4 {J4 : Int32 → Int32 → ea_H → Option (Int32 × ea_H)}  (cJ4 : ∀ (x1 : Int32) (x2 : Int32) (h : ea_H), kp (ea_core h) (J4 x1 x2 h)) {x1 : Int32} {x2 : Int32} {h : ea_H} : kp (ea_core h) (BX1_sumOfMinutes_at52_4 J4 x1 x2 h) :=
  (kp_ite (kp_ret rfl) (kp_gd (kp_ite (kp_gd (kp_let (kp_tw (cJ4 _ _ _) rfl))) (kp_gd (kp_ite (kp_tw (cJ4 _ _ _) rfl) (kp_gd (kp_ite (kp_tw (cJ4 _ _ _) rfl) (kp_tw (cJ4 _ _ _) rfl))))))))
theorem lBX1_sumOfMinutes_at52_4 {J4 : Int32 → Int32 → ea_H → Option (Int32 × ea_H)} {J4_ : Int32 → Int32 → ea_H → Option (Int32 × ea_H)}  (mJ4 : ∀ (x1 : Int32) (x2 : Int32) (h : ea_H), fle (J4 x1 x2 h) (J4_ x1 x2 h)) {x1 : Int32} {x2 : Int32} {h : ea_H} : fle (BX1_sumOfMinutes_at52_4 J4 x1 x2 h) (BX1_sumOfMinutes_at52_4 J4_ x1 x2 h) :=
  (fle_ite (fle_rfl _) (fle_gd (fle_ite (fle_gd (fle_let fun _ => (mJ4 _ _ _))) (fle_gd (fle_ite (mJ4 _ _ _) (fle_gd (fle_ite (mJ4 _ _ _) (mJ4 _ _ _))))))))
theorem nBX1_sumOfMinutes_at52_4 {J4 : Int32 → Int32 → ea_H → Option (Int32 × ea_H)} {J4_ : Nat → (Int32 → Int32 → ea_H → Option (Int32 × ea_H))}  (mJ4 : ∀ (x1 : Int32) (x2 : Int32) (h : ea_H), fct (J4 x1 x2 h) (fun f => J4_ f x1 x2 h)) {x1 : Int32} {x2 : Int32} {h : ea_H} : fct (BX1_sumOfMinutes_at52_4 J4 x1 x2 h) (fun f => BX1_sumOfMinutes_at52_4 (J4_ f) x1 x2 h) :=
  (fct_ite (fct_rfl _) (fct_gd (fct_ite (fct_gd (fct_let fun _ => (mJ4 _ _ _))) (fct_gd (fct_ite (mJ4 _ _ _) (fct_gd (fct_ite (mJ4 _ _ _) (mJ4 _ _ _))))))))
noncomputable def gX1_sumOfMinutes_at52 : Nat → (ea_H → Option (Int32 × ea_H)) × (Int32 → Int32 → ea_H → Option (Int32 × ea_H))
  | 0 => (fun _ => none, fun _ _ _ => none)
  | f + 1 => (BX1_sumOfMinutes_at52_0 (gX1_sumOfMinutes_at52 f).2, BX1_sumOfMinutes_at52_4 (gX1_sumOfMinutes_at52 f).2)
theorem mgX1_sumOfMinutes_at52 : ∀ f : Nat, (∀ (h : ea_H), fle ((gX1_sumOfMinutes_at52 f).1 h) ((gX1_sumOfMinutes_at52 (f + 1)).1 h)) ∧ (∀ (x1 : Int32) (x2 : Int32) (h : ea_H), fle ((gX1_sumOfMinutes_at52 f).2 x1 x2 h) ((gX1_sumOfMinutes_at52 (f + 1)).2 x1 x2 h)) := by
  intro f
  induction f with
  | zero => exact ⟨fun _ => fle_none _, fun _ _ _ => fle_none _⟩
  | succ f ih => exact ⟨fun _ => lBX1_sumOfMinutes_at52_0 ih.2, fun _ _ _ => lBX1_sumOfMinutes_at52_4 ih.2⟩
noncomputable def qX1_sumOfMinutes_at52_0 (h : ea_H) : Option (Int32 × ea_H) := flim fun f => (gX1_sumOfMinutes_at52 f).1 h
noncomputable def qX1_sumOfMinutes_at52_4 (x1 : Int32) (x2 : Int32) (h : ea_H) : Option (Int32 × ea_H) := flim fun f => (gX1_sumOfMinutes_at52 f).2 x1 x2 h
theorem fqX1_sumOfMinutes_at52_0 (h : ea_H) : fct (qX1_sumOfMinutes_at52_0 h) fun f => (gX1_sumOfMinutes_at52 f).1 h := flim_ct fun f => (mgX1_sumOfMinutes_at52 f).1 h
theorem fqX1_sumOfMinutes_at52_4 (x1 : Int32) (x2 : Int32) (h : ea_H) : fct (qX1_sumOfMinutes_at52_4 x1 x2 h) fun f => (gX1_sumOfMinutes_at52 f).2 x1 x2 h := flim_ct fun f => (mgX1_sumOfMinutes_at52 f).2 x1 x2 h
/-- how a block opens -/
theorem uqX1_sumOfMinutes_at52_0 {h : ea_H} {P : Int32 × ea_H → Prop} (H : sat (BX1_sumOfMinutes_at52_0 qX1_sumOfMinutes_at52_4 h) P) : sat (qX1_sumOfMinutes_at52_0 h) P := by
  obtain ⟨x, e, hp⟩ := H
  obtain ⟨n, hn⟩ := nBX1_sumOfMinutes_at52_0 fqX1_sumOfMinutes_at52_4 x e
  exact ⟨x, flim_at (fun f => (mgX1_sumOfMinutes_at52 f).1 h) (f := n + 1) (hn n (Nat.le_refl _)), hp⟩
/-- how a block opens -/
theorem uqX1_sumOfMinutes_at52_4 {x1 : Int32} {x2 : Int32} {h : ea_H} {P : Int32 × ea_H → Prop} (H : sat (BX1_sumOfMinutes_at52_4 qX1_sumOfMinutes_at52_4 x1 x2 h) P) : sat (qX1_sumOfMinutes_at52_4 x1 x2 h) P := by
  obtain ⟨x, e, hp⟩ := H
  obtain ⟨n, hn⟩ := nBX1_sumOfMinutes_at52_4 fqX1_sumOfMinutes_at52_4 x e
  exact ⟨x, flim_at (fun f => (mgX1_sumOfMinutes_at52 f).2 x1 x2 h) (f := n + 1) (hn n (Nat.le_refl _)), hp⟩
theorem kgX1_sumOfMinutes_at52 : ∀ f : Nat, (∀ (h : ea_H), kp (ea_core h) ((gX1_sumOfMinutes_at52 f).1 h)) ∧ (∀ (x1 : Int32) (x2 : Int32) (h : ea_H), kp (ea_core h) ((gX1_sumOfMinutes_at52 f).2 x1 x2 h)) := by
  intro f
  induction f with
  | zero => exact ⟨fun _ => kp_none _, fun _ _ _ => kp_none _⟩
  | succ f ih => exact ⟨fun _ => kBX1_sumOfMinutes_at52_0 ih.2, fun _ _ _ => kBX1_sumOfMinutes_at52_4 ih.2⟩
theorem tgX1_sumOfMinutes_at52 {d : Nat} {h0 : ea_H} (hd : 1 ≤ d) : ∀ f : Nat, (∀ (h : ea_H) (r : Int32) (h' : ea_H), (gX1_sumOfMinutes_at52 f).1 h = some (r, h') → ShC h → ea_W mX1_sumOfMinutes d h0 (some (vI r)) h' 0 [(0, vR (some 52))] [] h) ∧ (∀ (x1 : Int32) (x2 : Int32) (h : ea_H) (r : Int32) (h' : ea_H), (gX1_sumOfMinutes_at52 f).2 x1 x2 h = some (r, h') → ShC h → ea_W mX1_sumOfMinutes d h0 (some (vI r)) h' 4 [(0, vR (some 52)), (1, vI x1), (2, vI x2)] [] h) := by
  intro f
  induction f with
  | zero => exact ⟨fun _ _ _ E => no_some E, fun _ _ _ _ _ E => no_some E⟩
  | succ f ih => exact ⟨fun _ _ _ E hs => tBX1_sumOfMinutes_at52_0 hd ih.2 E hs, fun _ _ _ _ _ E hs => tBX1_sumOfMinutes_at52_4 hd ih.2 E hs⟩
noncomputable def qX1_sumOfMinutes_at52 (h : ea_H) : Option (Int32 × ea_H) := qX1_sumOfMinutes_at52_0  h
theorem sX1_sumOfMinutes_at52 {d : Nat} {h : ea_H} {r : Int32} {h' : ea_H} (hd : 1 ≤ d) (hs : ShC h) (K : qX1_sumOfMinutes_at52 h = some (r, h')) : ea_Met mX1_sumOfMinutes d [vR (some 52)] h (some (vI r)) h' := by
  unfold qX1_sumOfMinutes_at52 at K
  obtain ⟨n, hn⟩ := fqX1_sumOfMinutes_at52_0  h _ K
  have W := (tgX1_sumOfMinutes_at52 (d := d) (h0 := h) hd n).1  h _ _ (hn n (Nat.le_refl _)) hs
  exact ea_enter rfl (Nat.le_of_ble_eq_true rfl) W
theorem kpX1_sumOfMinutes_at52 (h : ea_H) : kp (ea_core h) (qX1_sumOfMinutes_at52 h) := fun x e => by
  obtain ⟨n, hn⟩ := fqX1_sumOfMinutes_at52_0  h x e
  exact (kgX1_sumOfMinutes_at52 n).1  h x (hn n (Nat.le_refl _))
noncomputable def BX1_sumOfMinutes_at62_0 (J4 : Int32 → Int32 → ea_H → Option (Int32 × ea_H)) (h : ea_H) : Option (Int32 × ea_H) :=
  (J4 (0 : Int32) (0 : Int32) h)
theorem tBX1_sumOfMinutes_at62_0 {d : Nat} {h0 : ea_H} (hd : 1 ≤ d) {J4 : Int32 → Int32 → ea_H → Option (Int32 × ea_H)}  (kJ4 : ∀ (x1 : Int32) (x2 : Int32) (h : ea_H) (r : Int32) (h' : ea_H), J4 x1 x2 h = some (r, h') → ShC h → ea_W mX1_sumOfMinutes d h0 (some (vI r)) h' 4 [(0, vR (some 62)), (1, vI x1), (2, vI x2)] [] h) {h : ea_H} {r : Int32} {h' : ea_H} (E : BX1_sumOfMinutes_at62_0 J4 h = some (r, h')) (hs : ShC h) : ea_W mX1_sumOfMinutes d h0 (some (vI r)) h' 0 [(0, vR (some 62))] [] h := by
  unfold BX1_sumOfMinutes_at62_0 at E
  refine ea_iconst (pc := 0) dX1_sumOfMinutes_0 (v := 0) rfl ?_
  refine ea_istore_n (pc := 1) (lv' := [(0, vR (some 62)), (1, vI 0)]) dX1_sumOfMinutes_1 rfl (Nat.le_of_ble_eq_true rfl) [1, 0] rfl ?_
  refine ea_iconst (pc := 2) dX1_sumOfMinutes_2 (v := 0) rfl ?_
  refine ea_istore_n (pc := 3) (lv' := [(0, vR (some 62)), (1, vI 0), (2, vI 0)]) dX1_sumOfMinutes_3 rfl (Nat.le_of_ble_eq_true rfl) [1, 2, 0] rfl ?_
  exact (kJ4 (0 : Int32) (0 : Int32) h _ _ E hs)
theorem kBX1_sumOfMinutes_at62_0 {J4 : Int32 → Int32 → ea_H → Option (Int32 × ea_H)}  (cJ4 : ∀ (x1 : Int32) (x2 : Int32) (h : ea_H), kp (ea_core h) (J4 x1 x2 h)) {h : ea_H} : kp (ea_core h) (BX1_sumOfMinutes_at62_0 J4 h) :=
  (kp_tw (cJ4 _ _ _) rfl)
theorem lBX1_sumOfMinutes_at62_0 {J4 : Int32 → Int32 → ea_H → Option (Int32 × ea_H)} {J4_ : Int32 → Int32 → ea_H → Option (Int32 × ea_H)}  (mJ4 : ∀ (x1 : Int32) (x2 : Int32) (h : ea_H), fle (J4 x1 x2 h) (J4_ x1 x2 h)) {h : ea_H} : fle (BX1_sumOfMinutes_at62_0 J4 h) (BX1_sumOfMinutes_at62_0 J4_ h) :=
  (mJ4 _ _ _)
theorem nBX1_sumOfMinutes_at62_0 {J4 : Int32 → Int32 → ea_H → Option (Int32 × ea_H)} {J4_ : Nat → (Int32 → Int32 → ea_H → Option (Int32 × ea_H))}  (mJ4 : ∀ (x1 : Int32) (x2 : Int32) (h : ea_H), fct (J4 x1 x2 h) (fun f => J4_ f x1 x2 h)) {h : ea_H} : fct (BX1_sumOfMinutes_at62_0 J4 h) (fun f => BX1_sumOfMinutes_at62_0 (J4_ f) h) :=
  (mJ4 _ _ _)
noncomputable def BX1_sumOfMinutes_at62_4 (J4 : Int32 → Int32 → ea_H → Option (Int32 × ea_H)) (x1 : Int32) (x2 : Int32) (h : ea_H) : Option (Int32 × ea_H) :=
  (if (ea_i h 62 0) ≤ x2 then (some (x1, h)) else (gd (vp_in x2 120) (if (ea_i h 63 (Int32.toNatClampNeg x2)) = (2 : Int32) then (gd (vp_in x2 120) (ea_let (x1 + (ea_i h 69 (Int32.toNatClampNeg x2))) fun (v7 : Int32) => (J4 (v7 : Int32) ((x2 + (1 : Int32)) : Int32) h))) else (gd (vp_in x2 120) (if (ea_i h 63 (Int32.toNatClampNeg x2)) = (0 : Int32) then (J4 ((x1 + (10080 : Int32)) : Int32) ((x2 + (1 : Int32)) : Int32) h) else (gd (vp_in x2 120) (if (ea_i h 63 (Int32.toNatClampNeg x2)) = (1 : Int32) then (J4 ((x1 + (10080 : Int32)) : Int32) ((x2 + (1 : Int32)) : Int32) h) else (J4 (x1 : Int32) ((x2 + (1 : Int32)) : Int32) h))))))))
theorem tBX1_sumOfMinutes_at62_4 {d : Nat} {h0 : ea_H} (hd : 1 ≤ d) {J4 : Int32 → Int32 → ea_H → Option (Int32 × ea_H)}  (kJ4 : ∀ (x1 : Int32) (x2 : Int32) (h : ea_H) (r : Int32) (h' : ea_H), J4 x1 x2 h = some (r, h') → ShC h → ea_W mX1_sumOfMinutes d h0 (some (vI r)) h' 4 [(0, vR (some 62)), (1, vI x1), (2, vI x2)] [] h) {x1 : Int32} {x2 : Int32} {h : ea_H} {r : Int32} {h' : ea_H} (E : BX1_sumOfMinutes_at62_4 J4 x1 x2 h = some (r, h')) (hs : ShC h) : ea_W mX1_sumOfMinutes d h0 (some (vI r)) h' 4 [(0, vR (some 62)), (1, vI x1), (2, vI x2)] [] h := by
  unfold BX1_sumOfMinutes_at62_4 at E
  refine ea_iload_n (pc := 4) dX1_sumOfMinutes_4 rfl 2 rfl ?_
  refine ea_aload_n (pc := 5) dX1_sumOfMinutes_5 rfl 0 rfl ?_
  refine ea_getI (pc := 6) dX1_sumOfMinutes_6 ec_1 (k := 0) (Nat.le_of_ble_eq_true rfl) rfl (Or.inl ew_441) (cShC_62 hs).1 (cShC_62 hs).2.1 ?_
  refine ea_icmp_ge (pc := 9) (tgt := 65) dX1_sumOfMinutes_9 rfl (fun c9 => ?_) (fun c9 => ?_)
  · have E := (if_pos c9).symm.trans E
    refine ea_iload_n (pc := 65) dX1_sumOfMinutes_65 rfl 1 rfl ?_
    exact ea_iretO (pc := 66) dX1_sumOfMinutes_66 rfl rfl E
  · have E := (if_neg c9).symm.trans E
    obtain ⟨z1, E⟩ := gd_some E
    refine ea_aload_n (pc := 12) dX1_sumOfMinutes_12 rfl 0 rfl ?_
    refine ea_getR (pc := 13) dX1_sumOfMinutes_13 ec_1 (k := 1) (Nat.le_of_ble_eq_true rfl) rfl (Or.inl ew_443) (cShC_62 hs).1 (cShC_62 hs).2.1 (rShC_62_1 hs) ?_
    refine ea_iload_n (pc := 16) dX1_sumOfMinutes_16 rfl 2 rfl ?_
    refine ea_iald (pc := 17) dX1_sumOfMinutes_17 (cShC_63 hs).1 (cShC_63 hs).2.1 (ea_vpl (cShC_63 hs).2.2 z1) ?_
    refine ea_iconst (pc := 18) dX1_sumOfMinutes_18 (v := 2) rfl ?_
    refine ea_icmp_ne (pc := 19) (tgt := 34) dX1_sumOfMinutes_19 rfl (fun c8 => ?_) (fun c8 => ?_)
    · have E := (if_neg c8).symm.trans E
      obtain ⟨z2, E⟩ := gd_some E
      refine ea_aload_n (pc := 34) dX1_sumOfMinutes_34 rfl 0 rfl ?_
      refine ea_getR (pc := 35) dX1_sumOfMinutes_35 ec_1 (k := 1) (Nat.le_of_ble_eq_true rfl) rfl (Or.inl ew_443) (cShC_62 hs).1 (cShC_62 hs).2.1 (rShC_62_1 hs) ?_
      refine ea_iload_n (pc := 38) dX1_sumOfMinutes_38 rfl 2 rfl ?_
      refine ea_iald (pc := 39) dX1_sumOfMinutes_39 (cShC_63 hs).1 (cShC_63 hs).2.1 (ea_vpl (cShC_63 hs).2.2 z2) ?_
      refine ea_if_eq (pc := 40) (tgt := 53) dX1_sumOfMinutes_40 rfl (fun c5 => ?_) (fun c5 => ?_)
      · have E := (if_pos c5).symm.trans E
        refine ea_iincW (pc := 53) (v := 10080) (lv' := [(0, vR (some 62)), (1, vI (x1 + (10080 : Int32))), (2, vI x2)]) dX1_sumOfMinutes_53 1 rfl rfl (Nat.le_of_ble_eq_true rfl) [1, 0, 2] rfl ?_
        refine ea_iinc (pc := 59) (v := 1) (lv' := [(0, vR (some 62)), (1, vI (x1 + (10080 : Int32))), (2, vI (x2 + (1 : Int32)))]) dX1_sumOfMinutes_59 2 rfl rfl (Nat.le_of_ble_eq_true rfl) [1, 2, 0] rfl ?_
        refine ea_goto (pc := 62) (tgt := 4) dX1_sumOfMinutes_62 rfl ?_
        exact (kJ4 ((x1 + (10080 : Int32)) : Int32) ((x2 + (1 : Int32)) : Int32) h _ _ E hs)
      · have E := (if_neg c5).symm.trans E
        obtain ⟨z3, E⟩ := gd_some E
        refine ea_aload_n (pc := 43) dX1_sumOfMinutes_43 rfl 0 rfl ?_
        refine ea_getR (pc := 44) dX1_sumOfMinutes_44 ec_1 (k := 1) (Nat.le_of_ble_eq_true rfl) rfl (Or.inl ew_443) (cShC_62 hs).1 (cShC_62 hs).2.1 (rShC_62_1 hs) ?_
        refine ea_iload_n (pc := 47) dX1_sumOfMinutes_47 rfl 2 rfl ?_
        refine ea_iald (pc := 48) dX1_sumOfMinutes_48 (cShC_63 hs).1 (cShC_63 hs).2.1 (ea_vpl (cShC_63 hs).2.2 z3) ?_
        refine ea_iconst (pc := 49) dX1_sumOfMinutes_49 (v := 1) rfl ?_
        refine ea_icmp_ne (pc := 50) (tgt := 59) dX1_sumOfMinutes_50 rfl (fun c4 => ?_) (fun c4 => ?_)
        · have E := (if_neg c4).symm.trans E
          refine ea_iinc (pc := 59) (v := 1) (lv' := [(0, vR (some 62)), (1, vI x1), (2, vI (x2 + (1 : Int32)))]) dX1_sumOfMinutes_59 2 rfl rfl (Nat.le_of_ble_eq_true rfl) [1, 2, 0] rfl ?_
          refine ea_goto (pc := 62) (tgt := 4) dX1_sumOfMinutes_62 rfl ?_
          exact (kJ4 (x1 : Int32) ((x2 + (1 : Int32)) : Int32) h _ _ E hs)
        · have E := (if_pos c4).symm.trans E
          refine ea_iincW (pc := 53) (v := 10080) (lv' := [(0, vR (some 62)), (1, vI (x1 + (10080 : Int32))), (2, vI x2)]) dX1_sumOfMinutes_53 1 rfl rfl (Nat.le_of_ble_eq_true rfl) [1, 0, 2] rfl ?_
          refine ea_iinc (pc := 59) (v := 1) (lv' := [(0, vR (some 62)), (1, vI (x1 + (10080 : Int32))), (2, vI (x2 + (1 : Int32)))]) dX1_sumOfMinutes_59 2 rfl rfl (Nat.le_of_ble_eq_true rfl) [1, 2, 0] rfl ?_
          refine ea_goto (pc := 62) (tgt := 4) dX1_sumOfMinutes_62 rfl ?_
          exact (kJ4 ((x1 + (10080 : Int32)) : Int32) ((x2 + (1 : Int32)) : Int32) h _ _ E hs)
    · have E := (if_pos c8).symm.trans E
      obtain ⟨z6, E⟩ := gd_some E
      refine ea_iload_n (pc := 22) dX1_sumOfMinutes_22 rfl 1 rfl ?_
      refine ea_aload_n (pc := 23) dX1_sumOfMinutes_23 rfl 0 rfl ?_
      refine ea_getR (pc := 24) dX1_sumOfMinutes_24 ec_1 (k := 7) (Nat.le_of_ble_eq_true rfl) rfl (Or.inl ew_455) (cShC_62 hs).1 (cShC_62 hs).2.1 (rShC_62_7 hs) ?_
      refine ea_iload_n (pc := 27) dX1_sumOfMinutes_27 rfl 2 rfl ?_
      obtain ⟨v7, ev7, E⟩ := let_some E
      refine ea_iald (pc := 28) dX1_sumOfMinutes_28 (cShC_69 hs).1 (cShC_69 hs).2.1 (ea_vpl (cShC_69 hs).2.2 z6) ?_
      refine ea_iadd (pc := 29) dX1_sumOfMinutes_29 ?_
      refine ea_istore_n (pc := 30) (lv' := [(0, vR (some 62)), (1, vI v7), (2, vI x2)]) dX1_sumOfMinutes_30 rfl (Nat.le_of_ble_eq_true rfl) [1, 0, 2] (by rw [ev7]; rfl) ?_
      refine ea_goto (pc := 31) (tgt := 59) dX1_sumOfMinutes_31 rfl ?_
      refine ea_iinc (pc := 59) (v := 1) (lv' := [(0, vR (some 62)), (1, vI v7), (2, vI (x2 + (1 : Int32)))]) dX1_sumOfMinutes_59 2 rfl rfl (Nat.le_of_ble_eq_true rfl) [1, 2, 0] rfl ?_
      refine ea_goto (pc := 62) (tgt := 4) dX1_sumOfMinutes_62 rfl ?_
      exact (kJ4 (v7 : Int32) ((x2 + (1 : Int32)) : Int32) h _ _ E hs)
theorem kBX1_sumOfMinutes_at62_4 {J4 : Int32 → Int32 → ea_H → Option (Int32 × ea_H)}  (cJ4 : ∀ (x1 : Int32) (x2 : Int32) (h : ea_H), kp (ea_core h) (J4 x1 x2 h)) {x1 : Int32} {x2 : Int32} {h : ea_H} : kp (ea_core h) (BX1_sumOfMinutes_at62_4 J4 x1 x2 h) :=
  (kp_ite (kp_ret rfl) (kp_gd (kp_ite (kp_gd (kp_let (kp_tw (cJ4 _ _ _) rfl))) (kp_gd (kp_ite (kp_tw (cJ4 _ _ _) rfl) (kp_gd (kp_ite (kp_tw (cJ4 _ _ _) rfl) (kp_tw (cJ4 _ _ _) rfl))))))))
theorem lBX1_sumOfMinutes_at62_4 {J4 : Int32 → Int32 → ea_H → Option (Int32 × ea_H)} {J4_ : Int32 → Int32 → ea_H → Option (Int32 × ea_H)}  (mJ4 : ∀ (x1 : Int32) (x2 : Int32) (h : ea_H), fle (J4 x1 x2 h) (J4_ x1 x2 h)) {x1 : Int32} {x2 : Int32} {h : ea_H} : fle (BX1_sumOfMinutes_at62_4 J4 x1 x2 h) (BX1_sumOfMinutes_at62_4 J4_ x1 x2 h) :=
  (fle_ite (fle_rfl _) (fle_gd (fle_ite (fle_gd (fle_let fun _ => (mJ4 _ _ _))) (fle_gd (fle_ite (mJ4 _ _ _) (fle_gd (fle_ite (mJ4 _ _ _) (mJ4 _ _ _))))))))
theorem nBX1_sumOfMinutes_at62_4 {J4 : Int32 → Int32 → ea_H → Option (Int32 × ea_H)} {J4_ : Nat → (Int32 → Int32 → ea_H → Option (Int32 × ea_H))}  (mJ4 : ∀ (x1 : Int32) (x2 : Int32) (h : ea_H), fct (J4 x1 x2 h) (fun f => J4_ f x1 x2 h)) {x1 : Int32} {x2 : Int32} {h : ea_H} : fct (BX1_sumOfMinutes_at62_4 J4 x1 x2 h) (fun f => BX1_sumOfMinutes_at62_4 (J4_ f) x1 x2 h) :=
  (fct_ite (fct_rfl _) (fct_gd (fct_ite (fct_gd (fct_let fun _ => (mJ4 _ _ _))) (fct_gd (fct_ite (mJ4 _ _ _) (fct_gd (fct_ite (mJ4 _ _ _) (mJ4 _ _ _))))))))
noncomputable def gX1_sumOfMinutes_at62 : Nat → (ea_H → Option (Int32 × ea_H)) × (Int32 → Int32 → ea_H → Option (Int32 × ea_H))
  | 0 => (fun _ => none, fun _ _ _ => none)
  | f + 1 => (BX1_sumOfMinutes_at62_0 (gX1_sumOfMinutes_at62 f).2, BX1_sumOfMinutes_at62_4 (gX1_sumOfMinutes_at62 f).2)
theorem mgX1_sumOfMinutes_at62 : ∀ f : Nat, (∀ (h : ea_H), fle ((gX1_sumOfMinutes_at62 f).1 h) ((gX1_sumOfMinutes_at62 (f + 1)).1 h)) ∧ (∀ (x1 : Int32) (x2 : Int32) (h : ea_H), fle ((gX1_sumOfMinutes_at62 f).2 x1 x2 h) ((gX1_sumOfMinutes_at62 (f + 1)).2 x1 x2 h)) := by
  intro f
  induction f with
  | zero => exact ⟨fun _ => fle_none _, fun _ _ _ => fle_none _⟩
  | succ f ih => exact ⟨fun _ => lBX1_sumOfMinutes_at62_0 ih.2, fun _ _ _ => lBX1_sumOfMinutes_at62_4 ih.2⟩
noncomputable def qX1_sumOfMinutes_at62_0 (h : ea_H) : Option (Int32 × ea_H) := flim fun f => (gX1_sumOfMinutes_at62 f).1 h
noncomputable def qX1_sumOfMinutes_at62_4 (x1 : Int32) (x2 : Int32) (h : ea_H) : Option (Int32 × ea_H) := flim fun f => (gX1_sumOfMinutes_at62 f).2 x1 x2 h
theorem fqX1_sumOfMinutes_at62_0 (h : ea_H) : fct (qX1_sumOfMinutes_at62_0 h) fun f => (gX1_sumOfMinutes_at62 f).1 h := flim_ct fun f => (mgX1_sumOfMinutes_at62 f).1 h
theorem fqX1_sumOfMinutes_at62_4 (x1 : Int32) (x2 : Int32) (h : ea_H) : fct (qX1_sumOfMinutes_at62_4 x1 x2 h) fun f => (gX1_sumOfMinutes_at62 f).2 x1 x2 h := flim_ct fun f => (mgX1_sumOfMinutes_at62 f).2 x1 x2 h
/-- how a block opens -/
theorem uqX1_sumOfMinutes_at62_0 {h : ea_H} {P : Int32 × ea_H → Prop} (H : sat (BX1_sumOfMinutes_at62_0 qX1_sumOfMinutes_at62_4 h) P) : sat (qX1_sumOfMinutes_at62_0 h) P := by
  obtain ⟨x, e, hp⟩ := H
  obtain ⟨n, hn⟩ := nBX1_sumOfMinutes_at62_0 fqX1_sumOfMinutes_at62_4 x e
  exact ⟨x, flim_at (fun f => (mgX1_sumOfMinutes_at62 f).1 h) (f := n + 1) (hn n (Nat.le_refl _)), hp⟩
/-- how a block opens -/
theorem uqX1_sumOfMinutes_at62_4 {x1 : Int32} {x2 : Int32} {h : ea_H} {P : Int32 × ea_H → Prop} (H : sat (BX1_sumOfMinutes_at62_4 qX1_sumOfMinutes_at62_4 x1 x2 h) P) : sat (qX1_sumOfMinutes_at62_4 x1 x2 h) P := by
  obtain ⟨x, e, hp⟩ := H
  obtain ⟨n, hn⟩ := nBX1_sumOfMinutes_at62_4 fqX1_sumOfMinutes_at62_4 x e
  exact ⟨x, flim_at (fun f => (mgX1_sumOfMinutes_at62 f).2 x1 x2 h) (f := n + 1) (hn n (Nat.le_refl _)), hp⟩
theorem kgX1_sumOfMinutes_at62 : ∀ f : Nat, (∀ (h : ea_H), kp (ea_core h) ((gX1_sumOfMinutes_at62 f).1 h)) ∧ (∀ (x1 : Int32) (x2 : Int32) (h : ea_H), kp (ea_core h) ((gX1_sumOfMinutes_at62 f).2 x1 x2 h)) := by
  intro f
  induction f with
  | zero => exact ⟨fun _ => kp_none _, fun _ _ _ => kp_none _⟩
  | succ f ih => exact ⟨fun _ => kBX1_sumOfMinutes_at62_0 ih.2, fun _ _ _ => kBX1_sumOfMinutes_at62_4 ih.2⟩
theorem tgX1_sumOfMinutes_at62 {d : Nat} {h0 : ea_H} (hd : 1 ≤ d) : ∀ f : Nat, (∀ (h : ea_H) (r : Int32) (h' : ea_H), (gX1_sumOfMinutes_at62 f).1 h = some (r, h') → ShC h → ea_W mX1_sumOfMinutes d h0 (some (vI r)) h' 0 [(0, vR (some 62))] [] h) ∧ (∀ (x1 : Int32) (x2 : Int32) (h : ea_H) (r : Int32) (h' : ea_H), (gX1_sumOfMinutes_at62 f).2 x1 x2 h = some (r, h') → ShC h → ea_W mX1_sumOfMinutes d h0 (some (vI r)) h' 4 [(0, vR (some 62)), (1, vI x1), (2, vI x2)] [] h) := by
  intro f
  induction f with
  | zero => exact ⟨fun _ _ _ E => no_some E, fun _ _ _ _ _ E => no_some E⟩
  | succ f ih => exact ⟨fun _ _ _ E hs => tBX1_sumOfMinutes_at62_0 hd ih.2 E hs, fun _ _ _ _ _ E hs => tBX1_sumOfMinutes_at62_4 hd ih.2 E hs⟩
noncomputable def qX1_sumOfMinutes_at62 (h : ea_H) : Option (Int32 × ea_H) := qX1_sumOfMinutes_at62_0  h
theorem sX1_sumOfMinutes_at62 {d : Nat} {h : ea_H} {r : Int32} {h' : ea_H} (hd : 1 ≤ d) (hs : ShC h) (K : qX1_sumOfMinutes_at62 h = some (r, h')) : ea_Met mX1_sumOfMinutes d [vR (some 62)] h (some (vI r)) h' := by
  unfold qX1_sumOfMinutes_at62 at K
  obtain ⟨n, hn⟩ := fqX1_sumOfMinutes_at62_0  h _ K
  have W := (tgX1_sumOfMinutes_at62 (d := d) (h0 := h) hd n).1  h _ _ (hn n (Nat.le_refl _)) hs
  exact ea_enter rfl (Nat.le_of_ble_eq_true rfl) W
theorem kpX1_sumOfMinutes_at62 (h : ea_H) : kp (ea_core h) (qX1_sumOfMinutes_at62 h) := fun x e => by
  obtain ⟨n, hn⟩ := fqX1_sumOfMinutes_at62_0  h x e
  exact (kgX1_sumOfMinutes_at62 n).1  h x (hn n (Nat.le_refl _))
noncomputable def BX2_init_0 (a0 : Nat) (h : ea_H) : Option (Unit × ea_H) :=
  (gd ((a0 < ea_n h ∧ ea_c h a0 = 2)) (ea_let (ea_wi h a0 1 (-60)) fun H2 => (gd ((a0 < ea_n H2 ∧ ea_c H2 a0 = 2)) (ea_let (ea_wi H2 a0 2 60) fun H4 => (some ((), H4))))))
theorem tBX2_init_0 {d : Nat} {a0 : Nat} {h0 : ea_H} (hd : 2 ≤ d)  {h : ea_H} {r : Unit} {h' : ea_H} (E : BX2_init_0 a0 h = some (r, h')) : ea_W mX2_init d h0 none h' 0 [(0, vR (some a0))] [] h := by
  unfold BX2_init_0 at E
  obtain ⟨f1, E⟩ := gd_some E
  refine ea_aload_n (pc := 0) dX2_init_0 rfl 0 rfl ?_
  refine ea_objInit (pc := 1) dX2_init_1 ew_600 ew_141 ew_142 (by omega) (Nat.le_of_ble_eq_true rfl) ?_
  refine ea_aload_n (pc := 4) dX2_init_4 rfl 0 rfl ?_
  refine ea_bipush (pc := 5) dX2_init_5 (v := (-60)) rfl ?_
  obtain ⟨H2, eH2, E⟩ := let_some E
  refine ea_putI (pc := 7) dX2_init_7 ec_2 (k := 1) (Nat.le_of_ble_eq_true rfl) rfl (Or.inl ⟨rfl, Or.inl ew_603⟩) rfl rfl f1.1 f1.2 ?_
  refine ea_nm eH2 ?_
  obtain ⟨f3, E⟩ := gd_some E
  refine ea_aload_n (pc := 10) dX2_init_10 rfl 0 rfl ?_
  refine ea_bipush (pc := 11) dX2_init_11 (v := 60) rfl ?_
  obtain ⟨H4, eH4, E⟩ := let_some E
  refine ea_putI (pc := 13) dX2_init_13 ec_2 (k := 2) (Nat.le_of_ble_eq_true rfl) rfl (Or.inl ⟨rfl, Or.inl ew_605⟩) rfl rfl f3.1 f3.2 ?_
  refine ea_nm eH4 ?_
  exact ea_vretO (pc := 16) dX2_init_16 rfl E
theorem kBX2_init_0 {a0 : Nat}  {h : ea_H} : kp (ea_core h) (BX2_init_0 a0 h) :=
  (kp_gd (kp_let (kp_gd (kp_let (kp_ret rfl)))))
noncomputable def qX2_init (a0 : Nat) (h : ea_H) : Option (Unit × ea_H) := BX2_init_0 a0 h
theorem sX2_init {d : Nat} {a0 : Nat} {h : ea_H} {r : Unit} {h' : ea_H} (hd : 2 ≤ d) (K : qX2_init a0 h = some (r, h')) : ea_Met mX2_init d [vR (some a0)] h none h' := by
  unfold qX2_init at K
  have W := tBX2_init_0 hd (h0 := h) K
  exact ea_enter rfl (Nat.le_of_ble_eq_true rfl) W
theorem kpX2_init (a0 : Nat) (h : ea_H) : kp (ea_core h) (qX2_init a0 h) := kBX2_init_0
noncomputable def BX2_shown_0 (x0 : Int32) (x1 : Int32) (h : ea_H) : Option (Int32 × ea_H) :=
  (some (((x0 * ((3600 : Int32) + x1)) / (3600 : Int32)), h))
theorem tBX2_shown_0 {d : Nat} {h0 : ea_H} (hd : 1 ≤ d)  {x0 : Int32} {x1 : Int32} {h : ea_H} {r : Int32} {h' : ea_H} (E : BX2_shown_0 x0 x1 h = some (r, h')) : ea_W mX2_shown d h0 (some (vI r)) h' 0 [(0, vI x0), (1, vI x1)] [] h := by
  unfold BX2_shown_0 at E
  refine ea_iload_n (pc := 0) dX2_shown_0 rfl 0 rfl ?_
  refine ea_sipush (pc := 1) dX2_shown_1 (v := 3600) rfl ?_
  refine ea_iload_n (pc := 4) dX2_shown_4 rfl 1 rfl ?_
  refine ea_iadd (pc := 5) dX2_shown_5 ?_
  refine ea_imul (pc := 6) dX2_shown_6 ?_
  refine ea_sipush (pc := 7) dX2_shown_7 (v := 3600) rfl ?_
  refine ea_idiv (pc := 10) dX2_shown_10 (by decide) ?_
  exact ea_iretO (pc := 11) dX2_shown_11 rfl rfl E
theorem kBX2_shown_0  {x0 : Int32} {x1 : Int32} {h : ea_H} : kp (ea_core h) (BX2_shown_0 x0 x1 h) :=
  (kp_ret rfl)
noncomputable def qX2_shown (x0 : Int32) (x1 : Int32) (h : ea_H) : Option (Int32 × ea_H) := BX2_shown_0 x0 x1 h
theorem sX2_shown {d : Nat} {x0 : Int32} {x1 : Int32} {h : ea_H} {r : Int32} {h' : ea_H} (hd : 1 ≤ d) (K : qX2_shown x0 x1 h = some (r, h')) : ea_Met mX2_shown d [vI x0, vI x1] h (some (vI r)) h' := by
  unfold qX2_shown at K
  have W := tBX2_shown_0 hd (h0 := h) K
  exact ea_enter rfl (Nat.le_of_ble_eq_true rfl) W
theorem kpX2_shown (x0 : Int32) (x1 : Int32) (h : ea_H) : kp (ea_core h) (qX2_shown x0 x1 h) := kBX2_shown_0
noncomputable def BX2_learn_0 (a0 : Nat) (J15 : Int32 → Int32 → Int32 → Int32 → Int32 → ea_H → Option (Int32 × ea_H)) (x1 : Int32) (x2 : Int32) (h : ea_H) : Option (Int32 × ea_H) :=
  (gd ((a0 < ea_n h ∧ ea_c h a0 = 2)) (J15 (x1 : Int32) (x2 : Int32) ((-1000) : Int32) ((-1000) : Int32) ((ea_i h a0 1) : Int32) h))
theorem tBX2_learn_0 {d : Nat} {a0 : Nat} {h0 : ea_H} (hd : 2 ≤ d) {J15 : Int32 → Int32 → Int32 → Int32 → Int32 → ea_H → Option (Int32 × ea_H)}  (kJ15 : ∀ (x1 : Int32) (x2 : Int32) (x3 : Int32) (x4 : Int32) (x5 : Int32) (h : ea_H) (r : Int32) (h' : ea_H), J15 x1 x2 x3 x4 x5 h = some (r, h') → ea_W mX2_learn d h0 (some (vI r)) h' 15 [(0, vR (some a0)), (1, vI x1), (2, vI x2), (3, vI x3), (4, vI x4), (5, vI x5)] [] h) {x1 : Int32} {x2 : Int32} {h : ea_H} {r : Int32} {h' : ea_H} (E : BX2_learn_0 a0 J15 x1 x2 h = some (r, h')) : ea_W mX2_learn d h0 (some (vI r)) h' 0 [(0, vR (some a0)), (1, vI x1), (2, vI x2)] [] h := by
  unfold BX2_learn_0 at E
  obtain ⟨f1, E⟩ := gd_some E
  refine ea_sipush (pc := 0) dX2_learn_0 (v := (-1000)) rfl ?_
  refine ea_istore_n (pc := 3) (lv' := [(0, vR (some a0)), (1, vI x1), (2, vI x2), (3, vI (-1000))]) dX2_learn_3 rfl (Nat.le_of_ble_eq_true rfl) [1, 2, 3, 0] rfl ?_
  refine ea_sipush (pc := 4) dX2_learn_4 (v := (-1000)) rfl ?_
  refine ea_istore (pc := 7) (lv' := [(0, vR (some a0)), (1, vI x1), (2, vI x2), (3, vI (-1000)), (4, vI (-1000))]) dX2_learn_7 (Nat.le_of_ble_eq_true rfl) [1, 2, 3, 4, 0] rfl ?_
  refine ea_aload_n (pc := 9) dX2_learn_9 rfl 0 rfl ?_
  refine ea_getI (pc := 10) dX2_learn_10 ec_2 (k := 1) (Nat.le_of_ble_eq_true rfl) rfl (Or.inl ew_603) f1.1 f1.2 ?_
  refine ea_istore (pc := 13) (lv' := [(0, vR (some a0)), (1, vI x1), (2, vI x2), (3, vI (-1000)), (4, vI (-1000)), (5, vI (ea_i h a0 1))]) dX2_learn_13 (Nat.le_of_ble_eq_true rfl) [1, 2, 3, 4, 5, 0] rfl ?_
  exact (kJ15 (x1 : Int32) (x2 : Int32) ((-1000) : Int32) ((-1000) : Int32) ((ea_i h a0 1) : Int32) h _ _ E)
theorem kBX2_learn_0 {a0 : Nat} {J15 : Int32 → Int32 → Int32 → Int32 → Int32 → ea_H → Option (Int32 × ea_H)}  (cJ15 : ∀ (x1 : Int32) (x2 : Int32) (x3 : Int32) (x4 : Int32) (x5 : Int32) (h : ea_H), kp (ea_core h) (J15 x1 x2 x3 x4 x5 h)) {x1 : Int32} {x2 : Int32} {h : ea_H} : kp (ea_core h) (BX2_learn_0 a0 J15 x1 x2 h) :=
  (kp_gd (kp_tw (cJ15 _ _ _ _ _ _) rfl))
theorem lBX2_learn_0 {a0 : Nat} {J15 : Int32 → Int32 → Int32 → Int32 → Int32 → ea_H → Option (Int32 × ea_H)} {J15_ : Int32 → Int32 → Int32 → Int32 → Int32 → ea_H → Option (Int32 × ea_H)}  (mJ15 : ∀ (x1 : Int32) (x2 : Int32) (x3 : Int32) (x4 : Int32) (x5 : Int32) (h : ea_H), fle (J15 x1 x2 x3 x4 x5 h) (J15_ x1 x2 x3 x4 x5 h)) {x1 : Int32} {x2 : Int32} {h : ea_H} : fle (BX2_learn_0 a0 J15 x1 x2 h) (BX2_learn_0 a0 J15_ x1 x2 h) :=
  (fle_gd (mJ15 _ _ _ _ _ _))
theorem nBX2_learn_0 {a0 : Nat} {J15 : Int32 → Int32 → Int32 → Int32 → Int32 → ea_H → Option (Int32 × ea_H)} {J15_ : Nat → (Int32 → Int32 → Int32 → Int32 → Int32 → ea_H → Option (Int32 × ea_H))}  (mJ15 : ∀ (x1 : Int32) (x2 : Int32) (x3 : Int32) (x4 : Int32) (x5 : Int32) (h : ea_H), fct (J15 x1 x2 x3 x4 x5 h) (fun f => J15_ f x1 x2 x3 x4 x5 h)) {x1 : Int32} {x2 : Int32} {h : ea_H} : fct (BX2_learn_0 a0 J15 x1 x2 h) (fun f => BX2_learn_0 a0 (J15_ f) x1 x2 h) :=
  (fct_gd (mJ15 _ _ _ _ _ _))
noncomputable def BX2_learn_15 (a0 : Nat) (J15 : Int32 → Int32 → Int32 → Int32 → Int32 → ea_H → Option (Int32 × ea_H)) (x1 : Int32) (x2 : Int32) (x3 : Int32) (x4 : Int32) (x5 : Int32) (h : ea_H) : Option (Int32 × ea_H) :=
  (gd ((a0 < ea_n h ∧ ea_c h a0 = 2)) (if (ea_i h a0 2) < x5 then (if x3 = ((-1000) : Int32) then (some ((0 : Int32), h)) else (gd ((a0 < ea_n h ∧ ea_c h a0 = 2)) (ea_let (ea_wi h a0 1 x3) fun H4 => (gd ((a0 < ea_n H4 ∧ ea_c H4 a0 = 2)) (ea_let (ea_wi H4 a0 2 x4) fun H6 => (some ((1 : Int32), H6))))))) else (gd ((a0 < ea_n h ∧ ea_c h a0 = 2)) (Option.bind (qX2_shown ((x1 - (ea_i h a0 0)) : Int32) (x5 : Int32) h) fun w9 => (gd ((a0 < ea_n w9.2 ∧ ea_c w9.2 a0 = 2)) (if w9.1 = (x2 - (ea_i w9.2 a0 0)) then (if x3 = ((-1000) : Int32) then (J15 (x1 : Int32) (x2 : Int32) (x5 : Int32) (x5 : Int32) ((x5 + (1 : Int32)) : Int32) w9.2) else (J15 (x1 : Int32) (x2 : Int32) (x3 : Int32) (x5 : Int32) ((x5 + (1 : Int32)) : Int32) w9.2)) else (J15 (x1 : Int32) (x2 : Int32) (x3 : Int32) (x4 : Int32) ((x5 + (1 : Int32)) : Int32) w9.2)))))))
theorem tBX2_learn_15 {d : Nat} {a0 : Nat} {h0 : ea_H} (hd : 2 ≤ d) {J15 : Int32 → Int32 → Int32 → Int32 → Int32 → ea_H → Option (Int32 × ea_H)}  (kJ15 : ∀ (x1 : Int32) (x2 : Int32) (x3 : Int32) (x4 : Int32) (x5 : Int32) (h : ea_H) (r : Int32) (h' : ea_H), J15 x1 x2 x3 x4 x5 h = some (r, h') → ea_W mX2_learn d h0 (some (vI r)) h' 15 [(0, vR (some a0)), (1, vI x1), (2, vI x2), (3, vI x3), (4, vI x4), (5, vI x5)] [] h) {x1 : Int32} {x2 : Int32} {x3 : Int32} {x4 : Int32} {x5 : Int32} {h : ea_H} {r : Int32} {h' : ea_H} (E : BX2_learn_15 a0 J15 x1 x2 x3 x4 x5 h = some (r, h')) : ea_W mX2_learn d h0 (some (vI r)) h' 15 [(0, vR (some a0)), (1, vI x1), (2, vI x2), (3, vI x3), (4, vI x4), (5, vI x5)] [] h := by
  unfold BX2_learn_15 at E
  obtain ⟨f2, E⟩ := gd_some E
  refine ea_iload (pc := 15) dX2_learn_15 5 rfl ?_
  refine ea_aload_n (pc := 17) dX2_learn_17 rfl 0 rfl ?_
  refine ea_getI (pc := 18) dX2_learn_18 ec_2 (k := 2) (Nat.le_of_ble_eq_true rfl) rfl (Or.inl ew_605) f2.1 f2.2 ?_
  refine ea_icmp_gt (pc := 21) (tgt := 68) dX2_learn_21 rfl (fun c13 => ?_) (fun c13 => ?_)
  · have E := (if_pos c13).symm.trans E
    refine ea_iload_n (pc := 68) dX2_learn_68 rfl 3 rfl ?_
    refine ea_sipush (pc := 69) dX2_learn_69 (v := (-1000)) rfl ?_
    refine ea_icmp_ne (pc := 72) (tgt := 77) dX2_learn_72 rfl (fun c7 => ?_) (fun c7 => ?_)
    · have E := (if_neg c7).symm.trans E
      obtain ⟨f3, E⟩ := gd_some E
      refine ea_aload_n (pc := 77) dX2_learn_77 rfl 0 rfl ?_
      refine ea_iload_n (pc := 78) dX2_learn_78 rfl 3 rfl ?_
      obtain ⟨H4, eH4, E⟩ := let_some E
      refine ea_putI (pc := 79) dX2_learn_79 ec_2 (k := 1) (Nat.le_of_ble_eq_true rfl) rfl (Or.inl ⟨rfl, Or.inl ew_603⟩) rfl rfl f3.1 f3.2 ?_
      refine ea_nm eH4 ?_
      obtain ⟨f5, E⟩ := gd_some E
      refine ea_aload_n (pc := 82) dX2_learn_82 rfl 0 rfl ?_
      refine ea_iload (pc := 83) dX2_learn_83 4 rfl ?_
      obtain ⟨H6, eH6, E⟩ := let_some E
      refine ea_putI (pc := 85) dX2_learn_85 ec_2 (k := 2) (Nat.le_of_ble_eq_true rfl) rfl (Or.inl ⟨rfl, Or.inl ew_605⟩) rfl rfl f5.1 f5.2 ?_
      refine ea_nm eH6 ?_
      refine ea_iconst (pc := 88) dX2_learn_88 (v := 1) rfl ?_
      exact ea_iretO (pc := 89) dX2_learn_89 rfl (ea_bn (Or.inr rfl)) E
    · have E := (if_pos c7).symm.trans E
      refine ea_iconst (pc := 75) dX2_learn_75 (v := 0) rfl ?_
      exact ea_iretO (pc := 76) dX2_learn_76 rfl (ea_bn (Or.inl rfl)) E
  · have E := (if_neg c13).symm.trans E
    obtain ⟨f8, E⟩ := gd_some E
    refine ea_iload_n (pc := 24) dX2_learn_24 rfl 1 rfl ?_
    refine ea_aload_n (pc := 25) dX2_learn_25 rfl 0 rfl ?_
    obtain ⟨w9, Ew9, E⟩ := bd_some E
    refine ea_getI (pc := 26) dX2_learn_26 ec_2 (k := 0) (Nat.le_of_ble_eq_true rfl) rfl (Or.inl ew_601) f8.1 f8.2 ?_
    refine ea_isub (pc := 29) dX2_learn_29 ?_
    refine ea_iload (pc := 30) dX2_learn_30 5 rfl ?_
    refine ea_callS (pc := 32) (d' := d - 1) (As := [vI (x1 - (ea_i h a0 0)), vI x5]) (st := []) dX2_learn_32 kX2_shown (sX2_shown (d := d - 1) (by omega) Ew9) (by omega) rfl (Nat.le_of_ble_eq_true rfl) ew_1341 ew_1342 ?_
    obtain ⟨f10, E⟩ := gd_some E
    refine ea_iload_n (pc := 35) dX2_learn_35 rfl 2 rfl ?_
    refine ea_aload_n (pc := 36) dX2_learn_36 rfl 0 rfl ?_
    refine ea_getI (pc := 37) dX2_learn_37 ec_2 (k := 0) (Nat.le_of_ble_eq_true rfl) rfl (Or.inl ew_601) f10.1 f10.2 ?_
    refine ea_isub (pc := 40) dX2_learn_40 ?_
    refine ea_icmp_ne (pc := 41) (tgt := 62) dX2_learn_41 rfl (fun c12 => ?_) (fun c12 => ?_)
    · have E := (if_neg c12).symm.trans E
      refine ea_iinc (pc := 62) (v := 1) (lv' := [(0, vR (some a0)), (1, vI x1), (2, vI x2), (3, vI x3), (4, vI x4), (5, vI (x5 + (1 : Int32)))]) dX2_learn_62 5 rfl rfl (Nat.le_of_ble_eq_true rfl) [1, 2, 3, 4, 5, 0] rfl ?_
      refine ea_goto (pc := 65) (tgt := 15) dX2_learn_65 rfl ?_
      exact (kJ15 (x1 : Int32) (x2 : Int32) (x3 : Int32) (x4 : Int32) ((x5 + (1 : Int32)) : Int32) w9.2 _ _ E)
    · have E := (if_pos c12).symm.trans E
      refine ea_iload_n (pc := 44) dX2_learn_44 rfl 3 rfl ?_
      refine ea_sipush (pc := 45) dX2_learn_45 (v := (-1000)) rfl ?_
      refine ea_icmp_ne (pc := 48) (tgt := 56) dX2_learn_48 rfl (fun c11 => ?_) (fun c11 => ?_)
      · have E := (if_neg c11).symm.trans E
        refine ea_iload_n (pc := 56) dX2_learn_56 rfl 3 rfl ?_
        refine ea_istore_n (pc := 57) (lv' := [(0, vR (some a0)), (1, vI x1), (2, vI x2), (3, vI x3), (5, vI x5)]) dX2_learn_57 rfl (Nat.le_of_ble_eq_true rfl) [1, 2, 3, 0, 5] rfl ?_
        refine ea_iload (pc := 58) dX2_learn_58 4 rfl ?_
        refine ea_istore (pc := 60) (lv' := [(0, vR (some a0)), (1, vI x1), (2, vI x2), (3, vI x3), (4, vI x5), (5, vI x5)]) dX2_learn_60 (Nat.le_of_ble_eq_true rfl) [1, 2, 3, 4, 0, 5] rfl ?_
        refine ea_iinc (pc := 62) (v := 1) (lv' := [(0, vR (some a0)), (1, vI x1), (2, vI x2), (3, vI x3), (4, vI x5), (5, vI (x5 + (1 : Int32)))]) dX2_learn_62 5 rfl rfl (Nat.le_of_ble_eq_true rfl) [1, 2, 3, 4, 5, 0] rfl ?_
        refine ea_goto (pc := 65) (tgt := 15) dX2_learn_65 rfl ?_
        exact (kJ15 (x1 : Int32) (x2 : Int32) (x3 : Int32) (x5 : Int32) ((x5 + (1 : Int32)) : Int32) w9.2 _ _ E)
      · have E := (if_pos c11).symm.trans E
        refine ea_iload (pc := 51) dX2_learn_51 5 rfl ?_
        refine ea_goto (pc := 53) (tgt := 57) dX2_learn_53 rfl ?_
        refine ea_istore_n (pc := 57) (lv' := [(0, vR (some a0)), (1, vI x1), (2, vI x2), (3, vI x5), (5, vI x5)]) dX2_learn_57 rfl (Nat.le_of_ble_eq_true rfl) [1, 2, 3, 0, 5] rfl ?_
        refine ea_iload (pc := 58) dX2_learn_58 4 rfl ?_
        refine ea_istore (pc := 60) (lv' := [(0, vR (some a0)), (1, vI x1), (2, vI x2), (3, vI x5), (4, vI x5), (5, vI x5)]) dX2_learn_60 (Nat.le_of_ble_eq_true rfl) [1, 2, 3, 4, 0, 5] rfl ?_
        refine ea_iinc (pc := 62) (v := 1) (lv' := [(0, vR (some a0)), (1, vI x1), (2, vI x2), (3, vI x5), (4, vI x5), (5, vI (x5 + (1 : Int32)))]) dX2_learn_62 5 rfl rfl (Nat.le_of_ble_eq_true rfl) [1, 2, 3, 4, 5, 0] rfl ?_
        refine ea_goto (pc := 65) (tgt := 15) dX2_learn_65 rfl ?_
        exact (kJ15 (x1 : Int32) (x2 : Int32) (x5 : Int32) (x5 : Int32) ((x5 + (1 : Int32)) : Int32) w9.2 _ _ E)
theorem kBX2_learn_15 {a0 : Nat} {J15 : Int32 → Int32 → Int32 → Int32 → Int32 → ea_H → Option (Int32 × ea_H)}  (cJ15 : ∀ (x1 : Int32) (x2 : Int32) (x3 : Int32) (x4 : Int32) (x5 : Int32) (h : ea_H), kp (ea_core h) (J15 x1 x2 x3 x4 x5 h)) {x1 : Int32} {x2 : Int32} {x3 : Int32} {x4 : Int32} {x5 : Int32} {h : ea_H} : kp (ea_core h) (BX2_learn_15 a0 J15 x1 x2 x3 x4 x5 h) :=
  (kp_gd (kp_ite (kp_ite (kp_ret rfl) (kp_gd (kp_let (kp_gd (kp_let (kp_ret rfl)))))) (kp_gd (kp_bind (kp_tw (kpX2_shown _ _ _) rfl) fun w9 hcw9 => (kp_gd (kp_ite (kp_ite (kp_tw (cJ15 _ _ _ _ _ _) hcw9) (kp_tw (cJ15 _ _ _ _ _ _) hcw9)) (kp_tw (cJ15 _ _ _ _ _ _) hcw9)))))))
theorem lBX2_learn_15 {a0 : Nat} {J15 : Int32 → Int32 → Int32 → Int32 → Int32 → ea_H → Option (Int32 × ea_H)} {J15_ : Int32 → Int32 → Int32 → Int32 → Int32 → ea_H → Option (Int32 × ea_H)}  (mJ15 : ∀ (x1 : Int32) (x2 : Int32) (x3 : Int32) (x4 : Int32) (x5 : Int32) (h : ea_H), fle (J15 x1 x2 x3 x4 x5 h) (J15_ x1 x2 x3 x4 x5 h)) {x1 : Int32} {x2 : Int32} {x3 : Int32} {x4 : Int32} {x5 : Int32} {h : ea_H} : fle (BX2_learn_15 a0 J15 x1 x2 x3 x4 x5 h) (BX2_learn_15 a0 J15_ x1 x2 x3 x4 x5 h) :=
  (fle_gd (fle_ite (fle_rfl _) (fle_gd (fle_bind (fle_rfl _) fun _ => (fle_gd (fle_ite (fle_ite (mJ15 _ _ _ _ _ _) (mJ15 _ _ _ _ _ _)) (mJ15 _ _ _ _ _ _)))))))
theorem nBX2_learn_15 {a0 : Nat} {J15 : Int32 → Int32 → Int32 → Int32 → Int32 → ea_H → Option (Int32 × ea_H)} {J15_ : Nat → (Int32 → Int32 → Int32 → Int32 → Int32 → ea_H → Option (Int32 × ea_H))}  (mJ15 : ∀ (x1 : Int32) (x2 : Int32) (x3 : Int32) (x4 : Int32) (x5 : Int32) (h : ea_H), fct (J15 x1 x2 x3 x4 x5 h) (fun f => J15_ f x1 x2 x3 x4 x5 h)) {x1 : Int32} {x2 : Int32} {x3 : Int32} {x4 : Int32} {x5 : Int32} {h : ea_H} : fct (BX2_learn_15 a0 J15 x1 x2 x3 x4 x5 h) (fun f => BX2_learn_15 a0 (J15_ f) x1 x2 x3 x4 x5 h) :=
  (fct_gd (fct_ite (fct_rfl _) (fct_gd (fct_bind (fct_rfl _) fun _ => (fct_gd (fct_ite (fct_ite (mJ15 _ _ _ _ _ _) (mJ15 _ _ _ _ _ _)) (mJ15 _ _ _ _ _ _)))))))
noncomputable def gX2_learn (a0 : Nat) : Nat → (Int32 → Int32 → ea_H → Option (Int32 × ea_H)) × (Int32 → Int32 → Int32 → Int32 → Int32 → ea_H → Option (Int32 × ea_H))
  | 0 => (fun _ _ _ => none, fun _ _ _ _ _ _ => none)
  | f + 1 => (BX2_learn_0 a0 (gX2_learn a0 f).2, BX2_learn_15 a0 (gX2_learn a0 f).2)
theorem mgX2_learn (a0 : Nat) : ∀ f : Nat, (∀ (x1 : Int32) (x2 : Int32) (h : ea_H), fle ((gX2_learn a0 f).1 x1 x2 h) ((gX2_learn a0 (f + 1)).1 x1 x2 h)) ∧ (∀ (x1 : Int32) (x2 : Int32) (x3 : Int32) (x4 : Int32) (x5 : Int32) (h : ea_H), fle ((gX2_learn a0 f).2 x1 x2 x3 x4 x5 h) ((gX2_learn a0 (f + 1)).2 x1 x2 x3 x4 x5 h)) := by
  intro f
  induction f with
  | zero => exact ⟨fun _ _ _ => fle_none _, fun _ _ _ _ _ _ => fle_none _⟩
  | succ f ih => exact ⟨fun _ _ _ => lBX2_learn_0 (a0 := a0) ih.2, fun _ _ _ _ _ _ => lBX2_learn_15 (a0 := a0) ih.2⟩
noncomputable def qX2_learn_0 (a0 : Nat) (x1 : Int32) (x2 : Int32) (h : ea_H) : Option (Int32 × ea_H) := flim fun f => (gX2_learn a0 f).1 x1 x2 h
noncomputable def qX2_learn_15 (a0 : Nat) (x1 : Int32) (x2 : Int32) (x3 : Int32) (x4 : Int32) (x5 : Int32) (h : ea_H) : Option (Int32 × ea_H) := flim fun f => (gX2_learn a0 f).2 x1 x2 x3 x4 x5 h
theorem fqX2_learn_0 (a0 : Nat) (x1 : Int32) (x2 : Int32) (h : ea_H) : fct (qX2_learn_0 a0 x1 x2 h) fun f => (gX2_learn a0 f).1 x1 x2 h := flim_ct fun f => (mgX2_learn a0 f).1 x1 x2 h
theorem fqX2_learn_15 (a0 : Nat) (x1 : Int32) (x2 : Int32) (x3 : Int32) (x4 : Int32) (x5 : Int32) (h : ea_H) : fct (qX2_learn_15 a0 x1 x2 x3 x4 x5 h) fun f => (gX2_learn a0 f).2 x1 x2 x3 x4 x5 h := flim_ct fun f => (mgX2_learn a0 f).2 x1 x2 x3 x4 x5 h
/-- how a block opens -/
theorem uqX2_learn_0 {a0 : Nat} {x1 : Int32} {x2 : Int32} {h : ea_H} {P : Int32 × ea_H → Prop} (H : sat (BX2_learn_0 a0 (qX2_learn_15 a0) x1 x2 h) P) : sat (qX2_learn_0 a0 x1 x2 h) P := by
  obtain ⟨x, e, hp⟩ := H
  obtain ⟨n, hn⟩ := nBX2_learn_0 (a0 := a0) (fqX2_learn_15 a0) x e
  exact ⟨x, flim_at (fun f => (mgX2_learn a0 f).1 x1 x2 h) (f := n + 1) (hn n (Nat.le_refl _)), hp⟩
/-- how a block opens -/
theorem uqX2_learn_15 {a0 : Nat} {x1 : Int32} {x2 : Int32} {x3 : Int32} {x4 : Int32} {x5 : Int32} {h : ea_H} {P : Int32 × ea_H → Prop} (H : sat (BX2_learn_15 a0 (qX2_learn_15 a0) x1 x2 x3 x4 x5 h) P) : sat (qX2_learn_15 a0 x1 x2 x3 x4 x5 h) P := by
  obtain ⟨x, e, hp⟩ := H
  obtain ⟨n, hn⟩ := nBX2_learn_15 (a0 := a0) (fqX2_learn_15 a0) x e
  exact ⟨x, flim_at (fun f => (mgX2_learn a0 f).2 x1 x2 x3 x4 x5 h) (f := n + 1) (hn n (Nat.le_refl _)), hp⟩
theorem kgX2_learn (a0 : Nat) : ∀ f : Nat, (∀ (x1 : Int32) (x2 : Int32) (h : ea_H), kp (ea_core h) ((gX2_learn a0 f).1 x1 x2 h)) ∧ (∀ (x1 : Int32) (x2 : Int32) (x3 : Int32) (x4 : Int32) (x5 : Int32) (h : ea_H), kp (ea_core h) ((gX2_learn a0 f).2 x1 x2 x3 x4 x5 h)) := by
  intro f
  induction f with
  | zero => exact ⟨fun _ _ _ => kp_none _, fun _ _ _ _ _ _ => kp_none _⟩
  | succ f ih => exact ⟨fun _ _ _ => kBX2_learn_0 (a0 := a0) ih.2, fun _ _ _ _ _ _ => kBX2_learn_15 (a0 := a0) ih.2⟩
theorem tgX2_learn {d : Nat} {a0 : Nat} {h0 : ea_H} (hd : 2 ≤ d) : ∀ f : Nat, (∀ (x1 : Int32) (x2 : Int32) (h : ea_H) (r : Int32) (h' : ea_H), (gX2_learn a0 f).1 x1 x2 h = some (r, h') → ea_W mX2_learn d h0 (some (vI r)) h' 0 [(0, vR (some a0)), (1, vI x1), (2, vI x2)] [] h) ∧ (∀ (x1 : Int32) (x2 : Int32) (x3 : Int32) (x4 : Int32) (x5 : Int32) (h : ea_H) (r : Int32) (h' : ea_H), (gX2_learn a0 f).2 x1 x2 x3 x4 x5 h = some (r, h') → ea_W mX2_learn d h0 (some (vI r)) h' 15 [(0, vR (some a0)), (1, vI x1), (2, vI x2), (3, vI x3), (4, vI x4), (5, vI x5)] [] h) := by
  intro f
  induction f with
  | zero => exact ⟨fun _ _ _ _ _ E => no_some E, fun _ _ _ _ _ _ _ _ E => no_some E⟩
  | succ f ih => exact ⟨fun _ _ _ _ _ E => tBX2_learn_0 (a0 := a0) hd ih.2 E, fun _ _ _ _ _ _ _ _ E => tBX2_learn_15 (a0 := a0) hd ih.2 E⟩
noncomputable def qX2_learn (a0 : Nat) (x1 : Int32) (x2 : Int32) (h : ea_H) : Option (Int32 × ea_H) := qX2_learn_0 a0 x1 x2 h
theorem sX2_learn {d : Nat} {a0 : Nat} {x1 : Int32} {x2 : Int32} {h : ea_H} {r : Int32} {h' : ea_H} (hd : 2 ≤ d) (K : qX2_learn a0 x1 x2 h = some (r, h')) : ea_Met mX2_learn d [vR (some a0), vI x1, vI x2] h (some (vI r)) h' := by
  unfold qX2_learn at K
  obtain ⟨n, hn⟩ := fqX2_learn_0 a0 x1 x2 h _ K
  have W := (tgX2_learn (d := d) (h0 := h) hd n).1 x1 x2 h _ _ (hn n (Nat.le_refl _))
  exact ea_enter rfl (Nat.le_of_ble_eq_true rfl) W
theorem kpX2_learn (a0 : Nat) (x1 : Int32) (x2 : Int32) (h : ea_H) : kp (ea_core h) (qX2_learn a0 x1 x2 h) := fun x e => by
  obtain ⟨n, hn⟩ := fqX2_learn_0 a0 x1 x2 h x e
  exact (kgX2_learn a0 n).1 x1 x2 h x (hn n (Nat.le_refl _))
noncomputable def BX2_mayShow_0 (a0 : Nat) (J31 : Int32 → Int32 → Int32 → ea_H → Option (Int32 × ea_H)) (x1 : Int32) (x2 : Int32) (h : ea_H) : Option (Int32 × ea_H) :=
  (gd ((a0 < ea_n h ∧ ea_c h a0 = 2)) (Option.bind (qX2_shown (x1 : Int32) ((ea_i h a0 1) : Int32) h) fun w2 => (if x2 < w2.1 then (some ((0 : Int32), w2.2)) else (gd ((a0 < ea_n w2.2 ∧ ea_c w2.2 a0 = 2)) (Option.bind (qX2_shown (x1 : Int32) ((ea_i w2.2 a0 2) : Int32) w2.2) fun w4 => (if x2 ≤ w4.1 then (gd ((a0 < ea_n w4.2 ∧ ea_c w4.2 a0 = 2)) (ea_let (ea_i w4.2 a0 1) fun (v6 : Int32) => (J31 (x1 : Int32) (x2 : Int32) (v6 : Int32) w4.2))) else (some ((0 : Int32), w4.2))))))))
theorem tBX2_mayShow_0 {d : Nat} {a0 : Nat} {h0 : ea_H} (hd : 2 ≤ d) {J31 : Int32 → Int32 → Int32 → ea_H → Option (Int32 × ea_H)}  (kJ31 : ∀ (x1 : Int32) (x2 : Int32) (x3 : Int32) (h : ea_H) (r : Int32) (h' : ea_H), J31 x1 x2 x3 h = some (r, h') → ea_W mX2_mayShow d h0 (some (vI r)) h' 31 [(0, vR (some a0)), (1, vI x1), (2, vI x2), (3, vI x3)] [] h) {x1 : Int32} {x2 : Int32} {h : ea_H} {r : Int32} {h' : ea_H} (E : BX2_mayShow_0 a0 J31 x1 x2 h = some (r, h')) : ea_W mX2_mayShow d h0 (some (vI r)) h' 0 [(0, vR (some a0)), (1, vI x1), (2, vI x2)] [] h := by
  unfold BX2_mayShow_0 at E
  obtain ⟨f1, E⟩ := gd_some E
  refine ea_iload_n (pc := 0) dX2_mayShow_0 rfl 1 rfl ?_
  refine ea_aload_n (pc := 1) dX2_mayShow_1 rfl 0 rfl ?_
  obtain ⟨w2, Ew2, E⟩ := bd_some E
  refine ea_getI (pc := 2) dX2_mayShow_2 ec_2 (k := 1) (Nat.le_of_ble_eq_true rfl) rfl (Or.inl ew_603) f1.1 f1.2 ?_
  refine ea_callS (pc := 5) (d' := d - 1) (As := [vI x1, vI (ea_i h a0 1)]) (st := []) dX2_mayShow_5 kX2_shown (sX2_shown (d := d - 1) (by omega) Ew2) (by omega) rfl (Nat.le_of_ble_eq_true rfl) ew_1341 ew_1342 ?_
  refine ea_iload_n (pc := 8) dX2_mayShow_8 rfl 2 rfl ?_
  refine ea_icmp_gt (pc := 9) (tgt := 24) dX2_mayShow_9 rfl (fun c8 => ?_) (fun c8 => ?_)
  · have E := (if_pos c8).symm.trans E
    refine ea_iconst (pc := 24) dX2_mayShow_24 (v := 0) rfl ?_
    exact ea_iretO (pc := 25) dX2_mayShow_25 rfl (ea_bn (Or.inl rfl)) E
  · have E := (if_neg c8).symm.trans E
    obtain ⟨f3, E⟩ := gd_some E
    refine ea_iload_n (pc := 12) dX2_mayShow_12 rfl 1 rfl ?_
    refine ea_aload_n (pc := 13) dX2_mayShow_13 rfl 0 rfl ?_
    obtain ⟨w4, Ew4, E⟩ := bd_some E
    refine ea_getI (pc := 14) dX2_mayShow_14 ec_2 (k := 2) (Nat.le_of_ble_eq_true rfl) rfl (Or.inl ew_605) f3.1 f3.2 ?_
    refine ea_callS (pc := 17) (d' := d - 1) (As := [vI x1, vI (ea_i w2.2 a0 2)]) (st := []) dX2_mayShow_17 kX2_shown (sX2_shown (d := d - 1) (by omega) Ew4) (by omega) rfl (Nat.le_of_ble_eq_true rfl) ew_1341 ew_1342 ?_
    refine ea_iload_n (pc := 20) dX2_mayShow_20 rfl 2 rfl ?_
    refine ea_icmp_ge (pc := 21) (tgt := 26) dX2_mayShow_21 rfl (fun c7 => ?_) (fun c7 => ?_)
    · have E := (if_pos c7).symm.trans E
      obtain ⟨f5, E⟩ := gd_some E
      refine ea_aload_n (pc := 26) dX2_mayShow_26 rfl 0 rfl ?_
      obtain ⟨v6, ev6, E⟩ := let_some E
      refine ea_getI (pc := 27) dX2_mayShow_27 ec_2 (k := 1) (Nat.le_of_ble_eq_true rfl) rfl (Or.inl ew_603) f5.1 f5.2 ?_
      refine ea_istore_n (pc := 30) (lv' := [(0, vR (some a0)), (1, vI x1), (2, vI x2), (3, vI v6)]) dX2_mayShow_30 rfl (Nat.le_of_ble_eq_true rfl) [1, 2, 3, 0] (by rw [ev6]; rfl) ?_
      exact (kJ31 (x1 : Int32) (x2 : Int32) (v6 : Int32) w4.2 _ _ E)
    · have E := (if_neg c7).symm.trans E
      refine ea_iconst (pc := 24) dX2_mayShow_24 (v := 0) rfl ?_
      exact ea_iretO (pc := 25) dX2_mayShow_25 rfl (ea_bn (Or.inl rfl)) E
theorem kBX2_mayShow_0 {a0 : Nat} {J31 : Int32 → Int32 → Int32 → ea_H → Option (Int32 × ea_H)}  (cJ31 : ∀ (x1 : Int32) (x2 : Int32) (x3 : Int32) (h : ea_H), kp (ea_core h) (J31 x1 x2 x3 h)) {x1 : Int32} {x2 : Int32} {h : ea_H} : kp (ea_core h) (BX2_mayShow_0 a0 J31 x1 x2 h) :=
  (kp_gd (kp_bind (kp_tw (kpX2_shown _ _ _) rfl) fun w2 hcw2 => (kp_ite (kp_ret hcw2) (kp_gd (kp_bind (kp_tw (kpX2_shown _ _ _) hcw2) fun w4 hcw4 => (kp_ite (kp_gd (kp_let (kp_tw (cJ31 _ _ _ _) hcw4))) (kp_ret hcw4)))))))
theorem lBX2_mayShow_0 {a0 : Nat} {J31 : Int32 → Int32 → Int32 → ea_H → Option (Int32 × ea_H)} {J31_ : Int32 → Int32 → Int32 → ea_H → Option (Int32 × ea_H)}  (mJ31 : ∀ (x1 : Int32) (x2 : Int32) (x3 : Int32) (h : ea_H), fle (J31 x1 x2 x3 h) (J31_ x1 x2 x3 h)) {x1 : Int32} {x2 : Int32} {h : ea_H} : fle (BX2_mayShow_0 a0 J31 x1 x2 h) (BX2_mayShow_0 a0 J31_ x1 x2 h) :=
  (fle_gd (fle_bind (fle_rfl _) fun _ => (fle_ite (fle_rfl _) (fle_gd (fle_bind (fle_rfl _) fun _ => (fle_ite (fle_gd (fle_let fun _ => (mJ31 _ _ _ _))) (fle_rfl _)))))))
theorem nBX2_mayShow_0 {a0 : Nat} {J31 : Int32 → Int32 → Int32 → ea_H → Option (Int32 × ea_H)} {J31_ : Nat → (Int32 → Int32 → Int32 → ea_H → Option (Int32 × ea_H))}  (mJ31 : ∀ (x1 : Int32) (x2 : Int32) (x3 : Int32) (h : ea_H), fct (J31 x1 x2 x3 h) (fun f => J31_ f x1 x2 x3 h)) {x1 : Int32} {x2 : Int32} {h : ea_H} : fct (BX2_mayShow_0 a0 J31 x1 x2 h) (fun f => BX2_mayShow_0 a0 (J31_ f) x1 x2 h) :=
  (fct_gd (fct_bind (fct_rfl _) fun _ => (fct_ite (fct_rfl _) (fct_gd (fct_bind (fct_rfl _) fun _ => (fct_ite (fct_gd (fct_let fun _ => (mJ31 _ _ _ _))) (fct_rfl _)))))))
noncomputable def BX2_mayShow_31 (a0 : Nat) (J31 : Int32 → Int32 → Int32 → ea_H → Option (Int32 × ea_H)) (x1 : Int32) (x2 : Int32) (x3 : Int32) (h : ea_H) : Option (Int32 × ea_H) :=
  (gd ((a0 < ea_n h ∧ ea_c h a0 = 2)) (if (ea_i h a0 2) < x3 then (some ((0 : Int32), h)) else (Option.bind (qX2_shown (x1 : Int32) (x3 : Int32) h) fun w10 => (if w10.1 = x2 then (some ((1 : Int32), w10.2)) else (J31 (x1 : Int32) (x2 : Int32) ((x3 + (1 : Int32)) : Int32) w10.2)))))
theorem tBX2_mayShow_31 {d : Nat} {a0 : Nat} {h0 : ea_H} (hd : 2 ≤ d) {J31 : Int32 → Int32 → Int32 → ea_H → Option (Int32 × ea_H)}  (kJ31 : ∀ (x1 : Int32) (x2 : Int32) (x3 : Int32) (h : ea_H) (r : Int32) (h' : ea_H), J31 x1 x2 x3 h = some (r, h') → ea_W mX2_mayShow d h0 (some (vI r)) h' 31 [(0, vR (some a0)), (1, vI x1), (2, vI x2), (3, vI x3)] [] h) {x1 : Int32} {x2 : Int32} {x3 : Int32} {h : ea_H} {r : Int32} {h' : ea_H} (E : BX2_mayShow_31 a0 J31 x1 x2 x3 h = some (r, h')) : ea_W mX2_mayShow d h0 (some (vI r)) h' 31 [(0, vR (some a0)), (1, vI x1), (2, vI x2), (3, vI x3)] [] h := by
  unfold BX2_mayShow_31 at E
  obtain ⟨f9, E⟩ := gd_some E
  refine ea_iload_n (pc := 31) dX2_mayShow_31 rfl 3 rfl ?_
  refine ea_aload_n (pc := 32) dX2_mayShow_32 rfl 0 rfl ?_
  refine ea_getI (pc := 33) dX2_mayShow_33 ec_2 (k := 2) (Nat.le_of_ble_eq_true rfl) rfl (Or.inl ew_605) f9.1 f9.2 ?_
  refine ea_icmp_gt (pc := 36) (tgt := 56) dX2_mayShow_36 rfl (fun c12 => ?_) (fun c12 => ?_)
  · have E := (if_pos c12).symm.trans E
    refine ea_iconst (pc := 56) dX2_mayShow_56 (v := 0) rfl ?_
    exact ea_iretO (pc := 57) dX2_mayShow_57 rfl (ea_bn (Or.inl rfl)) E
  · have E := (if_neg c12).symm.trans E
    obtain ⟨w10, Ew10, E⟩ := bd_some E
    refine ea_iload_n (pc := 39) dX2_mayShow_39 rfl 1 rfl ?_
    refine ea_iload_n (pc := 40) dX2_mayShow_40 rfl 3 rfl ?_
    refine ea_callS (pc := 41) (d' := d - 1) (As := [vI x1, vI x3]) (st := []) dX2_mayShow_41 kX2_shown (sX2_shown (d := d - 1) (by omega) Ew10) (by omega) rfl (Nat.le_of_ble_eq_true rfl) ew_1341 ew_1342 ?_
    refine ea_iload_n (pc := 44) dX2_mayShow_44 rfl 2 rfl ?_
    refine ea_icmp_ne (pc := 45) (tgt := 50) dX2_mayShow_45 rfl (fun c11 => ?_) (fun c11 => ?_)
    · have E := (if_neg c11).symm.trans E
      refine ea_iinc (pc := 50) (v := 1) (lv' := [(0, vR (some a0)), (1, vI x1), (2, vI x2), (3, vI (x3 + (1 : Int32)))]) dX2_mayShow_50 3 rfl rfl (Nat.le_of_ble_eq_true rfl) [1, 2, 3, 0] rfl ?_
      refine ea_goto (pc := 53) (tgt := 31) dX2_mayShow_53 rfl ?_
      exact (kJ31 (x1 : Int32) (x2 : Int32) ((x3 + (1 : Int32)) : Int32) w10.2 _ _ E)
    · have E := (if_pos c11).symm.trans E
      refine ea_iconst (pc := 48) dX2_mayShow_48 (v := 1) rfl ?_
      exact ea_iretO (pc := 49) dX2_mayShow_49 rfl (ea_bn (Or.inr rfl)) E
theorem kBX2_mayShow_31 {a0 : Nat} {J31 : Int32 → Int32 → Int32 → ea_H → Option (Int32 × ea_H)}  (cJ31 : ∀ (x1 : Int32) (x2 : Int32) (x3 : Int32) (h : ea_H), kp (ea_core h) (J31 x1 x2 x3 h)) {x1 : Int32} {x2 : Int32} {x3 : Int32} {h : ea_H} : kp (ea_core h) (BX2_mayShow_31 a0 J31 x1 x2 x3 h) :=
  (kp_gd (kp_ite (kp_ret rfl) (kp_bind (kp_tw (kpX2_shown _ _ _) rfl) fun w10 hcw10 => (kp_ite (kp_ret hcw10) (kp_tw (cJ31 _ _ _ _) hcw10)))))
theorem lBX2_mayShow_31 {a0 : Nat} {J31 : Int32 → Int32 → Int32 → ea_H → Option (Int32 × ea_H)} {J31_ : Int32 → Int32 → Int32 → ea_H → Option (Int32 × ea_H)}  (mJ31 : ∀ (x1 : Int32) (x2 : Int32) (x3 : Int32) (h : ea_H), fle (J31 x1 x2 x3 h) (J31_ x1 x2 x3 h)) {x1 : Int32} {x2 : Int32} {x3 : Int32} {h : ea_H} : fle (BX2_mayShow_31 a0 J31 x1 x2 x3 h) (BX2_mayShow_31 a0 J31_ x1 x2 x3 h) :=
  (fle_gd (fle_ite (fle_rfl _) (fle_bind (fle_rfl _) fun _ => (fle_ite (fle_rfl _) (mJ31 _ _ _ _)))))
theorem nBX2_mayShow_31 {a0 : Nat} {J31 : Int32 → Int32 → Int32 → ea_H → Option (Int32 × ea_H)} {J31_ : Nat → (Int32 → Int32 → Int32 → ea_H → Option (Int32 × ea_H))}  (mJ31 : ∀ (x1 : Int32) (x2 : Int32) (x3 : Int32) (h : ea_H), fct (J31 x1 x2 x3 h) (fun f => J31_ f x1 x2 x3 h)) {x1 : Int32} {x2 : Int32} {x3 : Int32} {h : ea_H} : fct (BX2_mayShow_31 a0 J31 x1 x2 x3 h) (fun f => BX2_mayShow_31 a0 (J31_ f) x1 x2 x3 h) :=
  (fct_gd (fct_ite (fct_rfl _) (fct_bind (fct_rfl _) fun _ => (fct_ite (fct_rfl _) (mJ31 _ _ _ _)))))
noncomputable def gX2_mayShow (a0 : Nat) : Nat → (Int32 → Int32 → ea_H → Option (Int32 × ea_H)) × (Int32 → Int32 → Int32 → ea_H → Option (Int32 × ea_H))
  | 0 => (fun _ _ _ => none, fun _ _ _ _ => none)
  | f + 1 => (BX2_mayShow_0 a0 (gX2_mayShow a0 f).2, BX2_mayShow_31 a0 (gX2_mayShow a0 f).2)
theorem mgX2_mayShow (a0 : Nat) : ∀ f : Nat, (∀ (x1 : Int32) (x2 : Int32) (h : ea_H), fle ((gX2_mayShow a0 f).1 x1 x2 h) ((gX2_mayShow a0 (f + 1)).1 x1 x2 h)) ∧ (∀ (x1 : Int32) (x2 : Int32) (x3 : Int32) (h : ea_H), fle ((gX2_mayShow a0 f).2 x1 x2 x3 h) ((gX2_mayShow a0 (f + 1)).2 x1 x2 x3 h)) := by
  intro f
  induction f with
  | zero => exact ⟨fun _ _ _ => fle_none _, fun _ _ _ _ => fle_none _⟩
  | succ f ih => exact ⟨fun _ _ _ => lBX2_mayShow_0 (a0 := a0) ih.2, fun _ _ _ _ => lBX2_mayShow_31 (a0 := a0) ih.2⟩
noncomputable def qX2_mayShow_0 (a0 : Nat) (x1 : Int32) (x2 : Int32) (h : ea_H) : Option (Int32 × ea_H) := flim fun f => (gX2_mayShow a0 f).1 x1 x2 h
noncomputable def qX2_mayShow_31 (a0 : Nat) (x1 : Int32) (x2 : Int32) (x3 : Int32) (h : ea_H) : Option (Int32 × ea_H) := flim fun f => (gX2_mayShow a0 f).2 x1 x2 x3 h
theorem fqX2_mayShow_0 (a0 : Nat) (x1 : Int32) (x2 : Int32) (h : ea_H) : fct (qX2_mayShow_0 a0 x1 x2 h) fun f => (gX2_mayShow a0 f).1 x1 x2 h := flim_ct fun f => (mgX2_mayShow a0 f).1 x1 x2 h
theorem fqX2_mayShow_31 (a0 : Nat) (x1 : Int32) (x2 : Int32) (x3 : Int32) (h : ea_H) : fct (qX2_mayShow_31 a0 x1 x2 x3 h) fun f => (gX2_mayShow a0 f).2 x1 x2 x3 h := flim_ct fun f => (mgX2_mayShow a0 f).2 x1 x2 x3 h
/-- how a block opens -/
theorem uqX2_mayShow_0 {a0 : Nat} {x1 : Int32} {x2 : Int32} {h : ea_H} {P : Int32 × ea_H → Prop} (H : sat (BX2_mayShow_0 a0 (qX2_mayShow_31 a0) x1 x2 h) P) : sat (qX2_mayShow_0 a0 x1 x2 h) P := by
  obtain ⟨x, e, hp⟩ := H
  obtain ⟨n, hn⟩ := nBX2_mayShow_0 (a0 := a0) (fqX2_mayShow_31 a0) x e
  exact ⟨x, flim_at (fun f => (mgX2_mayShow a0 f).1 x1 x2 h) (f := n + 1) (hn n (Nat.le_refl _)), hp⟩
/-- how a block opens -/
theorem uqX2_mayShow_31 {a0 : Nat} {x1 : Int32} {x2 : Int32} {x3 : Int32} {h : ea_H} {P : Int32 × ea_H → Prop} (H : sat (BX2_mayShow_31 a0 (qX2_mayShow_31 a0) x1 x2 x3 h) P) : sat (qX2_mayShow_31 a0 x1 x2 x3 h) P := by
  obtain ⟨x, e, hp⟩ := H
  obtain ⟨n, hn⟩ := nBX2_mayShow_31 (a0 := a0) (fqX2_mayShow_31 a0) x e
  exact ⟨x, flim_at (fun f => (mgX2_mayShow a0 f).2 x1 x2 x3 h) (f := n + 1) (hn n (Nat.le_refl _)), hp⟩
theorem kgX2_mayShow (a0 : Nat) : ∀ f : Nat, (∀ (x1 : Int32) (x2 : Int32) (h : ea_H), kp (ea_core h) ((gX2_mayShow a0 f).1 x1 x2 h)) ∧ (∀ (x1 : Int32) (x2 : Int32) (x3 : Int32) (h : ea_H), kp (ea_core h) ((gX2_mayShow a0 f).2 x1 x2 x3 h)) := by
  intro f
  induction f with
  | zero => exact ⟨fun _ _ _ => kp_none _, fun _ _ _ _ => kp_none _⟩
  | succ f ih => exact ⟨fun _ _ _ => kBX2_mayShow_0 (a0 := a0) ih.2, fun _ _ _ _ => kBX2_mayShow_31 (a0 := a0) ih.2⟩
theorem tgX2_mayShow {d : Nat} {a0 : Nat} {h0 : ea_H} (hd : 2 ≤ d) : ∀ f : Nat, (∀ (x1 : Int32) (x2 : Int32) (h : ea_H) (r : Int32) (h' : ea_H), (gX2_mayShow a0 f).1 x1 x2 h = some (r, h') → ea_W mX2_mayShow d h0 (some (vI r)) h' 0 [(0, vR (some a0)), (1, vI x1), (2, vI x2)] [] h) ∧ (∀ (x1 : Int32) (x2 : Int32) (x3 : Int32) (h : ea_H) (r : Int32) (h' : ea_H), (gX2_mayShow a0 f).2 x1 x2 x3 h = some (r, h') → ea_W mX2_mayShow d h0 (some (vI r)) h' 31 [(0, vR (some a0)), (1, vI x1), (2, vI x2), (3, vI x3)] [] h) := by
  intro f
  induction f with
  | zero => exact ⟨fun _ _ _ _ _ E => no_some E, fun _ _ _ _ _ _ E => no_some E⟩
  | succ f ih => exact ⟨fun _ _ _ _ _ E => tBX2_mayShow_0 (a0 := a0) hd ih.2 E, fun _ _ _ _ _ _ E => tBX2_mayShow_31 (a0 := a0) hd ih.2 E⟩
noncomputable def qX2_mayShow (a0 : Nat) (x1 : Int32) (x2 : Int32) (h : ea_H) : Option (Int32 × ea_H) := qX2_mayShow_0 a0 x1 x2 h
theorem sX2_mayShow {d : Nat} {a0 : Nat} {x1 : Int32} {x2 : Int32} {h : ea_H} {r : Int32} {h' : ea_H} (hd : 2 ≤ d) (K : qX2_mayShow a0 x1 x2 h = some (r, h')) : ea_Met mX2_mayShow d [vR (some a0), vI x1, vI x2] h (some (vI r)) h' := by
  unfold qX2_mayShow at K
  obtain ⟨n, hn⟩ := fqX2_mayShow_0 a0 x1 x2 h _ K
  have W := (tgX2_mayShow (d := d) (h0 := h) hd n).1 x1 x2 h _ _ (hn n (Nat.le_refl _))
  exact ea_enter rfl (Nat.le_of_ble_eq_true rfl) W
theorem kpX2_mayShow (a0 : Nat) (x1 : Int32) (x2 : Int32) (h : ea_H) : kp (ea_core h) (qX2_mayShow a0 x1 x2 h) := fun x e => by
  obtain ⟨n, hn⟩ := fqX2_mayShow_0 a0 x1 x2 h x e
  exact (kgX2_mayShow a0 n).1 x1 x2 h x (hn n (Nat.le_refl _))
noncomputable def BX2_least_0 (a0 : Nat) (J5 : Int32 → Int32 → ea_H → Option (Int32 × ea_H)) (x1 : Int32) (h : ea_H) : Option (Int32 × ea_H) :=
  (gd ((a0 < ea_n h ∧ ea_c h a0 = 2)) (J5 (x1 : Int32) ((ea_i h a0 0) : Int32) h))
theorem tBX2_least_0 {d : Nat} {a0 : Nat} {h0 : ea_H} (hd : 3 ≤ d) {J5 : Int32 → Int32 → ea_H → Option (Int32 × ea_H)}  (kJ5 : ∀ (x1 : Int32) (x2 : Int32) (h : ea_H) (r : Int32) (h' : ea_H), J5 x1 x2 h = some (r, h') → ea_W mX2_least d h0 (some (vI r)) h' 5 [(0, vR (some a0)), (1, vI x1), (2, vI x2)] [] h) {x1 : Int32} {h : ea_H} {r : Int32} {h' : ea_H} (E : BX2_least_0 a0 J5 x1 h = some (r, h')) : ea_W mX2_least d h0 (some (vI r)) h' 0 [(0, vR (some a0)), (1, vI x1)] [] h := by
  unfold BX2_least_0 at E
  obtain ⟨f1, E⟩ := gd_some E
  refine ea_aload_n (pc := 0) dX2_least_0 rfl 0 rfl ?_
  refine ea_getI (pc := 1) dX2_least_1 ec_2 (k := 0) (Nat.le_of_ble_eq_true rfl) rfl (Or.inl ew_601) f1.1 f1.2 ?_
  refine ea_istore_n (pc := 4) (lv' := [(0, vR (some a0)), (1, vI x1), (2, vI (ea_i h a0 0))]) dX2_least_4 rfl (Nat.le_of_ble_eq_true rfl) [1, 2, 0] rfl ?_
  exact (kJ5 (x1 : Int32) ((ea_i h a0 0) : Int32) h _ _ E)
theorem kBX2_least_0 {a0 : Nat} {J5 : Int32 → Int32 → ea_H → Option (Int32 × ea_H)}  (cJ5 : ∀ (x1 : Int32) (x2 : Int32) (h : ea_H), kp (ea_core h) (J5 x1 x2 h)) {x1 : Int32} {h : ea_H} : kp (ea_core h) (BX2_least_0 a0 J5 x1 h) :=
  (kp_gd (kp_tw (cJ5 _ _ _) rfl))
theorem lBX2_least_0 {a0 : Nat} {J5 : Int32 → Int32 → ea_H → Option (Int32 × ea_H)} {J5_ : Int32 → Int32 → ea_H → Option (Int32 × ea_H)}  (mJ5 : ∀ (x1 : Int32) (x2 : Int32) (h : ea_H), fle (J5 x1 x2 h) (J5_ x1 x2 h)) {x1 : Int32} {h : ea_H} : fle (BX2_least_0 a0 J5 x1 h) (BX2_least_0 a0 J5_ x1 h) :=
  (fle_gd (mJ5 _ _ _))
theorem nBX2_least_0 {a0 : Nat} {J5 : Int32 → Int32 → ea_H → Option (Int32 × ea_H)} {J5_ : Nat → (Int32 → Int32 → ea_H → Option (Int32 × ea_H))}  (mJ5 : ∀ (x1 : Int32) (x2 : Int32) (h : ea_H), fct (J5 x1 x2 h) (fun f => J5_ f x1 x2 h)) {x1 : Int32} {h : ea_H} : fct (BX2_least_0 a0 J5 x1 h) (fun f => BX2_least_0 a0 (J5_ f) x1 h) :=
  (fct_gd (mJ5 _ _ _))
noncomputable def BX2_least_5 (a0 : Nat) (J5 : Int32 → Int32 → ea_H → Option (Int32 × ea_H)) (x1 : Int32) (x2 : Int32) (h : ea_H) : Option (Int32 × ea_H) :=
  (if (10079 : Int32) < x2 then (some (((-1) : Int32), h)) else (gd ((a0 < ea_n h ∧ ea_c h a0 = 2)) (gd ((a0 < ea_n h ∧ ea_c h a0 = 2)) (gd ((a0 < ea_n h ∧ ea_c h a0 = 2)) (Option.bind (qX2_mayShow a0 ((x2 - (ea_i h a0 0)) : Int32) ((x1 - (ea_i h a0 0)) : Int32) h) fun w4 => (if w4.1 = (0 : Int32) then (J5 (x1 : Int32) ((x2 + (1 : Int32)) : Int32) w4.2) else (some (x2, w4.2))))))))
theorem tBX2_least_5 {d : Nat} {a0 : Nat} {h0 : ea_H} (hd : 3 ≤ d) {J5 : Int32 → Int32 → ea_H → Option (Int32 × ea_H)}  (kJ5 : ∀ (x1 : Int32) (x2 : Int32) (h : ea_H) (r : Int32) (h' : ea_H), J5 x1 x2 h = some (r, h') → ea_W mX2_least d h0 (some (vI r)) h' 5 [(0, vR (some a0)), (1, vI x1), (2, vI x2)] [] h) {x1 : Int32} {x2 : Int32} {h : ea_H} {r : Int32} {h' : ea_H} (E : BX2_least_5 a0 J5 x1 x2 h = some (r, h')) : ea_W mX2_least d h0 (some (vI r)) h' 5 [(0, vR (some a0)), (1, vI x1), (2, vI x2)] [] h := by
  unfold BX2_least_5 at E
  refine ea_iload_n (pc := 5) dX2_least_5 rfl 2 rfl ?_
  refine ea_sipush (pc := 6) dX2_least_6 (v := 10079) rfl ?_
  refine ea_icmp_gt (pc := 9) (tgt := 39) dX2_least_9 rfl (fun c7 => ?_) (fun c7 => ?_)
  · have E := (if_pos c7).symm.trans E
    refine ea_iconst (pc := 39) dX2_least_39 (v := (-1)) rfl ?_
    exact ea_iretO (pc := 40) dX2_least_40 rfl rfl E
  · have E := (if_neg c7).symm.trans E
    obtain ⟨f2, E⟩ := gd_some E
    refine ea_aload_n (pc := 12) dX2_least_12 rfl 0 rfl ?_
    refine ea_iload_n (pc := 13) dX2_least_13 rfl 2 rfl ?_
    refine ea_aload_n (pc := 14) dX2_least_14 rfl 0 rfl ?_
    obtain ⟨f3, E⟩ := gd_some E
    refine ea_getI (pc := 15) dX2_least_15 ec_2 (k := 0) (Nat.le_of_ble_eq_true rfl) rfl (Or.inl ew_601) f2.1 f2.2 ?_
    refine ea_isub (pc := 18) dX2_least_18 ?_
    refine ea_iload_n (pc := 19) dX2_least_19 rfl 1 rfl ?_
    refine ea_aload_n (pc := 20) dX2_least_20 rfl 0 rfl ?_
    obtain ⟨f5, E⟩ := gd_some E
    refine ea_getI (pc := 21) dX2_least_21 ec_2 (k := 0) (Nat.le_of_ble_eq_true rfl) rfl (Or.inl ew_601) f3.1 f3.2 ?_
    refine ea_isub (pc := 24) dX2_least_24 ?_
    obtain ⟨w4, Ew4, E⟩ := bd_some E
    refine ea_callV (pc := 25) (d' := d - 1) (As := [vI (x2 - (ea_i h a0 0)), vI (x1 - (ea_i h a0 0))]) (st := []) dX2_least_25 kX2_mayShow (sX2_mayShow (d := d - 1) (by omega) Ew4) (by omega) rfl (Nat.le_of_ble_eq_true rfl) ew_1356 ew_1358 ew_51 (ci := 2) rfl (by decide) f5.1 f5.2 ?_
    refine ea_if_eq (pc := 28) (tgt := 33) dX2_least_28 rfl (fun c6 => ?_) (fun c6 => ?_)
    · have E := (if_pos c6).symm.trans E
      refine ea_iinc (pc := 33) (v := 1) (lv' := [(0, vR (some a0)), (1, vI x1), (2, vI (x2 + (1 : Int32)))]) dX2_least_33 2 rfl rfl (Nat.le_of_ble_eq_true rfl) [1, 2, 0] rfl ?_
      refine ea_goto (pc := 36) (tgt := 5) dX2_least_36 rfl ?_
      exact (kJ5 (x1 : Int32) ((x2 + (1 : Int32)) : Int32) w4.2 _ _ E)
    · have E := (if_neg c6).symm.trans E
      refine ea_iload_n (pc := 31) dX2_least_31 rfl 2 rfl ?_
      exact ea_iretO (pc := 32) dX2_least_32 rfl rfl E
theorem kBX2_least_5 {a0 : Nat} {J5 : Int32 → Int32 → ea_H → Option (Int32 × ea_H)}  (cJ5 : ∀ (x1 : Int32) (x2 : Int32) (h : ea_H), kp (ea_core h) (J5 x1 x2 h)) {x1 : Int32} {x2 : Int32} {h : ea_H} : kp (ea_core h) (BX2_least_5 a0 J5 x1 x2 h) :=
  (kp_ite (kp_ret rfl) (kp_gd (kp_gd (kp_gd (kp_bind (kp_tw (kpX2_mayShow _ _ _ _) rfl) fun w4 hcw4 => (kp_ite (kp_tw (cJ5 _ _ _) hcw4) (kp_ret hcw4)))))))
theorem lBX2_least_5 {a0 : Nat} {J5 : Int32 → Int32 → ea_H → Option (Int32 × ea_H)} {J5_ : Int32 → Int32 → ea_H → Option (Int32 × ea_H)}  (mJ5 : ∀ (x1 : Int32) (x2 : Int32) (h : ea_H), fle (J5 x1 x2 h) (J5_ x1 x2 h)) {x1 : Int32} {x2 : Int32} {h : ea_H} : fle (BX2_least_5 a0 J5 x1 x2 h) (BX2_least_5 a0 J5_ x1 x2 h) :=
  (fle_ite (fle_rfl _) (fle_gd (fle_gd (fle_gd (fle_bind (fle_rfl _) fun _ => (fle_ite (mJ5 _ _ _) (fle_rfl _)))))))
theorem nBX2_least_5 {a0 : Nat} {J5 : Int32 → Int32 → ea_H → Option (Int32 × ea_H)} {J5_ : Nat → (Int32 → Int32 → ea_H → Option (Int32 × ea_H))}  (mJ5 : ∀ (x1 : Int32) (x2 : Int32) (h : ea_H), fct (J5 x1 x2 h) (fun f => J5_ f x1 x2 h)) {x1 : Int32} {x2 : Int32} {h : ea_H} : fct (BX2_least_5 a0 J5 x1 x2 h) (fun f => BX2_least_5 a0 (J5_ f) x1 x2 h) :=
  (fct_ite (fct_rfl _) (fct_gd (fct_gd (fct_gd (fct_bind (fct_rfl _) fun _ => (fct_ite (mJ5 _ _ _) (fct_rfl _)))))))
noncomputable def gX2_least (a0 : Nat) : Nat → (Int32 → ea_H → Option (Int32 × ea_H)) × (Int32 → Int32 → ea_H → Option (Int32 × ea_H))
  | 0 => (fun _ _ => none, fun _ _ _ => none)
  | f + 1 => (BX2_least_0 a0 (gX2_least a0 f).2, BX2_least_5 a0 (gX2_least a0 f).2)
theorem mgX2_least (a0 : Nat) : ∀ f : Nat, (∀ (x1 : Int32) (h : ea_H), fle ((gX2_least a0 f).1 x1 h) ((gX2_least a0 (f + 1)).1 x1 h)) ∧ (∀ (x1 : Int32) (x2 : Int32) (h : ea_H), fle ((gX2_least a0 f).2 x1 x2 h) ((gX2_least a0 (f + 1)).2 x1 x2 h)) := by
  intro f
  induction f with
  | zero => exact ⟨fun _ _ => fle_none _, fun _ _ _ => fle_none _⟩
  | succ f ih => exact ⟨fun _ _ => lBX2_least_0 (a0 := a0) ih.2, fun _ _ _ => lBX2_least_5 (a0 := a0) ih.2⟩
noncomputable def qX2_least_0 (a0 : Nat) (x1 : Int32) (h : ea_H) : Option (Int32 × ea_H) := flim fun f => (gX2_least a0 f).1 x1 h
noncomputable def qX2_least_5 (a0 : Nat) (x1 : Int32) (x2 : Int32) (h : ea_H) : Option (Int32 × ea_H) := flim fun f => (gX2_least a0 f).2 x1 x2 h
theorem fqX2_least_0 (a0 : Nat) (x1 : Int32) (h : ea_H) : fct (qX2_least_0 a0 x1 h) fun f => (gX2_least a0 f).1 x1 h := flim_ct fun f => (mgX2_least a0 f).1 x1 h
theorem fqX2_least_5 (a0 : Nat) (x1 : Int32) (x2 : Int32) (h : ea_H) : fct (qX2_least_5 a0 x1 x2 h) fun f => (gX2_least a0 f).2 x1 x2 h := flim_ct fun f => (mgX2_least a0 f).2 x1 x2 h
/-- how a block opens -/
theorem uqX2_least_0 {a0 : Nat} {x1 : Int32} {h : ea_H} {P : Int32 × ea_H → Prop} (H : sat (BX2_least_0 a0 (qX2_least_5 a0) x1 h) P) : sat (qX2_least_0 a0 x1 h) P := by
  obtain ⟨x, e, hp⟩ := H
  obtain ⟨n, hn⟩ := nBX2_least_0 (a0 := a0) (fqX2_least_5 a0) x e
  exact ⟨x, flim_at (fun f => (mgX2_least a0 f).1 x1 h) (f := n + 1) (hn n (Nat.le_refl _)), hp⟩
/-- how a block opens -/
theorem uqX2_least_5 {a0 : Nat} {x1 : Int32} {x2 : Int32} {h : ea_H} {P : Int32 × ea_H → Prop} (H : sat (BX2_least_5 a0 (qX2_least_5 a0) x1 x2 h) P) : sat (qX2_least_5 a0 x1 x2 h) P := by
  obtain ⟨x, e, hp⟩ := H
  obtain ⟨n, hn⟩ := nBX2_least_5 (a0 := a0) (fqX2_least_5 a0) x e
  exact ⟨x, flim_at (fun f => (mgX2_least a0 f).2 x1 x2 h) (f := n + 1) (hn n (Nat.le_refl _)), hp⟩
theorem kgX2_least (a0 : Nat) : ∀ f : Nat, (∀ (x1 : Int32) (h : ea_H), kp (ea_core h) ((gX2_least a0 f).1 x1 h)) ∧ (∀ (x1 : Int32) (x2 : Int32) (h : ea_H), kp (ea_core h) ((gX2_least a0 f).2 x1 x2 h)) := by
  intro f
  induction f with
  | zero => exact ⟨fun _ _ => kp_none _, fun _ _ _ => kp_none _⟩
  | succ f ih => exact ⟨fun _ _ => kBX2_least_0 (a0 := a0) ih.2, fun _ _ _ => kBX2_least_5 (a0 := a0) ih.2⟩
theorem tgX2_least {d : Nat} {a0 : Nat} {h0 : ea_H} (hd : 3 ≤ d) : ∀ f : Nat, (∀ (x1 : Int32) (h : ea_H) (r : Int32) (h' : ea_H), (gX2_least a0 f).1 x1 h = some (r, h') → ea_W mX2_least d h0 (some (vI r)) h' 0 [(0, vR (some a0)), (1, vI x1)] [] h) ∧ (∀ (x1 : Int32) (x2 : Int32) (h : ea_H) (r : Int32) (h' : ea_H), (gX2_least a0 f).2 x1 x2 h = some (r, h') → ea_W mX2_least d h0 (some (vI r)) h' 5 [(0, vR (some a0)), (1, vI x1), (2, vI x2)] [] h) := by
  intro f
  induction f with
  | zero => exact ⟨fun _ _ _ _ E => no_some E, fun _ _ _ _ _ E => no_some E⟩
  | succ f ih => exact ⟨fun _ _ _ _ E => tBX2_least_0 (a0 := a0) hd ih.2 E, fun _ _ _ _ _ E => tBX2_least_5 (a0 := a0) hd ih.2 E⟩
noncomputable def qX2_least (a0 : Nat) (x1 : Int32) (h : ea_H) : Option (Int32 × ea_H) := qX2_least_0 a0 x1 h
theorem sX2_least {d : Nat} {a0 : Nat} {x1 : Int32} {h : ea_H} {r : Int32} {h' : ea_H} (hd : 3 ≤ d) (K : qX2_least a0 x1 h = some (r, h')) : ea_Met mX2_least d [vR (some a0), vI x1] h (some (vI r)) h' := by
  unfold qX2_least at K
  obtain ⟨n, hn⟩ := fqX2_least_0 a0 x1 h _ K
  have W := (tgX2_least (d := d) (h0 := h) hd n).1 x1 h _ _ (hn n (Nat.le_refl _))
  exact ea_enter rfl (Nat.le_of_ble_eq_true rfl) W
theorem kpX2_least (a0 : Nat) (x1 : Int32) (h : ea_H) : kp (ea_core h) (qX2_least a0 x1 h) := fun x e => by
  obtain ⟨n, hn⟩ := fqX2_least_0 a0 x1 h x e
  exact (kgX2_least a0 n).1 x1 h x (hn n (Nat.le_refl _))
noncomputable def BX2_greatest_0 (a0 : Nat) (J4 : Int32 → Int32 → ea_H → Option (Int32 × ea_H)) (x1 : Int32) (h : ea_H) : Option (Int32 × ea_H) :=
  (J4 (x1 : Int32) (10079 : Int32) h)
theorem tBX2_greatest_0 {d : Nat} {a0 : Nat} {h0 : ea_H} (hd : 3 ≤ d) {J4 : Int32 → Int32 → ea_H → Option (Int32 × ea_H)}  (kJ4 : ∀ (x1 : Int32) (x2 : Int32) (h : ea_H) (r : Int32) (h' : ea_H), J4 x1 x2 h = some (r, h') → ea_W mX2_greatest d h0 (some (vI r)) h' 4 [(0, vR (some a0)), (1, vI x1), (2, vI x2)] [] h) {x1 : Int32} {h : ea_H} {r : Int32} {h' : ea_H} (E : BX2_greatest_0 a0 J4 x1 h = some (r, h')) : ea_W mX2_greatest d h0 (some (vI r)) h' 0 [(0, vR (some a0)), (1, vI x1)] [] h := by
  unfold BX2_greatest_0 at E
  refine ea_sipush (pc := 0) dX2_greatest_0 (v := 10079) rfl ?_
  refine ea_istore_n (pc := 3) (lv' := [(0, vR (some a0)), (1, vI x1), (2, vI 10079)]) dX2_greatest_3 rfl (Nat.le_of_ble_eq_true rfl) [1, 2, 0] rfl ?_
  exact (kJ4 (x1 : Int32) (10079 : Int32) h _ _ E)
theorem kBX2_greatest_0 {a0 : Nat} {J4 : Int32 → Int32 → ea_H → Option (Int32 × ea_H)}  (cJ4 : ∀ (x1 : Int32) (x2 : Int32) (h : ea_H), kp (ea_core h) (J4 x1 x2 h)) {x1 : Int32} {h : ea_H} : kp (ea_core h) (BX2_greatest_0 a0 J4 x1 h) :=
  (kp_tw (cJ4 _ _ _) rfl)
theorem lBX2_greatest_0 {a0 : Nat} {J4 : Int32 → Int32 → ea_H → Option (Int32 × ea_H)} {J4_ : Int32 → Int32 → ea_H → Option (Int32 × ea_H)}  (mJ4 : ∀ (x1 : Int32) (x2 : Int32) (h : ea_H), fle (J4 x1 x2 h) (J4_ x1 x2 h)) {x1 : Int32} {h : ea_H} : fle (BX2_greatest_0 a0 J4 x1 h) (BX2_greatest_0 a0 J4_ x1 h) :=
  (mJ4 _ _ _)
theorem nBX2_greatest_0 {a0 : Nat} {J4 : Int32 → Int32 → ea_H → Option (Int32 × ea_H)} {J4_ : Nat → (Int32 → Int32 → ea_H → Option (Int32 × ea_H))}  (mJ4 : ∀ (x1 : Int32) (x2 : Int32) (h : ea_H), fct (J4 x1 x2 h) (fun f => J4_ f x1 x2 h)) {x1 : Int32} {h : ea_H} : fct (BX2_greatest_0 a0 J4 x1 h) (fun f => BX2_greatest_0 a0 (J4_ f) x1 h) :=
  (mJ4 _ _ _)
noncomputable def BX2_greatest_4 (a0 : Nat) (J4 : Int32 → Int32 → ea_H → Option (Int32 × ea_H)) (x1 : Int32) (x2 : Int32) (h : ea_H) : Option (Int32 × ea_H) :=
  (gd ((a0 < ea_n h ∧ ea_c h a0 = 2)) (if x2 < (ea_i h a0 0) then (some (((-1) : Int32), h)) else (gd ((a0 < ea_n h ∧ ea_c h a0 = 2)) (gd ((a0 < ea_n h ∧ ea_c h a0 = 2)) (gd ((a0 < ea_n h ∧ ea_c h a0 = 2)) (Option.bind (qX2_mayShow a0 ((x2 - (ea_i h a0 0)) : Int32) ((x1 - (ea_i h a0 0)) : Int32) h) fun w4 => (if w4.1 = (0 : Int32) then (J4 (x1 : Int32) ((x2 + ((-1) : Int32)) : Int32) w4.2) else (some (x2, w4.2)))))))))
theorem tBX2_greatest_4 {d : Nat} {a0 : Nat} {h0 : ea_H} (hd : 3 ≤ d) {J4 : Int32 → Int32 → ea_H → Option (Int32 × ea_H)}  (kJ4 : ∀ (x1 : Int32) (x2 : Int32) (h : ea_H) (r : Int32) (h' : ea_H), J4 x1 x2 h = some (r, h') → ea_W mX2_greatest d h0 (some (vI r)) h' 4 [(0, vR (some a0)), (1, vI x1), (2, vI x2)] [] h) {x1 : Int32} {x2 : Int32} {h : ea_H} {r : Int32} {h' : ea_H} (E : BX2_greatest_4 a0 J4 x1 x2 h = some (r, h')) : ea_W mX2_greatest d h0 (some (vI r)) h' 4 [(0, vR (some a0)), (1, vI x1), (2, vI x2)] [] h := by
  unfold BX2_greatest_4 at E
  obtain ⟨f1, E⟩ := gd_some E
  refine ea_iload_n (pc := 4) dX2_greatest_4 rfl 2 rfl ?_
  refine ea_aload_n (pc := 5) dX2_greatest_5 rfl 0 rfl ?_
  refine ea_getI (pc := 6) dX2_greatest_6 ec_2 (k := 0) (Nat.le_of_ble_eq_true rfl) rfl (Or.inl ew_601) f1.1 f1.2 ?_
  refine ea_icmp_lt (pc := 9) (tgt := 39) dX2_greatest_9 rfl (fun c7 => ?_) (fun c7 => ?_)
  · have E := (if_pos c7).symm.trans E
    refine ea_iconst (pc := 39) dX2_greatest_39 (v := (-1)) rfl ?_
    exact ea_iretO (pc := 40) dX2_greatest_40 rfl rfl E
  · have E := (if_neg c7).symm.trans E
    obtain ⟨f2, E⟩ := gd_some E
    refine ea_aload_n (pc := 12) dX2_greatest_12 rfl 0 rfl ?_
    refine ea_iload_n (pc := 13) dX2_greatest_13 rfl 2 rfl ?_
    refine ea_aload_n (pc := 14) dX2_greatest_14 rfl 0 rfl ?_
    obtain ⟨f3, E⟩ := gd_some E
    refine ea_getI (pc := 15) dX2_greatest_15 ec_2 (k := 0) (Nat.le_of_ble_eq_true rfl) rfl (Or.inl ew_601) f2.1 f2.2 ?_
    refine ea_isub (pc := 18) dX2_greatest_18 ?_
    refine ea_iload_n (pc := 19) dX2_greatest_19 rfl 1 rfl ?_
    refine ea_aload_n (pc := 20) dX2_greatest_20 rfl 0 rfl ?_
    obtain ⟨f5, E⟩ := gd_some E
    refine ea_getI (pc := 21) dX2_greatest_21 ec_2 (k := 0) (Nat.le_of_ble_eq_true rfl) rfl (Or.inl ew_601) f3.1 f3.2 ?_
    refine ea_isub (pc := 24) dX2_greatest_24 ?_
    obtain ⟨w4, Ew4, E⟩ := bd_some E
    refine ea_callV (pc := 25) (d' := d - 1) (As := [vI (x2 - (ea_i h a0 0)), vI (x1 - (ea_i h a0 0))]) (st := []) dX2_greatest_25 kX2_mayShow (sX2_mayShow (d := d - 1) (by omega) Ew4) (by omega) rfl (Nat.le_of_ble_eq_true rfl) ew_1356 ew_1358 ew_51 (ci := 2) rfl (by decide) f5.1 f5.2 ?_
    refine ea_if_eq (pc := 28) (tgt := 33) dX2_greatest_28 rfl (fun c6 => ?_) (fun c6 => ?_)
    · have E := (if_pos c6).symm.trans E
      refine ea_iinc (pc := 33) (v := (-1)) (lv' := [(0, vR (some a0)), (1, vI x1), (2, vI (x2 + ((-1) : Int32)))]) dX2_greatest_33 2 rfl rfl (Nat.le_of_ble_eq_true rfl) [1, 2, 0] rfl ?_
      refine ea_goto (pc := 36) (tgt := 4) dX2_greatest_36 rfl ?_
      exact (kJ4 (x1 : Int32) ((x2 + ((-1) : Int32)) : Int32) w4.2 _ _ E)
    · have E := (if_neg c6).symm.trans E
      refine ea_iload_n (pc := 31) dX2_greatest_31 rfl 2 rfl ?_
      exact ea_iretO (pc := 32) dX2_greatest_32 rfl rfl E
theorem kBX2_greatest_4 {a0 : Nat} {J4 : Int32 → Int32 → ea_H → Option (Int32 × ea_H)}  (cJ4 : ∀ (x1 : Int32) (x2 : Int32) (h : ea_H), kp (ea_core h) (J4 x1 x2 h)) {x1 : Int32} {x2 : Int32} {h : ea_H} : kp (ea_core h) (BX2_greatest_4 a0 J4 x1 x2 h) :=
  (kp_gd (kp_ite (kp_ret rfl) (kp_gd (kp_gd (kp_gd (kp_bind (kp_tw (kpX2_mayShow _ _ _ _) rfl) fun w4 hcw4 => (kp_ite (kp_tw (cJ4 _ _ _) hcw4) (kp_ret hcw4))))))))
theorem lBX2_greatest_4 {a0 : Nat} {J4 : Int32 → Int32 → ea_H → Option (Int32 × ea_H)} {J4_ : Int32 → Int32 → ea_H → Option (Int32 × ea_H)}  (mJ4 : ∀ (x1 : Int32) (x2 : Int32) (h : ea_H), fle (J4 x1 x2 h) (J4_ x1 x2 h)) {x1 : Int32} {x2 : Int32} {h : ea_H} : fle (BX2_greatest_4 a0 J4 x1 x2 h) (BX2_greatest_4 a0 J4_ x1 x2 h) :=
  (fle_gd (fle_ite (fle_rfl _) (fle_gd (fle_gd (fle_gd (fle_bind (fle_rfl _) fun _ => (fle_ite (mJ4 _ _ _) (fle_rfl _))))))))
theorem nBX2_greatest_4 {a0 : Nat} {J4 : Int32 → Int32 → ea_H → Option (Int32 × ea_H)} {J4_ : Nat → (Int32 → Int32 → ea_H → Option (Int32 × ea_H))}  (mJ4 : ∀ (x1 : Int32) (x2 : Int32) (h : ea_H), fct (J4 x1 x2 h) (fun f => J4_ f x1 x2 h)) {x1 : Int32} {x2 : Int32} {h : ea_H} : fct (BX2_greatest_4 a0 J4 x1 x2 h) (fun f => BX2_greatest_4 a0 (J4_ f) x1 x2 h) :=
  (fct_gd (fct_ite (fct_rfl _) (fct_gd (fct_gd (fct_gd (fct_bind (fct_rfl _) fun _ => (fct_ite (mJ4 _ _ _) (fct_rfl _))))))))
noncomputable def gX2_greatest (a0 : Nat) : Nat → (Int32 → ea_H → Option (Int32 × ea_H)) × (Int32 → Int32 → ea_H → Option (Int32 × ea_H))
  | 0 => (fun _ _ => none, fun _ _ _ => none)
  | f + 1 => (BX2_greatest_0 a0 (gX2_greatest a0 f).2, BX2_greatest_4 a0 (gX2_greatest a0 f).2)
theorem mgX2_greatest (a0 : Nat) : ∀ f : Nat, (∀ (x1 : Int32) (h : ea_H), fle ((gX2_greatest a0 f).1 x1 h) ((gX2_greatest a0 (f + 1)).1 x1 h)) ∧ (∀ (x1 : Int32) (x2 : Int32) (h : ea_H), fle ((gX2_greatest a0 f).2 x1 x2 h) ((gX2_greatest a0 (f + 1)).2 x1 x2 h)) := by
  intro f
  induction f with
  | zero => exact ⟨fun _ _ => fle_none _, fun _ _ _ => fle_none _⟩
  | succ f ih => exact ⟨fun _ _ => lBX2_greatest_0 (a0 := a0) ih.2, fun _ _ _ => lBX2_greatest_4 (a0 := a0) ih.2⟩
noncomputable def qX2_greatest_0 (a0 : Nat) (x1 : Int32) (h : ea_H) : Option (Int32 × ea_H) := flim fun f => (gX2_greatest a0 f).1 x1 h
noncomputable def qX2_greatest_4 (a0 : Nat) (x1 : Int32) (x2 : Int32) (h : ea_H) : Option (Int32 × ea_H) := flim fun f => (gX2_greatest a0 f).2 x1 x2 h
theorem fqX2_greatest_0 (a0 : Nat) (x1 : Int32) (h : ea_H) : fct (qX2_greatest_0 a0 x1 h) fun f => (gX2_greatest a0 f).1 x1 h := flim_ct fun f => (mgX2_greatest a0 f).1 x1 h
theorem fqX2_greatest_4 (a0 : Nat) (x1 : Int32) (x2 : Int32) (h : ea_H) : fct (qX2_greatest_4 a0 x1 x2 h) fun f => (gX2_greatest a0 f).2 x1 x2 h := flim_ct fun f => (mgX2_greatest a0 f).2 x1 x2 h
/-- how a block opens -/
theorem uqX2_greatest_0 {a0 : Nat} {x1 : Int32} {h : ea_H} {P : Int32 × ea_H → Prop} (H : sat (BX2_greatest_0 a0 (qX2_greatest_4 a0) x1 h) P) : sat (qX2_greatest_0 a0 x1 h) P := by
  obtain ⟨x, e, hp⟩ := H
  obtain ⟨n, hn⟩ := nBX2_greatest_0 (a0 := a0) (fqX2_greatest_4 a0) x e
  exact ⟨x, flim_at (fun f => (mgX2_greatest a0 f).1 x1 h) (f := n + 1) (hn n (Nat.le_refl _)), hp⟩
/-- how a block opens -/
theorem uqX2_greatest_4 {a0 : Nat} {x1 : Int32} {x2 : Int32} {h : ea_H} {P : Int32 × ea_H → Prop} (H : sat (BX2_greatest_4 a0 (qX2_greatest_4 a0) x1 x2 h) P) : sat (qX2_greatest_4 a0 x1 x2 h) P := by
  obtain ⟨x, e, hp⟩ := H
  obtain ⟨n, hn⟩ := nBX2_greatest_4 (a0 := a0) (fqX2_greatest_4 a0) x e
  exact ⟨x, flim_at (fun f => (mgX2_greatest a0 f).2 x1 x2 h) (f := n + 1) (hn n (Nat.le_refl _)), hp⟩
theorem kgX2_greatest (a0 : Nat) : ∀ f : Nat, (∀ (x1 : Int32) (h : ea_H), kp (ea_core h) ((gX2_greatest a0 f).1 x1 h)) ∧ (∀ (x1 : Int32) (x2 : Int32) (h : ea_H), kp (ea_core h) ((gX2_greatest a0 f).2 x1 x2 h)) := by
  intro f
  induction f with
  | zero => exact ⟨fun _ _ => kp_none _, fun _ _ _ => kp_none _⟩
  | succ f ih => exact ⟨fun _ _ => kBX2_greatest_0 (a0 := a0) ih.2, fun _ _ _ => kBX2_greatest_4 (a0 := a0) ih.2⟩
theorem tgX2_greatest {d : Nat} {a0 : Nat} {h0 : ea_H} (hd : 3 ≤ d) : ∀ f : Nat, (∀ (x1 : Int32) (h : ea_H) (r : Int32) (h' : ea_H), (gX2_greatest a0 f).1 x1 h = some (r, h') → ea_W mX2_greatest d h0 (some (vI r)) h' 0 [(0, vR (some a0)), (1, vI x1)] [] h) ∧ (∀ (x1 : Int32) (x2 : Int32) (h : ea_H) (r : Int32) (h' : ea_H), (gX2_greatest a0 f).2 x1 x2 h = some (r, h') → ea_W mX2_greatest d h0 (some (vI r)) h' 4 [(0, vR (some a0)), (1, vI x1), (2, vI x2)] [] h) := by
  intro f
  induction f with
  | zero => exact ⟨fun _ _ _ _ E => no_some E, fun _ _ _ _ _ E => no_some E⟩
  | succ f ih => exact ⟨fun _ _ _ _ E => tBX2_greatest_0 (a0 := a0) hd ih.2 E, fun _ _ _ _ _ E => tBX2_greatest_4 (a0 := a0) hd ih.2 E⟩
noncomputable def qX2_greatest (a0 : Nat) (x1 : Int32) (h : ea_H) : Option (Int32 × ea_H) := qX2_greatest_0 a0 x1 h
theorem sX2_greatest {d : Nat} {a0 : Nat} {x1 : Int32} {h : ea_H} {r : Int32} {h' : ea_H} (hd : 3 ≤ d) (K : qX2_greatest a0 x1 h = some (r, h')) : ea_Met mX2_greatest d [vR (some a0), vI x1] h (some (vI r)) h' := by
  unfold qX2_greatest at K
  obtain ⟨n, hn⟩ := fqX2_greatest_0 a0 x1 h _ K
  have W := (tgX2_greatest (d := d) (h0 := h) hd n).1 x1 h _ _ (hn n (Nat.le_refl _))
  exact ea_enter rfl (Nat.le_of_ble_eq_true rfl) W
theorem kpX2_greatest (a0 : Nat) (x1 : Int32) (h : ea_H) : kp (ea_core h) (qX2_greatest a0 x1 h) := fun x e => by
  obtain ⟨n, hn⟩ := fqX2_greatest_0 a0 x1 h x e
  exact (kgX2_greatest a0 n).1 x1 h x (hn n (Nat.le_refl _))
noncomputable def BX3_init_0 (a0 : Nat) (h : ea_H) : Option (Unit × ea_H) :=
  (ea_let (ea_new h 20 8 8) fun H1 => (gd ((a0 < ea_n H1 ∧ ea_c H1 a0 = 3)) (ea_let (ea_wr H1 a0 1 (some (ea_n h))) fun H3 => (ea_let (ea_new H3 20 8 8) fun H4 => (gd ((a0 < ea_n H4 ∧ ea_c H4 a0 = 3)) (ea_let (ea_wr H4 a0 2 (some (ea_n H3))) fun H6 => (ea_let (ea_new H6 20 8 8) fun H7 => (gd ((a0 < ea_n H7 ∧ ea_c H7 a0 = 3)) (ea_let (ea_wr H7 a0 3 (some (ea_n H6))) fun H9 => (ea_let (ea_new H9 20 8 8) fun H10 => (gd ((a0 < ea_n H10 ∧ ea_c H10 a0 = 3)) (ea_let (ea_wr H10 a0 4 (some (ea_n H9))) fun H12 => (some ((), H12))))))))))))))
theorem tBX3_init_0 {d : Nat} {a0 : Nat} {h0 : ea_H} (hd : 2 ≤ d)  {h : ea_H} {r : Unit} {h' : ea_H} (E : BX3_init_0 a0 h = some (r, h')) : ea_W mX3_init d h0 none h' 0 [(0, vR (some a0))] [] h := by
  unfold BX3_init_0 at E
  obtain ⟨H1, eH1, E⟩ := let_some E
  refine ea_aload_n (pc := 0) dX3_init_0 rfl 0 rfl ?_
  refine ea_objInit (pc := 1) dX3_init_1 ew_263 ew_141 ew_142 (by omega) (Nat.le_of_ble_eq_true rfl) ?_
  refine ea_aload_n (pc := 4) dX3_init_4 rfl 0 rfl ?_
  refine ea_bipush (pc := 5) dX3_init_5 (v := 8) rfl ?_
  refine ea_newI (pc := 7) (N := 8) dX3_init_7 ew_177 (by decide) rfl (Nat.le_of_ble_eq_true rfl) ?_
  refine ea_nm eH1 ?_
  obtain ⟨f2, E⟩ := gd_some E
  obtain ⟨H3, eH3, E⟩ := let_some E
  refine ea_putR (pc := 9) dX3_init_9 ec_3 (k := 1) (Nat.le_of_ble_eq_true rfl) rfl (Or.inr ⟨rfl, rfl, rfl, ew_266⟩) f2.1 f2.2 ?_
  refine ea_nm eH3 ?_
  obtain ⟨H4, eH4, E⟩ := let_some E
  refine ea_aload_n (pc := 12) dX3_init_12 rfl 0 rfl ?_
  refine ea_bipush (pc := 13) dX3_init_13 (v := 8) rfl ?_
  refine ea_newI (pc := 15) (N := 8) dX3_init_15 ew_177 (by decide) rfl (Nat.le_of_ble_eq_true rfl) ?_
  refine ea_nm eH4 ?_
  obtain ⟨f5, E⟩ := gd_some E
  obtain ⟨H6, eH6, E⟩ := let_some E
  refine ea_putR (pc := 17) dX3_init_17 ec_3 (k := 2) (Nat.le_of_ble_eq_true rfl) rfl (Or.inr ⟨rfl, rfl, rfl, ew_268⟩) f5.1 f5.2 ?_
  refine ea_nm eH6 ?_
  obtain ⟨H7, eH7, E⟩ := let_some E
  refine ea_aload_n (pc := 20) dX3_init_20 rfl 0 rfl ?_
  refine ea_bipush (pc := 21) dX3_init_21 (v := 8) rfl ?_
  refine ea_newI (pc := 23) (N := 8) dX3_init_23 ew_177 (by decide) rfl (Nat.le_of_ble_eq_true rfl) ?_
  refine ea_nm eH7 ?_
  obtain ⟨f8, E⟩ := gd_some E
  obtain ⟨H9, eH9, E⟩ := let_some E
  refine ea_putR (pc := 25) dX3_init_25 ec_3 (k := 3) (Nat.le_of_ble_eq_true rfl) rfl (Or.inr ⟨rfl, rfl, rfl, ew_269⟩) f8.1 f8.2 ?_
  refine ea_nm eH9 ?_
  obtain ⟨H10, eH10, E⟩ := let_some E
  refine ea_aload_n (pc := 28) dX3_init_28 rfl 0 rfl ?_
  refine ea_bipush (pc := 29) dX3_init_29 (v := 8) rfl ?_
  refine ea_newI (pc := 31) (N := 8) dX3_init_31 ew_177 (by decide) rfl (Nat.le_of_ble_eq_true rfl) ?_
  refine ea_nm eH10 ?_
  obtain ⟨f11, E⟩ := gd_some E
  obtain ⟨H12, eH12, E⟩ := let_some E
  refine ea_putR (pc := 33) dX3_init_33 ec_3 (k := 4) (Nat.le_of_ble_eq_true rfl) rfl (Or.inr ⟨rfl, rfl, rfl, ew_270⟩) f11.1 f11.2 ?_
  refine ea_nm eH12 ?_
  exact ea_vretO (pc := 36) dX3_init_36 rfl E
noncomputable def qX3_init (a0 : Nat) (h : ea_H) : Option (Unit × ea_H) := BX3_init_0 a0 h
theorem sX3_init {d : Nat} {a0 : Nat} {h : ea_H} {r : Unit} {h' : ea_H} (hd : 2 ≤ d) (K : qX3_init a0 h = some (r, h')) : ea_Met mX3_init d [vR (some a0)] h none h' := by
  unfold qX3_init at K
  have W := tBX3_init_0 hd (h0 := h) K
  exact ea_enter rfl (Nat.le_of_ble_eq_true rfl) W
noncomputable def BX3_add_0 (x1 : Int32) (x2 : Int32) (h : ea_H) : Option (Int32 × ea_H) :=
  (if (ea_i h 18 0) < (8 : Int32) then (gd (vp_in (ea_i h 18 0) 8) (ea_let (ea_wi h 20 (Int32.toNatClampNeg (ea_i h 18 0)) x1) fun H2 => (gd (vp_in (ea_i H2 18 0) 8) (ea_let (ea_wi H2 21 (Int32.toNatClampNeg (ea_i H2 18 0)) x2) fun H4 => (gd (vp_in (ea_i H4 18 0) 8) (ea_let (ea_wi H4 19 (Int32.toNatClampNeg (ea_i H4 18 0)) (-1)) fun H6 => (ea_let (ea_wi H6 18 0 ((ea_i H6 18 0) + (1 : Int32))) fun H7 => (some (((ea_i H7 18 0) - (1 : Int32)), H7))))))))) else (some (((-1) : Int32), h)))
theorem tBX3_add_0 {d : Nat} {h0 : ea_H} (hd : 1 ≤ d)  {x1 : Int32} {x2 : Int32} {h : ea_H} {r : Int32} {h' : ea_H} (E : BX3_add_0 x1 x2 h = some (r, h')) (hs : ShC h) : ea_W mX3_add d h0 (some (vI r)) h' 0 [(0, vR (some 18)), (1, vI x1), (2, vI x2)] [] h := by
  unfold BX3_add_0 at E
  refine ea_aload_n (pc := 0) dX3_add_0 rfl 0 rfl ?_
  refine ea_getI (pc := 1) dX3_add_1 ec_3 (k := 0) (Nat.le_of_ble_eq_true rfl) rfl (Or.inl ew_264) (cShC_18 hs).1 (cShC_18 hs).2.1 ?_
  refine ea_bipush (pc := 4) dX3_add_4 (v := 8) rfl ?_
  refine ea_icmp_lt (pc := 6) (tgt := 11) dX3_add_6 rfl (fun c8 => ?_) (fun c8 => ?_)
  · have E := (if_pos c8).symm.trans E
    obtain ⟨z1, E⟩ := gd_some E
    refine ea_aload_n (pc := 11) dX3_add_11 rfl 0 rfl ?_
    refine ea_getR (pc := 12) dX3_add_12 ec_3 (k := 2) (Nat.le_of_ble_eq_true rfl) rfl (Or.inl ew_268) (cShC_18 hs).1 (cShC_18 hs).2.1 (rShC_18_2 hs) ?_
    refine ea_aload_n (pc := 15) dX3_add_15 rfl 0 rfl ?_
    refine ea_getI (pc := 16) dX3_add_16 ec_3 (k := 0) (Nat.le_of_ble_eq_true rfl) rfl (Or.inl ew_264) (cShC_18 hs).1 (cShC_18 hs).2.1 ?_
    refine ea_iload_n (pc := 19) dX3_add_19 rfl 1 rfl ?_
    obtain ⟨H2, eH2, E⟩ := let_some E
    refine ea_iast (pc := 20) dX3_add_20 (cShC_20 hs).1 (cShC_20 hs).2.1 (ea_vpl (cShC_20 hs).2.2 z1) ?_
    refine ea_nm eH2 ?_
    have hsH2 : ShC H2 := by rw [eH2]; exact hs
    obtain ⟨z3, E⟩ := gd_some E
    refine ea_aload_n (pc := 21) dX3_add_21 rfl 0 rfl ?_
    refine ea_getR (pc := 22) dX3_add_22 ec_3 (k := 3) (Nat.le_of_ble_eq_true rfl) rfl (Or.inl ew_269) (cShC_18 hsH2).1 (cShC_18 hsH2).2.1 (rShC_18_3 hsH2) ?_
    refine ea_aload_n (pc := 25) dX3_add_25 rfl 0 rfl ?_
    refine ea_getI (pc := 26) dX3_add_26 ec_3 (k := 0) (Nat.le_of_ble_eq_true rfl) rfl (Or.inl ew_264) (cShC_18 hsH2).1 (cShC_18 hsH2).2.1 ?_
    refine ea_iload_n (pc := 29) dX3_add_29 rfl 2 rfl ?_
    obtain ⟨H4, eH4, E⟩ := let_some E
    refine ea_iast (pc := 30) dX3_add_30 (cShC_21 hsH2).1 (cShC_21 hsH2).2.1 (ea_vpl (cShC_21 hsH2).2.2 z3) ?_
    refine ea_nm eH4 ?_
    have hsH4 : ShC H4 := by rw [eH4]; exact hsH2
    obtain ⟨z5, E⟩ := gd_some E
    refine ea_aload_n (pc := 31) dX3_add_31 rfl 0 rfl ?_
    refine ea_getR (pc := 32) dX3_add_32 ec_3 (k := 1) (Nat.le_of_ble_eq_true rfl) rfl (Or.inl ew_266) (cShC_18 hsH4).1 (cShC_18 hsH4).2.1 (rShC_18_1 hsH4) ?_
    refine ea_aload_n (pc := 35) dX3_add_35 rfl 0 rfl ?_
    refine ea_getI (pc := 36) dX3_add_36 ec_3 (k := 0) (Nat.le_of_ble_eq_true rfl) rfl (Or.inl ew_264) (cShC_18 hsH4).1 (cShC_18 hsH4).2.1 ?_
    refine ea_iconst (pc := 39) dX3_add_39 (v := (-1)) rfl ?_
    obtain ⟨H6, eH6, E⟩ := let_some E
    refine ea_iast (pc := 40) dX3_add_40 (cShC_19 hsH4).1 (cShC_19 hsH4).2.1 (ea_vpl (cShC_19 hsH4).2.2 z5) ?_
    refine ea_nm eH6 ?_
    have hsH6 : ShC H6 := by rw [eH6]; exact hsH4
    obtain ⟨H7, eH7, E⟩ := let_some E
    refine ea_aload_n (pc := 41) dX3_add_41 rfl 0 rfl ?_
    refine ea_dup (pc := 42) dX3_add_42 rfl ?_
    refine ea_getI (pc := 43) dX3_add_43 ec_3 (k := 0) (Nat.le_of_ble_eq_true rfl) rfl (Or.inl ew_264) (cShC_18 hsH6).1 (cShC_18 hsH6).2.1 ?_
    refine ea_iconst (pc := 46) dX3_add_46 (v := 1) rfl ?_
    refine ea_iadd (pc := 47) dX3_add_47 ?_
    refine ea_putI (pc := 48) dX3_add_48 ec_3 (k := 0) (Nat.le_of_ble_eq_true rfl) rfl (Or.inl ⟨rfl, Or.inl ew_264⟩) rfl rfl (cShC_18 hsH6).1 (cShC_18 hsH6).2.1 ?_
    refine ea_nm eH7 ?_
    have hsH7 : ShC H7 := by rw [eH7]; exact hsH6
    refine ea_aload_n (pc := 51) dX3_add_51 rfl 0 rfl ?_
    refine ea_getI (pc := 52) dX3_add_52 ec_3 (k := 0) (Nat.le_of_ble_eq_true rfl) rfl (Or.inl ew_264) (cShC_18 hsH7).1 (cShC_18 hsH7).2.1 ?_
    refine ea_iconst (pc := 55) dX3_add_55 (v := 1) rfl ?_
    refine ea_isub (pc := 56) dX3_add_56 ?_
    exact ea_iretO (pc := 57) dX3_add_57 rfl rfl E
  · have E := (if_neg c8).symm.trans E
    refine ea_iconst (pc := 9) dX3_add_9 (v := (-1)) rfl ?_
    exact ea_iretO (pc := 10) dX3_add_10 rfl rfl E
theorem kBX3_add_0  {x1 : Int32} {x2 : Int32} {h : ea_H} : kp (ea_core h) (BX3_add_0 x1 x2 h) :=
  (kp_ite (kp_gd (kp_let (kp_gd (kp_let (kp_gd (kp_let (kp_let (kp_ret rfl)))))))) (kp_ret rfl))
noncomputable def qX3_add (x1 : Int32) (x2 : Int32) (h : ea_H) : Option (Int32 × ea_H) := BX3_add_0 x1 x2 h
theorem sX3_add {d : Nat} {x1 : Int32} {x2 : Int32} {h : ea_H} {r : Int32} {h' : ea_H} (hd : 1 ≤ d) (hs : ShC h) (K : qX3_add x1 x2 h = some (r, h')) : ea_Met mX3_add d [vR (some 18), vI x1, vI x2] h (some (vI r)) h' := by
  unfold qX3_add at K
  have W := tBX3_add_0 hd (h0 := h) K hs
  exact ea_enter rfl (Nat.le_of_ble_eq_true rfl) W
theorem kpX3_add (x1 : Int32) (x2 : Int32) (h : ea_H) : kp (ea_core h) (qX3_add x1 x2 h) := kBX3_add_0
noncomputable def BX3_sitsIn_0 (J2 : Int32 → Int32 → ea_H → Option (Int32 × ea_H)) (x1 : Int32) (h : ea_H) : Option (Int32 × ea_H) :=
  (J2 (x1 : Int32) (0 : Int32) h)
theorem tBX3_sitsIn_0 {d : Nat} {h0 : ea_H} (hd : 1 ≤ d) {J2 : Int32 → Int32 → ea_H → Option (Int32 × ea_H)}  (kJ2 : ∀ (x1 : Int32) (x2 : Int32) (h : ea_H) (r : Int32) (h' : ea_H), J2 x1 x2 h = some (r, h') → ShC h → ea_W mX3_sitsIn d h0 (some (vI r)) h' 2 [(0, vR (some 18)), (1, vI x1), (2, vI x2)] [] h) {x1 : Int32} {h : ea_H} {r : Int32} {h' : ea_H} (E : BX3_sitsIn_0 J2 x1 h = some (r, h')) (hs : ShC h) : ea_W mX3_sitsIn d h0 (some (vI r)) h' 0 [(0, vR (some 18)), (1, vI x1)] [] h := by
  unfold BX3_sitsIn_0 at E
  refine ea_iconst (pc := 0) dX3_sitsIn_0 (v := 0) rfl ?_
  refine ea_istore_n (pc := 1) (lv' := [(0, vR (some 18)), (1, vI x1), (2, vI 0)]) dX3_sitsIn_1 rfl (Nat.le_of_ble_eq_true rfl) [1, 2, 0] rfl ?_
  exact (kJ2 (x1 : Int32) (0 : Int32) h _ _ E hs)
theorem kBX3_sitsIn_0 {J2 : Int32 → Int32 → ea_H → Option (Int32 × ea_H)}  (cJ2 : ∀ (x1 : Int32) (x2 : Int32) (h : ea_H), kp (ea_core h) (J2 x1 x2 h)) {x1 : Int32} {h : ea_H} : kp (ea_core h) (BX3_sitsIn_0 J2 x1 h) :=
  (kp_tw (cJ2 _ _ _) rfl)
theorem lBX3_sitsIn_0 {J2 : Int32 → Int32 → ea_H → Option (Int32 × ea_H)} {J2_ : Int32 → Int32 → ea_H → Option (Int32 × ea_H)}  (mJ2 : ∀ (x1 : Int32) (x2 : Int32) (h : ea_H), fle (J2 x1 x2 h) (J2_ x1 x2 h)) {x1 : Int32} {h : ea_H} : fle (BX3_sitsIn_0 J2 x1 h) (BX3_sitsIn_0 J2_ x1 h) :=
  (mJ2 _ _ _)
theorem nBX3_sitsIn_0 {J2 : Int32 → Int32 → ea_H → Option (Int32 × ea_H)} {J2_ : Nat → (Int32 → Int32 → ea_H → Option (Int32 × ea_H))}  (mJ2 : ∀ (x1 : Int32) (x2 : Int32) (h : ea_H), fct (J2 x1 x2 h) (fun f => J2_ f x1 x2 h)) {x1 : Int32} {h : ea_H} : fct (BX3_sitsIn_0 J2 x1 h) (fun f => BX3_sitsIn_0 (J2_ f) x1 h) :=
  (mJ2 _ _ _)
noncomputable def BX3_sitsIn_2 (J2 : Int32 → Int32 → ea_H → Option (Int32 × ea_H)) (x1 : Int32) (x2 : Int32) (h : ea_H) : Option (Int32 × ea_H) :=
  (if (ea_i h 18 0) ≤ x2 then (some ((0 : Int32), h)) else (gd (vp_in x2 8) (if (ea_i h 19 (Int32.toNatClampNeg x2)) = x1 then (some ((1 : Int32), h)) else (J2 (x1 : Int32) ((x2 + (1 : Int32)) : Int32) h))))
theorem tBX3_sitsIn_2 {d : Nat} {h0 : ea_H} (hd : 1 ≤ d) {J2 : Int32 → Int32 → ea_H → Option (Int32 × ea_H)}  (kJ2 : ∀ (x1 : Int32) (x2 : Int32) (h : ea_H) (r : Int32) (h' : ea_H), J2 x1 x2 h = some (r, h') → ShC h → ea_W mX3_sitsIn d h0 (some (vI r)) h' 2 [(0, vR (some 18)), (1, vI x1), (2, vI x2)] [] h) {x1 : Int32} {x2 : Int32} {h : ea_H} {r : Int32} {h' : ea_H} (E : BX3_sitsIn_2 J2 x1 x2 h = some (r, h')) (hs : ShC h) : ea_W mX3_sitsIn d h0 (some (vI r)) h' 2 [(0, vR (some 18)), (1, vI x1), (2, vI x2)] [] h := by
  unfold BX3_sitsIn_2 at E
  refine ea_iload_n (pc := 2) dX3_sitsIn_2 rfl 2 rfl ?_
  refine ea_aload_n (pc := 3) dX3_sitsIn_3 rfl 0 rfl ?_
  refine ea_getI (pc := 4) dX3_sitsIn_4 ec_3 (k := 0) (Nat.le_of_ble_eq_true rfl) rfl (Or.inl ew_264) (cShC_18 hs).1 (cShC_18 hs).2.1 ?_
  refine ea_icmp_ge (pc := 7) (tgt := 28) dX3_sitsIn_7 rfl (fun c3 => ?_) (fun c3 => ?_)
  · have E := (if_pos c3).symm.trans E
    refine ea_iconst (pc := 28) dX3_sitsIn_28 (v := 0) rfl ?_
    exact ea_iretO (pc := 29) dX3_sitsIn_29 rfl (ea_bn (Or.inl rfl)) E
  · have E := (if_neg c3).symm.trans E
    obtain ⟨z1, E⟩ := gd_some E
    refine ea_aload_n (pc := 10) dX3_sitsIn_10 rfl 0 rfl ?_
    refine ea_getR (pc := 11) dX3_sitsIn_11 ec_3 (k := 1) (Nat.le_of_ble_eq_true rfl) rfl (Or.inl ew_266) (cShC_18 hs).1 (cShC_18 hs).2.1 (rShC_18_1 hs) ?_
    refine ea_iload_n (pc := 14) dX3_sitsIn_14 rfl 2 rfl ?_
    refine ea_iald (pc := 15) dX3_sitsIn_15 (cShC_19 hs).1 (cShC_19 hs).2.1 (ea_vpl (cShC_19 hs).2.2 z1) ?_
    refine ea_iload_n (pc := 16) dX3_sitsIn_16 rfl 1 rfl ?_
    refine ea_icmp_ne (pc := 17) (tgt := 22) dX3_sitsIn_17 rfl (fun c2 => ?_) (fun c2 => ?_)
    · have E := (if_neg c2).symm.trans E
      refine ea_iinc (pc := 22) (v := 1) (lv' := [(0, vR (some 18)), (1, vI x1), (2, vI (x2 + (1 : Int32)))]) dX3_sitsIn_22 2 rfl rfl (Nat.le_of_ble_eq_true rfl) [1, 2, 0] rfl ?_
      refine ea_goto (pc := 25) (tgt := 2) dX3_sitsIn_25 rfl ?_
      exact (kJ2 (x1 : Int32) ((x2 + (1 : Int32)) : Int32) h _ _ E hs)
    · have E := (if_pos c2).symm.trans E
      refine ea_iconst (pc := 20) dX3_sitsIn_20 (v := 1) rfl ?_
      exact ea_iretO (pc := 21) dX3_sitsIn_21 rfl (ea_bn (Or.inr rfl)) E
theorem kBX3_sitsIn_2 {J2 : Int32 → Int32 → ea_H → Option (Int32 × ea_H)}  (cJ2 : ∀ (x1 : Int32) (x2 : Int32) (h : ea_H), kp (ea_core h) (J2 x1 x2 h)) {x1 : Int32} {x2 : Int32} {h : ea_H} : kp (ea_core h) (BX3_sitsIn_2 J2 x1 x2 h) :=
  (kp_ite (kp_ret rfl) (kp_gd (kp_ite (kp_ret rfl) (kp_tw (cJ2 _ _ _) rfl))))
theorem lBX3_sitsIn_2 {J2 : Int32 → Int32 → ea_H → Option (Int32 × ea_H)} {J2_ : Int32 → Int32 → ea_H → Option (Int32 × ea_H)}  (mJ2 : ∀ (x1 : Int32) (x2 : Int32) (h : ea_H), fle (J2 x1 x2 h) (J2_ x1 x2 h)) {x1 : Int32} {x2 : Int32} {h : ea_H} : fle (BX3_sitsIn_2 J2 x1 x2 h) (BX3_sitsIn_2 J2_ x1 x2 h) :=
  (fle_ite (fle_rfl _) (fle_gd (fle_ite (fle_rfl _) (mJ2 _ _ _))))
theorem nBX3_sitsIn_2 {J2 : Int32 → Int32 → ea_H → Option (Int32 × ea_H)} {J2_ : Nat → (Int32 → Int32 → ea_H → Option (Int32 × ea_H))}  (mJ2 : ∀ (x1 : Int32) (x2 : Int32) (h : ea_H), fct (J2 x1 x2 h) (fun f => J2_ f x1 x2 h)) {x1 : Int32} {x2 : Int32} {h : ea_H} : fct (BX3_sitsIn_2 J2 x1 x2 h) (fun f => BX3_sitsIn_2 (J2_ f) x1 x2 h) :=
  (fct_ite (fct_rfl _) (fct_gd (fct_ite (fct_rfl _) (mJ2 _ _ _))))
noncomputable def gX3_sitsIn : Nat → (Int32 → ea_H → Option (Int32 × ea_H)) × (Int32 → Int32 → ea_H → Option (Int32 × ea_H))
  | 0 => (fun _ _ => none, fun _ _ _ => none)
  | f + 1 => (BX3_sitsIn_0 (gX3_sitsIn f).2, BX3_sitsIn_2 (gX3_sitsIn f).2)
theorem mgX3_sitsIn : ∀ f : Nat, (∀ (x1 : Int32) (h : ea_H), fle ((gX3_sitsIn f).1 x1 h) ((gX3_sitsIn (f + 1)).1 x1 h)) ∧ (∀ (x1 : Int32) (x2 : Int32) (h : ea_H), fle ((gX3_sitsIn f).2 x1 x2 h) ((gX3_sitsIn (f + 1)).2 x1 x2 h)) := by
  intro f
  induction f with
  | zero => exact ⟨fun _ _ => fle_none _, fun _ _ _ => fle_none _⟩
  | succ f ih => exact ⟨fun _ _ => lBX3_sitsIn_0 ih.2, fun _ _ _ => lBX3_sitsIn_2 ih.2⟩
noncomputable def qX3_sitsIn_0 (x1 : Int32) (h : ea_H) : Option (Int32 × ea_H) := flim fun f => (gX3_sitsIn f).1 x1 h
noncomputable def qX3_sitsIn_2 (x1 : Int32) (x2 : Int32) (h : ea_H) : Option (Int32 × ea_H) := flim fun f => (gX3_sitsIn f).2 x1 x2 h
theorem fqX3_sitsIn_0 (x1 : Int32) (h : ea_H) : fct (qX3_sitsIn_0 x1 h) fun f => (gX3_sitsIn f).1 x1 h := flim_ct fun f => (mgX3_sitsIn f).1 x1 h
theorem fqX3_sitsIn_2 (x1 : Int32) (x2 : Int32) (h : ea_H) : fct (qX3_sitsIn_2 x1 x2 h) fun f => (gX3_sitsIn f).2 x1 x2 h := flim_ct fun f => (mgX3_sitsIn f).2 x1 x2 h
/-- how a block opens -/
theorem uqX3_sitsIn_0 {x1 : Int32} {h : ea_H} {P : Int32 × ea_H → Prop} (H : sat (BX3_sitsIn_0 qX3_sitsIn_2 x1 h) P) : sat (qX3_sitsIn_0 x1 h) P := by
  obtain ⟨x, e, hp⟩ := H
  obtain ⟨n, hn⟩ := nBX3_sitsIn_0 fqX3_sitsIn_2 x e
  exact ⟨x, flim_at (fun f => (mgX3_sitsIn f).1 x1 h) (f := n + 1) (hn n (Nat.le_refl _)), hp⟩
/-- how a block opens -/
theorem uqX3_sitsIn_2 {x1 : Int32} {x2 : Int32} {h : ea_H} {P : Int32 × ea_H → Prop} (H : sat (BX3_sitsIn_2 qX3_sitsIn_2 x1 x2 h) P) : sat (qX3_sitsIn_2 x1 x2 h) P := by
  obtain ⟨x, e, hp⟩ := H
  obtain ⟨n, hn⟩ := nBX3_sitsIn_2 fqX3_sitsIn_2 x e
  exact ⟨x, flim_at (fun f => (mgX3_sitsIn f).2 x1 x2 h) (f := n + 1) (hn n (Nat.le_refl _)), hp⟩
theorem kgX3_sitsIn : ∀ f : Nat, (∀ (x1 : Int32) (h : ea_H), kp (ea_core h) ((gX3_sitsIn f).1 x1 h)) ∧ (∀ (x1 : Int32) (x2 : Int32) (h : ea_H), kp (ea_core h) ((gX3_sitsIn f).2 x1 x2 h)) := by
  intro f
  induction f with
  | zero => exact ⟨fun _ _ => kp_none _, fun _ _ _ => kp_none _⟩
  | succ f ih => exact ⟨fun _ _ => kBX3_sitsIn_0 ih.2, fun _ _ _ => kBX3_sitsIn_2 ih.2⟩
theorem tgX3_sitsIn {d : Nat} {h0 : ea_H} (hd : 1 ≤ d) : ∀ f : Nat, (∀ (x1 : Int32) (h : ea_H) (r : Int32) (h' : ea_H), (gX3_sitsIn f).1 x1 h = some (r, h') → ShC h → ea_W mX3_sitsIn d h0 (some (vI r)) h' 0 [(0, vR (some 18)), (1, vI x1)] [] h) ∧ (∀ (x1 : Int32) (x2 : Int32) (h : ea_H) (r : Int32) (h' : ea_H), (gX3_sitsIn f).2 x1 x2 h = some (r, h') → ShC h → ea_W mX3_sitsIn d h0 (some (vI r)) h' 2 [(0, vR (some 18)), (1, vI x1), (2, vI x2)] [] h) := by
  intro f
  induction f with
  | zero => exact ⟨fun _ _ _ _ E => no_some E, fun _ _ _ _ _ E => no_some E⟩
  | succ f ih => exact ⟨fun _ _ _ _ E hs => tBX3_sitsIn_0 hd ih.2 E hs, fun _ _ _ _ _ E hs => tBX3_sitsIn_2 hd ih.2 E hs⟩
noncomputable def qX3_sitsIn (x1 : Int32) (h : ea_H) : Option (Int32 × ea_H) := qX3_sitsIn_0 x1 h
theorem sX3_sitsIn {d : Nat} {x1 : Int32} {h : ea_H} {r : Int32} {h' : ea_H} (hd : 1 ≤ d) (hs : ShC h) (K : qX3_sitsIn x1 h = some (r, h')) : ea_Met mX3_sitsIn d [vR (some 18), vI x1] h (some (vI r)) h' := by
  unfold qX3_sitsIn at K
  obtain ⟨n, hn⟩ := fqX3_sitsIn_0 x1 h _ K
  have W := (tgX3_sitsIn (d := d) (h0 := h) hd n).1 x1 h _ _ (hn n (Nat.le_refl _)) hs
  exact ea_enter rfl (Nat.le_of_ble_eq_true rfl) W
theorem kpX3_sitsIn (x1 : Int32) (h : ea_H) : kp (ea_core h) (qX3_sitsIn x1 h) := fun x e => by
  obtain ⟨n, hn⟩ := fqX3_sitsIn_0 x1 h x e
  exact (kgX3_sitsIn n).1 x1 h x (hn n (Nat.le_refl _))
noncomputable def BX3_begin_0 (J2 : Int32 → Int32 → ea_H → Option (Unit × ea_H)) (x1 : Int32) (h : ea_H) : Option (Unit × ea_H) :=
  (J2 (x1 : Int32) (0 : Int32) h)
theorem tBX3_begin_0 {d : Nat} {h0 : ea_H} (hd : 1 ≤ d) {J2 : Int32 → Int32 → ea_H → Option (Unit × ea_H)}  (kJ2 : ∀ (x1 : Int32) (x2 : Int32) (h : ea_H) (r : Unit) (h' : ea_H), J2 x1 x2 h = some (r, h') → ShC h → ea_W mX3_begin d h0 none h' 2 [(0, vR (some 18)), (1, vI x1), (2, vI x2)] [] h) {x1 : Int32} {h : ea_H} {r : Unit} {h' : ea_H} (E : BX3_begin_0 J2 x1 h = some (r, h')) (hs : ShC h) : ea_W mX3_begin d h0 none h' 0 [(0, vR (some 18)), (1, vI x1)] [] h := by
  unfold BX3_begin_0 at E
  refine ea_iconst (pc := 0) dX3_begin_0 (v := 0) rfl ?_
  refine ea_istore_n (pc := 1) (lv' := [(0, vR (some 18)), (1, vI x1), (2, vI 0)]) dX3_begin_1 rfl (Nat.le_of_ble_eq_true rfl) [1, 2, 0] rfl ?_
  exact (kJ2 (x1 : Int32) (0 : Int32) h _ _ E hs)
theorem kBX3_begin_0 {J2 : Int32 → Int32 → ea_H → Option (Unit × ea_H)}  (cJ2 : ∀ (x1 : Int32) (x2 : Int32) (h : ea_H), kp (ea_core h) (J2 x1 x2 h)) {x1 : Int32} {h : ea_H} : kp (ea_core h) (BX3_begin_0 J2 x1 h) :=
  (kp_tw (cJ2 _ _ _) rfl)
theorem lBX3_begin_0 {J2 : Int32 → Int32 → ea_H → Option (Unit × ea_H)} {J2_ : Int32 → Int32 → ea_H → Option (Unit × ea_H)}  (mJ2 : ∀ (x1 : Int32) (x2 : Int32) (h : ea_H), fle (J2 x1 x2 h) (J2_ x1 x2 h)) {x1 : Int32} {h : ea_H} : fle (BX3_begin_0 J2 x1 h) (BX3_begin_0 J2_ x1 h) :=
  (mJ2 _ _ _)
theorem nBX3_begin_0 {J2 : Int32 → Int32 → ea_H → Option (Unit × ea_H)} {J2_ : Nat → (Int32 → Int32 → ea_H → Option (Unit × ea_H))}  (mJ2 : ∀ (x1 : Int32) (x2 : Int32) (h : ea_H), fct (J2 x1 x2 h) (fun f => J2_ f x1 x2 h)) {x1 : Int32} {h : ea_H} : fct (BX3_begin_0 J2 x1 h) (fun f => BX3_begin_0 (J2_ f) x1 h) :=
  (mJ2 _ _ _)
noncomputable def BX3_begin_2 (J2 : Int32 → Int32 → ea_H → Option (Unit × ea_H)) (x1 : Int32) (x2 : Int32) (h : ea_H) : Option (Unit × ea_H) :=
  (if (ea_i h 18 0) ≤ x2 then (some ((), h)) else (gd (vp_in x2 8) (gd (vp_in x2 8) (ea_let (ea_wi h 22 (Int32.toNatClampNeg x2) ((ea_i h 20 (Int32.toNatClampNeg x2)) * x1)) fun H3 => (J2 (x1 : Int32) ((x2 + (1 : Int32)) : Int32) H3)))))
theorem tBX3_begin_2 {d : Nat} {h0 : ea_H} (hd : 1 ≤ d) {J2 : Int32 → Int32 → ea_H → Option (Unit × ea_H)}  (kJ2 : ∀ (x1 : Int32) (x2 : Int32) (h : ea_H) (r : Unit) (h' : ea_H), J2 x1 x2 h = some (r, h') → ShC h → ea_W mX3_begin d h0 none h' 2 [(0, vR (some 18)), (1, vI x1), (2, vI x2)] [] h) {x1 : Int32} {x2 : Int32} {h : ea_H} {r : Unit} {h' : ea_H} (E : BX3_begin_2 J2 x1 x2 h = some (r, h')) (hs : ShC h) : ea_W mX3_begin d h0 none h' 2 [(0, vR (some 18)), (1, vI x1), (2, vI x2)] [] h := by
  unfold BX3_begin_2 at E
  refine ea_iload_n (pc := 2) dX3_begin_2 rfl 2 rfl ?_
  refine ea_aload_n (pc := 3) dX3_begin_3 rfl 0 rfl ?_
  refine ea_getI (pc := 4) dX3_begin_4 ec_3 (k := 0) (Nat.le_of_ble_eq_true rfl) rfl (Or.inl ew_264) (cShC_18 hs).1 (cShC_18 hs).2.1 ?_
  refine ea_icmp_ge (pc := 7) (tgt := 30) dX3_begin_7 rfl (fun c4 => ?_) (fun c4 => ?_)
  · have E := (if_pos c4).symm.trans E
    exact ea_vretO (pc := 30) dX3_begin_30 rfl E
  · have E := (if_neg c4).symm.trans E
    obtain ⟨z1, E⟩ := gd_some E
    refine ea_aload_n (pc := 10) dX3_begin_10 rfl 0 rfl ?_
    refine ea_getR (pc := 11) dX3_begin_11 ec_3 (k := 4) (Nat.le_of_ble_eq_true rfl) rfl (Or.inl ew_270) (cShC_18 hs).1 (cShC_18 hs).2.1 (rShC_18_4 hs) ?_
    refine ea_iload_n (pc := 14) dX3_begin_14 rfl 2 rfl ?_
    refine ea_aload_n (pc := 15) dX3_begin_15 rfl 0 rfl ?_
    refine ea_getR (pc := 16) dX3_begin_16 ec_3 (k := 2) (Nat.le_of_ble_eq_true rfl) rfl (Or.inl ew_268) (cShC_18 hs).1 (cShC_18 hs).2.1 (rShC_18_2 hs) ?_
    refine ea_iload_n (pc := 19) dX3_begin_19 rfl 2 rfl ?_
    obtain ⟨z2, E⟩ := gd_some E
    refine ea_iald (pc := 20) dX3_begin_20 (cShC_20 hs).1 (cShC_20 hs).2.1 (ea_vpl (cShC_20 hs).2.2 z1) ?_
    refine ea_iload_n (pc := 21) dX3_begin_21 rfl 1 rfl ?_
    refine ea_imul (pc := 22) dX3_begin_22 ?_
    obtain ⟨H3, eH3, E⟩ := let_some E
    refine ea_iast (pc := 23) dX3_begin_23 (cShC_22 hs).1 (cShC_22 hs).2.1 (ea_vpl (cShC_22 hs).2.2 z2) ?_
    refine ea_nm eH3 ?_
    have hsH3 : ShC H3 := by rw [eH3]; exact hs
    refine ea_iinc (pc := 24) (v := 1) (lv' := [(0, vR (some 18)), (1, vI x1), (2, vI (x2 + (1 : Int32)))]) dX3_begin_24 2 rfl rfl (Nat.le_of_ble_eq_true rfl) [1, 2, 0] rfl ?_
    refine ea_goto (pc := 27) (tgt := 2) dX3_begin_27 rfl ?_
    exact (kJ2 (x1 : Int32) ((x2 + (1 : Int32)) : Int32) H3 _ _ E hsH3)
theorem kBX3_begin_2 {J2 : Int32 → Int32 → ea_H → Option (Unit × ea_H)}  (cJ2 : ∀ (x1 : Int32) (x2 : Int32) (h : ea_H), kp (ea_core h) (J2 x1 x2 h)) {x1 : Int32} {x2 : Int32} {h : ea_H} : kp (ea_core h) (BX3_begin_2 J2 x1 x2 h) :=
  (kp_ite (kp_ret rfl) (kp_gd (kp_gd (kp_let (kp_tw (cJ2 _ _ _) rfl)))))
theorem lBX3_begin_2 {J2 : Int32 → Int32 → ea_H → Option (Unit × ea_H)} {J2_ : Int32 → Int32 → ea_H → Option (Unit × ea_H)}  (mJ2 : ∀ (x1 : Int32) (x2 : Int32) (h : ea_H), fle (J2 x1 x2 h) (J2_ x1 x2 h)) {x1 : Int32} {x2 : Int32} {h : ea_H} : fle (BX3_begin_2 J2 x1 x2 h) (BX3_begin_2 J2_ x1 x2 h) :=
  (fle_ite (fle_rfl _) (fle_gd (fle_gd (fle_let fun _ => (mJ2 _ _ _)))))
theorem nBX3_begin_2 {J2 : Int32 → Int32 → ea_H → Option (Unit × ea_H)} {J2_ : Nat → (Int32 → Int32 → ea_H → Option (Unit × ea_H))}  (mJ2 : ∀ (x1 : Int32) (x2 : Int32) (h : ea_H), fct (J2 x1 x2 h) (fun f => J2_ f x1 x2 h)) {x1 : Int32} {x2 : Int32} {h : ea_H} : fct (BX3_begin_2 J2 x1 x2 h) (fun f => BX3_begin_2 (J2_ f) x1 x2 h) :=
  (fct_ite (fct_rfl _) (fct_gd (fct_gd (fct_let fun _ => (mJ2 _ _ _)))))
noncomputable def gX3_begin : Nat → (Int32 → ea_H → Option (Unit × ea_H)) × (Int32 → Int32 → ea_H → Option (Unit × ea_H))
  | 0 => (fun _ _ => none, fun _ _ _ => none)
  | f + 1 => (BX3_begin_0 (gX3_begin f).2, BX3_begin_2 (gX3_begin f).2)
theorem mgX3_begin : ∀ f : Nat, (∀ (x1 : Int32) (h : ea_H), fle ((gX3_begin f).1 x1 h) ((gX3_begin (f + 1)).1 x1 h)) ∧ (∀ (x1 : Int32) (x2 : Int32) (h : ea_H), fle ((gX3_begin f).2 x1 x2 h) ((gX3_begin (f + 1)).2 x1 x2 h)) := by
  intro f
  induction f with
  | zero => exact ⟨fun _ _ => fle_none _, fun _ _ _ => fle_none _⟩
  | succ f ih => exact ⟨fun _ _ => lBX3_begin_0 ih.2, fun _ _ _ => lBX3_begin_2 ih.2⟩
noncomputable def qX3_begin_0 (x1 : Int32) (h : ea_H) : Option (Unit × ea_H) := flim fun f => (gX3_begin f).1 x1 h
noncomputable def qX3_begin_2 (x1 : Int32) (x2 : Int32) (h : ea_H) : Option (Unit × ea_H) := flim fun f => (gX3_begin f).2 x1 x2 h
theorem fqX3_begin_0 (x1 : Int32) (h : ea_H) : fct (qX3_begin_0 x1 h) fun f => (gX3_begin f).1 x1 h := flim_ct fun f => (mgX3_begin f).1 x1 h
theorem fqX3_begin_2 (x1 : Int32) (x2 : Int32) (h : ea_H) : fct (qX3_begin_2 x1 x2 h) fun f => (gX3_begin f).2 x1 x2 h := flim_ct fun f => (mgX3_begin f).2 x1 x2 h
/-- how a block opens -/
theorem uqX3_begin_0 {x1 : Int32} {h : ea_H} {P : Unit × ea_H → Prop} (H : sat (BX3_begin_0 qX3_begin_2 x1 h) P) : sat (qX3_begin_0 x1 h) P := by
  obtain ⟨x, e, hp⟩ := H
  obtain ⟨n, hn⟩ := nBX3_begin_0 fqX3_begin_2 x e
  exact ⟨x, flim_at (fun f => (mgX3_begin f).1 x1 h) (f := n + 1) (hn n (Nat.le_refl _)), hp⟩
/-- how a block opens -/
theorem uqX3_begin_2 {x1 : Int32} {x2 : Int32} {h : ea_H} {P : Unit × ea_H → Prop} (H : sat (BX3_begin_2 qX3_begin_2 x1 x2 h) P) : sat (qX3_begin_2 x1 x2 h) P := by
  obtain ⟨x, e, hp⟩ := H
  obtain ⟨n, hn⟩ := nBX3_begin_2 fqX3_begin_2 x e
  exact ⟨x, flim_at (fun f => (mgX3_begin f).2 x1 x2 h) (f := n + 1) (hn n (Nat.le_refl _)), hp⟩
theorem kgX3_begin : ∀ f : Nat, (∀ (x1 : Int32) (h : ea_H), kp (ea_core h) ((gX3_begin f).1 x1 h)) ∧ (∀ (x1 : Int32) (x2 : Int32) (h : ea_H), kp (ea_core h) ((gX3_begin f).2 x1 x2 h)) := by
  intro f
  induction f with
  | zero => exact ⟨fun _ _ => kp_none _, fun _ _ _ => kp_none _⟩
  | succ f ih => exact ⟨fun _ _ => kBX3_begin_0 ih.2, fun _ _ _ => kBX3_begin_2 ih.2⟩
theorem tgX3_begin {d : Nat} {h0 : ea_H} (hd : 1 ≤ d) : ∀ f : Nat, (∀ (x1 : Int32) (h : ea_H) (r : Unit) (h' : ea_H), (gX3_begin f).1 x1 h = some (r, h') → ShC h → ea_W mX3_begin d h0 none h' 0 [(0, vR (some 18)), (1, vI x1)] [] h) ∧ (∀ (x1 : Int32) (x2 : Int32) (h : ea_H) (r : Unit) (h' : ea_H), (gX3_begin f).2 x1 x2 h = some (r, h') → ShC h → ea_W mX3_begin d h0 none h' 2 [(0, vR (some 18)), (1, vI x1), (2, vI x2)] [] h) := by
  intro f
  induction f with
  | zero => exact ⟨fun _ _ _ _ E => no_some E, fun _ _ _ _ _ E => no_some E⟩
  | succ f ih => exact ⟨fun _ _ _ _ E hs => tBX3_begin_0 hd ih.2 E hs, fun _ _ _ _ _ E hs => tBX3_begin_2 hd ih.2 E hs⟩
noncomputable def qX3_begin (x1 : Int32) (h : ea_H) : Option (Unit × ea_H) := qX3_begin_0 x1 h
theorem sX3_begin {d : Nat} {x1 : Int32} {h : ea_H} {r : Unit} {h' : ea_H} (hd : 1 ≤ d) (hs : ShC h) (K : qX3_begin x1 h = some (r, h')) : ea_Met mX3_begin d [vR (some 18), vI x1] h none h' := by
  unfold qX3_begin at K
  obtain ⟨n, hn⟩ := fqX3_begin_0 x1 h _ K
  have W := (tgX3_begin (d := d) (h0 := h) hd n).1 x1 h _ _ (hn n (Nat.le_refl _)) hs
  exact ea_enter rfl (Nat.le_of_ble_eq_true rfl) W
theorem kpX3_begin (x1 : Int32) (h : ea_H) : kp (ea_core h) (qX3_begin x1 h) := fun x e => by
  obtain ⟨n, hn⟩ := fqX3_begin_0 x1 h x e
  exact (kgX3_begin n).1 x1 h x (hn n (Nat.le_refl _))
