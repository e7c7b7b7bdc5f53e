/-! the cells that the constructors make, in order, and the references that never change -/
def SHP : Shp := [(18, 17), (16, 9), (3, 1000), (1, 23), (11, 15), (5, 6), (1, 6), (1, 4), (1, 4), (0, 4), (0, 4), (0, 4), (0, 4), (4, 4), (0, 4), (0, 4), (0, 4), (0, 4), (0, 4), (9, 3), (0, 1000), (0, 21), (8, 4), (0, 8), (8, 4), (0, 8), (8, 4), (0, 8), (8, 4), (0, 8), (8, 4), (0, 8), (8, 4), (0, 8), (11, 15), (5, 6), (1, 6), (1, 4), (1, 4), (0, 4), (0, 4), (0, 4), (0, 4), (4, 4), (0, 4), (0, 4), (0, 4), (0, 4), (0, 4), (9, 3), (0, 1000), (0, 21), (8, 4), (0, 8), (8, 4), (0, 8), (8, 4), (0, 8), (8, 4), (0, 8), (8, 4), (0, 8), (8, 4), (0, 8), (12, 3), (10, 1), (13, 3), (0, 40), (0, 40), (13, 3), (0, 40), (0, 40), (17, 11), (4, 4), (0, 40), (0, 40), (0, 40), (0, 40), (4, 4), (0, 40), (0, 40), (0, 40), (0, 40), (4, 4), (0, 61), (0, 61), (0, 61), (0, 61), (0, 4), (0, 4), (0, 4), (0, 4), (0, 4), (0, 4), (17, 11), (4, 4), (0, 40), (0, 40), (0, 40), (0, 40), (4, 4), (0, 40), (0, 40), (0, 40), (0, 40), (4, 4), (0, 61), (0, 61), (0, 61), (0, 61), (0, 4), (0, 4), (0, 4), (0, 4), (0, 4), (0, 4), (15, 4), (0, 8), (0, 8), (2, 8), (6, 2), (7, 2), (17, 11), (4, 4), (0, 40), (0, 40), (0, 40), (0, 40), (4, 4), (0, 40), (0, 40), (0, 40), (0, 40), (4, 4), (0, 61), (0, 61), (0, 61), (0, 61), (0, 4), (0, 4), (0, 4), (0, 4), (0, 4), (0, 4), (15, 4), (0, 8), (0, 8), (2, 8), (17, 11), (4, 4), (0, 40), (0, 40), (0, 40), (0, 40), (4, 4), (0, 40), (0, 40), (0, 40), (0, 40), (4, 4), (0, 61), (0, 61), (0, 61), (0, 61), (0, 4), (0, 4), (0, 4), (0, 4), (0, 4), (0, 4), (15, 4), (0, 8), (0, 8), (2, 8), (2, 2), (14, 9), (4, 4), (0, 4), (0, 4), (0, 4), (0, 4), (4, 4), (0, 4), (0, 4), (0, 4), (0, 4), (4, 16), (0, 121), (0, 121), (0, 121), (0, 121), (0, 121), (0, 121), (0, 121), (0, 121), (0, 121), (0, 121), (0, 121), (0, 121), (0, 121), (0, 121), (0, 121), (0, 121), (4, 4), (0, 121), (0, 121), (0, 121), (0, 121), (0, 121), (0, 121), (0, 96), (0, 121), (0, 121), (0, 121), (19, 33), (0, 1000), (0, 1002), (0, 1002), (1, 1002), (1, 23), (0, 220), (0, 2200), (1, 28), (0, 170), (0, 4), (0, 64), (0, 1628), (2, 2), (0, 61), (0, 121), (0, 121), (0, 121), (0, 16), (0, 16), (0, 40), (2, 40), (0, 120), (1, 1)]
def LAYL : List (Nat × Nat × Int) := [(1, 0, 3), (1, 1, 4), (0, 0, 2), (4, 0, 6), (4, 1, 7), (4, 2, 8), (4, 3, 9), (4, 4, 10), (4, 5, 11), (4, 6, 12), (4, 7, 13), (13, 0, 15), (13, 1, 16), (13, 2, 17), (13, 3, 18), (4, 8, 14), (4, 9, 19), (19, 0, 21), (19, 1, 22), (4, 10, 20), (22, 0, 24), (5, 0, 23), (24, 0, 26), (5, 1, 25), (26, 0, 28), (5, 2, 27), (28, 0, 30), (5, 3, 29), (30, 0, 32), (5, 4, 31), (32, 0, 34), (5, 5, 33), (34, 0, 36), (34, 1, 37), (34, 2, 38), (34, 3, 39), (34, 4, 40), (34, 5, 41), (34, 6, 42), (34, 7, 43), (43, 0, 45), (43, 1, 46), (43, 2, 47), (43, 3, 48), (34, 8, 44), (34, 9, 49), (49, 0, 51), (49, 1, 52), (34, 10, 50), (52, 0, 54), (35, 0, 53), (54, 0, 56), (35, 1, 55), (56, 0, 58), (35, 2, 57), (58, 0, 60), (35, 3, 59), (60, 0, 62), (35, 4, 61), (62, 0, 64), (35, 5, 63), (0, 1, 65), (64, 0, 2), (64, 1, 66), (65, 0, 2), (66, 0, 68), (66, 1, 69), (69, 0, 71), (69, 1, 72), (73, 0, 75), (73, 1, 76), (73, 2, 77), (73, 3, 78), (72, 0, 74), (78, 0, 80), (78, 1, 81), (78, 2, 82), (78, 3, 83), (72, 1, 79), (83, 0, 85), (83, 1, 86), (83, 2, 87), (83, 3, 88), (72, 2, 84), (72, 3, 89), (72, 4, 90), (72, 5, 91), (72, 6, 92), (72, 7, 93), (72, 8, 94), (0, 6, 73), (95, 0, 97), (95, 1, 98), (95, 2, 99), (95, 3, 100), (94, 0, 96), (100, 0, 102), (100, 1, 103), (100, 2, 104), (100, 3, 105), (94, 1, 101), (105, 0, 107), (105, 1, 108), (105, 2, 109), (105, 3, 110), (94, 2, 106), (94, 3, 111), (94, 4, 112), (94, 5, 113), (94, 6, 114), (94, 7, 115), (94, 8, 116), (0, 7, 95), (116, 0, 118), (116, 1, 119), (116, 2, 120), (0, 8, 117), (0, 9, 121), (0, 10, 122), (123, 0, 125), (123, 1, 126), (123, 2, 127), (123, 3, 128), (122, 0, 124), (128, 0, 130), (128, 1, 131), (128, 2, 132), (128, 3, 133), (122, 1, 129), (133, 0, 135), (133, 1, 136), (133, 2, 137), (133, 3, 138), (122, 2, 134), (122, 3, 139), (122, 4, 140), (122, 5, 141), (122, 6, 142), (122, 7, 143), (122, 8, 144), (120, 0, 123), (144, 0, 146), (144, 1, 147), (144, 2, 148), (121, 0, 145), (149, 0, 151), (149, 1, 152), (149, 2, 153), (149, 3, 154), (148, 0, 150), (154, 0, 156), (154, 1, 157), (154, 2, 158), (154, 3, 159), (148, 1, 155), (159, 0, 161), (159, 1, 162), (159, 2, 163), (159, 3, 164), (148, 2, 160), (148, 3, 165), (148, 4, 166), (148, 5, 167), (148, 6, 168), (148, 7, 169), (148, 8, 170), (120, 1, 149), (170, 0, 172), (170, 1, 173), (170, 2, 174), (121, 1, 171), (0, 11, 175), (176, 0, 178), (176, 1, 179), (176, 2, 180), (176, 3, 181), (175, 0, 177), (181, 0, 183), (181, 1, 184), (181, 2, 185), (181, 3, 186), (175, 1, 182), (186, 0, 188), (186, 1, 189), (186, 2, 190), (186, 3, 191), (186, 4, 192), (186, 5, 193), (186, 6, 194), (186, 7, 195), (186, 8, 196), (186, 9, 197), (186, 10, 198), (186, 11, 199), (186, 12, 200), (186, 13, 201), (186, 14, 202), (186, 15, 203), (175, 2, 187), (203, 0, 205), (203, 1, 206), (203, 2, 207), (203, 3, 208), (175, 3, 204), (175, 4, 209), (175, 5, 210), (0, 12, 176), (0, 13, 211), (0, 14, 212), (0, 15, 213), (0, 16, 214), (214, 1, 216), (214, 4, 217), (214, 5, 218), (214, 6, 219), (214, 9, 220), (214, 10, 221), (214, 11, 222), (214, 13, 223), (214, 14, 224), (214, 15, 225), (214, 16, 226), (214, 17, 227), (214, 18, 228), (214, 21, 229), (214, 22, 230), (214, 23, 231), (214, 24, 232), (214, 25, 233), (214, 26, 234), (214, 27, 235), (214, 29, 236), (214, 31, 237)]
def Lay (h : Mem) : Prop := ∀ q ∈ LAYL, h q.1 q.2.1 = q.2.2
theorem Lay.at {h : Mem} (L : Lay h) (i : Nat) {a j : Nat} {v : Int} (hi : LAYL[i]? = some (a, j, v)) : h a j = v := L _ (List.mem_of_getElem? hi)
theorem ly_1_0 {h : Mem} (L : Lay h) : h 1 0 = 3 := L.at 0 rfl
theorem ly_1_1 {h : Mem} (L : Lay h) : h 1 1 = 4 := L.at 1 rfl
theorem ly_0_0 {h : Mem} (L : Lay h) : h 0 0 = 2 := L.at 2 rfl
theorem ly_4_0 {h : Mem} (L : Lay h) : h 4 0 = 6 := L.at 3 rfl
theorem ly_4_1 {h : Mem} (L : Lay h) : h 4 1 = 7 := L.at 4 rfl
theorem ly_4_2 {h : Mem} (L : Lay h) : h 4 2 = 8 := L.at 5 rfl
theorem ly_4_3 {h : Mem} (L : Lay h) : h 4 3 = 9 := L.at 6 rfl
theorem ly_4_4 {h : Mem} (L : Lay h) : h 4 4 = 10 := L.at 7 rfl
theorem ly_4_5 {h : Mem} (L : Lay h) : h 4 5 = 11 := L.at 8 rfl
theorem ly_4_6 {h : Mem} (L : Lay h) : h 4 6 = 12 := L.at 9 rfl
theorem ly_4_7 {h : Mem} (L : Lay h) : h 4 7 = 13 := L.at 10 rfl
theorem ly_13_0 {h : Mem} (L : Lay h) : h 13 0 = 15 := L.at 11 rfl
theorem ly_13_1 {h : Mem} (L : Lay h) : h 13 1 = 16 := L.at 12 rfl
theorem ly_13_2 {h : Mem} (L : Lay h) : h 13 2 = 17 := L.at 13 rfl
theorem ly_13_3 {h : Mem} (L : Lay h) : h 13 3 = 18 := L.at 14 rfl
theorem ly_4_8 {h : Mem} (L : Lay h) : h 4 8 = 14 := L.at 15 rfl
theorem ly_4_9 {h : Mem} (L : Lay h) : h 4 9 = 19 := L.at 16 rfl
theorem ly_19_0 {h : Mem} (L : Lay h) : h 19 0 = 21 := L.at 17 rfl
theorem ly_19_1 {h : Mem} (L : Lay h) : h 19 1 = 22 := L.at 18 rfl
theorem ly_4_10 {h : Mem} (L : Lay h) : h 4 10 = 20 := L.at 19 rfl
theorem ly_22_0 {h : Mem} (L : Lay h) : h 22 0 = 24 := L.at 20 rfl
theorem ly_5_0 {h : Mem} (L : Lay h) : h 5 0 = 23 := L.at 21 rfl
theorem ly_24_0 {h : Mem} (L : Lay h) : h 24 0 = 26 := L.at 22 rfl
theorem ly_5_1 {h : Mem} (L : Lay h) : h 5 1 = 25 := L.at 23 rfl
theorem ly_26_0 {h : Mem} (L : Lay h) : h 26 0 = 28 := L.at 24 rfl
theorem ly_5_2 {h : Mem} (L : Lay h) : h 5 2 = 27 := L.at 25 rfl
theorem ly_28_0 {h : Mem} (L : Lay h) : h 28 0 = 30 := L.at 26 rfl
theorem ly_5_3 {h : Mem} (L : Lay h) : h 5 3 = 29 := L.at 27 rfl
theorem ly_30_0 {h : Mem} (L : Lay h) : h 30 0 = 32 := L.at 28 rfl
theorem ly_5_4 {h : Mem} (L : Lay h) : h 5 4 = 31 := L.at 29 rfl
theorem ly_32_0 {h : Mem} (L : Lay h) : h 32 0 = 34 := L.at 30 rfl
theorem ly_5_5 {h : Mem} (L : Lay h) : h 5 5 = 33 := L.at 31 rfl
theorem ly_34_0 {h : Mem} (L : Lay h) : h 34 0 = 36 := L.at 32 rfl
theorem ly_34_1 {h : Mem} (L : Lay h) : h 34 1 = 37 := L.at 33 rfl
theorem ly_34_2 {h : Mem} (L : Lay h) : h 34 2 = 38 := L.at 34 rfl
theorem ly_34_3 {h : Mem} (L : Lay h) : h 34 3 = 39 := L.at 35 rfl
theorem ly_34_4 {h : Mem} (L : Lay h) : h 34 4 = 40 := L.at 36 rfl
theorem ly_34_5 {h : Mem} (L : Lay h) : h 34 5 = 41 := L.at 37 rfl
theorem ly_34_6 {h : Mem} (L : Lay h) : h 34 6 = 42 := L.at 38 rfl
theorem ly_34_7 {h : Mem} (L : Lay h) : h 34 7 = 43 := L.at 39 rfl
theorem ly_43_0 {h : Mem} (L : Lay h) : h 43 0 = 45 := L.at 40 rfl
theorem ly_43_1 {h : Mem} (L : Lay h) : h 43 1 = 46 := L.at 41 rfl
theorem ly_43_2 {h : Mem} (L : Lay h) : h 43 2 = 47 := L.at 42 rfl
theorem ly_43_3 {h : Mem} (L : Lay h) : h 43 3 = 48 := L.at 43 rfl
theorem ly_34_8 {h : Mem} (L : Lay h) : h 34 8 = 44 := L.at 44 rfl
theorem ly_34_9 {h : Mem} (L : Lay h) : h 34 9 = 49 := L.at 45 rfl
theorem ly_49_0 {h : Mem} (L : Lay h) : h 49 0 = 51 := L.at 46 rfl
theorem ly_49_1 {h : Mem} (L : Lay h) : h 49 1 = 52 := L.at 47 rfl
theorem ly_34_10 {h : Mem} (L : Lay h) : h 34 10 = 50 := L.at 48 rfl
theorem ly_52_0 {h : Mem} (L : Lay h) : h 52 0 = 54 := L.at 49 rfl
theorem ly_35_0 {h : Mem} (L : Lay h) : h 35 0 = 53 := L.at 50 rfl
theorem ly_54_0 {h : Mem} (L : Lay h) : h 54 0 = 56 := L.at 51 rfl
theorem ly_35_1 {h : Mem} (L : Lay h) : h 35 1 = 55 := L.at 52 rfl
theorem ly_56_0 {h : Mem} (L : Lay h) : h 56 0 = 58 := L.at 53 rfl
theorem ly_35_2 {h : Mem} (L : Lay h) : h 35 2 = 57 := L.at 54 rfl
theorem ly_58_0 {h : Mem} (L : Lay h) : h 58 0 = 60 := L.at 55 rfl
theorem ly_35_3 {h : Mem} (L : Lay h) : h 35 3 = 59 := L.at 56 rfl
theorem ly_60_0 {h : Mem} (L : Lay h) : h 60 0 = 62 := L.at 57 rfl
theorem ly_35_4 {h : Mem} (L : Lay h) : h 35 4 = 61 := L.at 58 rfl
theorem ly_62_0 {h : Mem} (L : Lay h) : h 62 0 = 64 := L.at 59 rfl
theorem ly_35_5 {h : Mem} (L : Lay h) : h 35 5 = 63 := L.at 60 rfl
theorem ly_0_1 {h : Mem} (L : Lay h) : h 0 1 = 65 := L.at 61 rfl
theorem ly_64_0 {h : Mem} (L : Lay h) : h 64 0 = 2 := L.at 62 rfl
theorem ly_64_1 {h : Mem} (L : Lay h) : h 64 1 = 66 := L.at 63 rfl
theorem ly_65_0 {h : Mem} (L : Lay h) : h 65 0 = 2 := L.at 64 rfl
theorem ly_66_0 {h : Mem} (L : Lay h) : h 66 0 = 68 := L.at 65 rfl
theorem ly_66_1 {h : Mem} (L : Lay h) : h 66 1 = 69 := L.at 66 rfl
theorem ly_69_0 {h : Mem} (L : Lay h) : h 69 0 = 71 := L.at 67 rfl
theorem ly_69_1 {h : Mem} (L : Lay h) : h 69 1 = 72 := L.at 68 rfl
theorem ly_73_0 {h : Mem} (L : Lay h) : h 73 0 = 75 := L.at 69 rfl
theorem ly_73_1 {h : Mem} (L : Lay h) : h 73 1 = 76 := L.at 70 rfl
theorem ly_73_2 {h : Mem} (L : Lay h) : h 73 2 = 77 := L.at 71 rfl
theorem ly_73_3 {h : Mem} (L : Lay h) : h 73 3 = 78 := L.at 72 rfl
theorem ly_72_0 {h : Mem} (L : Lay h) : h 72 0 = 74 := L.at 73 rfl
theorem ly_78_0 {h : Mem} (L : Lay h) : h 78 0 = 80 := L.at 74 rfl
theorem ly_78_1 {h : Mem} (L : Lay h) : h 78 1 = 81 := L.at 75 rfl
theorem ly_78_2 {h : Mem} (L : Lay h) : h 78 2 = 82 := L.at 76 rfl
theorem ly_78_3 {h : Mem} (L : Lay h) : h 78 3 = 83 := L.at 77 rfl
theorem ly_72_1 {h : Mem} (L : Lay h) : h 72 1 = 79 := L.at 78 rfl
theorem ly_83_0 {h : Mem} (L : Lay h) : h 83 0 = 85 := L.at 79 rfl
theorem ly_83_1 {h : Mem} (L : Lay h) : h 83 1 = 86 := L.at 80 rfl
theorem ly_83_2 {h : Mem} (L : Lay h) : h 83 2 = 87 := L.at 81 rfl
theorem ly_83_3 {h : Mem} (L : Lay h) : h 83 3 = 88 := L.at 82 rfl
theorem ly_72_2 {h : Mem} (L : Lay h) : h 72 2 = 84 := L.at 83 rfl
theorem ly_72_3 {h : Mem} (L : Lay h) : h 72 3 = 89 := L.at 84 rfl
theorem ly_72_4 {h : Mem} (L : Lay h) : h 72 4 = 90 := L.at 85 rfl
theorem ly_72_5 {h : Mem} (L : Lay h) : h 72 5 = 91 := L.at 86 rfl
theorem ly_72_6 {h : Mem} (L : Lay h) : h 72 6 = 92 := L.at 87 rfl
theorem ly_72_7 {h : Mem} (L : Lay h) : h 72 7 = 93 := L.at 88 rfl
theorem ly_72_8 {h : Mem} (L : Lay h) : h 72 8 = 94 := L.at 89 rfl
theorem ly_0_6 {h : Mem} (L : Lay h) : h 0 6 = 73 := L.at 90 rfl
theorem ly_95_0 {h : Mem} (L : Lay h) : h 95 0 = 97 := L.at 91 rfl
theorem ly_95_1 {h : Mem} (L : Lay h) : h 95 1 = 98 := L.at 92 rfl
theorem ly_95_2 {h : Mem} (L : Lay h) : h 95 2 = 99 := L.at 93 rfl
theorem ly_95_3 {h : Mem} (L : Lay h) : h 95 3 = 100 := L.at 94 rfl
theorem ly_94_0 {h : Mem} (L : Lay h) : h 94 0 = 96 := L.at 95 rfl
theorem ly_100_0 {h : Mem} (L : Lay h) : h 100 0 = 102 := L.at 96 rfl
theorem ly_100_1 {h : Mem} (L : Lay h) : h 100 1 = 103 := L.at 97 rfl
theorem ly_100_2 {h : Mem} (L : Lay h) : h 100 2 = 104 := L.at 98 rfl
theorem ly_100_3 {h : Mem} (L : Lay h) : h 100 3 = 105 := L.at 99 rfl
theorem ly_94_1 {h : Mem} (L : Lay h) : h 94 1 = 101 := L.at 100 rfl
theorem ly_105_0 {h : Mem} (L : Lay h) : h 105 0 = 107 := L.at 101 rfl
theorem ly_105_1 {h : Mem} (L : Lay h) : h 105 1 = 108 := L.at 102 rfl
theorem ly_105_2 {h : Mem} (L : Lay h) : h 105 2 = 109 := L.at 103 rfl
theorem ly_105_3 {h : Mem} (L : Lay h) : h 105 3 = 110 := L.at 104 rfl
theorem ly_94_2 {h : Mem} (L : Lay h) : h 94 2 = 106 := L.at 105 rfl
theorem ly_94_3 {h : Mem} (L : Lay h) : h 94 3 = 111 := L.at 106 rfl
theorem ly_94_4 {h : Mem} (L : Lay h) : h 94 4 = 112 := L.at 107 rfl
theorem ly_94_5 {h : Mem} (L : Lay h) : h 94 5 = 113 := L.at 108 rfl
theorem ly_94_6 {h : Mem} (L : Lay h) : h 94 6 = 114 := L.at 109 rfl
theorem ly_94_7 {h : Mem} (L : Lay h) : h 94 7 = 115 := L.at 110 rfl
theorem ly_94_8 {h : Mem} (L : Lay h) : h 94 8 = 116 := L.at 111 rfl
theorem ly_0_7 {h : Mem} (L : Lay h) : h 0 7 = 95 := L.at 112 rfl
theorem ly_116_0 {h : Mem} (L : Lay h) : h 116 0 = 118 := L.at 113 rfl
theorem ly_116_1 {h : Mem} (L : Lay h) : h 116 1 = 119 := L.at 114 rfl
theorem ly_116_2 {h : Mem} (L : Lay h) : h 116 2 = 120 := L.at 115 rfl
theorem ly_0_8 {h : Mem} (L : Lay h) : h 0 8 = 117 := L.at 116 rfl
theorem ly_0_9 {h : Mem} (L : Lay h) : h 0 9 = 121 := L.at 117 rfl
theorem ly_0_10 {h : Mem} (L : Lay h) : h 0 10 = 122 := L.at 118 rfl
theorem ly_123_0 {h : Mem} (L : Lay h) : h 123 0 = 125 := L.at 119 rfl
theorem ly_123_1 {h : Mem} (L : Lay h) : h 123 1 = 126 := L.at 120 rfl
theorem ly_123_2 {h : Mem} (L : Lay h) : h 123 2 = 127 := L.at 121 rfl
theorem ly_123_3 {h : Mem} (L : Lay h) : h 123 3 = 128 := L.at 122 rfl
theorem ly_122_0 {h : Mem} (L : Lay h) : h 122 0 = 124 := L.at 123 rfl
theorem ly_128_0 {h : Mem} (L : Lay h) : h 128 0 = 130 := L.at 124 rfl
theorem ly_128_1 {h : Mem} (L : Lay h) : h 128 1 = 131 := L.at 125 rfl
theorem ly_128_2 {h : Mem} (L : Lay h) : h 128 2 = 132 := L.at 126 rfl
theorem ly_128_3 {h : Mem} (L : Lay h) : h 128 3 = 133 := L.at 127 rfl
theorem ly_122_1 {h : Mem} (L : Lay h) : h 122 1 = 129 := L.at 128 rfl
theorem ly_133_0 {h : Mem} (L : Lay h) : h 133 0 = 135 := L.at 129 rfl
theorem ly_133_1 {h : Mem} (L : Lay h) : h 133 1 = 136 := L.at 130 rfl
theorem ly_133_2 {h : Mem} (L : Lay h) : h 133 2 = 137 := L.at 131 rfl
theorem ly_133_3 {h : Mem} (L : Lay h) : h 133 3 = 138 := L.at 132 rfl
theorem ly_122_2 {h : Mem} (L : Lay h) : h 122 2 = 134 := L.at 133 rfl
theorem ly_122_3 {h : Mem} (L : Lay h) : h 122 3 = 139 := L.at 134 rfl
theorem ly_122_4 {h : Mem} (L : Lay h) : h 122 4 = 140 := L.at 135 rfl
theorem ly_122_5 {h : Mem} (L : Lay h) : h 122 5 = 141 := L.at 136 rfl
theorem ly_122_6 {h : Mem} (L : Lay h) : h 122 6 = 142 := L.at 137 rfl
theorem ly_122_7 {h : Mem} (L : Lay h) : h 122 7 = 143 := L.at 138 rfl
theorem ly_122_8 {h : Mem} (L : Lay h) : h 122 8 = 144 := L.at 139 rfl
theorem ly_120_0 {h : Mem} (L : Lay h) : h 120 0 = 123 := L.at 140 rfl
theorem ly_144_0 {h : Mem} (L : Lay h) : h 144 0 = 146 := L.at 141 rfl
theorem ly_144_1 {h : Mem} (L : Lay h) : h 144 1 = 147 := L.at 142 rfl
theorem ly_144_2 {h : Mem} (L : Lay h) : h 144 2 = 148 := L.at 143 rfl
theorem ly_121_0 {h : Mem} (L : Lay h) : h 121 0 = 145 := L.at 144 rfl
theorem ly_149_0 {h : Mem} (L : Lay h) : h 149 0 = 151 := L.at 145 rfl
theorem ly_149_1 {h : Mem} (L : Lay h) : h 149 1 = 152 := L.at 146 rfl
theorem ly_149_2 {h : Mem} (L : Lay h) : h 149 2 = 153 := L.at 147 rfl
theorem ly_149_3 {h : Mem} (L : Lay h) : h 149 3 = 154 := L.at 148 rfl
theorem ly_148_0 {h : Mem} (L : Lay h) : h 148 0 = 150 := L.at 149 rfl
theorem ly_154_0 {h : Mem} (L : Lay h) : h 154 0 = 156 := L.at 150 rfl
theorem ly_154_1 {h : Mem} (L : Lay h) : h 154 1 = 157 := L.at 151 rfl
theorem ly_154_2 {h : Mem} (L : Lay h) : h 154 2 = 158 := L.at 152 rfl
theorem ly_154_3 {h : Mem} (L : Lay h) : h 154 3 = 159 := L.at 153 rfl
theorem ly_148_1 {h : Mem} (L : Lay h) : h 148 1 = 155 := L.at 154 rfl
theorem ly_159_0 {h : Mem} (L : Lay h) : h 159 0 = 161 := L.at 155 rfl
theorem ly_159_1 {h : Mem} (L : Lay h) : h 159 1 = 162 := L.at 156 rfl
theorem ly_159_2 {h : Mem} (L : Lay h) : h 159 2 = 163 := L.at 157 rfl
theorem ly_159_3 {h : Mem} (L : Lay h) : h 159 3 = 164 := L.at 158 rfl
theorem ly_148_2 {h : Mem} (L : Lay h) : h 148 2 = 160 := L.at 159 rfl
theorem ly_148_3 {h : Mem} (L : Lay h) : h 148 3 = 165 := L.at 160 rfl
theorem ly_148_4 {h : Mem} (L : Lay h) : h 148 4 = 166 := L.at 161 rfl
theorem ly_148_5 {h : Mem} (L : Lay h) : h 148 5 = 167 := L.at 162 rfl
theorem ly_148_6 {h : Mem} (L : Lay h) : h 148 6 = 168 := L.at 163 rfl
theorem ly_148_7 {h : Mem} (L : Lay h) : h 148 7 = 169 := L.at 164 rfl
theorem ly_148_8 {h : Mem} (L : Lay h) : h 148 8 = 170 := L.at 165 rfl
theorem ly_120_1 {h : Mem} (L : Lay h) : h 120 1 = 149 := L.at 166 rfl
theorem ly_170_0 {h : Mem} (L : Lay h) : h 170 0 = 172 := L.at 167 rfl
theorem ly_170_1 {h : Mem} (L : Lay h) : h 170 1 = 173 := L.at 168 rfl
theorem ly_170_2 {h : Mem} (L : Lay h) : h 170 2 = 174 := L.at 169 rfl
theorem ly_121_1 {h : Mem} (L : Lay h) : h 121 1 = 171 := L.at 170 rfl
theorem ly_0_11 {h : Mem} (L : Lay h) : h 0 11 = 175 := L.at 171 rfl
theorem ly_176_0 {h : Mem} (L : Lay h) : h 176 0 = 178 := L.at 172 rfl
theorem ly_176_1 {h : Mem} (L : Lay h) : h 176 1 = 179 := L.at 173 rfl
theorem ly_176_2 {h : Mem} (L : Lay h) : h 176 2 = 180 := L.at 174 rfl
theorem ly_176_3 {h : Mem} (L : Lay h) : h 176 3 = 181 := L.at 175 rfl
theorem ly_175_0 {h : Mem} (L : Lay h) : h 175 0 = 177 := L.at 176 rfl
theorem ly_181_0 {h : Mem} (L : Lay h) : h 181 0 = 183 := L.at 177 rfl
theorem ly_181_1 {h : Mem} (L : Lay h) : h 181 1 = 184 := L.at 178 rfl
theorem ly_181_2 {h : Mem} (L : Lay h) : h 181 2 = 185 := L.at 179 rfl
theorem ly_181_3 {h : Mem} (L : Lay h) : h 181 3 = 186 := L.at 180 rfl
theorem ly_175_1 {h : Mem} (L : Lay h) : h 175 1 = 182 := L.at 181 rfl
theorem ly_186_0 {h : Mem} (L : Lay h) : h 186 0 = 188 := L.at 182 rfl
theorem ly_186_1 {h : Mem} (L : Lay h) : h 186 1 = 189 := L.at 183 rfl
theorem ly_186_2 {h : Mem} (L : Lay h) : h 186 2 = 190 := L.at 184 rfl
theorem ly_186_3 {h : Mem} (L : Lay h) : h 186 3 = 191 := L.at 185 rfl
theorem ly_186_4 {h : Mem} (L : Lay h) : h 186 4 = 192 := L.at 186 rfl
theorem ly_186_5 {h : Mem} (L : Lay h) : h 186 5 = 193 := L.at 187 rfl
theorem ly_186_6 {h : Mem} (L : Lay h) : h 186 6 = 194 := L.at 188 rfl
theorem ly_186_7 {h : Mem} (L : Lay h) : h 186 7 = 195 := L.at 189 rfl
theorem ly_186_8 {h : Mem} (L : Lay h) : h 186 8 = 196 := L.at 190 rfl
theorem ly_186_9 {h : Mem} (L : Lay h) : h 186 9 = 197 := L.at 191 rfl
theorem ly_186_10 {h : Mem} (L : Lay h) : h 186 10 = 198 := L.at 192 rfl
theorem ly_186_11 {h : Mem} (L : Lay h) : h 186 11 = 199 := L.at 193 rfl
theorem ly_186_12 {h : Mem} (L : Lay h) : h 186 12 = 200 := L.at 194 rfl
theorem ly_186_13 {h : Mem} (L : Lay h) : h 186 13 = 201 := L.at 195 rfl
theorem ly_186_14 {h : Mem} (L : Lay h) : h 186 14 = 202 := L.at 196 rfl
theorem ly_186_15 {h : Mem} (L : Lay h) : h 186 15 = 203 := L.at 197 rfl
theorem ly_175_2 {h : Mem} (L : Lay h) : h 175 2 = 187 := L.at 198 rfl
theorem ly_203_0 {h : Mem} (L : Lay h) : h 203 0 = 205 := L.at 199 rfl
theorem ly_203_1 {h : Mem} (L : Lay h) : h 203 1 = 206 := L.at 200 rfl
theorem ly_203_2 {h : Mem} (L : Lay h) : h 203 2 = 207 := L.at 201 rfl
theorem ly_203_3 {h : Mem} (L : Lay h) : h 203 3 = 208 := L.at 202 rfl
theorem ly_175_3 {h : Mem} (L : Lay h) : h 175 3 = 204 := L.at 203 rfl
theorem ly_175_4 {h : Mem} (L : Lay h) : h 175 4 = 209 := L.at 204 rfl
theorem ly_175_5 {h : Mem} (L : Lay h) : h 175 5 = 210 := L.at 205 rfl
theorem ly_0_12 {h : Mem} (L : Lay h) : h 0 12 = 176 := L.at 206 rfl
theorem ly_0_13 {h : Mem} (L : Lay h) : h 0 13 = 211 := L.at 207 rfl
theorem ly_0_14 {h : Mem} (L : Lay h) : h 0 14 = 212 := L.at 208 rfl
theorem ly_0_15 {h : Mem} (L : Lay h) : h 0 15 = 213 := L.at 209 rfl
theorem ly_0_16 {h : Mem} (L : Lay h) : h 0 16 = 214 := L.at 210 rfl
theorem ly_214_1 {h : Mem} (L : Lay h) : h 214 1 = 216 := L.at 211 rfl
theorem ly_214_4 {h : Mem} (L : Lay h) : h 214 4 = 217 := L.at 212 rfl
theorem ly_214_5 {h : Mem} (L : Lay h) : h 214 5 = 218 := L.at 213 rfl
theorem ly_214_6 {h : Mem} (L : Lay h) : h 214 6 = 219 := L.at 214 rfl
theorem ly_214_9 {h : Mem} (L : Lay h) : h 214 9 = 220 := L.at 215 rfl
theorem ly_214_10 {h : Mem} (L : Lay h) : h 214 10 = 221 := L.at 216 rfl
theorem ly_214_11 {h : Mem} (L : Lay h) : h 214 11 = 222 := L.at 217 rfl
theorem ly_214_13 {h : Mem} (L : Lay h) : h 214 13 = 223 := L.at 218 rfl
theorem ly_214_14 {h : Mem} (L : Lay h) : h 214 14 = 224 := L.at 219 rfl
theorem ly_214_15 {h : Mem} (L : Lay h) : h 214 15 = 225 := L.at 220 rfl
theorem ly_214_16 {h : Mem} (L : Lay h) : h 214 16 = 226 := L.at 221 rfl
theorem ly_214_17 {h : Mem} (L : Lay h) : h 214 17 = 227 := L.at 222 rfl
theorem ly_214_18 {h : Mem} (L : Lay h) : h 214 18 = 228 := L.at 223 rfl
theorem ly_214_21 {h : Mem} (L : Lay h) : h 214 21 = 229 := L.at 224 rfl
theorem ly_214_22 {h : Mem} (L : Lay h) : h 214 22 = 230 := L.at 225 rfl
theorem ly_214_23 {h : Mem} (L : Lay h) : h 214 23 = 231 := L.at 226 rfl
theorem ly_214_24 {h : Mem} (L : Lay h) : h 214 24 = 232 := L.at 227 rfl
theorem ly_214_25 {h : Mem} (L : Lay h) : h 214 25 = 233 := L.at 228 rfl
theorem ly_214_26 {h : Mem} (L : Lay h) : h 214 26 = 234 := L.at 229 rfl
theorem ly_214_27 {h : Mem} (L : Lay h) : h 214 27 = 235 := L.at 230 rfl
theorem ly_214_29 {h : Mem} (L : Lay h) : h 214 29 = 236 := L.at 231 rfl
theorem ly_214_31 {h : Mem} (L : Lay h) : h 214 31 = 237 := L.at 232 rfl
def noP (a : Nat) : Bool := LAYL.all (fun q => q.1 != a)
theorem Lay_up {h : Mem} (L : Lay h) {a j : Nat} {v : Int} (hn : noP a = true) : Lay (up h a j v) := by
  intro q hq
  have h1 : q.1 ≠ a := by simpa using List.all_eq_true.mp hn q hq
  have : up h a j v q.1 q.2.1 = h q.1 q.2.1 := by unfold up; rw [if_neg h1]
  rw [this]; exact L q hq
theorem Lay_upf {h : Mem} (L : Lay h) {a j : Nat} {v : Int} (hn : LAYL.all (fun q => !(q.1 == a && q.2.1 == j)) = true) : Lay (up h a j v) := by
  intro q hq
  have h1 := List.all_eq_true.mp hn q hq
  simp only [Bool.not_eq_true', Bool.and_eq_false_iff, beq_eq_false_iff_ne] at h1
  have : up h a j v q.1 q.2.1 = h q.1 q.2.1 := by
    unfold up
    by_cases e : q.1 = a
    · have e2 : ¬ q.2.1 = j := h1.resolve_left (fun z => z e)
      rw [if_pos e, if_neg e2]
    · rw [if_neg e]
  rw [this]; exact L q hq
theorem Lay_fr {h h' : Mem} (L : Lay h) (hf : ∀ q ∈ LAYL, h' q.1 q.2.1 = h q.1 q.2.1) : Lay h' := fun q hq => (hf q hq).trans (L q hq)
theorem im {P R : Prop} (f : P → R) : P → R := f
theorem ob_0 : ob SHP 10 1 := ⟨by decide, by decide +kernel⟩
theorem ob_1 : ob SHP 8 2 := ⟨by decide, by decide +kernel⟩
theorem ln_2 : ln SHP 3 3 = 1000 := by decide +kernel
theorem ln_3 : ln SHP 1 4 = 23 := by decide +kernel
theorem ob_4 : ob SHP 3 5 := ⟨by decide, by decide +kernel⟩
theorem ln_5 : ln SHP 5 6 = 6 := by decide +kernel
theorem ln_6 : ln SHP 1 7 = 6 := by decide +kernel
theorem ln_7 : ln SHP 1 8 = 4 := by decide +kernel
theorem ln_8 : ln SHP 1 9 = 4 := by decide +kernel
theorem ln_9 : ln SHP 0 10 = 4 := by decide +kernel
theorem ln_10 : ln SHP 0 11 = 4 := by decide +kernel
theorem ln_11 : ln SHP 0 12 = 4 := by decide +kernel
theorem ln_12 : ln SHP 0 13 = 4 := by decide +kernel
theorem ln_13 : ln SHP 4 14 = 4 := by decide +kernel
theorem ln_14 : ln SHP 0 15 = 4 := by decide +kernel
theorem ln_15 : ln SHP 0 16 = 4 := by decide +kernel
theorem ln_16 : ln SHP 0 17 = 4 := by decide +kernel
theorem ln_17 : ln SHP 0 18 = 4 := by decide +kernel
theorem ln_18 : ln SHP 0 19 = 4 := by decide +kernel
theorem ob_19 : ob SHP 1 20 := ⟨by decide, by decide +kernel⟩
theorem ln_20 : ln SHP 0 21 = 1000 := by decide +kernel
theorem ln_21 : ln SHP 0 22 = 21 := by decide +kernel
theorem ob_22 : ob SHP 0 23 := ⟨by decide, by decide +kernel⟩
theorem ln_23 : ln SHP 0 24 = 8 := by decide +kernel
theorem ob_24 : ob SHP 0 25 := ⟨by decide, by decide +kernel⟩
theorem ln_25 : ln SHP 0 26 = 8 := by decide +kernel
theorem ob_26 : ob SHP 0 27 := ⟨by decide, by decide +kernel⟩
theorem ln_27 : ln SHP 0 28 = 8 := by decide +kernel
theorem ob_28 : ob SHP 0 29 := ⟨by decide, by decide +kernel⟩
theorem ln_29 : ln SHP 0 30 = 8 := by decide +kernel
theorem ob_30 : ob SHP 0 31 := ⟨by decide, by decide +kernel⟩
theorem ln_31 : ln SHP 0 32 = 8 := by decide +kernel
theorem ob_32 : ob SHP 0 33 := ⟨by decide, by decide +kernel⟩
theorem ln_33 : ln SHP 0 34 = 8 := by decide +kernel
theorem ob_34 : ob SHP 3 35 := ⟨by decide, by decide +kernel⟩
theorem ln_35 : ln SHP 5 36 = 6 := by decide +kernel
theorem ln_36 : ln SHP 1 37 = 6 := by decide +kernel
theorem ln_37 : ln SHP 1 38 = 4 := by decide +kernel
theorem ln_38 : ln SHP 1 39 = 4 := by decide +kernel
theorem ln_39 : ln SHP 0 40 = 4 := by decide +kernel
theorem ln_40 : ln SHP 0 41 = 4 := by decide +kernel
theorem ln_41 : ln SHP 0 42 = 4 := by decide +kernel
theorem ln_42 : ln SHP 0 43 = 4 := by decide +kernel
theorem ln_43 : ln SHP 4 44 = 4 := by decide +kernel
theorem ln_44 : ln SHP 0 45 = 4 := by decide +kernel
theorem ln_45 : ln SHP 0 46 = 4 := by decide +kernel
theorem ln_46 : ln SHP 0 47 = 4 := by decide +kernel
theorem ln_47 : ln SHP 0 48 = 4 := by decide +kernel
theorem ln_48 : ln SHP 0 49 = 4 := by decide +kernel
theorem ob_49 : ob SHP 1 50 := ⟨by decide, by decide +kernel⟩
theorem ln_50 : ln SHP 0 51 = 1000 := by decide +kernel
theorem ln_51 : ln SHP 0 52 = 21 := by decide +kernel
theorem ob_52 : ob SHP 0 53 := ⟨by decide, by decide +kernel⟩
theorem ln_53 : ln SHP 0 54 = 8 := by decide +kernel
theorem ob_54 : ob SHP 0 55 := ⟨by decide, by decide +kernel⟩
theorem ln_55 : ln SHP 0 56 = 8 := by decide +kernel
theorem ob_56 : ob SHP 0 57 := ⟨by decide, by decide +kernel⟩
theorem ln_57 : ln SHP 0 58 = 8 := by decide +kernel
theorem ob_58 : ob SHP 0 59 := ⟨by decide, by decide +kernel⟩
theorem ln_59 : ln SHP 0 60 = 8 := by decide +kernel
theorem ob_60 : ob SHP 0 61 := ⟨by decide, by decide +kernel⟩
theorem ln_61 : ln SHP 0 62 = 8 := by decide +kernel
theorem ob_62 : ob SHP 0 63 := ⟨by decide, by decide +kernel⟩
theorem ln_63 : ln SHP 0 64 = 8 := by decide +kernel
theorem ob_64 : ob SHP 4 65 := ⟨by decide, by decide +kernel⟩
theorem ob_65 : ob SHP 2 66 := ⟨by decide, by decide +kernel⟩
theorem ob_66 : ob SHP 5 67 := ⟨by decide, by decide +kernel⟩
theorem ln_67 : ln SHP 0 68 = 40 := by decide +kernel
theorem ln_68 : ln SHP 0 69 = 40 := by decide +kernel
theorem ob_69 : ob SHP 5 70 := ⟨by decide, by decide +kernel⟩
theorem ln_70 : ln SHP 0 71 = 40 := by decide +kernel
theorem ln_71 : ln SHP 0 72 = 40 := by decide +kernel
theorem ob_72 : ob SHP 9 73 := ⟨by decide, by decide +kernel⟩
theorem ln_73 : ln SHP 4 74 = 4 := by decide +kernel
theorem ln_74 : ln SHP 0 75 = 40 := by decide +kernel
theorem ln_75 : ln SHP 0 76 = 40 := by decide +kernel
theorem ln_76 : ln SHP 0 77 = 40 := by decide +kernel
theorem ln_77 : ln SHP 0 78 = 40 := by decide +kernel
theorem ln_78 : ln SHP 4 79 = 4 := by decide +kernel
theorem ln_79 : ln SHP 0 80 = 40 := by decide +kernel
theorem ln_80 : ln SHP 0 81 = 40 := by decide +kernel
theorem ln_81 : ln SHP 0 82 = 40 := by decide +kernel
theorem ln_82 : ln SHP 0 83 = 40 := by decide +kernel
theorem ln_83 : ln SHP 4 84 = 4 := by decide +kernel
theorem ln_84 : ln SHP 0 85 = 61 := by decide +kernel
theorem ln_85 : ln SHP 0 86 = 61 := by decide +kernel
theorem ln_86 : ln SHP 0 87 = 61 := by decide +kernel
theorem ln_87 : ln SHP 0 88 = 61 := by decide +kernel
theorem ln_88 : ln SHP 0 89 = 4 := by decide +kernel
theorem ln_89 : ln SHP 0 90 = 4 := by decide +kernel
theorem ln_90 : ln SHP 0 91 = 4 := by decide +kernel
theorem ln_91 : ln SHP 0 92 = 4 := by decide +kernel
theorem ln_92 : ln SHP 0 93 = 4 := by decide +kernel
theorem ln_93 : ln SHP 0 94 = 4 := by decide +kernel
theorem ob_94 : ob SHP 9 95 := ⟨by decide, by decide +kernel⟩
theorem ln_95 : ln SHP 4 96 = 4 := by decide +kernel
theorem ln_96 : ln SHP 0 97 = 40 := by decide +kernel
theorem ln_97 : ln SHP 0 98 = 40 := by decide +kernel
theorem ln_98 : ln SHP 0 99 = 40 := by decide +kernel
theorem ln_99 : ln SHP 0 100 = 40 := by decide +kernel
theorem ln_100 : ln SHP 4 101 = 4 := by decide +kernel
theorem ln_101 : ln SHP 0 102 = 40 := by decide +kernel
theorem ln_102 : ln SHP 0 103 = 40 := by decide +kernel
theorem ln_103 : ln SHP 0 104 = 40 := by decide +kernel
theorem ln_104 : ln SHP 0 105 = 40 := by decide +kernel
theorem ln_105 : ln SHP 4 106 = 4 := by decide +kernel
theorem ln_106 : ln SHP 0 107 = 61 := by decide +kernel
theorem ln_107 : ln SHP 0 108 = 61 := by decide +kernel
theorem ln_108 : ln SHP 0 109 = 61 := by decide +kernel
theorem ln_109 : ln SHP 0 110 = 61 := by decide +kernel
theorem ln_110 : ln SHP 0 111 = 4 := by decide +kernel
theorem ln_111 : ln SHP 0 112 = 4 := by decide +kernel
theorem ln_112 : ln SHP 0 113 = 4 := by decide +kernel
theorem ln_113 : ln SHP 0 114 = 4 := by decide +kernel
theorem ln_114 : ln SHP 0 115 = 4 := by decide +kernel
theorem ln_115 : ln SHP 0 116 = 4 := by decide +kernel
theorem ob_116 : ob SHP 7 117 := ⟨by decide, by decide +kernel⟩
theorem ln_117 : ln SHP 0 118 = 8 := by decide +kernel
theorem ln_118 : ln SHP 0 119 = 8 := by decide +kernel
theorem ln_119 : ln SHP 2 120 = 8 := by decide +kernel
theorem ln_120 : ln SHP 6 121 = 2 := by decide +kernel
theorem ln_121 : ln SHP 7 122 = 2 := by decide +kernel
theorem ob_122 : ob SHP 9 123 := ⟨by decide, by decide +kernel⟩
theorem ln_123 : ln SHP 4 124 = 4 := by decide +kernel
theorem ln_124 : ln SHP 0 125 = 40 := by decide +kernel
theorem ln_125 : ln SHP 0 126 = 40 := by decide +kernel
theorem ln_126 : ln SHP 0 127 = 40 := by decide +kernel
theorem ln_127 : ln SHP 0 128 = 40 := by decide +kernel
theorem ln_128 : ln SHP 4 129 = 4 := by decide +kernel
theorem ln_129 : ln SHP 0 130 = 40 := by decide +kernel
theorem ln_130 : ln SHP 0 131 = 40 := by decide +kernel
theorem ln_131 : ln SHP 0 132 = 40 := by decide +kernel
theorem ln_132 : ln SHP 0 133 = 40 := by decide +kernel
theorem ln_133 : ln SHP 4 134 = 4 := by decide +kernel
theorem ln_134 : ln SHP 0 135 = 61 := by decide +kernel
theorem ln_135 : ln SHP 0 136 = 61 := by decide +kernel
theorem ln_136 : ln SHP 0 137 = 61 := by decide +kernel
theorem ln_137 : ln SHP 0 138 = 61 := by decide +kernel
theorem ln_138 : ln SHP 0 139 = 4 := by decide +kernel
theorem ln_139 : ln SHP 0 140 = 4 := by decide +kernel
theorem ln_140 : ln SHP 0 141 = 4 := by decide +kernel
theorem ln_141 : ln SHP 0 142 = 4 := by decide +kernel
theorem ln_142 : ln SHP 0 143 = 4 := by decide +kernel
theorem ln_143 : ln SHP 0 144 = 4 := by decide +kernel
theorem ob_144 : ob SHP 7 145 := ⟨by decide, by decide +kernel⟩
theorem ln_145 : ln SHP 0 146 = 8 := by decide +kernel
theorem ln_146 : ln SHP 0 147 = 8 := by decide +kernel
theorem ln_147 : ln SHP 2 148 = 8 := by decide +kernel
theorem ob_148 : ob SHP 9 149 := ⟨by decide, by decide +kernel⟩
theorem ln_149 : ln SHP 4 150 = 4 := by decide +kernel
theorem ln_150 : ln SHP 0 151 = 40 := by decide +kernel
theorem ln_151 : ln SHP 0 152 = 40 := by decide +kernel
theorem ln_152 : ln SHP 0 153 = 40 := by decide +kernel
theorem ln_153 : ln SHP 0 154 = 40 := by decide +kernel
theorem ln_154 : ln SHP 4 155 = 4 := by decide +kernel
theorem ln_155 : ln SHP 0 156 = 40 := by decide +kernel
theorem ln_156 : ln SHP 0 157 = 40 := by decide +kernel
theorem ln_157 : ln SHP 0 158 = 40 := by decide +kernel
theorem ln_158 : ln SHP 0 159 = 40 := by decide +kernel
theorem ln_159 : ln SHP 4 160 = 4 := by decide +kernel
theorem ln_160 : ln SHP 0 161 = 61 := by decide +kernel
theorem ln_161 : ln SHP 0 162 = 61 := by decide +kernel
theorem ln_162 : ln SHP 0 163 = 61 := by decide +kernel
theorem ln_163 : ln SHP 0 164 = 61 := by decide +kernel
theorem ln_164 : ln SHP 0 165 = 4 := by decide +kernel
theorem ln_165 : ln SHP 0 166 = 4 := by decide +kernel
theorem ln_166 : ln SHP 0 167 = 4 := by decide +kernel
theorem ln_167 : ln SHP 0 168 = 4 := by decide +kernel
theorem ln_168 : ln SHP 0 169 = 4 := by decide +kernel
theorem ln_169 : ln SHP 0 170 = 4 := by decide +kernel
theorem ob_170 : ob SHP 7 171 := ⟨by decide, by decide +kernel⟩
theorem ln_171 : ln SHP 0 172 = 8 := by decide +kernel
theorem ln_172 : ln SHP 0 173 = 8 := by decide +kernel
theorem ln_173 : ln SHP 2 174 = 8 := by decide +kernel
theorem ln_174 : ln SHP 2 175 = 2 := by decide +kernel
theorem ob_175 : ob SHP 6 176 := ⟨by decide, by decide +kernel⟩
theorem ln_176 : ln SHP 4 177 = 4 := by decide +kernel
theorem ln_177 : ln SHP 0 178 = 4 := by decide +kernel
theorem ln_178 : ln SHP 0 179 = 4 := by decide +kernel
theorem ln_179 : ln SHP 0 180 = 4 := by decide +kernel
theorem ln_180 : ln SHP 0 181 = 4 := by decide +kernel
theorem ln_181 : ln SHP 4 182 = 4 := by decide +kernel
theorem ln_182 : ln SHP 0 183 = 4 := by decide +kernel
theorem ln_183 : ln SHP 0 184 = 4 := by decide +kernel
theorem ln_184 : ln SHP 0 185 = 4 := by decide +kernel
theorem ln_185 : ln SHP 0 186 = 4 := by decide +kernel
theorem ln_186 : ln SHP 4 187 = 16 := by decide +kernel
theorem ln_187 : ln SHP 0 188 = 121 := by decide +kernel
theorem ln_188 : ln SHP 0 189 = 121 := by decide +kernel
theorem ln_189 : ln SHP 0 190 = 121 := by decide +kernel
theorem ln_190 : ln SHP 0 191 = 121 := by decide +kernel
theorem ln_191 : ln SHP 0 192 = 121 := by decide +kernel
theorem ln_192 : ln SHP 0 193 = 121 := by decide +kernel
theorem ln_193 : ln SHP 0 194 = 121 := by decide +kernel
theorem ln_194 : ln SHP 0 195 = 121 := by decide +kernel
theorem ln_195 : ln SHP 0 196 = 121 := by decide +kernel
theorem ln_196 : ln SHP 0 197 = 121 := by decide +kernel
theorem ln_197 : ln SHP 0 198 = 121 := by decide +kernel
theorem ln_198 : ln SHP 0 199 = 121 := by decide +kernel
theorem ln_199 : ln SHP 0 200 = 121 := by decide +kernel
theorem ln_200 : ln SHP 0 201 = 121 := by decide +kernel
theorem ln_201 : ln SHP 0 202 = 121 := by decide +kernel
theorem ln_202 : ln SHP 0 203 = 121 := by decide +kernel
theorem ln_203 : ln SHP 4 204 = 4 := by decide +kernel
theorem ln_204 : ln SHP 0 205 = 121 := by decide +kernel
theorem ln_205 : ln SHP 0 206 = 121 := by decide +kernel
theorem ln_206 : ln SHP 0 207 = 121 := by decide +kernel
theorem ln_207 : ln SHP 0 208 = 121 := by decide +kernel
theorem ln_208 : ln SHP 0 209 = 121 := by decide +kernel
theorem ln_209 : ln SHP 0 210 = 121 := by decide +kernel
theorem ln_210 : ln SHP 0 211 = 96 := by decide +kernel
theorem ln_211 : ln SHP 0 212 = 121 := by decide +kernel
theorem ln_212 : ln SHP 0 213 = 121 := by decide +kernel
theorem ln_213 : ln SHP 0 214 = 121 := by decide +kernel
theorem ob_214 : ob SHP 11 215 := ⟨by decide, by decide +kernel⟩
theorem ln_215 : ln SHP 0 216 = 1000 := by decide +kernel
theorem ln_216 : ln SHP 0 217 = 1002 := by decide +kernel
theorem ln_217 : ln SHP 0 218 = 1002 := by decide +kernel
theorem ln_218 : ln SHP 1 219 = 1002 := by decide +kernel
theorem ln_219 : ln SHP 1 220 = 23 := by decide +kernel
theorem ln_220 : ln SHP 0 221 = 220 := by decide +kernel
theorem ln_221 : ln SHP 0 222 = 2200 := by decide +kernel
theorem ln_222 : ln SHP 1 223 = 28 := by decide +kernel
theorem ln_223 : ln SHP 0 224 = 170 := by decide +kernel
theorem ln_224 : ln SHP 0 225 = 4 := by decide +kernel
theorem ln_225 : ln SHP 0 226 = 64 := by decide +kernel
theorem ln_226 : ln SHP 0 227 = 1628 := by decide +kernel
theorem ln_227 : ln SHP 2 228 = 2 := by decide +kernel
theorem ln_228 : ln SHP 0 229 = 61 := by decide +kernel
theorem ln_229 : ln SHP 0 230 = 121 := by decide +kernel
theorem ln_230 : ln SHP 0 231 = 121 := by decide +kernel
theorem ln_231 : ln SHP 0 232 = 121 := by decide +kernel
theorem ln_232 : ln SHP 0 233 = 16 := by decide +kernel
theorem ln_233 : ln SHP 0 234 = 16 := by decide +kernel
theorem ln_234 : ln SHP 0 235 = 40 := by decide +kernel
theorem ln_235 : ln SHP 2 236 = 40 := by decide +kernel
theorem ln_236 : ln SHP 0 237 = 120 := by decide +kernel
theorem ln_237 : ln SHP 1 238 = 1 := by decide +kernel
