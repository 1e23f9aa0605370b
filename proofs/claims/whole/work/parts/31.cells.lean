/-! THE CELLS, as the two constructors lay them (written by program: wip/whole/gen/emit.py) -/
def SH : List mS := [.inr (11, [some 1, some 8, some 16, some 62, some 108, some 109, some 114, some 117, some 118, some 119, none, none]), .inr (6, [some 2, some 3, some 4, some 5, some 6, some 7]), .inl (0, 400), .inl (0, 3200), .inl (0, 60), .inl (0, 60), .inl (0, 60), .inl (0, 600), .inr (8, [some 9, some 10, some 11, some 12, some 13, some 14, some 15]), .inl (0, 12), .inl (0, 12), .inl (0, 12), .inl (0, 12), .inl (0, 12), .inl (0, 1440), .inl (0, 121), .inr (10, [some 17, some 19, some 31, some 46, some 52, some 54, some 1, some 8, some 55, none, none, none, none, none, none]), .inr (2, [some 18, none, none]), .inl (0, 64), .inr (1, [some 20, some 21, some 22, some 23, some 24, some 25, some 26, some 27, some 28, some 29, some 30, none, none]), .inl (0, 16), .inl (0, 16), .inl (0, 16), .inl (0, 16), .inl (0, 16), .inl (0, 16), .inl (0, 16), .inl (0, 16), .inl (0, 16), .inl (0, 16), .inl (0, 16), .inr (4, [some 32, some 33, some 34, some 35, some 36, some 37, some 38, some 39, some 40, some 41, some 42, some 43, some 44, some 45, none, none]), .inl (0, 60), .inl (0, 60), .inl (0, 60), .inl (0, 60), .inl (0, 60), .inl (0, 60), .inl (0, 360), .inl (0, 60), .inl (0, 60), .inl (0, 60), .inl (0, 60), .inl (0, 60), .inl (0, 60), .inl (1, 60), .inr (9, [some 47, some 48, some 49, some 50, some 51, none]), .inl (0, 8), .inl (0, 8), .inl (0, 8), .inl (0, 8), .inl (0, 8), .inr (7, [some 53]), .inl (0, 104), .inl (0, 10), .inr (3, [some 1, some 56, some 57, some 58, some 59, some 60, some 61, none, none, none, none, none, none]), .inl (0, 300), .inl (0, 300), .inl (0, 400), .inl (0, 400), .inl (0, 400), .inl (0, 16), .inr (10, [some 63, some 65, some 77, some 92, some 98, some 100, some 1, some 8, some 101, none, none, none, none, none, none]), .inr (2, [some 64, none, none]), .inl (0, 64), .inr (1, [some 66, some 67, some 68, some 69, some 70, some 71, some 72, some 73, some 74, some 75, some 76, none, none]), .inl (0, 16), .inl (0, 16), .inl (0, 16), .inl (0, 16), .inl (0, 16), .inl (0, 16), .inl (0, 16), .inl (0, 16), .inl (0, 16), .inl (0, 16), .inl (0, 16), .inr (4, [some 78, some 79, some 80, some 81, some 82, some 83, some 84, some 85, some 86, some 87, some 88, some 89, some 90, some 91, none, none]), .inl (0, 60), .inl (0, 60), .inl (0, 60), .inl (0, 60), .inl (0, 60), .inl (0, 60), .inl (0, 360), .inl (0, 60), .inl (0, 60), .inl (0, 60), .inl (0, 60), .inl (0, 60), .inl (0, 60), .inl (1, 60), .inr (9, [some 93, some 94, some 95, some 96, some 97, none]), .inl (0, 8), .inl (0, 8), .inl (0, 8), .inl (0, 8), .inl (0, 8), .inr (7, [some 99]), .inl (0, 104), .inl (0, 10), .inr (3, [some 1, some 102, some 103, some 104, some 105, some 106, some 107, none, none, none, none, none, none]), .inl (0, 300), .inl (0, 300), .inl (0, 400), .inl (0, 400), .inl (0, 400), .inl (0, 16), .inr (100, [some 120, some 166, some 212, some 258]), .inr (0, [some 110, some 111, some 112, some 113]), .inl (0, 60), .inl (0, 16), .inl (0, 16), .inl (0, 16), .inr (5, [some 115, some 116, none, none, none, none, none, none, none, none, none]), .inl (0, 120), .inl (0, 120), .inl (0, 60), .inl (0, 16), .inl (0, 7), .inr (10, [some 121, some 123, some 135, some 150, some 156, some 158, some 1, some 8, some 159, none, none, none, none, none, none]), .inr (2, [some 122, none, none]), .inl (0, 64), .inr (1, [some 124, some 125, some 126, some 127, some 128, some 129, some 130, some 131, some 132, some 133, some 134, none, none]), .inl (0, 16), .inl (0, 16), .inl (0, 16), .inl (0, 16), .inl (0, 16), .inl (0, 16), .inl (0, 16), .inl (0, 16), .inl (0, 16), .inl (0, 16), .inl (0, 16), .inr (4, [some 136, some 137, some 138, some 139, some 140, some 141, some 142, some 143, some 144, some 145, some 146, some 147, some 148, some 149, none, none]), .inl (0, 60), .inl (0, 60), .inl (0, 60), .inl (0, 60), .inl (0, 60), .inl (0, 60), .inl (0, 360), .inl (0, 60), .inl (0, 60), .inl (0, 60), .inl (0, 60), .inl (0, 60), .inl (0, 60), .inl (1, 60), .inr (9, [some 151, some 152, some 153, some 154, some 155, none]), .inl (0, 8), .inl (0, 8), .inl (0, 8), .inl (0, 8), .inl (0, 8), .inr (7, [some 157]), .inl (0, 104), .inl (0, 10), .inr (3, [some 1, some 160, some 161, some 162, some 163, some 164, some 165, none, none, none, none, none, none]), .inl (0, 300), .inl (0, 300), .inl (0, 400), .inl (0, 400), .inl (0, 400), .inl (0, 16), .inr (10, [some 167, some 169, some 181, some 196, some 202, some 204, some 1, some 8, some 205, none, none, none, none, none, none]), .inr (2, [some 168, none, none]), .inl (0, 64), .inr (1, [some 170, some 171, some 172, some 173, some 174, some 175, some 176, some 177, some 178, some 179, some 180, none, none]), .inl (0, 16), .inl (0, 16), .inl (0, 16), .inl (0, 16), .inl (0, 16), .inl (0, 16), .inl (0, 16), .inl (0, 16), .inl (0, 16), .inl (0, 16), .inl (0, 16), .inr (4, [some 182, some 183, some 184, some 185, some 186, some 187, some 188, some 189, some 190, some 191, some 192, some 193, some 194, some 195, none, none]), .inl (0, 60), .inl (0, 60), .inl (0, 60), .inl (0, 60), .inl (0, 60), .inl (0, 60), .inl (0, 360), .inl (0, 60), .inl (0, 60), .inl (0, 60), .inl (0, 60), .inl (0, 60), .inl (0, 60), .inl (1, 60), .inr (9, [some 197, some 198, some 199, some 200, some 201, none]), .inl (0, 8), .inl (0, 8), .inl (0, 8), .inl (0, 8), .inl (0, 8), .inr (7, [some 203]), .inl (0, 104), .inl (0, 10), .inr (3, [some 1, some 206, some 207, some 208, some 209, some 210, some 211, none, none, none, none, none, none]), .inl (0, 300), .inl (0, 300), .inl (0, 400), .inl (0, 400), .inl (0, 400), .inl (0, 16), .inr (10, [some 213, some 215, some 227, some 242, some 248, some 250, some 1, some 8, some 251, none, none, none, none, none, none]), .inr (2, [some 214, none, none]), .inl (0, 64), .inr (1, [some 216, some 217, some 218, some 219, some 220, some 221, some 222, some 223, some 224, some 225, some 226, none, none]), .inl (0, 16), .inl (0, 16), .inl (0, 16), .inl (0, 16), .inl (0, 16), .inl (0, 16), .inl (0, 16), .inl (0, 16), .inl (0, 16), .inl (0, 16), .inl (0, 16), .inr (4, [some 228, some 229, some 230, some 231, some 232, some 233, some 234, some 235, some 236, some 237, some 238, some 239, some 240, some 241, none, none]), .inl (0, 60), .inl (0, 60), .inl (0, 60), .inl (0, 60), .inl (0, 60), .inl (0, 60), .inl (0, 360), .inl (0, 60), .inl (0, 60), .inl (0, 60), .inl (0, 60), .inl (0, 60), .inl (0, 60), .inl (1, 60), .inr (9, [some 243, some 244, some 245, some 246, some 247, none]), .inl (0, 8), .inl (0, 8), .inl (0, 8), .inl (0, 8), .inl (0, 8), .inr (7, [some 249]), .inl (0, 104), .inl (0, 10), .inr (3, [some 1, some 252, some 253, some 254, some 255, some 256, some 257, none, none, none, none, none, none]), .inl (0, 300), .inl (0, 300), .inl (0, 400), .inl (0, 400), .inl (0, 400), .inl (0, 16), .inr (10, [some 259, some 261, some 273, some 288, some 294, some 296, some 1, some 8, some 297, none, none, none, none, none, none]), .inr (2, [some 260, none, none]), .inl (0, 64), .inr (1, [some 262, some 263, some 264, some 265, some 266, some 267, some 268, some 269, some 270, some 271, some 272, none, none]), .inl (0, 16), .inl (0, 16), .inl (0, 16), .inl (0, 16), .inl (0, 16), .inl (0, 16), .inl (0, 16), .inl (0, 16), .inl (0, 16), .inl (0, 16), .inl (0, 16), .inr (4, [some 274, some 275, some 276, some 277, some 278, some 279, some 280, some 281, some 282, some 283, some 284, some 285, some 286, some 287, none, none]), .inl (0, 60), .inl (0, 60), .inl (0, 60), .inl (0, 60), .inl (0, 60), .inl (0, 60), .inl (0, 360), .inl (0, 60), .inl (0, 60), .inl (0, 60), .inl (0, 60), .inl (0, 60), .inl (0, 60), .inl (1, 60), .inr (9, [some 289, some 290, some 291, some 292, some 293, none]), .inl (0, 8), .inl (0, 8), .inl (0, 8), .inl (0, 8), .inl (0, 8), .inr (7, [some 295]), .inl (0, 104), .inl (0, 10), .inr (3, [some 1, some 298, some 299, some 300, some 301, some 302, some 303, none, none, none, none, none, none]), .inl (0, 300), .inl (0, 300), .inl (0, 400), .inl (0, 400), .inl (0, 400), .inl (0, 16), .inr (12, [none, some 305, some 306, some 307, some 308, none, some 309, some 310, some 311, none, some 312, none, none, none, none, none, none, none, none, none, none, none, none, some 313, none, some 314, some 315, some 316, some 317, none, none]), .inl (0, 9732), .inl (0, 9), .inl (0, 400), .inl (1, 400), .inl (0, 60), .inl (0, 60), .inl (0, 120), .inl (0, 120), .inl (0, 9732), .inl (0, 9732), .inl (0, 16), .inl (0, 16), .inl (0, 60)]
theorem sh_0 : SH[0]? = some (.inr (11, [some 1, some 8, some 16, some 62, some 108, some 109, some 114, some 117, some 118, some 119, none, none])) := by decide +kernel
theorem sh_1 : SH[1]? = some (.inr (6, [some 2, some 3, some 4, some 5, some 6, some 7])) := by decide +kernel
theorem sh_2 : SH[2]? = some (.inl (0, 400)) := by decide +kernel
theorem sh_3 : SH[3]? = some (.inl (0, 3200)) := by decide +kernel
theorem sh_4 : SH[4]? = some (.inl (0, 60)) := by decide +kernel
theorem sh_5 : SH[5]? = some (.inl (0, 60)) := by decide +kernel
theorem sh_6 : SH[6]? = some (.inl (0, 60)) := by decide +kernel
theorem sh_7 : SH[7]? = some (.inl (0, 600)) := by decide +kernel
theorem sh_8 : SH[8]? = some (.inr (8, [some 9, some 10, some 11, some 12, some 13, some 14, some 15])) := by decide +kernel
theorem sh_9 : SH[9]? = some (.inl (0, 12)) := by decide +kernel
theorem sh_10 : SH[10]? = some (.inl (0, 12)) := by decide +kernel
theorem sh_11 : SH[11]? = some (.inl (0, 12)) := by decide +kernel
theorem sh_12 : SH[12]? = some (.inl (0, 12)) := by decide +kernel
theorem sh_13 : SH[13]? = some (.inl (0, 12)) := by decide +kernel
theorem sh_14 : SH[14]? = some (.inl (0, 1440)) := by decide +kernel
theorem sh_15 : SH[15]? = some (.inl (0, 121)) := by decide +kernel
theorem sh_16 : SH[16]? = some (.inr (10, [some 17, some 19, some 31, some 46, some 52, some 54, some 1, some 8, some 55, none, none, none, none, none, none])) := by decide +kernel
theorem sh_17 : SH[17]? = some (.inr (2, [some 18, none, none])) := by decide +kernel
theorem sh_18 : SH[18]? = some (.inl (0, 64)) := by decide +kernel
theorem sh_19 : SH[19]? = some (.inr (1, [some 20, some 21, some 22, some 23, some 24, some 25, some 26, some 27, some 28, some 29, some 30, none, none])) := by decide +kernel
theorem sh_20 : SH[20]? = some (.inl (0, 16)) := by decide +kernel
theorem sh_21 : SH[21]? = some (.inl (0, 16)) := by decide +kernel
theorem sh_22 : SH[22]? = some (.inl (0, 16)) := by decide +kernel
theorem sh_23 : SH[23]? = some (.inl (0, 16)) := by decide +kernel
theorem sh_24 : SH[24]? = some (.inl (0, 16)) := by decide +kernel
theorem sh_25 : SH[25]? = some (.inl (0, 16)) := by decide +kernel
theorem sh_26 : SH[26]? = some (.inl (0, 16)) := by decide +kernel
theorem sh_27 : SH[27]? = some (.inl (0, 16)) := by decide +kernel
theorem sh_28 : SH[28]? = some (.inl (0, 16)) := by decide +kernel
theorem sh_29 : SH[29]? = some (.inl (0, 16)) := by decide +kernel
theorem sh_30 : SH[30]? = some (.inl (0, 16)) := by decide +kernel
theorem sh_31 : SH[31]? = some (.inr (4, [some 32, some 33, some 34, some 35, some 36, some 37, some 38, some 39, some 40, some 41, some 42, some 43, some 44, some 45, none, none])) := by decide +kernel
theorem sh_32 : SH[32]? = some (.inl (0, 60)) := by decide +kernel
theorem sh_33 : SH[33]? = some (.inl (0, 60)) := by decide +kernel
theorem sh_34 : SH[34]? = some (.inl (0, 60)) := by decide +kernel
theorem sh_35 : SH[35]? = some (.inl (0, 60)) := by decide +kernel
theorem sh_36 : SH[36]? = some (.inl (0, 60)) := by decide +kernel
theorem sh_37 : SH[37]? = some (.inl (0, 60)) := by decide +kernel
theorem sh_38 : SH[38]? = some (.inl (0, 360)) := by decide +kernel
theorem sh_39 : SH[39]? = some (.inl (0, 60)) := by decide +kernel
theorem sh_40 : SH[40]? = some (.inl (0, 60)) := by decide +kernel
theorem sh_41 : SH[41]? = some (.inl (0, 60)) := by decide +kernel
theorem sh_42 : SH[42]? = some (.inl (0, 60)) := by decide +kernel
theorem sh_43 : SH[43]? = some (.inl (0, 60)) := by decide +kernel
theorem sh_44 : SH[44]? = some (.inl (0, 60)) := by decide +kernel
theorem sh_45 : SH[45]? = some (.inl (1, 60)) := by decide +kernel
theorem sh_46 : SH[46]? = some (.inr (9, [some 47, some 48, some 49, some 50, some 51, none])) := by decide +kernel
theorem sh_47 : SH[47]? = some (.inl (0, 8)) := by decide +kernel
theorem sh_48 : SH[48]? = some (.inl (0, 8)) := by decide +kernel
theorem sh_49 : SH[49]? = some (.inl (0, 8)) := by decide +kernel
theorem sh_50 : SH[50]? = some (.inl (0, 8)) := by decide +kernel
theorem sh_51 : SH[51]? = some (.inl (0, 8)) := by decide +kernel
theorem sh_52 : SH[52]? = some (.inr (7, [some 53])) := by decide +kernel
theorem sh_53 : SH[53]? = some (.inl (0, 104)) := by decide +kernel
theorem sh_54 : SH[54]? = some (.inl (0, 10)) := by decide +kernel
theorem sh_55 : SH[55]? = some (.inr (3, [some 1, some 56, some 57, some 58, some 59, some 60, some 61, none, none, none, none, none, none])) := by decide +kernel
theorem sh_56 : SH[56]? = some (.inl (0, 300)) := by decide +kernel
theorem sh_57 : SH[57]? = some (.inl (0, 300)) := by decide +kernel
theorem sh_58 : SH[58]? = some (.inl (0, 400)) := by decide +kernel
theorem sh_59 : SH[59]? = some (.inl (0, 400)) := by decide +kernel
theorem sh_60 : SH[60]? = some (.inl (0, 400)) := by decide +kernel
theorem sh_61 : SH[61]? = some (.inl (0, 16)) := by decide +kernel
theorem sh_62 : SH[62]? = some (.inr (10, [some 63, some 65, some 77, some 92, some 98, some 100, some 1, some 8, some 101, none, none, none, none, none, none])) := by decide +kernel
theorem sh_63 : SH[63]? = some (.inr (2, [some 64, none, none])) := by decide +kernel
theorem sh_64 : SH[64]? = some (.inl (0, 64)) := by decide +kernel
theorem sh_65 : SH[65]? = some (.inr (1, [some 66, some 67, some 68, some 69, some 70, some 71, some 72, some 73, some 74, some 75, some 76, none, none])) := by decide +kernel
theorem sh_66 : SH[66]? = some (.inl (0, 16)) := by decide +kernel
theorem sh_67 : SH[67]? = some (.inl (0, 16)) := by decide +kernel
theorem sh_68 : SH[68]? = some (.inl (0, 16)) := by decide +kernel
theorem sh_69 : SH[69]? = some (.inl (0, 16)) := by decide +kernel
theorem sh_70 : SH[70]? = some (.inl (0, 16)) := by decide +kernel
theorem sh_71 : SH[71]? = some (.inl (0, 16)) := by decide +kernel
theorem sh_72 : SH[72]? = some (.inl (0, 16)) := by decide +kernel
theorem sh_73 : SH[73]? = some (.inl (0, 16)) := by decide +kernel
theorem sh_74 : SH[74]? = some (.inl (0, 16)) := by decide +kernel
theorem sh_75 : SH[75]? = some (.inl (0, 16)) := by decide +kernel
theorem sh_76 : SH[76]? = some (.inl (0, 16)) := by decide +kernel
theorem sh_77 : SH[77]? = some (.inr (4, [some 78, some 79, some 80, some 81, some 82, some 83, some 84, some 85, some 86, some 87, some 88, some 89, some 90, some 91, none, none])) := by decide +kernel
theorem sh_78 : SH[78]? = some (.inl (0, 60)) := by decide +kernel
theorem sh_79 : SH[79]? = some (.inl (0, 60)) := by decide +kernel
theorem sh_80 : SH[80]? = some (.inl (0, 60)) := by decide +kernel
theorem sh_81 : SH[81]? = some (.inl (0, 60)) := by decide +kernel
theorem sh_82 : SH[82]? = some (.inl (0, 60)) := by decide +kernel
theorem sh_83 : SH[83]? = some (.inl (0, 60)) := by decide +kernel
theorem sh_84 : SH[84]? = some (.inl (0, 360)) := by decide +kernel
theorem sh_85 : SH[85]? = some (.inl (0, 60)) := by decide +kernel
theorem sh_86 : SH[86]? = some (.inl (0, 60)) := by decide +kernel
theorem sh_87 : SH[87]? = some (.inl (0, 60)) := by decide +kernel
theorem sh_88 : SH[88]? = some (.inl (0, 60)) := by decide +kernel
theorem sh_89 : SH[89]? = some (.inl (0, 60)) := by decide +kernel
theorem sh_90 : SH[90]? = some (.inl (0, 60)) := by decide +kernel
theorem sh_91 : SH[91]? = some (.inl (1, 60)) := by decide +kernel
theorem sh_92 : SH[92]? = some (.inr (9, [some 93, some 94, some 95, some 96, some 97, none])) := by decide +kernel
theorem sh_93 : SH[93]? = some (.inl (0, 8)) := by decide +kernel
theorem sh_94 : SH[94]? = some (.inl (0, 8)) := by decide +kernel
theorem sh_95 : SH[95]? = some (.inl (0, 8)) := by decide +kernel
theorem sh_96 : SH[96]? = some (.inl (0, 8)) := by decide +kernel
theorem sh_97 : SH[97]? = some (.inl (0, 8)) := by decide +kernel
theorem sh_98 : SH[98]? = some (.inr (7, [some 99])) := by decide +kernel
theorem sh_99 : SH[99]? = some (.inl (0, 104)) := by decide +kernel
theorem sh_100 : SH[100]? = some (.inl (0, 10)) := by decide +kernel
theorem sh_101 : SH[101]? = some (.inr (3, [some 1, some 102, some 103, some 104, some 105, some 106, some 107, none, none, none, none, none, none])) := by decide +kernel
theorem sh_102 : SH[102]? = some (.inl (0, 300)) := by decide +kernel
theorem sh_103 : SH[103]? = some (.inl (0, 300)) := by decide +kernel
theorem sh_104 : SH[104]? = some (.inl (0, 400)) := by decide +kernel
theorem sh_105 : SH[105]? = some (.inl (0, 400)) := by decide +kernel
theorem sh_106 : SH[106]? = some (.inl (0, 400)) := by decide +kernel
theorem sh_107 : SH[107]? = some (.inl (0, 16)) := by decide +kernel
theorem sh_108 : SH[108]? = some (.inr (100, [some 120, some 166, some 212, some 258])) := by decide +kernel
theorem sh_109 : SH[109]? = some (.inr (0, [some 110, some 111, some 112, some 113])) := by decide +kernel
theorem sh_110 : SH[110]? = some (.inl (0, 60)) := by decide +kernel
theorem sh_111 : SH[111]? = some (.inl (0, 16)) := by decide +kernel
theorem sh_112 : SH[112]? = some (.inl (0, 16)) := by decide +kernel
theorem sh_113 : SH[113]? = some (.inl (0, 16)) := by decide +kernel
theorem sh_114 : SH[114]? = some (.inr (5, [some 115, some 116, none, none, none, none, none, none, none, none, none])) := by decide +kernel
theorem sh_115 : SH[115]? = some (.inl (0, 120)) := by decide +kernel
theorem sh_116 : SH[116]? = some (.inl (0, 120)) := by decide +kernel
theorem sh_117 : SH[117]? = some (.inl (0, 60)) := by decide +kernel
theorem sh_118 : SH[118]? = some (.inl (0, 16)) := by decide +kernel
theorem sh_119 : SH[119]? = some (.inl (0, 7)) := by decide +kernel
theorem sh_120 : SH[120]? = some (.inr (10, [some 121, some 123, some 135, some 150, some 156, some 158, some 1, some 8, some 159, none, none, none, none, none, none])) := by decide +kernel
theorem sh_121 : SH[121]? = some (.inr (2, [some 122, none, none])) := by decide +kernel
theorem sh_122 : SH[122]? = some (.inl (0, 64)) := by decide +kernel
theorem sh_123 : SH[123]? = some (.inr (1, [some 124, some 125, some 126, some 127, some 128, some 129, some 130, some 131, some 132, some 133, some 134, none, none])) := by decide +kernel
theorem sh_124 : SH[124]? = some (.inl (0, 16)) := by decide +kernel
theorem sh_125 : SH[125]? = some (.inl (0, 16)) := by decide +kernel
theorem sh_126 : SH[126]? = some (.inl (0, 16)) := by decide +kernel
theorem sh_127 : SH[127]? = some (.inl (0, 16)) := by decide +kernel
theorem sh_128 : SH[128]? = some (.inl (0, 16)) := by decide +kernel
theorem sh_129 : SH[129]? = some (.inl (0, 16)) := by decide +kernel
theorem sh_130 : SH[130]? = some (.inl (0, 16)) := by decide +kernel
theorem sh_131 : SH[131]? = some (.inl (0, 16)) := by decide +kernel
theorem sh_132 : SH[132]? = some (.inl (0, 16)) := by decide +kernel
theorem sh_133 : SH[133]? = some (.inl (0, 16)) := by decide +kernel
theorem sh_134 : SH[134]? = some (.inl (0, 16)) := by decide +kernel
theorem sh_135 : SH[135]? = some (.inr (4, [some 136, some 137, some 138, some 139, some 140, some 141, some 142, some 143, some 144, some 145, some 146, some 147, some 148, some 149, none, none])) := by decide +kernel
theorem sh_136 : SH[136]? = some (.inl (0, 60)) := by decide +kernel
theorem sh_137 : SH[137]? = some (.inl (0, 60)) := by decide +kernel
theorem sh_138 : SH[138]? = some (.inl (0, 60)) := by decide +kernel
theorem sh_139 : SH[139]? = some (.inl (0, 60)) := by decide +kernel
theorem sh_140 : SH[140]? = some (.inl (0, 60)) := by decide +kernel
theorem sh_141 : SH[141]? = some (.inl (0, 60)) := by decide +kernel
theorem sh_142 : SH[142]? = some (.inl (0, 360)) := by decide +kernel
theorem sh_143 : SH[143]? = some (.inl (0, 60)) := by decide +kernel
theorem sh_144 : SH[144]? = some (.inl (0, 60)) := by decide +kernel
theorem sh_145 : SH[145]? = some (.inl (0, 60)) := by decide +kernel
theorem sh_146 : SH[146]? = some (.inl (0, 60)) := by decide +kernel
theorem sh_147 : SH[147]? = some (.inl (0, 60)) := by decide +kernel
theorem sh_148 : SH[148]? = some (.inl (0, 60)) := by decide +kernel
theorem sh_149 : SH[149]? = some (.inl (1, 60)) := by decide +kernel
theorem sh_150 : SH[150]? = some (.inr (9, [some 151, some 152, some 153, some 154, some 155, none])) := by decide +kernel
theorem sh_151 : SH[151]? = some (.inl (0, 8)) := by decide +kernel
theorem sh_152 : SH[152]? = some (.inl (0, 8)) := by decide +kernel
theorem sh_153 : SH[153]? = some (.inl (0, 8)) := by decide +kernel
theorem sh_154 : SH[154]? = some (.inl (0, 8)) := by decide +kernel
theorem sh_155 : SH[155]? = some (.inl (0, 8)) := by decide +kernel
theorem sh_156 : SH[156]? = some (.inr (7, [some 157])) := by decide +kernel
theorem sh_157 : SH[157]? = some (.inl (0, 104)) := by decide +kernel
theorem sh_158 : SH[158]? = some (.inl (0, 10)) := by decide +kernel
theorem sh_159 : SH[159]? = some (.inr (3, [some 1, some 160, some 161, some 162, some 163, some 164, some 165, none, none, none, none, none, none])) := by decide +kernel
theorem sh_160 : SH[160]? = some (.inl (0, 300)) := by decide +kernel
theorem sh_161 : SH[161]? = some (.inl (0, 300)) := by decide +kernel
theorem sh_162 : SH[162]? = some (.inl (0, 400)) := by decide +kernel
theorem sh_163 : SH[163]? = some (.inl (0, 400)) := by decide +kernel
theorem sh_164 : SH[164]? = some (.inl (0, 400)) := by decide +kernel
theorem sh_165 : SH[165]? = some (.inl (0, 16)) := by decide +kernel
theorem sh_166 : SH[166]? = some (.inr (10, [some 167, some 169, some 181, some 196, some 202, some 204, some 1, some 8, some 205, none, none, none, none, none, none])) := by decide +kernel
theorem sh_167 : SH[167]? = some (.inr (2, [some 168, none, none])) := by decide +kernel
theorem sh_168 : SH[168]? = some (.inl (0, 64)) := by decide +kernel
theorem sh_169 : SH[169]? = some (.inr (1, [some 170, some 171, some 172, some 173, some 174, some 175, some 176, some 177, some 178, some 179, some 180, none, none])) := by decide +kernel
theorem sh_170 : SH[170]? = some (.inl (0, 16)) := by decide +kernel
theorem sh_171 : SH[171]? = some (.inl (0, 16)) := by decide +kernel
theorem sh_172 : SH[172]? = some (.inl (0, 16)) := by decide +kernel
theorem sh_173 : SH[173]? = some (.inl (0, 16)) := by decide +kernel
theorem sh_174 : SH[174]? = some (.inl (0, 16)) := by decide +kernel
theorem sh_175 : SH[175]? = some (.inl (0, 16)) := by decide +kernel
theorem sh_176 : SH[176]? = some (.inl (0, 16)) := by decide +kernel
theorem sh_177 : SH[177]? = some (.inl (0, 16)) := by decide +kernel
theorem sh_178 : SH[178]? = some (.inl (0, 16)) := by decide +kernel
theorem sh_179 : SH[179]? = some (.inl (0, 16)) := by decide +kernel
theorem sh_180 : SH[180]? = some (.inl (0, 16)) := by decide +kernel
theorem sh_181 : SH[181]? = some (.inr (4, [some 182, some 183, some 184, some 185, some 186, some 187, some 188, some 189, some 190, some 191, some 192, some 193, some 194, some 195, none, none])) := by decide +kernel
theorem sh_182 : SH[182]? = some (.inl (0, 60)) := by decide +kernel
theorem sh_183 : SH[183]? = some (.inl (0, 60)) := by decide +kernel
theorem sh_184 : SH[184]? = some (.inl (0, 60)) := by decide +kernel
theorem sh_185 : SH[185]? = some (.inl (0, 60)) := by decide +kernel
theorem sh_186 : SH[186]? = some (.inl (0, 60)) := by decide +kernel
theorem sh_187 : SH[187]? = some (.inl (0, 60)) := by decide +kernel
theorem sh_188 : SH[188]? = some (.inl (0, 360)) := by decide +kernel
theorem sh_189 : SH[189]? = some (.inl (0, 60)) := by decide +kernel
theorem sh_190 : SH[190]? = some (.inl (0, 60)) := by decide +kernel
theorem sh_191 : SH[191]? = some (.inl (0, 60)) := by decide +kernel
theorem sh_192 : SH[192]? = some (.inl (0, 60)) := by decide +kernel
theorem sh_193 : SH[193]? = some (.inl (0, 60)) := by decide +kernel
theorem sh_194 : SH[194]? = some (.inl (0, 60)) := by decide +kernel
theorem sh_195 : SH[195]? = some (.inl (1, 60)) := by decide +kernel
theorem sh_196 : SH[196]? = some (.inr (9, [some 197, some 198, some 199, some 200, some 201, none])) := by decide +kernel
theorem sh_197 : SH[197]? = some (.inl (0, 8)) := by decide +kernel
theorem sh_198 : SH[198]? = some (.inl (0, 8)) := by decide +kernel
theorem sh_199 : SH[199]? = some (.inl (0, 8)) := by decide +kernel
theorem sh_200 : SH[200]? = some (.inl (0, 8)) := by decide +kernel
theorem sh_201 : SH[201]? = some (.inl (0, 8)) := by decide +kernel
theorem sh_202 : SH[202]? = some (.inr (7, [some 203])) := by decide +kernel
theorem sh_203 : SH[203]? = some (.inl (0, 104)) := by decide +kernel
theorem sh_204 : SH[204]? = some (.inl (0, 10)) := by decide +kernel
theorem sh_205 : SH[205]? = some (.inr (3, [some 1, some 206, some 207, some 208, some 209, some 210, some 211, none, none, none, none, none, none])) := by decide +kernel
theorem sh_206 : SH[206]? = some (.inl (0, 300)) := by decide +kernel
theorem sh_207 : SH[207]? = some (.inl (0, 300)) := by decide +kernel
theorem sh_208 : SH[208]? = some (.inl (0, 400)) := by decide +kernel
theorem sh_209 : SH[209]? = some (.inl (0, 400)) := by decide +kernel
theorem sh_210 : SH[210]? = some (.inl (0, 400)) := by decide +kernel
theorem sh_211 : SH[211]? = some (.inl (0, 16)) := by decide +kernel
theorem sh_212 : SH[212]? = some (.inr (10, [some 213, some 215, some 227, some 242, some 248, some 250, some 1, some 8, some 251, none, none, none, none, none, none])) := by decide +kernel
theorem sh_213 : SH[213]? = some (.inr (2, [some 214, none, none])) := by decide +kernel
theorem sh_214 : SH[214]? = some (.inl (0, 64)) := by decide +kernel
theorem sh_215 : SH[215]? = some (.inr (1, [some 216, some 217, some 218, some 219, some 220, some 221, some 222, some 223, some 224, some 225, some 226, none, none])) := by decide +kernel
theorem sh_216 : SH[216]? = some (.inl (0, 16)) := by decide +kernel
theorem sh_217 : SH[217]? = some (.inl (0, 16)) := by decide +kernel
theorem sh_218 : SH[218]? = some (.inl (0, 16)) := by decide +kernel
theorem sh_219 : SH[219]? = some (.inl (0, 16)) := by decide +kernel
theorem sh_220 : SH[220]? = some (.inl (0, 16)) := by decide +kernel
theorem sh_221 : SH[221]? = some (.inl (0, 16)) := by decide +kernel
theorem sh_222 : SH[222]? = some (.inl (0, 16)) := by decide +kernel
theorem sh_223 : SH[223]? = some (.inl (0, 16)) := by decide +kernel
theorem sh_224 : SH[224]? = some (.inl (0, 16)) := by decide +kernel
theorem sh_225 : SH[225]? = some (.inl (0, 16)) := by decide +kernel
theorem sh_226 : SH[226]? = some (.inl (0, 16)) := by decide +kernel
theorem sh_227 : SH[227]? = some (.inr (4, [some 228, some 229, some 230, some 231, some 232, some 233, some 234, some 235, some 236, some 237, some 238, some 239, some 240, some 241, none, none])) := by decide +kernel
theorem sh_228 : SH[228]? = some (.inl (0, 60)) := by decide +kernel
theorem sh_229 : SH[229]? = some (.inl (0, 60)) := by decide +kernel
theorem sh_230 : SH[230]? = some (.inl (0, 60)) := by decide +kernel
theorem sh_231 : SH[231]? = some (.inl (0, 60)) := by decide +kernel
theorem sh_232 : SH[232]? = some (.inl (0, 60)) := by decide +kernel
theorem sh_233 : SH[233]? = some (.inl (0, 60)) := by decide +kernel
theorem sh_234 : SH[234]? = some (.inl (0, 360)) := by decide +kernel
theorem sh_235 : SH[235]? = some (.inl (0, 60)) := by decide +kernel
theorem sh_236 : SH[236]? = some (.inl (0, 60)) := by decide +kernel
theorem sh_237 : SH[237]? = some (.inl (0, 60)) := by decide +kernel
theorem sh_238 : SH[238]? = some (.inl (0, 60)) := by decide +kernel
theorem sh_239 : SH[239]? = some (.inl (0, 60)) := by decide +kernel
theorem sh_240 : SH[240]? = some (.inl (0, 60)) := by decide +kernel
theorem sh_241 : SH[241]? = some (.inl (1, 60)) := by decide +kernel
theorem sh_242 : SH[242]? = some (.inr (9, [some 243, some 244, some 245, some 246, some 247, none])) := by decide +kernel
theorem sh_243 : SH[243]? = some (.inl (0, 8)) := by decide +kernel
theorem sh_244 : SH[244]? = some (.inl (0, 8)) := by decide +kernel
theorem sh_245 : SH[245]? = some (.inl (0, 8)) := by decide +kernel
theorem sh_246 : SH[246]? = some (.inl (0, 8)) := by decide +kernel
theorem sh_247 : SH[247]? = some (.inl (0, 8)) := by decide +kernel
theorem sh_248 : SH[248]? = some (.inr (7, [some 249])) := by decide +kernel
theorem sh_249 : SH[249]? = some (.inl (0, 104)) := by decide +kernel
theorem sh_250 : SH[250]? = some (.inl (0, 10)) := by decide +kernel
theorem sh_251 : SH[251]? = some (.inr (3, [some 1, some 252, some 253, some 254, some 255, some 256, some 257, none, none, none, none, none, none])) := by decide +kernel
theorem sh_252 : SH[252]? = some (.inl (0, 300)) := by decide +kernel
theorem sh_253 : SH[253]? = some (.inl (0, 300)) := by decide +kernel
theorem sh_254 : SH[254]? = some (.inl (0, 400)) := by decide +kernel
theorem sh_255 : SH[255]? = some (.inl (0, 400)) := by decide +kernel
theorem sh_256 : SH[256]? = some (.inl (0, 400)) := by decide +kernel
theorem sh_257 : SH[257]? = some (.inl (0, 16)) := by decide +kernel
theorem sh_258 : SH[258]? = some (.inr (10, [some 259, some 261, some 273, some 288, some 294, some 296, some 1, some 8, some 297, none, none, none, none, none, none])) := by decide +kernel
theorem sh_259 : SH[259]? = some (.inr (2, [some 260, none, none])) := by decide +kernel
theorem sh_260 : SH[260]? = some (.inl (0, 64)) := by decide +kernel
theorem sh_261 : SH[261]? = some (.inr (1, [some 262, some 263, some 264, some 265, some 266, some 267, some 268, some 269, some 270, some 271, some 272, none, none])) := by decide +kernel
theorem sh_262 : SH[262]? = some (.inl (0, 16)) := by decide +kernel
theorem sh_263 : SH[263]? = some (.inl (0, 16)) := by decide +kernel
theorem sh_264 : SH[264]? = some (.inl (0, 16)) := by decide +kernel
theorem sh_265 : SH[265]? = some (.inl (0, 16)) := by decide +kernel
theorem sh_266 : SH[266]? = some (.inl (0, 16)) := by decide +kernel
theorem sh_267 : SH[267]? = some (.inl (0, 16)) := by decide +kernel
theorem sh_268 : SH[268]? = some (.inl (0, 16)) := by decide +kernel
theorem sh_269 : SH[269]? = some (.inl (0, 16)) := by decide +kernel
theorem sh_270 : SH[270]? = some (.inl (0, 16)) := by decide +kernel
theorem sh_271 : SH[271]? = some (.inl (0, 16)) := by decide +kernel
theorem sh_272 : SH[272]? = some (.inl (0, 16)) := by decide +kernel
theorem sh_273 : SH[273]? = some (.inr (4, [some 274, some 275, some 276, some 277, some 278, some 279, some 280, some 281, some 282, some 283, some 284, some 285, some 286, some 287, none, none])) := by decide +kernel
theorem sh_274 : SH[274]? = some (.inl (0, 60)) := by decide +kernel
theorem sh_275 : SH[275]? = some (.inl (0, 60)) := by decide +kernel
theorem sh_276 : SH[276]? = some (.inl (0, 60)) := by decide +kernel
theorem sh_277 : SH[277]? = some (.inl (0, 60)) := by decide +kernel
theorem sh_278 : SH[278]? = some (.inl (0, 60)) := by decide +kernel
theorem sh_279 : SH[279]? = some (.inl (0, 60)) := by decide +kernel
theorem sh_280 : SH[280]? = some (.inl (0, 360)) := by decide +kernel
theorem sh_281 : SH[281]? = some (.inl (0, 60)) := by decide +kernel
theorem sh_282 : SH[282]? = some (.inl (0, 60)) := by decide +kernel
theorem sh_283 : SH[283]? = some (.inl (0, 60)) := by decide +kernel
theorem sh_284 : SH[284]? = some (.inl (0, 60)) := by decide +kernel
theorem sh_285 : SH[285]? = some (.inl (0, 60)) := by decide +kernel
theorem sh_286 : SH[286]? = some (.inl (0, 60)) := by decide +kernel
theorem sh_287 : SH[287]? = some (.inl (1, 60)) := by decide +kernel
theorem sh_288 : SH[288]? = some (.inr (9, [some 289, some 290, some 291, some 292, some 293, none])) := by decide +kernel
theorem sh_289 : SH[289]? = some (.inl (0, 8)) := by decide +kernel
theorem sh_290 : SH[290]? = some (.inl (0, 8)) := by decide +kernel
theorem sh_291 : SH[291]? = some (.inl (0, 8)) := by decide +kernel
theorem sh_292 : SH[292]? = some (.inl (0, 8)) := by decide +kernel
theorem sh_293 : SH[293]? = some (.inl (0, 8)) := by decide +kernel
theorem sh_294 : SH[294]? = some (.inr (7, [some 295])) := by decide +kernel
theorem sh_295 : SH[295]? = some (.inl (0, 104)) := by decide +kernel
theorem sh_296 : SH[296]? = some (.inl (0, 10)) := by decide +kernel
theorem sh_297 : SH[297]? = some (.inr (3, [some 1, some 298, some 299, some 300, some 301, some 302, some 303, none, none, none, none, none, none])) := by decide +kernel
theorem sh_298 : SH[298]? = some (.inl (0, 300)) := by decide +kernel
theorem sh_299 : SH[299]? = some (.inl (0, 300)) := by decide +kernel
theorem sh_300 : SH[300]? = some (.inl (0, 400)) := by decide +kernel
theorem sh_301 : SH[301]? = some (.inl (0, 400)) := by decide +kernel
theorem sh_302 : SH[302]? = some (.inl (0, 400)) := by decide +kernel
theorem sh_303 : SH[303]? = some (.inl (0, 16)) := by decide +kernel
theorem sh_304 : SH[304]? = some (.inr (12, [none, some 305, some 306, some 307, some 308, none, some 309, some 310, some 311, none, some 312, none, none, none, none, none, none, none, none, none, none, none, none, some 313, none, some 314, some 315, some 316, some 317, none, none])) := by decide +kernel
theorem sh_305 : SH[305]? = some (.inl (0, 9732)) := by decide +kernel
theorem sh_306 : SH[306]? = some (.inl (0, 9)) := by decide +kernel
theorem sh_307 : SH[307]? = some (.inl (0, 400)) := by decide +kernel
theorem sh_308 : SH[308]? = some (.inl (1, 400)) := by decide +kernel
theorem sh_309 : SH[309]? = some (.inl (0, 60)) := by decide +kernel
theorem sh_310 : SH[310]? = some (.inl (0, 60)) := by decide +kernel
theorem sh_311 : SH[311]? = some (.inl (0, 120)) := by decide +kernel
theorem sh_312 : SH[312]? = some (.inl (0, 120)) := by decide +kernel
theorem sh_313 : SH[313]? = some (.inl (0, 9732)) := by decide +kernel
theorem sh_314 : SH[314]? = some (.inl (0, 9732)) := by decide +kernel
theorem sh_315 : SH[315]? = some (.inl (0, 16)) := by decide +kernel
theorem sh_316 : SH[316]? = some (.inl (0, 16)) := by decide +kernel
theorem sh_317 : SH[317]? = some (.inl (0, 60)) := by decide +kernel
theorem m_some {α β : Type} {a c : α} {b d : β} (h : some (a, b) = some (c, d)) : c = a ∧ d = b := by
  have h := Option.some.inj h
  exact ⟨(congrArg Prod.fst h).symm, (congrArg Prod.snd h).symm⟩
theorem m_ite {α : Type} {c : Prop} [Decidable c] {a b x : α} (h : (if c then a else b) = x) : (c ∧ a = x) ∨ (¬ c ∧ b = x) := by
  by_cases z : c
  · rw [if_pos z] at h; exact Or.inl ⟨z, h⟩
  · rw [if_neg z] at h; exact Or.inr ⟨z, h⟩
theorem m_ite_n {α : Type} {c : Prop} [Decidable c] {b : Option α} {x : α} (h : (if c then none else b) = some x) : ¬ c ∧ b = some x := by
  rcases m_ite h with ⟨_, h⟩ | h
  · cases h
  · exact h
theorem m_ite_p {α : Type} {c : Prop} [Decidable c] {b : Option α} {x : α} (h : (if c then b else none) = some x) : c ∧ b = some x := by
  rcases m_ite h with h | ⟨_, h⟩
  · exact h
  · cases h
noncomputable def m_isS (a k : Nat) : Bool := m_isO a k (SH, fun _ _ => 0, fun _ => 0)
theorem m_isO_of {a k : Nat} {m : mM} (h : m_isS a k = true) : m_isO a k (SH, m) = true := h
theorem m_cpy_of {ks kd n0 n1 : Nat} {sp dp k : Int32} {m : mM} (h0 : SH[ks]? = some (.inl (0, n0))) (h1 : SH[kd]? = some (.inl (0, n1))) (hc : ¬ (sp < 0 ∨ dp < 0 ∨ k < 0 ∨ n0 < sp.toNatClampNeg + k.toNatClampNeg ∨ n1 < dp.toNatClampNeg + k.toNatClampNeg)) :
    m_cpy ks kd sp dp k (SH, m) = some (SH, m_row m.1 kd (va_cpy (m.1 ks) (m.1 kd) sp.toNatClampNeg dp.toNatClampNeg k.toNatClampNeg), m.2) := by
  unfold m_cpy
  simp only [h0, h1, if_neg hc]
theorem m_swx {x : Int32} {lw hi : Int} (n : Nat) (h : ∀ j, j < n → x ≠ Int32.ofInt (lw + (j : Nat))) (hh : hi = lw + n - 1 := by decide) : x.toInt < lw ∨ hi < x.toInt := by
  rcases Int.lt_or_le x.toInt lw with a | a
  · exact Or.inl a
  · rcases Int.lt_or_le hi x.toInt with b | b
    · exact Or.inr b
    · refine absurd ?_ (h (x.toInt - lw).toNat (by omega))
      rw [show lw + ((x.toInt - lw).toNat : Nat) = x.toInt by omega, Int32.ofInt_toInt]
theorem m_R_wal {X : mX} {d : Nat} {m : mM} {a b : Int32} {q : Int32 × mM} (hc : (m_wd (m.1 115) 120 a b m_txt 0 a 1).map (fun r => (r, m)) = some q) : m_R X (d + 4) 126 0 [some (.ref 114), some (.int a), some (.int b), none, none, none, none, none] [] (SH, m) (some (.int q.1), (SH, q.2)) := by
  obtain ⟨r, h1, h2⟩ := Option.map_eq_some_iff.mp hc
  subst h2
  refine m_R_wa ?_
  simp only [m_wordAt, sh_114, sh_115, h1, Option.map_some]
