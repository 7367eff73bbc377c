def shp : Shp := [(0, 11, [4, 16, 20, 21, 0, 32, 36, 54, 55, 56, 60, 0, 93, 102, 0, 0, 103, 104]), (0, 8, [0, 0, 0, 5, 0]), (6, 10, [4, 5, 6, 7, 8, 9, 10, 11, 12, 13]), (0, 10, [0, 0, 0, 0, 0]), (0, 10, [0, 0, 0, 0, 0]), (0, 10, [0, 0, 0, 0, 0]), (0, 10, [0, 0, 0, 0, 0]), (0, 10, [0, 0, 0, 0, 0]), (0, 10, [0, 0, 0, 0, 0]), (0, 10, [0, 0, 0, 0, 0]), (0, 10, [0, 0, 0, 0, 0]), (0, 10, [0, 0, 0, 0, 0]), (0, 10, [0, 0, 0, 0, 0]), (0, 1, [4, 0, 0, 0, 0, 0, 0, 0, 17, 18, 19]), (1, 10, []), (1, 10, []), (1, 10, []), (1, 10, []), (7, 10, [20, 21, 22, 23, 24, 25, 26, 27, 28, 29]), (0, 6, [0, 0, 0, 0]), (0, 6, [0, 0, 0, 0]), (0, 6, [0, 0, 0, 0]), (0, 6, [0, 0, 0, 0]), (0, 6, [0, 0, 0, 0]), (0, 6, [0, 0, 0, 0]), (0, 6, [0, 0, 0, 0]), (0, 6, [0, 0, 0, 0]), (0, 6, [0, 0, 0, 0]), (0, 6, [0, 0, 0, 0]), (0, 3, [33, 0, 0, 0, 0, 0, 0, 0, 0, 0, 0, 0, 0, 0, 0, 34, 0, 35, 0]), (2, 400, []), (1, 40, []), (1, 400, []), (0, 0, [16, 37, 50, 51, 0, 52, 53, 0, 0, 0]), (8, 4, [36, 39, 42, 45]), (0, 5, [1, 40, 0]), (5, 0, []), (1, 32, []), (0, 5, [1, 43, 0]), (5, 0, []), (1, 32, []), (0, 5, [1, 46, 0]), (5, 0, []), (1, 32, []), (0, 5, [1, 49, 0]), (5, 0, []), (1, 32, []), (1, 20, []), (1, 20, []), (1, 6, []), (1, 4, []), (1, 6, []), (1, 8, []), (0, 7, [57, 58, 59, 0]), (1, 8, []), (1, 8, []), (1, 8, []), (9, 4, [59, 67, 75, 83]), (0, 9, [16, 20, 62, 0, 63, 67, 68, 0, 0, 0, 0, 0]), (1, 20, []), (0, 7, [64, 65, 66, 0]), (1, 10, []), (1, 10, []), (1, 10, []), (0, 6, [0, 0, 0, 0]), (1, 10, []), (0, 9, [16, 20, 70, 0, 71, 75, 76, 0, 0, 0, 0, 0]), (1, 20, []), (0, 7, [72, 73, 74, 0]), (1, 10, []), (1, 10, []), (1, 10, []), (0, 6, [0, 0, 0, 0]), (1, 10, []), (0, 9, [16, 20, 78, 0, 79, 83, 84, 0, 0, 0, 0, 0]), (1, 20, []), (0, 7, [80, 81, 82, 0]), (1, 10, []), (1, 10, []), (1, 10, []), (0, 6, [0, 0, 0, 0]), (1, 10, []), (0, 9, [16, 20, 86, 0, 87, 91, 92, 0, 0, 0, 0, 0]), (1, 20, []), (0, 7, [88, 89, 90, 0]), (1, 10, []), (1, 10, []), (1, 10, []), (0, 6, [0, 0, 0, 0]), (1, 10, []), (0, 2, [94, 97, 98, 99, 100, 0, 101]), (0, 5, [1, 96, 0]), (5, 0, []), (1, 32, []), (1, 20, []), (1, 20, []), (1, 20, []), (1, 20, []), (1, 4, []), (0, 6, [0, 0, 0, 0]), (1, 10, []), (0, 4, [4, 20, 105, 106]), (1, 100, []), (4, 100, []), (0, 12, [0, 0, 0, 0, 0, 0, 108, 109, 110, 111, 112, 113, 0, 114, 115, 116, 117, 0, 0, 0, 0, 0, 0, 118, 119, 120, 121, 0, 0, 0, 0, 0, 122, 123, 124, 125, 126, 127, 128, 0, 0, 0, 129, 0, 0, 0, 0, 0, 130, 131, 0, 132, 133, 134, 0, 135, 136, 137, 138, 139, 0, 0, 140, 141, 142, 0, 143, 144, 145, 146, 0, 0, 147, 148]), (3, 10, []), (1, 10, []), (1, 10, []), (1, 10, []), (1, 10, []), (1, 10, []), (1, 10, []), (1, 10, []), (1, 10, []), (1, 10, []), (1, 10, []), (1, 10, []), (1, 10, []), (1, 400, []), (1, 96, []), (1, 6, []), (1, 72, []), (1, 72, []), (1, 72, []), (1, 2400, []), (1, 2400, []), (1, 40, []), (1, 10, []), (1, 420, []), (1, 20, []), (1, 20, []), (1, 6, []), (1, 8, []), (1, 8, []), (1, 8, []), (1, 4, []), (1, 80, []), (1, 4, []), (1, 40, []), (1, 40, []), (1, 20, []), (1, 20, []), (1, 20, []), (1, 20, []), (1, 16, []), (1, 100, [])]
def Ext (L : Shp) : Prop := ∀ (a : Nat) (h : Nat × Nat × List Nat), shp[a]? = some h → L[a]? = some h
theorem sh_0 {L : Shp} (hL : Ext L) : L[0]? = some (0, 11, [4, 16, 20, 21, 0, 32, 36, 54, 55, 56, 60, 0, 93, 102, 0, 0, 103, 104]) := hL 0 _ rfl
theorem sh_1 {L : Shp} (hL : Ext L) : L[1]? = some (0, 8, [0, 0, 0, 5, 0]) := hL 1 _ rfl
theorem sh_2 {L : Shp} (hL : Ext L) : L[2]? = some (6, 10, [4, 5, 6, 7, 8, 9, 10, 11, 12, 13]) := hL 2 _ rfl
theorem sh_3 {L : Shp} (hL : Ext L) : L[3]? = some (0, 10, [0, 0, 0, 0, 0]) := hL 3 _ rfl
theorem sh_4 {L : Shp} (hL : Ext L) : L[4]? = some (0, 10, [0, 0, 0, 0, 0]) := hL 4 _ rfl
theorem sh_5 {L : Shp} (hL : Ext L) : L[5]? = some (0, 10, [0, 0, 0, 0, 0]) := hL 5 _ rfl
theorem sh_6 {L : Shp} (hL : Ext L) : L[6]? = some (0, 10, [0, 0, 0, 0, 0]) := hL 6 _ rfl
theorem sh_7 {L : Shp} (hL : Ext L) : L[7]? = some (0, 10, [0, 0, 0, 0, 0]) := hL 7 _ rfl
theorem sh_8 {L : Shp} (hL : Ext L) : L[8]? = some (0, 10, [0, 0, 0, 0, 0]) := hL 8 _ rfl
theorem sh_9 {L : Shp} (hL : Ext L) : L[9]? = some (0, 10, [0, 0, 0, 0, 0]) := hL 9 _ rfl
theorem sh_10 {L : Shp} (hL : Ext L) : L[10]? = some (0, 10, [0, 0, 0, 0, 0]) := hL 10 _ rfl
theorem sh_11 {L : Shp} (hL : Ext L) : L[11]? = some (0, 10, [0, 0, 0, 0, 0]) := hL 11 _ rfl
theorem sh_12 {L : Shp} (hL : Ext L) : L[12]? = some (0, 10, [0, 0, 0, 0, 0]) := hL 12 _ rfl
theorem sh_13 {L : Shp} (hL : Ext L) : L[13]? = some (0, 1, [4, 0, 0, 0, 0, 0, 0, 0, 17, 18, 19]) := hL 13 _ rfl
theorem sh_14 {L : Shp} (hL : Ext L) : L[14]? = some (1, 10, []) := hL 14 _ rfl
theorem sh_15 {L : Shp} (hL : Ext L) : L[15]? = some (1, 10, []) := hL 15 _ rfl
theorem sh_16 {L : Shp} (hL : Ext L) : L[16]? = some (1, 10, []) := hL 16 _ rfl
theorem sh_17 {L : Shp} (hL : Ext L) : L[17]? = some (1, 10, []) := hL 17 _ rfl
theorem sh_18 {L : Shp} (hL : Ext L) : L[18]? = some (7, 10, [20, 21, 22, 23, 24, 25, 26, 27, 28, 29]) := hL 18 _ rfl
theorem sh_19 {L : Shp} (hL : Ext L) : L[19]? = some (0, 6, [0, 0, 0, 0]) := hL 19 _ rfl
theorem sh_20 {L : Shp} (hL : Ext L) : L[20]? = some (0, 6, [0, 0, 0, 0]) := hL 20 _ rfl
theorem sh_21 {L : Shp} (hL : Ext L) : L[21]? = some (0, 6, [0, 0, 0, 0]) := hL 21 _ rfl
theorem sh_22 {L : Shp} (hL : Ext L) : L[22]? = some (0, 6, [0, 0, 0, 0]) := hL 22 _ rfl
theorem sh_23 {L : Shp} (hL : Ext L) : L[23]? = some (0, 6, [0, 0, 0, 0]) := hL 23 _ rfl
theorem sh_24 {L : Shp} (hL : Ext L) : L[24]? = some (0, 6, [0, 0, 0, 0]) := hL 24 _ rfl
theorem sh_25 {L : Shp} (hL : Ext L) : L[25]? = some (0, 6, [0, 0, 0, 0]) := hL 25 _ rfl
theorem sh_26 {L : Shp} (hL : Ext L) : L[26]? = some (0, 6, [0, 0, 0, 0]) := hL 26 _ rfl
theorem sh_27 {L : Shp} (hL : Ext L) : L[27]? = some (0, 6, [0, 0, 0, 0]) := hL 27 _ rfl
theorem sh_28 {L : Shp} (hL : Ext L) : L[28]? = some (0, 6, [0, 0, 0, 0]) := hL 28 _ rfl
theorem sh_29 {L : Shp} (hL : Ext L) : L[29]? = some (0, 3, [33, 0, 0, 0, 0, 0, 0, 0, 0, 0, 0, 0, 0, 0, 0, 34, 0, 35, 0]) := hL 29 _ rfl
theorem sh_30 {L : Shp} (hL : Ext L) : L[30]? = some (2, 400, []) := hL 30 _ rfl
theorem sh_31 {L : Shp} (hL : Ext L) : L[31]? = some (1, 40, []) := hL 31 _ rfl
theorem sh_32 {L : Shp} (hL : Ext L) : L[32]? = some (1, 400, []) := hL 32 _ rfl
theorem sh_33 {L : Shp} (hL : Ext L) : L[33]? = some (0, 0, [16, 37, 50, 51, 0, 52, 53, 0, 0, 0]) := hL 33 _ rfl
theorem sh_34 {L : Shp} (hL : Ext L) : L[34]? = some (8, 4, [36, 39, 42, 45]) := hL 34 _ rfl
theorem sh_35 {L : Shp} (hL : Ext L) : L[35]? = some (0, 5, [1, 40, 0]) := hL 35 _ rfl
theorem sh_36 {L : Shp} (hL : Ext L) : L[36]? = some (5, 0, []) := hL 36 _ rfl
theorem sh_37 {L : Shp} (hL : Ext L) : L[37]? = some (1, 32, []) := hL 37 _ rfl
theorem sh_38 {L : Shp} (hL : Ext L) : L[38]? = some (0, 5, [1, 43, 0]) := hL 38 _ rfl
theorem sh_39 {L : Shp} (hL : Ext L) : L[39]? = some (5, 0, []) := hL 39 _ rfl
theorem sh_40 {L : Shp} (hL : Ext L) : L[40]? = some (1, 32, []) := hL 40 _ rfl
theorem sh_41 {L : Shp} (hL : Ext L) : L[41]? = some (0, 5, [1, 46, 0]) := hL 41 _ rfl
theorem sh_42 {L : Shp} (hL : Ext L) : L[42]? = some (5, 0, []) := hL 42 _ rfl
theorem sh_43 {L : Shp} (hL : Ext L) : L[43]? = some (1, 32, []) := hL 43 _ rfl
theorem sh_44 {L : Shp} (hL : Ext L) : L[44]? = some (0, 5, [1, 49, 0]) := hL 44 _ rfl
theorem sh_45 {L : Shp} (hL : Ext L) : L[45]? = some (5, 0, []) := hL 45 _ rfl
theorem sh_46 {L : Shp} (hL : Ext L) : L[46]? = some (1, 32, []) := hL 46 _ rfl
theorem sh_47 {L : Shp} (hL : Ext L) : L[47]? = some (1, 20, []) := hL 47 _ rfl
theorem sh_48 {L : Shp} (hL : Ext L) : L[48]? = some (1, 20, []) := hL 48 _ rfl
theorem sh_49 {L : Shp} (hL : Ext L) : L[49]? = some (1, 6, []) := hL 49 _ rfl
theorem sh_50 {L : Shp} (hL : Ext L) : L[50]? = some (1, 4, []) := hL 50 _ rfl
theorem sh_51 {L : Shp} (hL : Ext L) : L[51]? = some (1, 6, []) := hL 51 _ rfl
theorem sh_52 {L : Shp} (hL : Ext L) : L[52]? = some (1, 8, []) := hL 52 _ rfl
theorem sh_53 {L : Shp} (hL : Ext L) : L[53]? = some (0, 7, [57, 58, 59, 0]) := hL 53 _ rfl
theorem sh_54 {L : Shp} (hL : Ext L) : L[54]? = some (1, 8, []) := hL 54 _ rfl
theorem sh_55 {L : Shp} (hL : Ext L) : L[55]? = some (1, 8, []) := hL 55 _ rfl
theorem sh_56 {L : Shp} (hL : Ext L) : L[56]? = some (1, 8, []) := hL 56 _ rfl
theorem sh_57 {L : Shp} (hL : Ext L) : L[57]? = some (9, 4, [59, 67, 75, 83]) := hL 57 _ rfl
theorem sh_58 {L : Shp} (hL : Ext L) : L[58]? = some (0, 9, [16, 20, 62, 0, 63, 67, 68, 0, 0, 0, 0, 0]) := hL 58 _ rfl
theorem sh_59 {L : Shp} (hL : Ext L) : L[59]? = some (1, 20, []) := hL 59 _ rfl
theorem sh_60 {L : Shp} (hL : Ext L) : L[60]? = some (0, 7, [64, 65, 66, 0]) := hL 60 _ rfl
theorem sh_61 {L : Shp} (hL : Ext L) : L[61]? = some (1, 10, []) := hL 61 _ rfl
theorem sh_62 {L : Shp} (hL : Ext L) : L[62]? = some (1, 10, []) := hL 62 _ rfl
theorem sh_63 {L : Shp} (hL : Ext L) : L[63]? = some (1, 10, []) := hL 63 _ rfl
theorem sh_64 {L : Shp} (hL : Ext L) : L[64]? = some (0, 6, [0, 0, 0, 0]) := hL 64 _ rfl
theorem sh_65 {L : Shp} (hL : Ext L) : L[65]? = some (1, 10, []) := hL 65 _ rfl
theorem sh_66 {L : Shp} (hL : Ext L) : L[66]? = some (0, 9, [16, 20, 70, 0, 71, 75, 76, 0, 0, 0, 0, 0]) := hL 66 _ rfl
theorem sh_67 {L : Shp} (hL : Ext L) : L[67]? = some (1, 20, []) := hL 67 _ rfl
theorem sh_68 {L : Shp} (hL : Ext L) : L[68]? = some (0, 7, [72, 73, 74, 0]) := hL 68 _ rfl
theorem sh_69 {L : Shp} (hL : Ext L) : L[69]? = some (1, 10, []) := hL 69 _ rfl
theorem sh_70 {L : Shp} (hL : Ext L) : L[70]? = some (1, 10, []) := hL 70 _ rfl
theorem sh_71 {L : Shp} (hL : Ext L) : L[71]? = some (1, 10, []) := hL 71 _ rfl
theorem sh_72 {L : Shp} (hL : Ext L) : L[72]? = some (0, 6, [0, 0, 0, 0]) := hL 72 _ rfl
theorem sh_73 {L : Shp} (hL : Ext L) : L[73]? = some (1, 10, []) := hL 73 _ rfl
theorem sh_74 {L : Shp} (hL : Ext L) : L[74]? = some (0, 9, [16, 20, 78, 0, 79, 83, 84, 0, 0, 0, 0, 0]) := hL 74 _ rfl
theorem sh_75 {L : Shp} (hL : Ext L) : L[75]? = some (1, 20, []) := hL 75 _ rfl
theorem sh_76 {L : Shp} (hL : Ext L) : L[76]? = some (0, 7, [80, 81, 82, 0]) := hL 76 _ rfl
theorem sh_77 {L : Shp} (hL : Ext L) : L[77]? = some (1, 10, []) := hL 77 _ rfl
theorem sh_78 {L : Shp} (hL : Ext L) : L[78]? = some (1, 10, []) := hL 78 _ rfl
theorem sh_79 {L : Shp} (hL : Ext L) : L[79]? = some (1, 10, []) := hL 79 _ rfl
theorem sh_80 {L : Shp} (hL : Ext L) : L[80]? = some (0, 6, [0, 0, 0, 0]) := hL 80 _ rfl
theorem sh_81 {L : Shp} (hL : Ext L) : L[81]? = some (1, 10, []) := hL 81 _ rfl
theorem sh_82 {L : Shp} (hL : Ext L) : L[82]? = some (0, 9, [16, 20, 86, 0, 87, 91, 92, 0, 0, 0, 0, 0]) := hL 82 _ rfl
theorem sh_83 {L : Shp} (hL : Ext L) : L[83]? = some (1, 20, []) := hL 83 _ rfl
theorem sh_84 {L : Shp} (hL : Ext L) : L[84]? = some (0, 7, [88, 89, 90, 0]) := hL 84 _ rfl
theorem sh_85 {L : Shp} (hL : Ext L) : L[85]? = some (1, 10, []) := hL 85 _ rfl
theorem sh_86 {L : Shp} (hL : Ext L) : L[86]? = some (1, 10, []) := hL 86 _ rfl
theorem sh_87 {L : Shp} (hL : Ext L) : L[87]? = some (1, 10, []) := hL 87 _ rfl
theorem sh_88 {L : Shp} (hL : Ext L) : L[88]? = some (0, 6, [0, 0, 0, 0]) := hL 88 _ rfl
theorem sh_89 {L : Shp} (hL : Ext L) : L[89]? = some (1, 10, []) := hL 89 _ rfl
theorem sh_90 {L : Shp} (hL : Ext L) : L[90]? = some (0, 2, [94, 97, 98, 99, 100, 0, 101]) := hL 90 _ rfl
theorem sh_91 {L : Shp} (hL : Ext L) : L[91]? = some (0, 5, [1, 96, 0]) := hL 91 _ rfl
theorem sh_92 {L : Shp} (hL : Ext L) : L[92]? = some (5, 0, []) := hL 92 _ rfl
theorem sh_93 {L : Shp} (hL : Ext L) : L[93]? = some (1, 32, []) := hL 93 _ rfl
theorem sh_94 {L : Shp} (hL : Ext L) : L[94]? = some (1, 20, []) := hL 94 _ rfl
theorem sh_95 {L : Shp} (hL : Ext L) : L[95]? = some (1, 20, []) := hL 95 _ rfl
theorem sh_96 {L : Shp} (hL : Ext L) : L[96]? = some (1, 20, []) := hL 96 _ rfl
theorem sh_97 {L : Shp} (hL : Ext L) : L[97]? = some (1, 20, []) := hL 97 _ rfl
theorem sh_98 {L : Shp} (hL : Ext L) : L[98]? = some (1, 4, []) := hL 98 _ rfl
theorem sh_99 {L : Shp} (hL : Ext L) : L[99]? = some (0, 6, [0, 0, 0, 0]) := hL 99 _ rfl
theorem sh_100 {L : Shp} (hL : Ext L) : L[100]? = some (1, 10, []) := hL 100 _ rfl
theorem sh_101 {L : Shp} (hL : Ext L) : L[101]? = some (0, 4, [4, 20, 105, 106]) := hL 101 _ rfl
theorem sh_102 {L : Shp} (hL : Ext L) : L[102]? = some (1, 100, []) := hL 102 _ rfl
theorem sh_103 {L : Shp} (hL : Ext L) : L[103]? = some (4, 100, []) := hL 103 _ rfl
theorem sh_104 {L : Shp} (hL : Ext L) : L[104]? = some (0, 12, [0, 0, 0, 0, 0, 0, 108, 109, 110, 111, 112, 113, 0, 114, 115, 116, 117, 0, 0, 0, 0, 0, 0, 118, 119, 120, 121, 0, 0, 0, 0, 0, 122, 123, 124, 125, 126, 127, 128, 0, 0, 0, 129, 0, 0, 0, 0, 0, 130, 131, 0, 132, 133, 134, 0, 135, 136, 137, 138, 139, 0, 0, 140, 141, 142, 0, 143, 144, 145, 146, 0, 0, 147, 148]) := hL 104 _ rfl
theorem sh_105 {L : Shp} (hL : Ext L) : L[105]? = some (3, 10, []) := hL 105 _ rfl
theorem sh_106 {L : Shp} (hL : Ext L) : L[106]? = some (1, 10, []) := hL 106 _ rfl
theorem sh_107 {L : Shp} (hL : Ext L) : L[107]? = some (1, 10, []) := hL 107 _ rfl
theorem sh_108 {L : Shp} (hL : Ext L) : L[108]? = some (1, 10, []) := hL 108 _ rfl
theorem sh_109 {L : Shp} (hL : Ext L) : L[109]? = some (1, 10, []) := hL 109 _ rfl
theorem sh_110 {L : Shp} (hL : Ext L) : L[110]? = some (1, 10, []) := hL 110 _ rfl
theorem sh_111 {L : Shp} (hL : Ext L) : L[111]? = some (1, 10, []) := hL 111 _ rfl
theorem sh_112 {L : Shp} (hL : Ext L) : L[112]? = some (1, 10, []) := hL 112 _ rfl
theorem sh_113 {L : Shp} (hL : Ext L) : L[113]? = some (1, 10, []) := hL 113 _ rfl
theorem sh_114 {L : Shp} (hL : Ext L) : L[114]? = some (1, 10, []) := hL 114 _ rfl
theorem sh_115 {L : Shp} (hL : Ext L) : L[115]? = some (1, 10, []) := hL 115 _ rfl
theorem sh_116 {L : Shp} (hL : Ext L) : L[116]? = some (1, 10, []) := hL 116 _ rfl
theorem sh_117 {L : Shp} (hL : Ext L) : L[117]? = some (1, 10, []) := hL 117 _ rfl
theorem sh_118 {L : Shp} (hL : Ext L) : L[118]? = some (1, 400, []) := hL 118 _ rfl
theorem sh_119 {L : Shp} (hL : Ext L) : L[119]? = some (1, 96, []) := hL 119 _ rfl
theorem sh_120 {L : Shp} (hL : Ext L) : L[120]? = some (1, 6, []) := hL 120 _ rfl
theorem sh_121 {L : Shp} (hL : Ext L) : L[121]? = some (1, 72, []) := hL 121 _ rfl
theorem sh_122 {L : Shp} (hL : Ext L) : L[122]? = some (1, 72, []) := hL 122 _ rfl
theorem sh_123 {L : Shp} (hL : Ext L) : L[123]? = some (1, 72, []) := hL 123 _ rfl
theorem sh_124 {L : Shp} (hL : Ext L) : L[124]? = some (1, 2400, []) := hL 124 _ rfl
theorem sh_125 {L : Shp} (hL : Ext L) : L[125]? = some (1, 2400, []) := hL 125 _ rfl
theorem sh_126 {L : Shp} (hL : Ext L) : L[126]? = some (1, 40, []) := hL 126 _ rfl
theorem sh_127 {L : Shp} (hL : Ext L) : L[127]? = some (1, 10, []) := hL 127 _ rfl
theorem sh_128 {L : Shp} (hL : Ext L) : L[128]? = some (1, 420, []) := hL 128 _ rfl
theorem sh_129 {L : Shp} (hL : Ext L) : L[129]? = some (1, 20, []) := hL 129 _ rfl
theorem sh_130 {L : Shp} (hL : Ext L) : L[130]? = some (1, 20, []) := hL 130 _ rfl
theorem sh_131 {L : Shp} (hL : Ext L) : L[131]? = some (1, 6, []) := hL 131 _ rfl
theorem sh_132 {L : Shp} (hL : Ext L) : L[132]? = some (1, 8, []) := hL 132 _ rfl
theorem sh_133 {L : Shp} (hL : Ext L) : L[133]? = some (1, 8, []) := hL 133 _ rfl
theorem sh_134 {L : Shp} (hL : Ext L) : L[134]? = some (1, 8, []) := hL 134 _ rfl
theorem sh_135 {L : Shp} (hL : Ext L) : L[135]? = some (1, 4, []) := hL 135 _ rfl
theorem sh_136 {L : Shp} (hL : Ext L) : L[136]? = some (1, 80, []) := hL 136 _ rfl
theorem sh_137 {L : Shp} (hL : Ext L) : L[137]? = some (1, 4, []) := hL 137 _ rfl
theorem sh_138 {L : Shp} (hL : Ext L) : L[138]? = some (1, 40, []) := hL 138 _ rfl
theorem sh_139 {L : Shp} (hL : Ext L) : L[139]? = some (1, 40, []) := hL 139 _ rfl
theorem sh_140 {L : Shp} (hL : Ext L) : L[140]? = some (1, 20, []) := hL 140 _ rfl
theorem sh_141 {L : Shp} (hL : Ext L) : L[141]? = some (1, 20, []) := hL 141 _ rfl
theorem sh_142 {L : Shp} (hL : Ext L) : L[142]? = some (1, 20, []) := hL 142 _ rfl
theorem sh_143 {L : Shp} (hL : Ext L) : L[143]? = some (1, 20, []) := hL 143 _ rfl
theorem sh_144 {L : Shp} (hL : Ext L) : L[144]? = some (1, 16, []) := hL 144 _ rfl
theorem sh_145 {L : Shp} (hL : Ext L) : L[145]? = some (1, 100, []) := hL 145 _ rfl
def isWall (L : Shp) (a : Nat) : Prop := L[a]? = some (0, 10, [0, 0, 0, 0, 0])
def isShot (L : Shp) (a : Nat) : Prop := L[a]? = some (0, 6, [0, 0, 0, 0])
def isSpans (L : Shp) (a m : Nat) : Prop := L[a]? = some (0, 7, [a + 1 + 3, a + 2 + 3, a + 3 + 3, 0]) ∧ L[a + 1]? = some (1, m, []) ∧ L[a + 2]? = some (1, m, []) ∧ L[a + 3]? = some (1, m, [])
def isScript (L : Shp) (a : Nat) : Prop := L[a]? = some (0, 5, [1, a + 2 + 3, 0]) ∧ L[a + 2]? = some (1, 32, [])
def isTape (L : Shp) (a : Nat) : Prop := L[a]? = some (0, 9, [13 + 3, 17 + 3, a + 1 + 3, 0, a + 2 + 3, a + 6 + 3, a + 7 + 3, 0, 0, 0, 0, 0]) ∧ L[a + 1]? = some (1, 20, []) ∧ isSpans L (a + 2) 10 ∧ isShot L (a + 6) ∧ L[a + 7]? = some (1, 10, [])
def isInts (L : Shp) (a m : Nat) : Prop := L[a]? = some (1, m, [])
theorem wall_at {L : Shp} (hL : Ext L) {j : Nat} (h : j < 10) : isWall L (3 + 1 * j) := by
  have : j = 0 ∨ j = 1 ∨ j = 2 ∨ j = 3 ∨ j = 4 ∨ j = 5 ∨ j = 6 ∨ j = 7 ∨ j = 8 ∨ j = 9 := by omega
  rcases this with rfl | rfl | rfl | rfl | rfl | rfl | rfl | rfl | rfl | rfl <;> exact hL _ _ rfl
theorem shot_at {L : Shp} (hL : Ext L) {j : Nat} (h : j < 10) : isShot L (19 + 1 * j) := by
  have : j = 0 ∨ j = 1 ∨ j = 2 ∨ j = 3 ∨ j = 4 ∨ j = 5 ∨ j = 6 ∨ j = 7 ∨ j = 8 ∨ j = 9 := by omega
  rcases this with rfl | rfl | rfl | rfl | rfl | rfl | rfl | rfl | rfl | rfl <;> exact hL _ _ rfl
theorem law_at {L : Shp} (hL : Ext L) {j : Nat} (h : j < 4) : isScript L (35 + 3 * j) := by
  have : j = 0 ∨ j = 1 ∨ j = 2 ∨ j = 3 := by omega
  rcases this with rfl | rfl | rfl | rfl <;> exact ⟨hL _ _ rfl, hL _ _ rfl⟩
theorem tape_at {L : Shp} (hL : Ext L) {j : Nat} (h : j < 4) : isTape L (58 + 8 * j) := by
  have : j = 0 ∨ j = 1 ∨ j = 2 ∨ j = 3 := by omega
  rcases this with rfl | rfl | rfl | rfl <;> exact ⟨hL _ _ rfl, hL _ _ rfl, ⟨hL _ _ rfl, hL _ _ rfl, hL _ _ rfl, hL _ _ rfl⟩, hL _ _ rfl, hL _ _ rfl⟩
theorem trial_at {L : Shp} (hL : Ext L) : isShot L 99 := hL _ _ rfl
theorem rules_at {L : Shp} (hL : Ext L) : isScript L 91 := ⟨hL _ _ rfl, hL _ _ rfl⟩
theorem ears_at {L : Shp} (hL : Ext L) : isSpans L 53 8 := ⟨hL _ _ rfl, hL _ _ rfl, hL _ _ rfl, hL _ _ rfl⟩
theorem ic_m1 : Int32.ofInt (-1) = (-1) := by decide
theorem ic_0 : Int32.ofInt 0 = 0 := by decide
theorem ic_1 : Int32.ofInt 1 = 1 := by decide
theorem ic_2 : Int32.ofInt 2 = 2 := by decide
theorem ic_3 : Int32.ofInt 3 = 3 := by decide
theorem ic_4 : Int32.ofInt 4 = 4 := by decide
theorem ic_5 : Int32.ofInt 5 = 5 := by decide
theorem bp_m9 : (Int8.ofInt (-9)).toInt32 = (-9) := by decide
theorem bp_6 : (Int8.ofInt 6).toInt32 = 6 := by decide
theorem bp_7 : (Int8.ofInt 7).toInt32 = 7 := by decide
theorem bp_8 : (Int8.ofInt 8).toInt32 = 8 := by decide
theorem bp_9 : (Int8.ofInt 9).toInt32 = 9 := by decide
theorem bp_10 : (Int8.ofInt 10).toInt32 = 10 := by decide
theorem bp_11 : (Int8.ofInt 11).toInt32 = 11 := by decide
theorem bp_12 : (Int8.ofInt 12).toInt32 = 12 := by decide
theorem bp_13 : (Int8.ofInt 13).toInt32 = 13 := by decide
theorem bp_14 : (Int8.ofInt 14).toInt32 = 14 := by decide
theorem bp_15 : (Int8.ofInt 15).toInt32 = 15 := by decide
theorem bp_16 : (Int8.ofInt 16).toInt32 = 16 := by decide
theorem bp_17 : (Int8.ofInt 17).toInt32 = 17 := by decide
theorem bp_18 : (Int8.ofInt 18).toInt32 = 18 := by decide
theorem bp_19 : (Int8.ofInt 19).toInt32 = 19 := by decide
theorem bp_20 : (Int8.ofInt 20).toInt32 = 20 := by decide
theorem bp_21 : (Int8.ofInt 21).toInt32 = 21 := by decide
theorem bp_22 : (Int8.ofInt 22).toInt32 = 22 := by decide
theorem bp_23 : (Int8.ofInt 23).toInt32 = 23 := by decide
theorem bp_24 : (Int8.ofInt 24).toInt32 = 24 := by decide
theorem bp_25 : (Int8.ofInt 25).toInt32 = 25 := by decide
theorem bp_26 : (Int8.ofInt 26).toInt32 = 26 := by decide
theorem bp_27 : (Int8.ofInt 27).toInt32 = 27 := by decide
theorem bp_28 : (Int8.ofInt 28).toInt32 = 28 := by decide
theorem bp_29 : (Int8.ofInt 29).toInt32 = 29 := by decide
theorem bp_30 : (Int8.ofInt 30).toInt32 = 30 := by decide
theorem bp_31 : (Int8.ofInt 31).toInt32 = 31 := by decide
theorem bp_32 : (Int8.ofInt 32).toInt32 = 32 := by decide
theorem bp_33 : (Int8.ofInt 33).toInt32 = 33 := by decide
theorem bp_34 : (Int8.ofInt 34).toInt32 = 34 := by decide
theorem bp_35 : (Int8.ofInt 35).toInt32 = 35 := by decide
theorem bp_36 : (Int8.ofInt 36).toInt32 = 36 := by decide
theorem bp_37 : (Int8.ofInt 37).toInt32 = 37 := by decide
theorem bp_38 : (Int8.ofInt 38).toInt32 = 38 := by decide
theorem bp_39 : (Int8.ofInt 39).toInt32 = 39 := by decide
theorem bp_40 : (Int8.ofInt 40).toInt32 = 40 := by decide
theorem bp_41 : (Int8.ofInt 41).toInt32 = 41 := by decide
theorem bp_42 : (Int8.ofInt 42).toInt32 = 42 := by decide
theorem bp_43 : (Int8.ofInt 43).toInt32 = 43 := by decide
theorem bp_44 : (Int8.ofInt 44).toInt32 = 44 := by decide
theorem bp_45 : (Int8.ofInt 45).toInt32 = 45 := by decide
theorem bp_46 : (Int8.ofInt 46).toInt32 = 46 := by decide
theorem bp_47 : (Int8.ofInt 47).toInt32 = 47 := by decide
theorem bp_48 : (Int8.ofInt 48).toInt32 = 48 := by decide
theorem bp_49 : (Int8.ofInt 49).toInt32 = 49 := by decide
theorem bp_50 : (Int8.ofInt 50).toInt32 = 50 := by decide
theorem bp_51 : (Int8.ofInt 51).toInt32 = 51 := by decide
theorem bp_52 : (Int8.ofInt 52).toInt32 = 52 := by decide
theorem bp_53 : (Int8.ofInt 53).toInt32 = 53 := by decide
theorem bp_54 : (Int8.ofInt 54).toInt32 = 54 := by decide
theorem bp_55 : (Int8.ofInt 55).toInt32 = 55 := by decide
theorem bp_56 : (Int8.ofInt 56).toInt32 = 56 := by decide
theorem bp_57 : (Int8.ofInt 57).toInt32 = 57 := by decide
theorem bp_58 : (Int8.ofInt 58).toInt32 = 58 := by decide
theorem bp_59 : (Int8.ofInt 59).toInt32 = 59 := by decide
theorem bp_60 : (Int8.ofInt 60).toInt32 = 60 := by decide
theorem bp_61 : (Int8.ofInt 61).toInt32 = 61 := by decide
theorem bp_62 : (Int8.ofInt 62).toInt32 = 62 := by decide
theorem bp_63 : (Int8.ofInt 63).toInt32 = 63 := by decide
theorem bp_64 : (Int8.ofInt 64).toInt32 = 64 := by decide
theorem bp_65 : (Int8.ofInt 65).toInt32 = 65 := by decide
theorem bp_66 : (Int8.ofInt 66).toInt32 = 66 := by decide
theorem bp_67 : (Int8.ofInt 67).toInt32 = 67 := by decide
theorem bp_68 : (Int8.ofInt 68).toInt32 = 68 := by decide
theorem bp_69 : (Int8.ofInt 69).toInt32 = 69 := by decide
theorem bp_70 : (Int8.ofInt 70).toInt32 = 70 := by decide
theorem bp_71 : (Int8.ofInt 71).toInt32 = 71 := by decide
theorem bp_72 : (Int8.ofInt 72).toInt32 = 72 := by decide
theorem bp_73 : (Int8.ofInt 73).toInt32 = 73 := by decide
theorem bp_74 : (Int8.ofInt 74).toInt32 = 74 := by decide
theorem bp_75 : (Int8.ofInt 75).toInt32 = 75 := by decide
theorem bp_76 : (Int8.ofInt 76).toInt32 = 76 := by decide
theorem bp_77 : (Int8.ofInt 77).toInt32 = 77 := by decide
theorem bp_78 : (Int8.ofInt 78).toInt32 = 78 := by decide
theorem bp_79 : (Int8.ofInt 79).toInt32 = 79 := by decide
theorem bp_80 : (Int8.ofInt 80).toInt32 = 80 := by decide
theorem bp_81 : (Int8.ofInt 81).toInt32 = 81 := by decide
theorem bp_82 : (Int8.ofInt 82).toInt32 = 82 := by decide
theorem bp_83 : (Int8.ofInt 83).toInt32 = 83 := by decide
theorem bp_84 : (Int8.ofInt 84).toInt32 = 84 := by decide
theorem bp_85 : (Int8.ofInt 85).toInt32 = 85 := by decide
theorem bp_86 : (Int8.ofInt 86).toInt32 = 86 := by decide
theorem bp_87 : (Int8.ofInt 87).toInt32 = 87 := by decide
theorem bp_88 : (Int8.ofInt 88).toInt32 = 88 := by decide
theorem bp_89 : (Int8.ofInt 89).toInt32 = 89 := by decide
theorem bp_90 : (Int8.ofInt 90).toInt32 = 90 := by decide
theorem bp_91 : (Int8.ofInt 91).toInt32 = 91 := by decide
theorem bp_92 : (Int8.ofInt 92).toInt32 = 92 := by decide
theorem bp_93 : (Int8.ofInt 93).toInt32 = 93 := by decide
theorem bp_94 : (Int8.ofInt 94).toInt32 = 94 := by decide
theorem bp_95 : (Int8.ofInt 95).toInt32 = 95 := by decide
theorem bp_96 : (Int8.ofInt 96).toInt32 = 96 := by decide
theorem bp_97 : (Int8.ofInt 97).toInt32 = 97 := by decide
theorem bp_98 : (Int8.ofInt 98).toInt32 = 98 := by decide
theorem bp_99 : (Int8.ofInt 99).toInt32 = 99 := by decide
theorem bp_100 : (Int8.ofInt 100).toInt32 = 100 := by decide
theorem bp_101 : (Int8.ofInt 101).toInt32 = 101 := by decide
theorem bp_103 : (Int8.ofInt 103).toInt32 = 103 := by decide
theorem bp_104 : (Int8.ofInt 104).toInt32 = 104 := by decide
theorem bp_105 : (Int8.ofInt 105).toInt32 = 105 := by decide
theorem bp_107 : (Int8.ofInt 107).toInt32 = 107 := by decide
theorem bp_108 : (Int8.ofInt 108).toInt32 = 108 := by decide
theorem bp_110 : (Int8.ofInt 110).toInt32 = 110 := by decide
theorem bp_111 : (Int8.ofInt 111).toInt32 = 111 := by decide
theorem bp_112 : (Int8.ofInt 112).toInt32 = 112 := by decide
theorem bp_114 : (Int8.ofInt 114).toInt32 = 114 := by decide
theorem bp_115 : (Int8.ofInt 115).toInt32 = 115 := by decide
theorem bp_116 : (Int8.ofInt 116).toInt32 = 116 := by decide
theorem bp_117 : (Int8.ofInt 117).toInt32 = 117 := by decide
theorem bp_119 : (Int8.ofInt 119).toInt32 = 119 := by decide
theorem bp_122 : (Int8.ofInt 122).toInt32 = 122 := by decide
theorem bp_127 : (Int8.ofInt 127).toInt32 = 127 := by decide
theorem sp_128 : (Int16.ofInt 128).toInt32 = 128 := by decide
theorem sp_255 : (Int16.ofInt 255).toInt32 = 255 := by decide
theorem sp_380 : (Int16.ofInt 380).toInt32 = 380 := by decide
theorem sp_400 : (Int16.ofInt 400).toInt32 = 400 := by decide
theorem sp_420 : (Int16.ofInt 420).toInt32 = 420 := by decide
theorem sp_512 : (Int16.ofInt 512).toInt32 = 512 := by decide
theorem sp_999 : (Int16.ofInt 999).toInt32 = 999 := by decide
theorem sp_1023 : (Int16.ofInt 1023).toInt32 = 1023 := by decide
theorem sp_1024 : (Int16.ofInt 1024).toInt32 = 1024 := by decide
theorem sp_2000 : (Int16.ofInt 2000).toInt32 = 2000 := by decide
theorem sp_2400 : (Int16.ofInt 2400).toInt32 = 2400 := by decide
theorem sp_3599 : (Int16.ofInt 3599).toInt32 = 3599 := by decide
theorem sp_3600 : (Int16.ofInt 3600).toInt32 = 3600 := by decide
theorem sp_9999 : (Int16.ofInt 9999).toInt32 = 9999 := by decide
theorem sp_10000 : (Int16.ofInt 10000).toInt32 = 10000 := by decide
def Y_B_init : Ym := (⟨"BangSquare", "<init>", "()V"⟩, prog_1_method_1_code, 2, none, { frames := 3, cells := 103, slots := 1945, locals := 65 })
def Y_Sq_init : Ym := (⟨"BangSquare$Square", "<init>", "()V"⟩, prog_10_method_1_code, 2, none, { frames := 2, cells := 11, slots := 60, locals := 40 })
def Y_Wl_init : Ym := (⟨"BangSquare$Wall", "<init>", "()V"⟩, prog_12_method_1_code, 1, none, { frames := 1, cells := 0, slots := 0, locals := 20 })
def Y_Hd_init : Ym := (⟨"BangSquare$Heard", "<init>", "(LBangSquare$Square;)V"⟩, prog_3_method_1_code, 2, none, { frames := 1, cells := 3, slots := 30, locals := 20 })
def Y_Ar_fill : Ym := (⟨"java/util/Arrays", "fill", "([II)V"⟩, prog_24_method_103_code, 4, none, { frames := 0, cells := 0, slots := 0, locals := 0 })
def Y_Sh_init : Ym := (⟨"BangSquare$Shot", "<init>", "()V"⟩, prog_8_method_1_code, 1, none, { frames := 1, cells := 0, slots := 0, locals := 20 })
def Y_Rd_init : Ym := (⟨"BangSquare$Reader", "<init>", "()V"⟩, prog_5_method_1_code, 1, none, { frames := 1, cells := 3, slots := 840, locals := 20 })
def Y_Cw_init : Ym := (⟨"BangSquare$Crowd", "<init>", "(LBangSquare$Heard;)V"⟩, prog_2_method_1_code, 3, none, { frames := 2, cells := 17, slots := 194, locals := 40 })
def Y_Sc_init : Ym := (⟨"BangSquare$Script", "<init>", "()V"⟩, prog_7_method_1_code, 1, none, { frames := 1, cells := 2, slots := 32, locals := 20 })
def Y_Sp_init : Ym := (⟨"BangSquare$Spans", "<init>", "(I)V"⟩, prog_9_method_1_code, 3, none, { frames := 1, cells := 3, slots := 30, locals := 21 })
def Y_Ma_max : Ym := (⟨"java/lang/Math", "max", "(II)I"⟩, prog_19_method_65_code, 2, some .int, { frames := 0, cells := 0, slots := 0, locals := 0 })
def Y_Tp_init : Ym := (⟨"BangSquare$Tape", "<init>", "(LBangSquare$Heard;[I)V"⟩, prog_11_method_1_code, 3, none, { frames := 2, cells := 7, slots := 68, locals := 43 })
def Y_Ns_init : Ym := (⟨"BangSquare$Noises", "<init>", "()V"⟩, prog_4_method_1_code, 1, none, { frames := 2, cells := 8, slots := 119, locals := 40 })
def Y_Rf_init : Ym := (⟨"BangSquare$Roofs", "<init>", "(LBangSquare$Square;[I)V"⟩, prog_6_method_1_code, 3, none, { frames := 1, cells := 2, slots := 200, locals := 20 })
def Y_B_set : Ym := (⟨"BangSquare", "set", "(II)Z"⟩, prog_1_method_2_code, 3, some .boolean, { frames := 1, cells := 0, slots := 0, locals := 22 })
def Y_B_within : Ym := (⟨"BangSquare", "within", "(III)Z"⟩, prog_1_method_37_code, 3, some .boolean, { frames := 0, cells := 0, slots := 0, locals := 0 })
def Y_B_comes : Ym := (⟨"BangSquare", "comes", "(III)I"⟩, prog_1_method_3_code, 4, some .int, { frames := 2, cells := 0, slots := 0, locals := 49 })
def Y_B_isCell : Ym := (⟨"BangSquare", "isCell", "(I)Z"⟩, prog_1_method_38_code, 1, some .boolean, { frames := 1, cells := 0, slots := 0, locals := 22 })
def Y_Sq_travel : Ym := (⟨"BangSquare$Square", "travel", "(II)I"⟩, prog_10_method_2_code, 6, some .int, { frames := 1, cells := 0, slots := 0, locals := 24 })
def Y_B_column : Ym := (⟨"BangSquare", "column", "(I)I"⟩, prog_1_method_40_code, 1, some .int, { frames := 0, cells := 0, slots := 0, locals := 0 })
def Y_B_row : Ym := (⟨"BangSquare", "row", "(I)I"⟩, prog_1_method_41_code, 1, some .int, { frames := 0, cells := 0, slots := 0, locals := 0 })
def Y_Ma_floorDiv : Ym := (⟨"java/lang/Math", "floorDiv", "(II)I"⟩, prog_19_method_47_code, 3, some .int, { frames := 0, cells := 0, slots := 0, locals := 0 })
def Y_B_distance : Ym := (⟨"BangSquare", "distance", "(II)I"⟩, prog_1_method_42_code, 5, some .int, { frames := 0, cells := 0, slots := 0, locals := 0 })
def Y_B_between : Ym := (⟨"BangSquare", "between", "(II)I"⟩, prog_1_method_43_code, 2, some .int, { frames := 1, cells := 0, slots := 0, locals := 24 })
def Y_B_loudness : Ym := (⟨"BangSquare", "loudness", "(I)I"⟩, prog_1_method_44_code, 1, some .int, { frames := 0, cells := 0, slots := 0, locals := 0 })
def Y_B_sectorOf : Ym := (⟨"BangSquare", "sectorOf", "(II)I"⟩, prog_1_method_45_code, 5, some .int, { frames := 1, cells := 0, slots := 0, locals := 21 })
def Y_B_upperSector : Ym := (⟨"BangSquare", "upperSector", "(II)I"⟩, prog_1_method_46_code, 2, some .int, { frames := 0, cells := 0, slots := 0, locals := 0 })
def Y_B_wall : Ym := (⟨"BangSquare", "wall", "(ZIIII)I"⟩, prog_1_method_4_code, 7, some .int, { frames := 1, cells := 0, slots := 0, locals := 25 })
def Y_Wl_build : Ym := (⟨"BangSquare$Wall", "build", "(ZIIII)V"⟩, prog_12_method_2_code, 6, none, { frames := 0, cells := 0, slots := 0, locals := 0 })
def Y_B_spot : Ym := (⟨"BangSquare", "spot", "(II)Z"⟩, prog_1_method_5_code, 3, some .boolean, { frames := 2, cells := 0, slots := 0, locals := 42 })
def Y_B_shot : Ym := (⟨"BangSquare", "shot", "(IIII)I"⟩, prog_1_method_6_code, 5, some .int, { frames := 3, cells := 0, slots := 0, locals := 63 })
def Y_B_isBall : Ym := (⟨"BangSquare", "isBall", "(II)Z"⟩, prog_1_method_39_code, 2, some .boolean, { frames := 2, cells := 0, slots := 0, locals := 42 })
def Y_Sh_fire : Ym := (⟨"BangSquare$Shot", "fire", "(IIII)V"⟩, prog_8_method_2_code, 5, none, { frames := 0, cells := 0, slots := 0, locals := 0 })
def Y_B_gets : Ym := (⟨"BangSquare", "gets", "(III)I"⟩, prog_1_method_7_code, 4, some .int, { frames := 5, cells := 0, slots := 0, locals := 116 })
def Y_Hd_listen : Ym := (⟨"BangSquare$Heard", "listen", "(LBangSquare$Shot;I)V"⟩, prog_3_method_2_code, 3, none, { frames := 4, cells := 0, slots := 0, locals := 94 })
def Y_Hd_listenCrack : Ym := (⟨"BangSquare$Heard", "listenCrack", "(LBangSquare$Shot;I)V"⟩, prog_3_method_3_code, 12, none, { frames := 2, cells := 0, slots := 0, locals := 49 })
def Y_Ma_abs : Ym := (⟨"java/lang/Math", "abs", "(I)I"⟩, prog_19_method_59_code, 1, some .int, { frames := 0, cells := 0, slots := 0, locals := 0 })
def Y_Hd_listenBack : Ym := (⟨"BangSquare$Heard", "listenBack", "(LBangSquare$Shot;I)V"⟩, prog_3_method_4_code, 7, none, { frames := 3, cells := 0, slots := 0, locals := 68 })
def Y_Wl_crossing : Ym := (⟨"BangSquare$Wall", "crossing", "(II)I"⟩, prog_12_method_5_code, 8, some .int, { frames := 2, cells := 0, slots := 0, locals := 41 })
def Y_Wl_side : Ym := (⟨"BangSquare$Wall", "side", "(I)I"⟩, prog_12_method_3_code, 2, some .int, { frames := 1, cells := 0, slots := 0, locals := 20 })
def Y_Wl_along : Ym := (⟨"BangSquare$Wall", "along", "(I)I"⟩, prog_12_method_4_code, 2, some .int, { frames := 1, cells := 0, slots := 0, locals := 20 })
def Y_Wl_wayBack : Ym := (⟨"BangSquare$Wall", "wayBack", "(II)I"⟩, prog_12_method_6_code, 3, some .int, { frames := 2, cells := 0, slots := 0, locals := 41 })
def Y_B_getsBack : Ym := (⟨"BangSquare", "getsBack", "(I)I"⟩, prog_1_method_8_code, 2, some .int, { frames := 1, cells := 0, slots := 0, locals := 22 })
def Y_B_feed : Ym := (⟨"BangSquare", "feed", "(IIIII)I"⟩, prog_1_method_9_code, 6, some .int, { frames := 1, cells := 0, slots := 0, locals := 22 })
def Y_Rd_append : Ym := (⟨"BangSquare$Reader", "append", "(I)V"⟩, prog_5_method_2_code, 3, none, { frames := 0, cells := 0, slots := 0, locals := 0 })
def Y_B_end : Ym := (⟨"BangSquare", "end", "(I)Z"⟩, prog_1_method_10_code, 2, some .boolean, { frames := 1, cells := 0, slots := 0, locals := 22 })
def Y_B_text : Ym := (⟨"BangSquare", "text", "(I)I"⟩, prog_1_method_11_code, 2, some .int, { frames := 9, cells := 1, slots := 400, locals := 203 })
def Y_Rd_drop : Ym := (⟨"BangSquare$Reader", "drop", "()V"⟩, prog_5_method_3_code, 1, none, { frames := 0, cells := 0, slots := 0, locals := 0 })
def Y_Rd_read : Ym := (⟨"BangSquare$Reader", "read", "(ZLBangSquare$Script;)I"⟩, prog_5_method_4_code, 4, some .int, { frames := 8, cells := 1, slots := 400, locals := 180 })
def Y_Rd_start : Ym := (⟨"BangSquare$Reader", "start", "(Z)V"⟩, prog_5_method_5_code, 2, none, { frames := 0, cells := 0, slots := 0, locals := 0 })
def Y_Rd_scan : Ym := (⟨"BangSquare$Reader", "scan", "()V"⟩, prog_5_method_7_code, 2, none, { frames := 7, cells := 0, slots := 0, locals := 159 })
def Y_Rd_byteAt : Ym := (⟨"BangSquare$Reader", "byteAt", "(I)I"⟩, prog_5_method_6_code, 2, some .int, { frames := 0, cells := 0, slots := 0, locals := 0 })
def Y_Rd_isLetter : Ym := (⟨"BangSquare$Reader", "isLetter", "(I)Z"⟩, prog_5_method_11_code, 1, some .boolean, { frames := 1, cells := 0, slots := 0, locals := 22 })
def Y_Rd_scanWord : Ym := (⟨"BangSquare$Reader", "scanWord", "()V"⟩, prog_5_method_8_code, 3, none, { frames := 6, cells := 0, slots := 0, locals := 130 })
def Y_Str_length : Ym := (⟨"java/lang/String", "length", "()I"⟩, prog_20_method_54_code, 1, some .int, { frames := 1, cells := 0, slots := 0, locals := 20 })
def Y_Str_coder : Ym := (⟨"java/lang/String", "coder", "()B"⟩, prog_20_method_152_code, 1, some .byte, { frames := 0, cells := 0, slots := 0, locals := 0 })
def Y_Rd_isWord : Ym := (⟨"BangSquare$Reader", "isWord", "(Ljava/lang/String;I)Z"⟩, prog_5_method_9_code, 5, some .boolean, { frames := 5, cells := 0, slots := 0, locals := 106 })
def Y_Str_charAt : Ym := (⟨"java/lang/String", "charAt", "(I)C"⟩, prog_20_method_56_code, 2, some .char, { frames := 4, cells := 0, slots := 0, locals := 85 })
def Y_Str_isLatin1 : Ym := (⟨"java/lang/String", "isLatin1", "()Z"⟩, prog_20_method_154_code, 1, some .boolean, { frames := 0, cells := 0, slots := 0, locals := 0 })
def Y_SL_charAt : Ym := (⟨"java/lang/StringLatin1", "charAt", "([BI)C"⟩, prog_21_method_2_code, 2, some .char, { frames := 2, cells := 0, slots := 0, locals := 43 })
def Y_Str_checkIndex : Ym := (⟨"java/lang/String", "checkIndex", "(II)V"⟩, prog_20_method_155_code, 2, none, { frames := 1, cells := 0, slots := 0, locals := 22 })
def Y_Pre_checkIndex : Ym := (⟨"jdk/internal/util/Preconditions", "checkIndex", "(IILjava/util/function/BiFunction;)I"⟩, prog_25_method_11_code, 3, some .int, { frames := 0, cells := 0, slots := 0, locals := 0 })
def Y_Rd_isDigit : Ym := (⟨"BangSquare$Reader", "isDigit", "(I)Z"⟩, prog_5_method_12_code, 1, some .boolean, { frames := 1, cells := 0, slots := 0, locals := 22 })
def Y_Rd_scanNumber : Ym := (⟨"BangSquare$Reader", "scanNumber", "()V"⟩, prog_5_method_10_code, 1, none, { frames := 2, cells := 0, slots := 0, locals := 42 })
def Y_Str_indexOf_0 : Ym := (⟨"java/lang/String", "indexOf", "(I)I"⟩, prog_20_method_79_code, 2, some .int, { frames := 6, cells := 0, slots := 0, locals := 138 })
def Y_Str_indexOf_1 : Ym := (⟨"java/lang/String", "indexOf", "(II)I"⟩, prog_20_method_80_code, 3, some .int, { frames := 5, cells := 0, slots := 0, locals := 116 })
def Y_SL_indexOf : Ym := (⟨"java/lang/StringLatin1", "indexOf", "([BIII)I"⟩, prog_21_method_22_code, 4, some .int, { frames := 1, cells := 0, slots := 0, locals := 25 })
def Y_SL_canEncode : Ym := (⟨"java/lang/StringLatin1", "canEncode", "(I)Z"⟩, prog_21_method_4_code, 1, some .boolean, { frames := 0, cells := 0, slots := 0, locals := 0 })
def Y_Ma_min : Ym := (⟨"java/lang/Math", "min", "(II)I"⟩, prog_19_method_69_code, 2, some .int, { frames := 0, cells := 0, slots := 0, locals := 0 })
def Y_SL_indexOfChar : Ym := (⟨"java/lang/StringLatin1", "indexOfChar", "([BIII)I"⟩, prog_21_method_23_code, 6, some .int, { frames := 0, cells := 0, slots := 0, locals := 0 })
def Y_Str_checkBoundsBeginEnd : Ym := (⟨"java/lang/String", "checkBoundsBeginEnd", "(III)V"⟩, prog_20_method_158_code, 3, none, { frames := 1, cells := 0, slots := 0, locals := 23 })
def Y_Pre_checkFromToIndex : Ym := (⟨"jdk/internal/util/Preconditions", "checkFromToIndex", "(IIILjava/util/function/BiFunction;)I"⟩, prog_25_method_12_code, 4, some .int, { frames := 0, cells := 0, slots := 0, locals := 0 })
def Y_Rd_take : Ym := (⟨"BangSquare$Reader", "take", "()I"⟩, prog_5_method_13_code, 1, some .int, { frames := 4, cells := 0, slots := 0, locals := 84 })
def Y_Rd_takeLine : Ym := (⟨"BangSquare$Reader", "takeLine", "()I"⟩, prog_5_method_14_code, 2, some .int, { frames := 1, cells := 0, slots := 0, locals := 22 })
def Y_Rd_takeKind : Ym := (⟨"BangSquare$Reader", "takeKind", "()I"⟩, prog_5_method_15_code, 1, some .int, { frames := 1, cells := 0, slots := 0, locals := 22 })
def Y_Rd_takeWhen : Ym := (⟨"BangSquare$Reader", "takeWhen", "()I"⟩, prog_5_method_16_code, 1, some .int, { frames := 0, cells := 0, slots := 0, locals := 0 })
def Y_Rd_takeClaim : Ym := (⟨"BangSquare$Reader", "takeClaim", "()I"⟩, prog_5_method_17_code, 1, some .int, { frames := 2, cells := 0, slots := 0, locals := 43 })
def Y_Rd_takeUnit : Ym := (⟨"BangSquare$Reader", "takeUnit", "()I"⟩, prog_5_method_18_code, 2, some .int, { frames := 1, cells := 0, slots := 0, locals := 22 })
def Y_Rd_emit : Ym := (⟨"BangSquare$Reader", "emit", "(II)V"⟩, prog_5_method_26_code, 3, none, { frames := 0, cells := 0, slots := 0, locals := 0 })
def Y_Rd_hold : Ym := (⟨"BangSquare$Reader", "hold", "(I)V"⟩, prog_5_method_23_code, 2, none, { frames := 0, cells := 0, slots := 0, locals := 0 })
def Y_Rd_takePart : Ym := (⟨"BangSquare$Reader", "takePart", "()I"⟩, prog_5_method_19_code, 1, some .int, { frames := 1, cells := 0, slots := 0, locals := 22 })
def Y_Rd_takeSign : Ym := (⟨"BangSquare$Reader", "takeSign", "()I"⟩, prog_5_method_20_code, 2, some .int, { frames := 3, cells := 0, slots := 0, locals := 63 })
def Y_Rd_rank : Ym := (⟨"BangSquare$Reader", "rank", "(I)I"⟩, prog_5_method_22_code, 1, some .int, { frames := 0, cells := 0, slots := 0, locals := 0 })
def Y_Rd_release : Ym := (⟨"BangSquare$Reader", "release", "(I)V"⟩, prog_5_method_24_code, 2, none, { frames := 1, cells := 0, slots := 0, locals := 22 })
def Y_Rd_takeJoint : Ym := (⟨"BangSquare$Reader", "takeJoint", "()I"⟩, prog_5_method_21_code, 1, some .int, { frames := 2, cells := 0, slots := 0, locals := 43 })
def Y_Rd_dropBracket : Ym := (⟨"BangSquare$Reader", "dropBracket", "()V"⟩, prog_5_method_25_code, 1, none, { frames := 0, cells := 0, slots := 0, locals := 0 })
def Y_Ar_copyOf : Ym := (⟨"java/util/Arrays", "copyOf", "([II)[I"⟩, prog_24_method_123_code, 3, some (.array .int), { frames := 1, cells := 1, slots := 400, locals := 35 })
def Y_B_fault : Ym := (⟨"BangSquare", "fault", "(I)I"⟩, prog_1_method_12_code, 2, some .int, { frames := 0, cells := 0, slots := 0, locals := 0 })
def Y_B_hearer : Ym := (⟨"BangSquare", "hearer", "(II)I"⟩, prog_1_method_13_code, 3, some .int, { frames := 2, cells := 0, slots := 0, locals := 42 })
def Y_B_turning : Ym := (⟨"BangSquare", "turning", "(III)I"⟩, prog_1_method_14_code, 4, some .int, { frames := 6, cells := 0, slots := 0, locals := 141 })
def Y_Cw_attend : Ym := (⟨"BangSquare$Crowd", "attend", "(ILBangSquare$Shot;)V"⟩, prog_2_method_2_code, 6, none, { frames := 5, cells := 0, slots := 0, locals := 116 })
def Y_Cw_sectorBy : Ym := (⟨"BangSquare$Crowd", "sectorBy", "(I)I"⟩, prog_2_method_3_code, 2, some .int, { frames := 2, cells := 0, slots := 0, locals := 47 })
def Y_Sc_decide : Ym := (⟨"BangSquare$Script", "decide", "([I)I"⟩, prog_7_method_2_code, 6, some .int, { frames := 1, cells := 0, slots := 0, locals := 22 })
def Y_Sc_pop : Ym := (⟨"BangSquare$Script", "pop", "()I"⟩, prog_7_method_5_code, 1, some .int, { frames := 0, cells := 0, slots := 0, locals := 0 })
def Y_Sc_push : Ym := (⟨"BangSquare$Script", "push", "(I)V"⟩, prog_7_method_4_code, 2, none, { frames := 0, cells := 0, slots := 0, locals := 0 })
def Y_Sc_join : Ym := (⟨"BangSquare$Script", "join", "(III)I"⟩, prog_7_method_3_code, 3, some .int, { frames := 0, cells := 0, slots := 0, locals := 0 })
def Y_B_story : Ym := (⟨"BangSquare", "story", "(II)Z"⟩, prog_1_method_15_code, 3, some .boolean, { frames := 1, cells := 0, slots := 0, locals := 22 })
def Y_B_stories : Ym := (⟨"BangSquare", "stories", "(II)I"⟩, prog_1_method_16_code, 7, some .int, { frames := 7, cells := 0, slots := 0, locals := 168 })
def Y_Cw_countFitting : Ym := (⟨"BangSquare$Crowd", "countFitting", "(I[LBangSquare$Shot;I)I"⟩, prog_2_method_4_code, 8, some .int, { frames := 6, cells := 0, slots := 0, locals := 141 })
def Y_B_ear : Ym := (⟨"BangSquare", "ear", "(I)I"⟩, prog_1_method_17_code, 2, some .int, { frames := 2, cells := 0, slots := 0, locals := 42 })
def Y_Sp_add : Ym := (⟨"BangSquare$Spans", "add", "(III)I"⟩, prog_9_method_2_code, 4, some .int, { frames := 0, cells := 0, slots := 0, locals := 0 })
def Y_B_got : Ym := (⟨"BangSquare", "got", "(III)Z"⟩, prog_1_method_18_code, 4, some .boolean, { frames := 1, cells := 0, slots := 0, locals := 22 })
def Y_B_from : Ym := (⟨"BangSquare", "from", "(I)I"⟩, prog_1_method_19_code, 5, some .int, { frames := 3, cells := 0, slots := 0, locals := 71 })
def Y_B_mayBeFrom : Ym := (⟨"BangSquare", "mayBeFrom", "(I)Z"⟩, prog_1_method_20_code, 3, some .boolean, { frames := 2, cells := 0, slots := 0, locals := 49 })
def Y_Sp_agreeWithout : Ym := (⟨"BangSquare$Spans", "agreeWithout", "(I)Z"⟩, prog_9_method_3_code, 5, some .boolean, { frames := 1, cells := 0, slots := 0, locals := 21 })
def Y_B_click : Ym := (⟨"BangSquare", "click", "(II)I"⟩, prog_1_method_21_code, 3, some .int, { frames := 1, cells := 0, slots := 0, locals := 22 })
def Y_Tp_addClick : Ym := (⟨"BangSquare$Tape", "addClick", "(I)I"⟩, prog_11_method_2_code, 3, some .int, { frames := 0, cells := 0, slots := 0, locals := 0 })
def Y_B_fits : Ym := (⟨"BangSquare", "fits", "(IIII)I"⟩, prog_1_method_22_code, 5, some .int, { frames := 6, cells := 0, slots := 0, locals := 140 })
def Y_B_canLay : Ym := (⟨"BangSquare", "canLay", "(III)Z"⟩, prog_1_method_25_code, 4, some .boolean, { frames := 2, cells := 0, slots := 0, locals := 43 })
def Y_B_isTold : Ym := (⟨"BangSquare", "isTold", "(I)Z"⟩, prog_1_method_35_code, 2, some .boolean, { frames := 1, cells := 0, slots := 0, locals := 22 })
def Y_Tp_lay : Ym := (⟨"BangSquare$Tape", "lay", "(III)V"⟩, prog_11_method_5_code, 5, none, { frames := 5, cells := 0, slots := 0, locals := 116 })
def Y_Tp_backPlace : Ym := (⟨"BangSquare$Tape", "backPlace", "(I)I"⟩, prog_11_method_4_code, 2, some .int, { frames := 0, cells := 0, slots := 0, locals := 0 })
def Y_Tp_clicksNear : Ym := (⟨"BangSquare$Tape", "clicksNear", "(II)I"⟩, prog_11_method_3_code, 5, some .int, { frames := 1, cells := 0, slots := 0, locals := 20 })
def Y_B_couple : Ym := (⟨"BangSquare", "couple", "(II)I"⟩, prog_1_method_23_code, 3, some .int, { frames := 7, cells := 0, slots := 0, locals := 165 })
def Y_Tp_searchCouple : Ym := (⟨"BangSquare$Tape", "searchCouple", "(I)V"⟩, prog_11_method_6_code, 6, none, { frames := 6, cells := 0, slots := 0, locals := 140 })
def Y_B_must : Ym := (⟨"BangSquare", "must", "(III)I"⟩, prog_1_method_24_code, 4, some .int, { frames := 7, cells := 0, slots := 0, locals := 168 })
def Y_Tp_fewestWalls : Ym := (⟨"BangSquare$Tape", "fewestWalls", "(IIII)I"⟩, prog_11_method_7_code, 9, some .int, { frames := 6, cells := 0, slots := 0, locals := 140 })
def Y_B_unionOf : Ym := (⟨"BangSquare", "unionOf", "([II)I"⟩, prog_1_method_48_code, 4, some .int, { frames := 0, cells := 0, slots := 0, locals := 0 })
def Y_B_isFewer : Ym := (⟨"BangSquare", "isFewer", "(II)Z"⟩, prog_1_method_47_code, 2, some .boolean, { frames := 1, cells := 0, slots := 0, locals := 20 })
def Y_Ig_bitCount : Ym := (⟨"java/lang/Integer", "bitCount", "(I)I"⟩, prog_17_method_49_code, 1, some .int, { frames := 0, cells := 0, slots := 0, locals := 0 })
def Y_B_voice : Ym := (⟨"BangSquare", "voice", "(IIII)I"⟩, prog_1_method_26_code, 5, some .int, { frames := 1, cells := 0, slots := 0, locals := 23 })
def Y_B_over : Ym := (⟨"BangSquare", "over", "(II)I"⟩, prog_1_method_27_code, 3, some .int, { frames := 3, cells := 0, slots := 0, locals := 67 })
def Y_Sp_overAlone : Ym := (⟨"BangSquare$Spans", "overAlone", "()I"⟩, prog_9_method_4_code, 3, some .int, { frames := 2, cells := 0, slots := 0, locals := 45 })
def Y_B_noise : Ym := (⟨"BangSquare", "noise", "(IIII)I"⟩, prog_1_method_28_code, 5, some .int, { frames := 1, cells := 0, slots := 0, locals := 24 })
def Y_Ns_add : Ym := (⟨"BangSquare$Noises", "add", "(IIII)I"⟩, prog_4_method_2_code, 5, some .int, { frames := 0, cells := 0, slots := 0, locals := 0 })
def Y_B_noises : Ym := (⟨"BangSquare", "noises", "(I)I"⟩, prog_1_method_29_code, 2, some .int, { frames := 4, cells := 0, slots := 0, locals := 94 })
def Y_Ns_countSentWrongly : Ym := (⟨"BangSquare$Noises", "countSentWrongly", "()I"⟩, prog_4_method_5_code, 3, some .int, { frames := 3, cells := 0, slots := 0, locals := 72 })
def Y_Ns_sort : Ym := (⟨"BangSquare$Noises", "sort", "(I)I"⟩, prog_4_method_3_code, 6, some .int, { frames := 2, cells := 0, slots := 0, locals := 47 })
def Y_Ns_isAhead : Ym := (⟨"BangSquare$Noises", "isAhead", "(II)Z"⟩, prog_4_method_4_code, 3, some .boolean, { frames := 0, cells := 0, slots := 0, locals := 0 })
def Y_Ns_countMissed : Ym := (⟨"BangSquare$Noises", "countMissed", "()I"⟩, prog_4_method_6_code, 3, some .int, { frames := 3, cells := 0, slots := 0, locals := 72 })
def Y_B_ball : Ym := (⟨"BangSquare", "ball", "(II)Z"⟩, prog_1_method_30_code, 3, some .boolean, { frames := 3, cells := 0, slots := 0, locals := 63 })
def Y_B_trials : Ym := (⟨"BangSquare", "trials", "(I)I"⟩, prog_1_method_31_code, 7, some .int, { frames := 7, cells := 0, slots := 0, locals := 166 })
def Y_B_toldSpots : Ym := (⟨"BangSquare", "toldSpots", "()I"⟩, prog_1_method_36_code, 3, some .int, { frames := 0, cells := 0, slots := 0, locals := 0 })
def Y_Cw_couplesOf : Ym := (⟨"BangSquare$Crowd", "couplesOf", "(I)I"⟩, prog_2_method_6_code, 4, some .int, { frames := 1, cells := 0, slots := 0, locals := 21 })
def Y_Cw_coupleBit : Ym := (⟨"BangSquare$Crowd", "coupleBit", "(II)I"⟩, prog_2_method_5_code, 2, some .int, { frames := 0, cells := 0, slots := 0, locals := 0 })
def Y_Cw_partedBy : Ym := (⟨"BangSquare$Crowd", "partedBy", "(LBangSquare$Shot;)I"⟩, prog_2_method_7_code, 6, some .int, { frames := 6, cells := 0, slots := 0, locals := 141 })
def Y_B_apart : Ym := (⟨"BangSquare", "apart", "(II)I"⟩, prog_1_method_32_code, 3, some .int, { frames := 3, cells := 0, slots := 0, locals := 76 })
def Y_Rf_prepare : Ym := (⟨"BangSquare$Roofs", "prepare", "(I)V"⟩, prog_6_method_2_code, 5, none, { frames := 2, cells := 0, slots := 0, locals := 52 })
def Y_Rf_apartBy : Ym := (⟨"BangSquare$Roofs", "apartBy", "(III)J"⟩, prog_6_method_3_code, 10, some .long, { frames := 1, cells := 0, slots := 0, locals := 23 })
def Y_Rf_later : Ym := (⟨"BangSquare$Roofs", "later", "(III)I"⟩, prog_6_method_4_code, 4, some .int, { frames := 0, cells := 0, slots := 0, locals := 0 })
def Y_Rf_countApart : Ym := (⟨"BangSquare$Roofs", "countApart", "(I)I"⟩, prog_6_method_5_code, 6, some .int, { frames := 1, cells := 0, slots := 0, locals := 21 })
def Y_Lg_bitCount : Ym := (⟨"java/lang/Long", "bitCount", "(J)I"⟩, prog_18_method_50_code, 2, some .int, { frames := 0, cells := 0, slots := 0, locals := 0 })
def Y_B_roofs : Ym := (⟨"BangSquare", "roofs", "(II)I"⟩, prog_1_method_33_code, 8, some .int, { frames := 3, cells := 0, slots := 0, locals := 76 })
def Y_B_look : Ym := (⟨"BangSquare", "look", "(I)I"⟩, prog_1_method_34_code, 2, some .int, { frames := 1, cells := 0, slots := 0, locals := 22 })
def Y_M_init : Ym := (⟨"BangSquareModel", "<init>", "()V"⟩, prog_14_method_1_code, 1, none, { frames := 1, cells := 41, slots := 6552, locals := 20 })
def Y_M_set : Ym := (⟨"BangSquareModel", "set", "(II)Z"⟩, prog_14_method_9_code, 4, some .boolean, { frames := 1, cells := 0, slots := 0, locals := 23 })
def Y_M_isIn : Ym := (⟨"BangSquareModel", "isIn", "(III)Z"⟩, prog_14_method_3_code, 4, some .boolean, { frames := 0, cells := 0, slots := 0, locals := 0 })
def Y_M_comes : Ym := (⟨"BangSquareModel", "comes", "(III)I"⟩, prog_14_method_16_code, 4, some .int, { frames := 3, cells := 0, slots := 0, locals := 70 })
def Y_M_isCell : Ym := (⟨"BangSquareModel", "isCell", "(I)Z"⟩, prog_14_method_4_code, 2, some .boolean, { frames := 1, cells := 0, slots := 0, locals := 23 })
def Y_M_delay : Ym := (⟨"BangSquareModel", "delay", "(II)I"⟩, prog_14_method_10_code, 6, some .int, { frames := 2, cells := 0, slots := 0, locals := 45 })
def Y_M_distance : Ym := (⟨"BangSquareModel", "distance", "(II)I"⟩, prog_14_method_8_code, 3, some .int, { frames := 1, cells := 0, slots := 0, locals := 23 })
def Y_M_root : Ym := (⟨"BangSquareModel", "root", "(I)I"⟩, prog_14_method_7_code, 4, some .int, { frames := 0, cells := 0, slots := 0, locals := 0 })
def Y_M_floor : Ym := (⟨"BangSquareModel", "floor", "(II)I"⟩, prog_14_method_5_code, 4, some .int, { frames := 0, cells := 0, slots := 0, locals := 0 })
def Y_M_apartOf : Ym := (⟨"BangSquareModel", "apartOf", "(II)I"⟩, prog_14_method_11_code, 3, some .int, { frames := 2, cells := 0, slots := 0, locals := 45 })
def Y_M_loudBy : Ym := (⟨"BangSquareModel", "loudBy", "(I)I"⟩, prog_14_method_12_code, 2, some .int, { frames := 0, cells := 0, slots := 0, locals := 0 })
def Y_M_sectorOf : Ym := (⟨"BangSquareModel", "sectorOf", "(II)I"⟩, prog_14_method_15_code, 3, some .int, { frames := 2, cells := 0, slots := 0, locals := 45 })
def Y_M_sectorBy : Ym := (⟨"BangSquareModel", "sectorBy", "(II)I"⟩, prog_14_method_13_code, 4, some .int, { frames := 1, cells := 0, slots := 0, locals := 22 })
def Y_M_sectorUp : Ym := (⟨"BangSquareModel", "sectorUp", "(II)I"⟩, prog_14_method_14_code, 3, some .int, { frames := 0, cells := 0, slots := 0, locals := 0 })
def Y_M_wall : Ym := (⟨"BangSquareModel", "wall", "(ZIIII)I"⟩, prog_14_method_18_code, 6, some .int, { frames := 2, cells := 0, slots := 0, locals := 44 })
def Y_M_isSide : Ym := (⟨"BangSquareModel", "isSide", "(I)Z"⟩, prog_14_method_17_code, 2, some .boolean, { frames := 1, cells := 0, slots := 0, locals := 23 })
def Y_M_spot : Ym := (⟨"BangSquareModel", "spot", "(II)Z"⟩, prog_14_method_19_code, 3, some .boolean, { frames := 2, cells := 0, slots := 0, locals := 44 })
def Y_M_shot : Ym := (⟨"BangSquareModel", "shot", "(IIII)I"⟩, prog_14_method_22_code, 5, some .int, { frames := 2, cells := 0, slots := 0, locals := 44 })
def Y_M_gets : Ym := (⟨"BangSquareModel", "gets", "(III)I"⟩, prog_14_method_27_code, 4, some .int, { frames := 6, cells := 0, slots := 0, locals := 155 })
def Y_M_isShot : Ym := (⟨"BangSquareModel", "isShot", "(I)Z"⟩, prog_14_method_21_code, 2, some .boolean, { frames := 0, cells := 0, slots := 0, locals := 0 })
def Y_M_hearsShot : Ym := (⟨"BangSquareModel", "hearsShot", "(II)V"⟩, prog_14_method_26_code, 3, none, { frames := 5, cells := 0, slots := 0, locals := 133 })
def Y_M_hears : Ym := (⟨"BangSquareModel", "hears", "(IIIII)V"⟩, prog_14_method_25_code, 11, none, { frames := 4, cells := 0, slots := 0, locals := 103 })
def Y_M_findsCrack : Ym := (⟨"BangSquareModel", "findsCrack", "(IIIII)V"⟩, prog_14_method_23_code, 14, none, { frames := 3, cells := 0, slots := 0, locals := 70 })
def Y_M_size : Ym := (⟨"BangSquareModel", "size", "(I)I"⟩, prog_14_method_6_code, 2, some .int, { frames := 0, cells := 0, slots := 0, locals := 0 })
def Y_M_findsBack : Ym := (⟨"BangSquareModel", "findsBack", "(IIIIII)V"⟩, prog_14_method_24_code, 11, none, { frames := 2, cells := 0, slots := 0, locals := 45 })
def Y_M_feed : Ym := (⟨"BangSquareModel", "feed", "(IIIII)I"⟩, prog_14_method_29_code, 6, some .int, { frames := 1, cells := 0, slots := 0, locals := 22 })
def Y_M_puts : Ym := (⟨"BangSquareModel", "puts", "(I)V"⟩, prog_14_method_28_code, 3, none, { frames := 0, cells := 0, slots := 0, locals := 0 })
def Y_M_end : Ym := (⟨"BangSquareModel", "end", "(I)Z"⟩, prog_14_method_30_code, 2, some .boolean, { frames := 1, cells := 0, slots := 0, locals := 23 })
def Y_M_text : Ym := (⟨"BangSquareModel", "text", "(I)I"⟩, prog_14_method_52_code, 5, some .int, { frames := 10, cells := 0, slots := 0, locals := 214 })
def Y_M_readText : Ym := (⟨"BangSquareModel", "readText", "()I"⟩, prog_14_method_51_code, 2, some .int, { frames := 9, cells := 0, slots := 0, locals := 193 })
def Y_M_reads : Ym := (⟨"BangSquareModel", "reads", "()V"⟩, prog_14_method_36_code, 2, none, { frames := 2, cells := 0, slots := 0, locals := 44 })
def Y_M_raw : Ym := (⟨"BangSquareModel", "raw", "(I)I"⟩, prog_14_method_31_code, 2, some .int, { frames := 0, cells := 0, slots := 0, locals := 0 })
def Y_M_isLetter : Ym := (⟨"BangSquareModel", "isLetter", "(I)Z"⟩, prog_14_method_32_code, 2, some .boolean, { frames := 1, cells := 0, slots := 0, locals := 23 })
def Y_M_wordAt : Ym := (⟨"BangSquareModel", "wordAt", "(II)I"⟩, prog_14_method_35_code, 6, some .int, { frames := 0, cells := 0, slots := 0, locals := 0 })
def Y_M_isDigit : Ym := (⟨"BangSquareModel", "isDigit", "(I)Z"⟩, prog_14_method_33_code, 2, some .boolean, { frames := 1, cells := 0, slots := 0, locals := 23 })
def Y_M_isMarkSign : Ym := (⟨"BangSquareModel", "isMarkSign", "(I)Z"⟩, prog_14_method_34_code, 2, some .boolean, { frames := 0, cells := 0, slots := 0, locals := 0 })
def Y_M_isBegin : Ym := (⟨"BangSquareModel", "isBegin", "()Z"⟩, prog_14_method_50_code, 1, some .boolean, { frames := 1, cells := 0, slots := 0, locals := 23 })
def Y_M_fails : Ym := (⟨"BangSquareModel", "fails", "(I)I"⟩, prog_14_method_37_code, 2, some .int, { frames := 0, cells := 0, slots := 0, locals := 0 })
def Y_M_readLine : Ym := (⟨"BangSquareModel", "readLine", "(I)I"⟩, prog_14_method_49_code, 2, some .int, { frames := 8, cells := 0, slots := 0, locals := 172 })
def Y_M_isWord : Ym := (⟨"BangSquareModel", "isWord", "(I)Z"⟩, prog_14_method_38_code, 2, some .boolean, { frames := 0, cells := 0, slots := 0, locals := 0 })
def Y_M_readAny : Ym := (⟨"BangSquareModel", "readAny", "()I"⟩, prog_14_method_48_code, 4, some .int, { frames := 7, cells := 0, slots := 0, locals := 149 })
def Y_M_isSign : Ym := (⟨"BangSquareModel", "isSign", "(I)Z"⟩, prog_14_method_39_code, 2, some .boolean, { frames := 0, cells := 0, slots := 0, locals := 0 })
def Y_M_waits : Ym := (⟨"BangSquareModel", "waits", "(I)V"⟩, prog_14_method_46_code, 2, none, { frames := 0, cells := 0, slots := 0, locals := 0 })
def Y_M_readCompared : Ym := (⟨"BangSquareModel", "readCompared", "()I"⟩, prog_14_method_45_code, 2, some .int, { frames := 6, cells := 0, slots := 0, locals := 128 })
def Y_M_readSum : Ym := (⟨"BangSquareModel", "readSum", "()I"⟩, prog_14_method_44_code, 2, some .int, { frames := 5, cells := 0, slots := 0, locals := 107 })
def Y_M_readProduct : Ym := (⟨"BangSquareModel", "readProduct", "()I"⟩, prog_14_method_43_code, 2, some .int, { frames := 4, cells := 0, slots := 0, locals := 86 })
def Y_M_readUnit : Ym := (⟨"BangSquareModel", "readUnit", "()I"⟩, prog_14_method_42_code, 2, some .int, { frames := 3, cells := 0, slots := 0, locals := 65 })
def Y_M_askedBy : Ym := (⟨"BangSquareModel", "askedBy", "()I"⟩, prog_14_method_41_code, 1, some .int, { frames := 1, cells := 0, slots := 0, locals := 23 })
def Y_M_emits : Ym := (⟨"BangSquareModel", "emits", "(II)V"⟩, prog_14_method_40_code, 3, none, { frames := 0, cells := 0, slots := 0, locals := 0 })
def Y_M_settles : Ym := (⟨"BangSquareModel", "settles", "(I)V"⟩, prog_14_method_47_code, 2, none, { frames := 1, cells := 0, slots := 0, locals := 22 })
def Y_M_fault : Ym := (⟨"BangSquareModel", "fault", "(I)I"⟩, prog_14_method_53_code, 2, some .int, { frames := 0, cells := 0, slots := 0, locals := 0 })
def Y_M_hearer : Ym := (⟨"BangSquareModel", "hearer", "(II)I"⟩, prog_14_method_57_code, 3, some .int, { frames := 2, cells := 0, slots := 0, locals := 44 })
def Y_M_turning : Ym := (⟨"BangSquareModel", "turning", "(III)I"⟩, prog_14_method_62_code, 4, some .int, { frames := 7, cells := 0, slots := 0, locals := 184 })
def Y_M_isLaw : Ym := (⟨"BangSquareModel", "isLaw", "(I)Z"⟩, prog_14_method_61_code, 2, some .boolean, { frames := 1, cells := 0, slots := 0, locals := 23 })
def Y_M_turnsOf : Ym := (⟨"BangSquareModel", "turnsOf", "(III)I"⟩, prog_14_method_60_code, 4, some .int, { frames := 6, cells := 0, slots := 0, locals := 161 })
def Y_M_turnsBy : Ym := (⟨"BangSquareModel", "turnsBy", "(IIIIII)I"⟩, prog_14_method_59_code, 9, some .int, { frames := 5, cells := 0, slots := 0, locals := 133 })
def Y_M_loudestBack : Ym := (⟨"BangSquareModel", "loudestBack", "()I"⟩, prog_14_method_58_code, 3, some .int, { frames := 0, cells := 0, slots := 0, locals := 0 })
def Y_M_firstSo : Ym := (⟨"BangSquareModel", "firstSo", "(I)I"⟩, prog_14_method_56_code, 3, some .int, { frames := 2, cells := 0, slots := 0, locals := 48 })
def Y_M_worth : Ym := (⟨"BangSquareModel", "worth", "(III)I"⟩, prog_14_method_55_code, 6, some .int, { frames := 1, cells := 0, slots := 0, locals := 23 })
def Y_M_twoOf : Ym := (⟨"BangSquareModel", "twoOf", "(III)I"⟩, prog_14_method_54_code, 4, some .int, { frames := 0, cells := 0, slots := 0, locals := 0 })
def Y_M_story : Ym := (⟨"BangSquareModel", "story", "(II)Z"⟩, prog_14_method_63_code, 3, some .boolean, { frames := 1, cells := 0, slots := 0, locals := 23 })
def Y_M_stories : Ym := (⟨"BangSquareModel", "stories", "(II)I"⟩, prog_14_method_65_code, 7, some .int, { frames := 8, cells := 0, slots := 0, locals := 210 })
def Y_M_fitted : Ym := (⟨"BangSquareModel", "fitted", "(II)I"⟩, prog_14_method_64_code, 7, some .int, { frames := 7, cells := 0, slots := 0, locals := 184 })
def Y_M_ear : Ym := (⟨"BangSquareModel", "ear", "(I)I"⟩, prog_14_method_66_code, 2, some .int, { frames := 2, cells := 0, slots := 0, locals := 44 })
def Y_M_got : Ym := (⟨"BangSquareModel", "got", "(III)Z"⟩, prog_14_method_67_code, 4, some .boolean, { frames := 1, cells := 0, slots := 0, locals := 23 })
def Y_M_from : Ym := (⟨"BangSquareModel", "from", "(I)I"⟩, prog_14_method_69_code, 6, some .int, { frames := 4, cells := 0, slots := 0, locals := 95 })
def Y_M_isFrom : Ym := (⟨"BangSquareModel", "isFrom", "(I)Z"⟩, prog_14_method_68_code, 6, some .boolean, { frames := 3, cells := 0, slots := 0, locals := 70 })
def Y_M_click : Ym := (⟨"BangSquareModel", "click", "(II)I"⟩, prog_14_method_71_code, 3, some .int, { frames := 2, cells := 0, slots := 0, locals := 44 })
def Y_M_isTape : Ym := (⟨"BangSquareModel", "isTape", "(I)Z"⟩, prog_14_method_70_code, 2, some .boolean, { frames := 1, cells := 0, slots := 0, locals := 23 })
def Y_M_fits : Ym := (⟨"BangSquareModel", "fits", "(IIII)I"⟩, prog_14_method_76_code, 5, some .int, { frames := 6, cells := 0, slots := 0, locals := 157 })
def Y_M_isCouple : Ym := (⟨"BangSquareModel", "isCouple", "(III)Z"⟩, prog_14_method_75_code, 4, some .boolean, { frames := 2, cells := 0, slots := 0, locals := 44 })
def Y_M_isSpot : Ym := (⟨"BangSquareModel", "isSpot", "(I)Z"⟩, prog_14_method_20_code, 2, some .boolean, { frames := 1, cells := 0, slots := 0, locals := 23 })
def Y_M_couples : Ym := (⟨"BangSquareModel", "couples", "(III)V"⟩, prog_14_method_74_code, 5, none, { frames := 5, cells := 0, slots := 0, locals := 133 })
def Y_M_hasClick : Ym := (⟨"BangSquareModel", "hasClick", "(II)Z"⟩, prog_14_method_73_code, 4, some .boolean, { frames := 2, cells := 0, slots := 0, locals := 43 })
def Y_M_isNear : Ym := (⟨"BangSquareModel", "isNear", "(II)Z"⟩, prog_14_method_72_code, 3, some .boolean, { frames := 1, cells := 0, slots := 0, locals := 21 })
def Y_M_couple : Ym := (⟨"BangSquareModel", "couple", "(II)I"⟩, prog_14_method_77_code, 8, some .int, { frames := 6, cells := 0, slots := 0, locals := 157 })
def Y_M_must : Ym := (⟨"BangSquareModel", "must", "(III)I"⟩, prog_14_method_80_code, 7, some .int, { frames := 5, cells := 0, slots := 0, locals := 133 })
def Y_M_explained : Ym := (⟨"BangSquareModel", "explained", "(II)I"⟩, prog_14_method_79_code, 7, some .int, { frames := 2, cells := 0, slots := 0, locals := 43 })
def Y_M_ones : Ym := (⟨"BangSquareModel", "ones", "(I)I"⟩, prog_14_method_78_code, 4, some .int, { frames := 0, cells := 0, slots := 0, locals := 0 })
def Y_M_voice : Ym := (⟨"BangSquareModel", "voice", "(IIII)I"⟩, prog_14_method_81_code, 5, some .int, { frames := 2, cells := 0, slots := 0, locals := 44 })
def Y_M_over : Ym := (⟨"BangSquareModel", "over", "(II)I"⟩, prog_14_method_83_code, 6, some .int, { frames := 2, cells := 0, slots := 0, locals := 44 })
def Y_M_canBe : Ym := (⟨"BangSquareModel", "canBe", "(II)Z"⟩, prog_14_method_82_code, 6, some .boolean, { frames := 0, cells := 0, slots := 0, locals := 0 })
def Y_M_noise : Ym := (⟨"BangSquareModel", "noise", "(IIII)I"⟩, prog_14_method_84_code, 5, some .int, { frames := 1, cells := 0, slots := 0, locals := 23 })
def Y_M_noises : Ym := (⟨"BangSquareModel", "noises", "(I)I"⟩, prog_14_method_86_code, 5, some .int, { frames := 4, cells := 0, slots := 0, locals := 95 })
def Y_M_soundsLike : Ym := (⟨"BangSquareModel", "soundsLike", "(I)I"⟩, prog_14_method_85_code, 6, some .int, { frames := 3, cells := 0, slots := 0, locals := 70 })
def Y_M_ball : Ym := (⟨"BangSquareModel", "ball", "(II)Z"⟩, prog_14_method_87_code, 3, some .boolean, { frames := 2, cells := 0, slots := 0, locals := 44 })
def Y_M_trials : Ym := (⟨"BangSquareModel", "trials", "(I)I"⟩, prog_14_method_91_code, 4, some .int, { frames := 7, cells := 0, slots := 0, locals := 188 })
def Y_M_parts : Ym := (⟨"BangSquareModel", "parts", "(III)Z"⟩, prog_14_method_88_code, 8, some .boolean, { frames := 6, cells := 0, slots := 0, locals := 161 })
def Y_M_there : Ym := (⟨"BangSquareModel", "there", "()I"⟩, prog_14_method_90_code, 3, some .int, { frames := 2, cells := 0, slots := 0, locals := 44 })
def Y_M_areParted : Ym := (⟨"BangSquareModel", "areParted", "(II)Z"⟩, prog_14_method_89_code, 4, some .boolean, { frames := 0, cells := 0, slots := 0, locals := 0 })
def Y_M_apart : Ym := (⟨"BangSquareModel", "apart", "(II)I"⟩, prog_14_method_95_code, 3, some .int, { frames := 4, cells := 0, slots := 0, locals := 91 })
def Y_M_findsTable : Ym := (⟨"BangSquareModel", "findsTable", "()V"⟩, prog_14_method_92_code, 2, none, { frames := 3, cells := 0, slots := 0, locals := 70 })
def Y_M_apartBy : Ym := (⟨"BangSquareModel", "apartBy", "(II)I"⟩, prog_14_method_94_code, 6, some .int, { frames := 2, cells := 0, slots := 0, locals := 49 })
def Y_M_tellsApart : Ym := (⟨"BangSquareModel", "tellsApart", "(IIII)Z"⟩, prog_14_method_93_code, 9, some .boolean, { frames := 1, cells := 0, slots := 0, locals := 21 })
def Y_M_roofs : Ym := (⟨"BangSquareModel", "roofs", "(II)I"⟩, prog_14_method_96_code, 7, some .int, { frames := 4, cells := 0, slots := 0, locals := 91 })
def Y_M_look : Ym := (⟨"BangSquareModel", "look", "(I)I"⟩, prog_14_method_97_code, 2, some .int, { frames := 3, cells := 0, slots := 0, locals := 66 })
