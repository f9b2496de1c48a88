/-! the cells as the two constructors leave them: 29 the class, 66 104 142 its towns, 221 the reference -/
def am_S1 : am_K := [(11, 14, [some 30, some 62, some 66, some 104, some 142, none, some 180, some 189, some 193, some 194, some 195, none, some 196, some 197]), (0, 3, [some 31, some 32, some 33]), (38, 14, [some 34, some 36, some 38, some 40, some 42, some 44, some 46, some 48, some 50, some 52, some 54, some 56, some 58, some 60]), (20, 26, []), (20, 96, []), (8, 4, [none, none, none, some 35]), (20, 96, []), (8, 4, [none, none, none, some 37]), (20, 96, []), (8, 4, [none, none, none, some 39]), (20, 96, []), (8, 4, [none, none, none, some 41]), (20, 96, []), (8, 4, [none, none, none, some 43]), (20, 96, []), (8, 4, [none, none, none, some 45]), (20, 96, []), (8, 4, [none, none, none, some 47]), (20, 96, []), (8, 4, [none, none, none, some 49]), (20, 96, []), (8, 4, [none, none, none, some 51]), (20, 96, []), (8, 4, [none, none, none, some 53]), (20, 96, []), (8, 4, [none, none, none, some 55]), (20, 96, []), (8, 4, [none, none, none, some 57]), (20, 96, []), (8, 4, [none, none, none, some 59]), (20, 96, []), (8, 4, [none, none, none, some 61]), (20, 96, []), (5, 7, [some 63, none, some 64, none, none, none, none]), (20, 96, []), (8, 4, [none, none, none, some 65]), (20, 96, []), (9, 16, [some 30, some 67, none, some 68, none, some 69, none, none, none, none, some 70, none, some 71, none, none, some 72]), (31, 3, [some 73, some 74, some 75]), (33, 12, [some 76, some 77, some 78, some 79, some 80, some 81, some 82, some 83, some 84, some 85, some 86, some 87]), (34, 16, [some 88, some 89, some 90, some 91, some 92, some 93, some 94, some 95, some 96, some 97, some 98, some 99, some 100, some 101, some 102, some 103]), (20, 8, []), (20, 6, []), (20, 4, []), (1, 6, List.replicate 6 none), (1, 6, List.replicate 6 none), (1, 6, List.replicate 6 none), (3, 4, List.replicate 4 none), (3, 4, List.replicate 4 none), (3, 4, List.replicate 4 none), (3, 4, List.replicate 4 none), (3, 4, List.replicate 4 none), (3, 4, List.replicate 4 none), (3, 4, List.replicate 4 none), (3, 4, List.replicate 4 none), (3, 4, List.replicate 4 none), (3, 4, List.replicate 4 none), (3, 4, List.replicate 4 none), (3, 4, List.replicate 4 none), (4, 7, List.replicate 7 none), (4, 7, List.replicate 7 none), (4, 7, List.replicate 7 none), (4, 7, List.replicate 7 none), (4, 7, List.replicate 7 none), (4, 7, List.replicate 7 none), (4, 7, List.replicate 7 none), (4, 7, List.replicate 7 none), (4, 7, List.replicate 7 none), (4, 7, List.replicate 7 none), (4, 7, List.replicate 7 none), (4, 7, List.replicate 7 none), (4, 7, List.replicate 7 none), (4, 7, List.replicate 7 none), (4, 7, List.replicate 7 none), (4, 7, List.replicate 7 none), (9, 16, [some 30, some 105, none, some 106, none, some 107, none, none, none, none, some 108, none, some 109, none, none, some 110]), (31, 3, [some 111, some 112, some 113]), (33, 12, [some 114, some 115, some 116, some 117, some 118, some 119, some 120, some 121, some 122, some 123, some 124, some 125]), (34, 16, [some 126, some 127, some 128, some 129, some 130, some 131, some 132, some 133, some 134, some 135, some 136, some 137, some 138, some 139, some 140, some 141]), (20, 8, []), (20, 6, []), (20, 4, []), (1, 6, List.replicate 6 none), (1, 6, List.replicate 6 none), (1, 6, List.replicate 6 none), (3, 4, List.replicate 4 none), (3, 4, List.replicate 4 none), (3, 4, List.replicate 4 none), (3, 4, List.replicate 4 none), (3, 4, List.replicate 4 none), (3, 4, List.replicate 4 none), (3, 4, List.replicate 4 none), (3, 4, List.replicate 4 none), (3, 4, List.replicate 4 none), (3, 4, List.replicate 4 none), (3, 4, List.replicate 4 none), (3, 4, List.replicate 4 none), (4, 7, List.replicate 7 none), (4, 7, List.replicate 7 none), (4, 7, List.replicate 7 none), (4, 7, List.replicate 7 none), (4, 7, List.replicate 7 none), (4, 7, List.replicate 7 none), (4, 7, List.replicate 7 none), (4, 7, List.replicate 7 none), (4, 7, List.replicate 7 none), (4, 7, List.replicate 7 none), (4, 7, List.replicate 7 none), (4, 7, List.replicate 7 none), (4, 7, List.replicate 7 none), (4, 7, List.replicate 7 none), (4, 7, List.replicate 7 none), (4, 7, List.replicate 7 none), (9, 16, [some 30, some 143, none, some 144, none, some 145, none, none, none, none, some 146, none, some 147, none, none, some 148]), (31, 3, [some 149, some 150, some 151]), (33, 12, [some 152, some 153, some 154, some 155, some 156, some 157, some 158, some 159, some 160, some 161, some 162, some 163]), (34, 16, [some 164, some 165, some 166, some 167, some 168, some 169, some 170, some 171, some 172, some 173, some 174, some 175, some 176, some 177, some 178, some 179]), (20, 8, []), (20, 6, []), (20, 4, []), (1, 6, List.replicate 6 none), (1, 6, List.replicate 6 none), (1, 6, List.replicate 6 none), (3, 4, List.replicate 4 none), (3, 4, List.replicate 4 none), (3, 4, List.replicate 4 none), (3, 4, List.replicate 4 none), (3, 4, List.replicate 4 none), (3, 4, List.replicate 4 none), (3, 4, List.replicate 4 none), (3, 4, List.replicate 4 none), (3, 4, List.replicate 4 none), (3, 4, List.replicate 4 none), (3, 4, List.replicate 4 none), (3, 4, List.replicate 4 none), (4, 7, List.replicate 7 none), (4, 7, List.replicate 7 none), (4, 7, List.replicate 7 none), (4, 7, List.replicate 7 none), (4, 7, List.replicate 7 none), (4, 7, List.replicate 7 none), (4, 7, List.replicate 7 none), (4, 7, List.replicate 7 none), (4, 7, List.replicate 7 none), (4, 7, List.replicate 7 none), (4, 7, List.replicate 7 none), (4, 7, List.replicate 7 none), (4, 7, List.replicate 7 none), (4, 7, List.replicate 7 none), (4, 7, List.replicate 7 none), (4, 7, List.replicate 7 none), (2, 9, [some 181, some 182, some 183, some 184, some 185, some 186, some 187, some 188, none]), (20, 3, []), (20, 3, []), (20, 12, []), (20, 12, []), (21, 3, []), (21, 12, []), (21, 12, []), (21, 16, []), (10, 6, [some 190, some 191, some 192, none, none, none]), (20, 6, []), (20, 6, []), (20, 6, []), (36, 4, [some 198, some 200, some 202, some 204]), (37, 5, [some 206, some 209, some 212, some 215, some 218]), (20, 60, []), (20, 8, []), (20, 16, []), (6, 3, [none, none, some 199]), (20, 24, []), (6, 3, [none, none, some 201]), (20, 24, []), (6, 3, [none, none, some 203]), (20, 24, []), (6, 3, [none, none, some 205]), (20, 24, []), (7, 4, [none, none, none, some 207]), (6, 3, [none, none, some 208]), (20, 24, []), (7, 4, [none, none, none, some 210]), (6, 3, [none, none, some 211]), (20, 24, []), (7, 4, [none, none, none, some 213]), (6, 3, [none, none, some 214]), (20, 24, []), (7, 4, [none, none, none, some 216]), (6, 3, [none, none, some 217]), (20, 24, []), (7, 4, [none, none, none, some 219]), (6, 3, [none, none, some 220]), (20, 24, []), (12, 44, [some 222, some 223, some 224, none, some 225, some 226, none, none, none, none, none, none, none, some 227, some 228, some 229, none, none, some 230, none, some 231, some 232, some 233, some 234, some 235, some 236, some 237, some 238, some 239, some 240, some 241, some 242, some 243, some 244, none, some 245, some 246, some 247, some 248, some 249, some 250, some 251, some 252, none]), (20, 1561, []), (20, 1561, []), (20, 1561, []), (21, 16, []), (20, 96, []), (22, 15, []), (20, 5, []), (20, 96, []), (20, 96, []), (21, 10, []), (20, 96, []), (20, 4, []), (20, 12, []), (20, 12, []), (20, 3, []), (20, 3, []), (21, 3, []), (21, 12, []), (21, 16, []), (21, 12, []), (20, 8, []), (20, 6, []), (20, 6, []), (20, 4, []), (20, 4, []), (20, 96, []), (20, 5, []), (20, 5, []), (20, 120, []), (20, 24, []), (20, 60, [])]
def am_SK (n : Nat) : am_K := am_ro n ++ am_S1
theorem k_29 (n : Nat) : (am_SK n)[29]? = some (11, 14, [some 30, some 62, some 66, some 104, some 142, none, some 180, some 189, some 193, some 194, some 195, none, some 196, some 197]) := rfl
theorem k_30 (n : Nat) : (am_SK n)[30]? = some (0, 3, [some 31, some 32, some 33]) := rfl
theorem k_31 (n : Nat) : (am_SK n)[31]? = some (38, 14, [some 34, some 36, some 38, some 40, some 42, some 44, some 46, some 48, some 50, some 52, some 54, some 56, some 58, some 60]) := rfl
theorem k_32 (n : Nat) : (am_SK n)[32]? = some (20, 26, []) := rfl
theorem k_33 (n : Nat) : (am_SK n)[33]? = some (20, 96, []) := rfl
theorem k_34 (n : Nat) : (am_SK n)[34]? = some (8, 4, [none, none, none, some 35]) := rfl
theorem k_35 (n : Nat) : (am_SK n)[35]? = some (20, 96, []) := rfl
theorem k_36 (n : Nat) : (am_SK n)[36]? = some (8, 4, [none, none, none, some 37]) := rfl
theorem k_37 (n : Nat) : (am_SK n)[37]? = some (20, 96, []) := rfl
theorem k_38 (n : Nat) : (am_SK n)[38]? = some (8, 4, [none, none, none, some 39]) := rfl
theorem k_39 (n : Nat) : (am_SK n)[39]? = some (20, 96, []) := rfl
theorem k_40 (n : Nat) : (am_SK n)[40]? = some (8, 4, [none, none, none, some 41]) := rfl
theorem k_41 (n : Nat) : (am_SK n)[41]? = some (20, 96, []) := rfl
theorem k_42 (n : Nat) : (am_SK n)[42]? = some (8, 4, [none, none, none, some 43]) := rfl
theorem k_43 (n : Nat) : (am_SK n)[43]? = some (20, 96, []) := rfl
theorem k_44 (n : Nat) : (am_SK n)[44]? = some (8, 4, [none, none, none, some 45]) := rfl
theorem k_45 (n : Nat) : (am_SK n)[45]? = some (20, 96, []) := rfl
theorem k_46 (n : Nat) : (am_SK n)[46]? = some (8, 4, [none, none, none, some 47]) := rfl
theorem k_47 (n : Nat) : (am_SK n)[47]? = some (20, 96, []) := rfl
theorem k_48 (n : Nat) : (am_SK n)[48]? = some (8, 4, [none, none, none, some 49]) := rfl
theorem k_49 (n : Nat) : (am_SK n)[49]? = some (20, 96, []) := rfl
theorem k_50 (n : Nat) : (am_SK n)[50]? = some (8, 4, [none, none, none, some 51]) := rfl
theorem k_51 (n : Nat) : (am_SK n)[51]? = some (20, 96, []) := rfl
theorem k_52 (n : Nat) : (am_SK n)[52]? = some (8, 4, [none, none, none, some 53]) := rfl
theorem k_53 (n : Nat) : (am_SK n)[53]? = some (20, 96, []) := rfl
theorem k_54 (n : Nat) : (am_SK n)[54]? = some (8, 4, [none, none, none, some 55]) := rfl
theorem k_55 (n : Nat) : (am_SK n)[55]? = some (20, 96, []) := rfl
theorem k_56 (n : Nat) : (am_SK n)[56]? = some (8, 4, [none, none, none, some 57]) := rfl
theorem k_57 (n : Nat) : (am_SK n)[57]? = some (20, 96, []) := rfl
theorem k_58 (n : Nat) : (am_SK n)[58]? = some (8, 4, [none, none, none, some 59]) := rfl
theorem k_59 (n : Nat) : (am_SK n)[59]? = some (20, 96, []) := rfl
theorem k_60 (n : Nat) : (am_SK n)[60]? = some (8, 4, [none, none, none, some 61]) := rfl
theorem k_61 (n : Nat) : (am_SK n)[61]? = some (20, 96, []) := rfl
theorem k_62 (n : Nat) : (am_SK n)[62]? = some (5, 7, [some 63, none, some 64, none, none, none, none]) := rfl
theorem k_63 (n : Nat) : (am_SK n)[63]? = some (20, 96, []) := rfl
theorem k_64 (n : Nat) : (am_SK n)[64]? = some (8, 4, [none, none, none, some 65]) := rfl
theorem k_65 (n : Nat) : (am_SK n)[65]? = some (20, 96, []) := rfl
theorem k_66 (n : Nat) : (am_SK n)[66]? = some (9, 16, [some 30, some 67, none, some 68, none, some 69, none, none, none, none, some 70, none, some 71, none, none, some 72]) := rfl
theorem k_67 (n : Nat) : (am_SK n)[67]? = some (31, 3, [some 73, some 74, some 75]) := rfl
theorem k_68 (n : Nat) : (am_SK n)[68]? = some (33, 12, [some 76, some 77, some 78, some 79, some 80, some 81, some 82, some 83, some 84, some 85, some 86, some 87]) := rfl
theorem k_69 (n : Nat) : (am_SK n)[69]? = some (34, 16, [some 88, some 89, some 90, some 91, some 92, some 93, some 94, some 95, some 96, some 97, some 98, some 99, some 100, some 101, some 102, some 103]) := rfl
theorem k_70 (n : Nat) : (am_SK n)[70]? = some (20, 8, []) := rfl
theorem k_71 (n : Nat) : (am_SK n)[71]? = some (20, 6, []) := rfl
theorem k_72 (n : Nat) : (am_SK n)[72]? = some (20, 4, []) := rfl
theorem k_73 (n : Nat) : (am_SK n)[73]? = some (1, 6, List.replicate 6 none) := rfl
theorem k_74 (n : Nat) : (am_SK n)[74]? = some (1, 6, List.replicate 6 none) := rfl
theorem k_75 (n : Nat) : (am_SK n)[75]? = some (1, 6, List.replicate 6 none) := rfl
theorem k_76 (n : Nat) : (am_SK n)[76]? = some (3, 4, List.replicate 4 none) := rfl
theorem k_77 (n : Nat) : (am_SK n)[77]? = some (3, 4, List.replicate 4 none) := rfl
theorem k_78 (n : Nat) : (am_SK n)[78]? = some (3, 4, List.replicate 4 none) := rfl
theorem k_79 (n : Nat) : (am_SK n)[79]? = some (3, 4, List.replicate 4 none) := rfl
theorem k_80 (n : Nat) : (am_SK n)[80]? = some (3, 4, List.replicate 4 none) := rfl
theorem k_81 (n : Nat) : (am_SK n)[81]? = some (3, 4, List.replicate 4 none) := rfl
theorem k_82 (n : Nat) : (am_SK n)[82]? = some (3, 4, List.replicate 4 none) := rfl
theorem k_83 (n : Nat) : (am_SK n)[83]? = some (3, 4, List.replicate 4 none) := rfl
theorem k_84 (n : Nat) : (am_SK n)[84]? = some (3, 4, List.replicate 4 none) := rfl
theorem k_85 (n : Nat) : (am_SK n)[85]? = some (3, 4, List.replicate 4 none) := rfl
theorem k_86 (n : Nat) : (am_SK n)[86]? = some (3, 4, List.replicate 4 none) := rfl
theorem k_87 (n : Nat) : (am_SK n)[87]? = some (3, 4, List.replicate 4 none) := rfl
theorem k_88 (n : Nat) : (am_SK n)[88]? = some (4, 7, List.replicate 7 none) := rfl
theorem k_89 (n : Nat) : (am_SK n)[89]? = some (4, 7, List.replicate 7 none) := rfl
theorem k_90 (n : Nat) : (am_SK n)[90]? = some (4, 7, List.replicate 7 none) := rfl
theorem k_91 (n : Nat) : (am_SK n)[91]? = some (4, 7, List.replicate 7 none) := rfl
theorem k_92 (n : Nat) : (am_SK n)[92]? = some (4, 7, List.replicate 7 none) := rfl
theorem k_93 (n : Nat) : (am_SK n)[93]? = some (4, 7, List.replicate 7 none) := rfl
theorem k_94 (n : Nat) : (am_SK n)[94]? = some (4, 7, List.replicate 7 none) := rfl
theorem k_95 (n : Nat) : (am_SK n)[95]? = some (4, 7, List.replicate 7 none) := rfl
theorem k_96 (n : Nat) : (am_SK n)[96]? = some (4, 7, List.replicate 7 none) := rfl
theorem k_97 (n : Nat) : (am_SK n)[97]? = some (4, 7, List.replicate 7 none) := rfl
theorem k_98 (n : Nat) : (am_SK n)[98]? = some (4, 7, List.replicate 7 none) := rfl
theorem k_99 (n : Nat) : (am_SK n)[99]? = some (4, 7, List.replicate 7 none) := rfl
theorem k_100 (n : Nat) : (am_SK n)[100]? = some (4, 7, List.replicate 7 none) := rfl
theorem k_101 (n : Nat) : (am_SK n)[101]? = some (4, 7, List.replicate 7 none) := rfl
theorem k_102 (n : Nat) : (am_SK n)[102]? = some (4, 7, List.replicate 7 none) := rfl
theorem k_103 (n : Nat) : (am_SK n)[103]? = some (4, 7, List.replicate 7 none) := rfl
theorem k_104 (n : Nat) : (am_SK n)[104]? = some (9, 16, [some 30, some 105, none, some 106, none, some 107, none, none, none, none, some 108, none, some 109, none, none, some 110]) := rfl
theorem k_105 (n : Nat) : (am_SK n)[105]? = some (31, 3, [some 111, some 112, some 113]) := rfl
theorem k_106 (n : Nat) : (am_SK n)[106]? = some (33, 12, [some 114, some 115, some 116, some 117, some 118, some 119, some 120, some 121, some 122, some 123, some 124, some 125]) := rfl
theorem k_107 (n : Nat) : (am_SK n)[107]? = some (34, 16, [some 126, some 127, some 128, some 129, some 130, some 131, some 132, some 133, some 134, some 135, some 136, some 137, some 138, some 139, some 140, some 141]) := rfl
theorem k_108 (n : Nat) : (am_SK n)[108]? = some (20, 8, []) := rfl
theorem k_109 (n : Nat) : (am_SK n)[109]? = some (20, 6, []) := rfl
theorem k_110 (n : Nat) : (am_SK n)[110]? = some (20, 4, []) := rfl
theorem k_111 (n : Nat) : (am_SK n)[111]? = some (1, 6, List.replicate 6 none) := rfl
theorem k_112 (n : Nat) : (am_SK n)[112]? = some (1, 6, List.replicate 6 none) := rfl
theorem k_113 (n : Nat) : (am_SK n)[113]? = some (1, 6, List.replicate 6 none) := rfl
theorem k_114 (n : Nat) : (am_SK n)[114]? = some (3, 4, List.replicate 4 none) := rfl
theorem k_115 (n : Nat) : (am_SK n)[115]? = some (3, 4, List.replicate 4 none) := rfl
theorem k_116 (n : Nat) : (am_SK n)[116]? = some (3, 4, List.replicate 4 none) := rfl
theorem k_117 (n : Nat) : (am_SK n)[117]? = some (3, 4, List.replicate 4 none) := rfl
theorem k_118 (n : Nat) : (am_SK n)[118]? = some (3, 4, List.replicate 4 none) := rfl
theorem k_119 (n : Nat) : (am_SK n)[119]? = some (3, 4, List.replicate 4 none) := rfl
theorem k_120 (n : Nat) : (am_SK n)[120]? = some (3, 4, List.replicate 4 none) := rfl
theorem k_121 (n : Nat) : (am_SK n)[121]? = some (3, 4, List.replicate 4 none) := rfl
theorem k_122 (n : Nat) : (am_SK n)[122]? = some (3, 4, List.replicate 4 none) := rfl
theorem k_123 (n : Nat) : (am_SK n)[123]? = some (3, 4, List.replicate 4 none) := rfl
theorem k_124 (n : Nat) : (am_SK n)[124]? = some (3, 4, List.replicate 4 none) := rfl
theorem k_125 (n : Nat) : (am_SK n)[125]? = some (3, 4, List.replicate 4 none) := rfl
theorem k_126 (n : Nat) : (am_SK n)[126]? = some (4, 7, List.replicate 7 none) := rfl
theorem k_127 (n : Nat) : (am_SK n)[127]? = some (4, 7, List.replicate 7 none) := rfl
theorem k_128 (n : Nat) : (am_SK n)[128]? = some (4, 7, List.replicate 7 none) := rfl
theorem k_129 (n : Nat) : (am_SK n)[129]? = some (4, 7, List.replicate 7 none) := rfl
theorem k_130 (n : Nat) : (am_SK n)[130]? = some (4, 7, List.replicate 7 none) := rfl
theorem k_131 (n : Nat) : (am_SK n)[131]? = some (4, 7, List.replicate 7 none) := rfl
theorem k_132 (n : Nat) : (am_SK n)[132]? = some (4, 7, List.replicate 7 none) := rfl
theorem k_133 (n : Nat) : (am_SK n)[133]? = some (4, 7, List.replicate 7 none) := rfl
theorem k_134 (n : Nat) : (am_SK n)[134]? = some (4, 7, List.replicate 7 none) := rfl
theorem k_135 (n : Nat) : (am_SK n)[135]? = some (4, 7, List.replicate 7 none) := rfl
theorem k_136 (n : Nat) : (am_SK n)[136]? = some (4, 7, List.replicate 7 none) := rfl
theorem k_137 (n : Nat) : (am_SK n)[137]? = some (4, 7, List.replicate 7 none) := rfl
theorem k_138 (n : Nat) : (am_SK n)[138]? = some (4, 7, List.replicate 7 none) := rfl
theorem k_139 (n : Nat) : (am_SK n)[139]? = some (4, 7, List.replicate 7 none) := rfl
theorem k_140 (n : Nat) : (am_SK n)[140]? = some (4, 7, List.replicate 7 none) := rfl
theorem k_141 (n : Nat) : (am_SK n)[141]? = some (4, 7, List.replicate 7 none) := rfl
theorem k_142 (n : Nat) : (am_SK n)[142]? = some (9, 16, [some 30, some 143, none, some 144, none, some 145, none, none, none, none, some 146, none, some 147, none, none, some 148]) := rfl
theorem k_143 (n : Nat) : (am_SK n)[143]? = some (31, 3, [some 149, some 150, some 151]) := rfl
theorem k_144 (n : Nat) : (am_SK n)[144]? = some (33, 12, [some 152, some 153, some 154, some 155, some 156, some 157, some 158, some 159, some 160, some 161, some 162, some 163]) := rfl
theorem k_145 (n : Nat) : (am_SK n)[145]? = some (34, 16, [some 164, some 165, some 166, some 167, some 168, some 169, some 170, some 171, some 172, some 173, some 174, some 175, some 176, some 177, some 178, some 179]) := rfl
theorem k_146 (n : Nat) : (am_SK n)[146]? = some (20, 8, []) := rfl
theorem k_147 (n : Nat) : (am_SK n)[147]? = some (20, 6, []) := rfl
theorem k_148 (n : Nat) : (am_SK n)[148]? = some (20, 4, []) := rfl
theorem k_149 (n : Nat) : (am_SK n)[149]? = some (1, 6, List.replicate 6 none) := rfl
theorem k_150 (n : Nat) : (am_SK n)[150]? = some (1, 6, List.replicate 6 none) := rfl
theorem k_151 (n : Nat) : (am_SK n)[151]? = some (1, 6, List.replicate 6 none) := rfl
theorem k_152 (n : Nat) : (am_SK n)[152]? = some (3, 4, List.replicate 4 none) := rfl
theorem k_153 (n : Nat) : (am_SK n)[153]? = some (3, 4, List.replicate 4 none) := rfl
theorem k_154 (n : Nat) : (am_SK n)[154]? = some (3, 4, List.replicate 4 none) := rfl
theorem k_155 (n : Nat) : (am_SK n)[155]? = some (3, 4, List.replicate 4 none) := rfl
theorem k_156 (n : Nat) : (am_SK n)[156]? = some (3, 4, List.replicate 4 none) := rfl
theorem k_157 (n : Nat) : (am_SK n)[157]? = some (3, 4, List.replicate 4 none) := rfl
theorem k_158 (n : Nat) : (am_SK n)[158]? = some (3, 4, List.replicate 4 none) := rfl
theorem k_159 (n : Nat) : (am_SK n)[159]? = some (3, 4, List.replicate 4 none) := rfl
theorem k_160 (n : Nat) : (am_SK n)[160]? = some (3, 4, List.replicate 4 none) := rfl
theorem k_161 (n : Nat) : (am_SK n)[161]? = some (3, 4, List.replicate 4 none) := rfl
theorem k_162 (n : Nat) : (am_SK n)[162]? = some (3, 4, List.replicate 4 none) := rfl
theorem k_163 (n : Nat) : (am_SK n)[163]? = some (3, 4, List.replicate 4 none) := rfl
theorem k_164 (n : Nat) : (am_SK n)[164]? = some (4, 7, List.replicate 7 none) := rfl
theorem k_165 (n : Nat) : (am_SK n)[165]? = some (4, 7, List.replicate 7 none) := rfl
theorem k_166 (n : Nat) : (am_SK n)[166]? = some (4, 7, List.replicate 7 none) := rfl
theorem k_167 (n : Nat) : (am_SK n)[167]? = some (4, 7, List.replicate 7 none) := rfl
theorem k_168 (n : Nat) : (am_SK n)[168]? = some (4, 7, List.replicate 7 none) := rfl
theorem k_169 (n : Nat) : (am_SK n)[169]? = some (4, 7, List.replicate 7 none) := rfl
theorem k_170 (n : Nat) : (am_SK n)[170]? = some (4, 7, List.replicate 7 none) := rfl
theorem k_171 (n : Nat) : (am_SK n)[171]? = some (4, 7, List.replicate 7 none) := rfl
theorem k_172 (n : Nat) : (am_SK n)[172]? = some (4, 7, List.replicate 7 none) := rfl
theorem k_173 (n : Nat) : (am_SK n)[173]? = some (4, 7, List.replicate 7 none) := rfl
theorem k_174 (n : Nat) : (am_SK n)[174]? = some (4, 7, List.replicate 7 none) := rfl
theorem k_175 (n : Nat) : (am_SK n)[175]? = some (4, 7, List.replicate 7 none) := rfl
theorem k_176 (n : Nat) : (am_SK n)[176]? = some (4, 7, List.replicate 7 none) := rfl
theorem k_177 (n : Nat) : (am_SK n)[177]? = some (4, 7, List.replicate 7 none) := rfl
theorem k_178 (n : Nat) : (am_SK n)[178]? = some (4, 7, List.replicate 7 none) := rfl
theorem k_179 (n : Nat) : (am_SK n)[179]? = some (4, 7, List.replicate 7 none) := rfl
theorem k_180 (n : Nat) : (am_SK n)[180]? = some (2, 9, [some 181, some 182, some 183, some 184, some 185, some 186, some 187, some 188, none]) := rfl
theorem k_181 (n : Nat) : (am_SK n)[181]? = some (20, 3, []) := rfl
theorem k_182 (n : Nat) : (am_SK n)[182]? = some (20, 3, []) := rfl
theorem k_183 (n : Nat) : (am_SK n)[183]? = some (20, 12, []) := rfl
theorem k_184 (n : Nat) : (am_SK n)[184]? = some (20, 12, []) := rfl
theorem k_185 (n : Nat) : (am_SK n)[185]? = some (21, 3, []) := rfl
theorem k_186 (n : Nat) : (am_SK n)[186]? = some (21, 12, []) := rfl
theorem k_187 (n : Nat) : (am_SK n)[187]? = some (21, 12, []) := rfl
theorem k_188 (n : Nat) : (am_SK n)[188]? = some (21, 16, []) := rfl
theorem k_189 (n : Nat) : (am_SK n)[189]? = some (10, 6, [some 190, some 191, some 192, none, none, none]) := rfl
theorem k_190 (n : Nat) : (am_SK n)[190]? = some (20, 6, []) := rfl
theorem k_191 (n : Nat) : (am_SK n)[191]? = some (20, 6, []) := rfl
theorem k_192 (n : Nat) : (am_SK n)[192]? = some (20, 6, []) := rfl
theorem k_193 (n : Nat) : (am_SK n)[193]? = some (36, 4, [some 198, some 200, some 202, some 204]) := rfl
theorem k_194 (n : Nat) : (am_SK n)[194]? = some (37, 5, [some 206, some 209, some 212, some 215, some 218]) := rfl
theorem k_195 (n : Nat) : (am_SK n)[195]? = some (20, 60, []) := rfl
theorem k_196 (n : Nat) : (am_SK n)[196]? = some (20, 8, []) := rfl
theorem k_197 (n : Nat) : (am_SK n)[197]? = some (20, 16, []) := rfl
theorem k_198 (n : Nat) : (am_SK n)[198]? = some (6, 3, [none, none, some 199]) := rfl
theorem k_199 (n : Nat) : (am_SK n)[199]? = some (20, 24, []) := rfl
theorem k_200 (n : Nat) : (am_SK n)[200]? = some (6, 3, [none, none, some 201]) := rfl
theorem k_201 (n : Nat) : (am_SK n)[201]? = some (20, 24, []) := rfl
theorem k_202 (n : Nat) : (am_SK n)[202]? = some (6, 3, [none, none, some 203]) := rfl
theorem k_203 (n : Nat) : (am_SK n)[203]? = some (20, 24, []) := rfl
theorem k_204 (n : Nat) : (am_SK n)[204]? = some (6, 3, [none, none, some 205]) := rfl
theorem k_205 (n : Nat) : (am_SK n)[205]? = some (20, 24, []) := rfl
theorem k_206 (n : Nat) : (am_SK n)[206]? = some (7, 4, [none, none, none, some 207]) := rfl
theorem k_207 (n : Nat) : (am_SK n)[207]? = some (6, 3, [none, none, some 208]) := rfl
theorem k_208 (n : Nat) : (am_SK n)[208]? = some (20, 24, []) := rfl
theorem k_209 (n : Nat) : (am_SK n)[209]? = some (7, 4, [none, none, none, some 210]) := rfl
theorem k_210 (n : Nat) : (am_SK n)[210]? = some (6, 3, [none, none, some 211]) := rfl
theorem k_211 (n : Nat) : (am_SK n)[211]? = some (20, 24, []) := rfl
theorem k_212 (n : Nat) : (am_SK n)[212]? = some (7, 4, [none, none, none, some 213]) := rfl
theorem k_213 (n : Nat) : (am_SK n)[213]? = some (6, 3, [none, none, some 214]) := rfl
theorem k_214 (n : Nat) : (am_SK n)[214]? = some (20, 24, []) := rfl
theorem k_215 (n : Nat) : (am_SK n)[215]? = some (7, 4, [none, none, none, some 216]) := rfl
theorem k_216 (n : Nat) : (am_SK n)[216]? = some (6, 3, [none, none, some 217]) := rfl
theorem k_217 (n : Nat) : (am_SK n)[217]? = some (20, 24, []) := rfl
theorem k_218 (n : Nat) : (am_SK n)[218]? = some (7, 4, [none, none, none, some 219]) := rfl
theorem k_219 (n : Nat) : (am_SK n)[219]? = some (6, 3, [none, none, some 220]) := rfl
theorem k_220 (n : Nat) : (am_SK n)[220]? = some (20, 24, []) := rfl
theorem k_221 (n : Nat) : (am_SK n)[221]? = some (12, 44, [some 222, some 223, some 224, none, some 225, some 226, none, none, none, none, none, none, none, some 227, some 228, some 229, none, none, some 230, none, some 231, some 232, some 233, some 234, some 235, some 236, some 237, some 238, some 239, some 240, some 241, some 242, some 243, some 244, none, some 245, some 246, some 247, some 248, some 249, some 250, some 251, some 252, none]) := rfl
theorem k_222 (n : Nat) : (am_SK n)[222]? = some (20, 1561, []) := rfl
theorem k_223 (n : Nat) : (am_SK n)[223]? = some (20, 1561, []) := rfl
theorem k_224 (n : Nat) : (am_SK n)[224]? = some (20, 1561, []) := rfl
theorem k_225 (n : Nat) : (am_SK n)[225]? = some (21, 16, []) := rfl
theorem k_226 (n : Nat) : (am_SK n)[226]? = some (20, 96, []) := rfl
theorem k_227 (n : Nat) : (am_SK n)[227]? = some (22, 15, []) := rfl
theorem k_228 (n : Nat) : (am_SK n)[228]? = some (20, 5, []) := rfl
theorem k_229 (n : Nat) : (am_SK n)[229]? = some (20, 96, []) := rfl
theorem k_230 (n : Nat) : (am_SK n)[230]? = some (20, 96, []) := rfl
theorem k_231 (n : Nat) : (am_SK n)[231]? = some (21, 10, []) := rfl
theorem k_232 (n : Nat) : (am_SK n)[232]? = some (20, 96, []) := rfl
theorem k_233 (n : Nat) : (am_SK n)[233]? = some (20, 4, []) := rfl
theorem k_234 (n : Nat) : (am_SK n)[234]? = some (20, 12, []) := rfl
theorem k_235 (n : Nat) : (am_SK n)[235]? = some (20, 12, []) := rfl
theorem k_236 (n : Nat) : (am_SK n)[236]? = some (20, 3, []) := rfl
theorem k_237 (n : Nat) : (am_SK n)[237]? = some (20, 3, []) := rfl
theorem k_238 (n : Nat) : (am_SK n)[238]? = some (21, 3, []) := rfl
theorem k_239 (n : Nat) : (am_SK n)[239]? = some (21, 12, []) := rfl
theorem k_240 (n : Nat) : (am_SK n)[240]? = some (21, 16, []) := rfl
set_option maxRecDepth 4000 in
theorem k_241 (n : Nat) : (am_SK n)[241]? = some (21, 12, []) := rfl
set_option maxRecDepth 4000 in
theorem k_242 (n : Nat) : (am_SK n)[242]? = some (20, 8, []) := rfl
set_option maxRecDepth 4000 in
theorem k_243 (n : Nat) : (am_SK n)[243]? = some (20, 6, []) := rfl
set_option maxRecDepth 4000 in
theorem k_244 (n : Nat) : (am_SK n)[244]? = some (20, 6, []) := rfl
set_option maxRecDepth 4000 in
theorem k_245 (n : Nat) : (am_SK n)[245]? = some (20, 4, []) := rfl
set_option maxRecDepth 4000 in
theorem k_246 (n : Nat) : (am_SK n)[246]? = some (20, 4, []) := rfl
set_option maxRecDepth 4000 in
theorem k_247 (n : Nat) : (am_SK n)[247]? = some (20, 96, []) := rfl
set_option maxRecDepth 4000 in
theorem k_248 (n : Nat) : (am_SK n)[248]? = some (20, 5, []) := rfl
set_option maxRecDepth 4000 in
theorem k_249 (n : Nat) : (am_SK n)[249]? = some (20, 5, []) := rfl
set_option maxRecDepth 4000 in
theorem k_250 (n : Nat) : (am_SK n)[250]? = some (20, 120, []) := rfl
set_option maxRecDepth 4000 in
theorem k_251 (n : Nat) : (am_SK n)[251]? = some (20, 24, []) := rfl
set_option maxRecDepth 4000 in
theorem k_252 (n : Nat) : (am_SK n)[252]? = some (20, 60, []) := rfl
theorem k_0 (n : Nat) : (am_SK n)[0]? = some (20, 6, []) := rfl
theorem k_1 (n : Nat) : (am_SK n)[1]? = some (20, n, []) := rfl
theorem k_2 (n : Nat) : (am_SK n)[2]? = some (13, 2, [some 15, none]) := rfl
theorem k_15 (n : Nat) : (am_SK n)[15]? = some (23, 3, []) := rfl
theorem k_3 (n : Nat) : (am_SK n)[3]? = some (13, 2, [some 16, none]) := rfl
theorem k_16 (n : Nat) : (am_SK n)[16]? = some (23, 4, []) := rfl
theorem k_4 (n : Nat) : (am_SK n)[4]? = some (13, 2, [some 17, none]) := rfl
theorem k_17 (n : Nat) : (am_SK n)[17]? = some (23, 5, []) := rfl
theorem k_5 (n : Nat) : (am_SK n)[5]? = some (13, 2, [some 18, none]) := rfl
theorem k_18 (n : Nat) : (am_SK n)[18]? = some (23, 3, []) := rfl
theorem k_6 (n : Nat) : (am_SK n)[6]? = some (13, 2, [some 19, none]) := rfl
theorem k_19 (n : Nat) : (am_SK n)[19]? = some (23, 3, []) := rfl
theorem k_7 (n : Nat) : (am_SK n)[7]? = some (13, 2, [some 20, none]) := rfl
theorem k_20 (n : Nat) : (am_SK n)[20]? = some (23, 3, []) := rfl
theorem k_8 (n : Nat) : (am_SK n)[8]? = some (13, 2, [some 21, none]) := rfl
theorem k_21 (n : Nat) : (am_SK n)[21]? = some (23, 2, []) := rfl
theorem k_9 (n : Nat) : (am_SK n)[9]? = some (13, 2, [some 22, none]) := rfl
theorem k_22 (n : Nat) : (am_SK n)[22]? = some (23, 2, []) := rfl
theorem k_10 (n : Nat) : (am_SK n)[10]? = some (13, 2, [some 23, none]) := rfl
theorem k_23 (n : Nat) : (am_SK n)[23]? = some (23, 1, []) := rfl
theorem k_11 (n : Nat) : (am_SK n)[11]? = some (13, 2, [some 24, none]) := rfl
theorem k_24 (n : Nat) : (am_SK n)[24]? = some (23, 1, []) := rfl
theorem k_12 (n : Nat) : (am_SK n)[12]? = some (13, 2, [some 25, none]) := rfl
theorem k_25 (n : Nat) : (am_SK n)[25]? = some (23, 3, []) := rfl
theorem k_13 (n : Nat) : (am_SK n)[13]? = some (13, 2, [some 26, none]) := rfl
theorem k_26 (n : Nat) : (am_SK n)[26]? = some (23, 2, []) := rfl
theorem k_14 (n : Nat) : (am_SK n)[14]? = some (13, 2, [some 27, none]) := rfl
theorem k_27 (n : Nat) : (am_SK n)[27]? = some (23, 2, []) := rfl
/-- a town of the class: 66 now, 104 the image, 142 the trial -/
def am_T (t : Nat) : Prop := t = 66 ∨ t = 104 ∨ t = 142
theorem am_T.ge {t : Nat} (h : am_T t) : 66 ≤ t ∧ t ≤ 142 := by rcases h with rfl | rfl | rfl <;> decide
theorem kt_0 {t : Nat} (n : Nat) (h : am_T t) : (am_SK n)[t]? = some (9, 16, [some 30, some (t + 1), none, some (t + 2), none, some (t + 3), none, none, none, none, some (t + 4), none, some (t + 5), none, none, some (t + 6)]) := by rcases h with rfl | rfl | rfl <;> rfl
theorem kt_1 {t : Nat} (n : Nat) (h : am_T t) : (am_SK n)[t + 1]? = some (31, 3, [some (t + 7), some (t + 8), some (t + 9)]) := by rcases h with rfl | rfl | rfl <;> rfl
theorem kt_2 {t : Nat} (n : Nat) (h : am_T t) : (am_SK n)[t + 2]? = some (33, 12, [some (t + 10), some (t + 11), some (t + 12), some (t + 13), some (t + 14), some (t + 15), some (t + 16), some (t + 17), some (t + 18), some (t + 19), some (t + 20), some (t + 21)]) := by rcases h with rfl | rfl | rfl <;> rfl
theorem kt_3 {t : Nat} (n : Nat) (h : am_T t) : (am_SK n)[t + 3]? = some (34, 16, [some (t + 22), some (t + 23), some (t + 24), some (t + 25), some (t + 26), some (t + 27), some (t + 28), some (t + 29), some (t + 30), some (t + 31), some (t + 32), some (t + 33), some (t + 34), some (t + 35), some (t + 36), some (t + 37)]) := by rcases h with rfl | rfl | rfl <;> rfl
theorem kt_4 {t : Nat} (n : Nat) (h : am_T t) : (am_SK n)[t + 4]? = some (20, 8, []) := by rcases h with rfl | rfl | rfl <;> rfl
theorem kt_5 {t : Nat} (n : Nat) (h : am_T t) : (am_SK n)[t + 5]? = some (20, 6, []) := by rcases h with rfl | rfl | rfl <;> rfl
theorem kt_6 {t : Nat} (n : Nat) (h : am_T t) : (am_SK n)[t + 6]? = some (20, 4, []) := by rcases h with rfl | rfl | rfl <;> rfl
theorem kt_cab {t c : Nat} (n : Nat) (h : am_T t) (hc : c < 3) : (am_SK n)[t + 7 + c]? = some (1, 6, List.replicate 6 none) := by
  revert c
  rcases h with rfl | rfl | rfl
  · intro c hc; match c, hc with
    | 0, _ => rfl
    | 1, _ => rfl
    | 2, _ => rfl
    | c + 3, hc => omega
  · intro c hc; match c, hc with
    | 0, _ => rfl
    | 1, _ => rfl
    | 2, _ => rfl
    | c + 3, hc => omega
  · intro c hc; match c, hc with
    | 0, _ => rfl
    | 1, _ => rfl
    | 2, _ => rfl
    | c + 3, hc => omega
theorem kt_joint {t c : Nat} (n : Nat) (h : am_T t) (hc : c < 12) : (am_SK n)[t + 10 + c]? = some (3, 4, List.replicate 4 none) := by
  revert c
  rcases h with rfl | rfl | rfl
  · intro c hc; match c, hc with
    | 0, _ => rfl
    | 1, _ => rfl
    | 2, _ => rfl
    | 3, _ => rfl
    | 4, _ => rfl
    | 5, _ => rfl
    | 6, _ => rfl
    | 7, _ => rfl
    | 8, _ => rfl
    | 9, _ => rfl
    | 10, _ => rfl
    | 11, _ => rfl
    | c + 12, hc => omega
  · intro c hc; match c, hc with
    | 0, _ => rfl
    | 1, _ => rfl
    | 2, _ => rfl
    | 3, _ => rfl
    | 4, _ => rfl
    | 5, _ => rfl
    | 6, _ => rfl
    | 7, _ => rfl
    | 8, _ => rfl
    | 9, _ => rfl
    | 10, _ => rfl
    | 11, _ => rfl
    | c + 12, hc => omega
  · intro c hc; match c, hc with
    | 0, _ => rfl
    | 1, _ => rfl
    | 2, _ => rfl
    | 3, _ => rfl
    | 4, _ => rfl
    | 5, _ => rfl
    | 6, _ => rfl
    | 7, _ => rfl
    | 8, _ => rfl
    | 9, _ => rfl
    | 10, _ => rfl
    | 11, _ => rfl
    | c + 12, hc => omega
theorem kt_lamp {t c : Nat} (n : Nat) (h : am_T t) (hc : c < 16) : (am_SK n)[t + 22 + c]? = some (4, 7, List.replicate 7 none) := by
  revert c
  rcases h with rfl | rfl | rfl
  · intro c hc; match c, hc with
    | 0, _ => rfl
    | 1, _ => rfl
    | 2, _ => rfl
    | 3, _ => rfl
    | 4, _ => rfl
    | 5, _ => rfl
    | 6, _ => rfl
    | 7, _ => rfl
    | 8, _ => rfl
    | 9, _ => rfl
    | 10, _ => rfl
    | 11, _ => rfl
    | 12, _ => rfl
    | 13, _ => rfl
    | 14, _ => rfl
    | 15, _ => rfl
    | c + 16, hc => omega
  · intro c hc; match c, hc with
    | 0, _ => rfl
    | 1, _ => rfl
    | 2, _ => rfl
    | 3, _ => rfl
    | 4, _ => rfl
    | 5, _ => rfl
    | 6, _ => rfl
    | 7, _ => rfl
    | 8, _ => rfl
    | 9, _ => rfl
    | 10, _ => rfl
    | 11, _ => rfl
    | 12, _ => rfl
    | 13, _ => rfl
    | 14, _ => rfl
    | 15, _ => rfl
    | c + 16, hc => omega
  · intro c hc; match c, hc with
    | 0, _ => rfl
    | 1, _ => rfl
    | 2, _ => rfl
    | 3, _ => rfl
    | 4, _ => rfl
    | 5, _ => rfl
    | 6, _ => rfl
    | 7, _ => rfl
    | 8, _ => rfl
    | 9, _ => rfl
    | 10, _ => rfl
    | 11, _ => rfl
    | 12, _ => rfl
    | 13, _ => rfl
    | 14, _ => rfl
    | 15, _ => rfl
    | c + 16, hc => omega
theorem kr_cab {t c : Nat} (hc : c < 3) : ([some (t + 7), some (t + 8), some (t + 9)] : List (Option Nat))[c]? = some (some (t + 7 + c)) := by
  match c, hc with
  | 0, _ => rfl
  | 1, _ => rfl
  | 2, _ => rfl
  | c + 3, hc => omega
theorem kr_joint {t c : Nat} (hc : c < 12) : ([some (t + 10), some (t + 11), some (t + 12), some (t + 13), some (t + 14), some (t + 15), some (t + 16), some (t + 17), some (t + 18), some (t + 19), some (t + 20), some (t + 21)] : List (Option Nat))[c]? = some (some (t + 10 + c)) := by
  match c, hc with
  | 0, _ => rfl
  | 1, _ => rfl
  | 2, _ => rfl
  | 3, _ => rfl
  | 4, _ => rfl
  | 5, _ => rfl
  | 6, _ => rfl
  | 7, _ => rfl
  | 8, _ => rfl
  | 9, _ => rfl
  | 10, _ => rfl
  | 11, _ => rfl
  | c + 12, hc => omega
theorem kr_lamp {t c : Nat} (hc : c < 16) : ([some (t + 22), some (t + 23), some (t + 24), some (t + 25), some (t + 26), some (t + 27), some (t + 28), some (t + 29), some (t + 30), some (t + 31), some (t + 32), some (t + 33), some (t + 34), some (t + 35), some (t + 36), some (t + 37)] : List (Option Nat))[c]? = some (some (t + 22 + c)) := by
  match c, hc with
  | 0, _ => rfl
  | 1, _ => rfl
  | 2, _ => rfl
  | 3, _ => rfl
  | 4, _ => rfl
  | 5, _ => rfl
  | 6, _ => rfl
  | 7, _ => rfl
  | 8, _ => rfl
  | 9, _ => rfl
  | 10, _ => rfl
  | 11, _ => rfl
  | 12, _ => rfl
  | 13, _ => rfl
  | 14, _ => rfl
  | 15, _ => rfl
  | c + 16, hc => omega
section EVN
variable {code : am_C} {d pc nx : Nat} {L : am_L} {st : List Value} {sk : am_K} {mem : am_M} {Q : am_P}
theorem am_nin {m N : Nat} (hm : m < N) (hN : N < 2 ^ 31) : ¬ (nI m < 0 ∨ N ≤ (nI m).toNatClampNeg) := nI_in hm hN
theorem ev_ialdN {q N m : Nat} {i : Int32} {rs : List (Option Nat)} (hc : am_at code pc = some (.iaload, nx)) (hi : i = nI m) (k : am_ev code d nx L (.int (mem q m) :: st) sk mem Q) (hq : sk[q]? = some (20, N, rs) := by assumption) (hm : m < N := by first | omega | assumption) (hN : N < 2 ^ 31 := by decide) : am_ev code d pc L (.int i :: .ref q :: st) sk mem Q := by
  subst hi
  refine ev_iald hc ?_ hq (am_nin hm hN)
  rw [nI_clamp (Nat.lt_trans hm hN)]
  exact k
theorem ev_zaldN {q N m : Nat} {i : Int32} {rs : List (Option Nat)} (hc : am_at code pc = some (.baload, nx)) (hi : i = nI m) (k : am_ev code d nx L (.int (mem q m) :: st) sk mem Q) (hq : sk[q]? = some (21, N, rs) := by assumption) (hm : m < N := by first | omega | assumption) (hN : N < 2 ^ 31 := by decide) : am_ev code d pc L (.int i :: .ref q :: st) sk mem Q := by
  subst hi
  refine ev_zald hc ?_ hq (am_nin hm hN)
  rw [nI_clamp (Nat.lt_trans hm hN)]
  exact k
theorem ev_iastN {q N m : Nat} {i x : Int32} {rs : List (Option Nat)} (hc : am_at code pc = some (.iastore, nx)) (hi : i = nI m) (k : am_ev code d nx L st sk (am_up mem q m x) Q) (hq : sk[q]? = some (20, N, rs) := by assumption) (hm : m < N := by first | omega | assumption) (hN : N < 2 ^ 31 := by decide) (h29 : 29 ≤ q := by first | decide | omega) : am_ev code d pc L (.int x :: .int i :: .ref q :: st) sk mem Q := by
  subst hi
  refine ev_iast hc ?_ hq (am_nin hm hN) h29
  rw [nI_clamp (Nat.lt_trans hm hN)]
  exact k
theorem ev_zastN {q N m : Nat} {i x : Int32} {rs : List (Option Nat)} (hc : am_at code pc = some (.bastore, nx)) (hi : i = nI m) (k : am_ev code d nx L st sk (am_up mem q m x) Q) (hx : x = 0 ∨ x = 1 := by first | assumption | exact am_b01 _ | decide) (hq : sk[q]? = some (21, N, rs) := by assumption) (hm : m < N := by first | omega | assumption) (hN : N < 2 ^ 31 := by decide) (h29 : 29 ≤ q := by first | decide | omega) : am_ev code d pc L (.int x :: .int i :: .ref q :: st) sk mem Q := by
  subst hi
  refine ev_zast hc ?_ hx hq (am_nin hm hN) h29
  rw [nI_clamp (Nat.lt_trans hm hN)]
  exact k
theorem ev_aldN {q kd N y m : Nat} {i : Int32} {rs : List (Option Nat)} (hc : am_at code pc = some (.aaload, nx)) (hi : i = nI m) (k : am_ev code d nx L (.ref y :: st) sk mem Q) (hy : rs[m]? = some (some y)) (hq : sk[q]? = some (kd, N, rs) := by assumption) (hm : m < N := by first | omega | assumption) (hN : N < 2 ^ 31 := by decide) (h : 30 ≤ kd ∧ 29 ≤ q := by exact ⟨by decide, by first | decide | omega⟩) : am_ev code d pc L (.int i :: .ref q :: st) sk mem Q := by
  subst hi
  exact ev_ald hc k hq (am_nin hm hN) (by rw [nI_clamp (Nat.lt_trans hm hN)]; exact hy) h
end EVN
