section
/-! The heap behind the two constructors: its shape; the words of classes, fields and methods. -/
def am_SH : List (Nat × Nat) := [(10, 0), (7, 0), (100, 600), (8, 0), (104, 4), (104, 6), (0, 0), (100, 80), (0, 0), (100, 80), (0, 0), (100, 4812), (3, 0), (100, 12816), (100, 4812), (100, 4812), (3, 0), (100, 1296), (100, 492), (100, 492), (3, 0), (100, 7888), (100, 2964), (100, 2964), (9, 0), (103, 36), (103, 612), (103, 612), (5, 0), (100, 246), (6, 0), (4, 0), (1, 0), (100, 256), (100, 48), (102, 4096), (100, 729), (100, 3), (100, 3), (100, 729), (100, 729), (100, 6), (100, 6), (2, 0), (100, 18), (100, 18), (100, 108), (100, 108), (100, 6), (100, 432), (100, 73), (2, 0), (100, 18), (100, 18), (100, 108), (100, 108), (100, 6), (100, 432), (100, 73), (2, 0), (100, 18), (100, 18), (100, 108), (100, 108), (100, 6), (100, 432), (100, 73), (2, 0), (100, 18), (100, 18), (100, 108), (100, 108), (100, 6), (100, 432), (100, 73), (2, 0), (100, 18), (100, 18), (100, 108), (100, 108), (100, 6), (100, 432), (100, 73), (2, 0), (100, 18), (100, 18), (100, 108), (100, 108), (100, 6), (100, 432), (100, 73), (11, 0), (101, 600), (102, 6), (100, 6), (100, 6), (100, 6), (100, 6), (100, 108), (100, 108), (100, 648), (100, 648), (100, 36), (100, 432), (100, 432), (100, 144), (100, 3600), (100, 80), (100, 80), (100, 5000), (100, 15000), (100, 15000), (100, 3), (100, 3), (100, 3), (100, 3), (100, 9), (100, 9), (100, 9), (100, 780), (100, 780), (100, 2340), (100, 2340), (100, 2340), (100, 3), (100, 3), (100, 3), (100, 5000), (100, 5000), (103, 36), (103, 612), (100, 8), (102, 729), (100, 2), (100, 2), (100, 8), (100, 8)]
def am_FINL : List (List (Option Nat)) := [[some 1, some 3, some 4, some 5, some 6, some 8, some 10, some 12, some 16, some 20, some 24, some 28, some 30, some 31], [some 2, none, none, none, none, none], [], [some 1, none, none], [], [], [some 7, none], [], [some 9, none], [], [some 11, none], [], [some 13, some 14, some 15, none, none, none, none, none, none], [], [], [], [some 17, some 18, some 19, none, none, none, none, none, none], [], [], [], [some 21, some 22, some 23, none, none, none, none, none, none], [], [], [], [some 25, some 26, some 27], [], [], [], [some 29], [], [some 16, some 20, some 28, some 8, none, none, none], [some 32, some 35, some 36, none, some 37, some 38, some 39, some 40, some 41, some 42, none, none], [some 33, some 34], [], [], [], [], [], [], [], [], [], [], [none, none, none, none, none, none, none, some 44, some 45, some 46, some 47, some 48, some 49, some 50, none, none], [], [], [], [], [], [], [], [none, none, none, none, none, none, none, some 52, some 53, some 54, some 55, some 56, some 57, some 58, none, none], [], [], [], [], [], [], [], [none, none, none, none, none, none, none, some 60, some 61, some 62, some 63, some 64, some 65, some 66, none, none], [], [], [], [], [], [], [], [none, none, none, none, none, none, none, some 68, some 69, some 70, some 71, some 72, some 73, some 74, none, none], [], [], [], [], [], [], [], [none, none, none, none, none, none, none, some 76, some 77, some 78, some 79, some 80, some 81, some 82, none, none], [], [], [], [], [], [], [], [none, none, none, none, none, none, none, some 84, some 85, some 86, some 87, some 88, some 89, some 90, none, none], [], [], [], [], [], [], [], [some 92, none, none, none, none, none, none, some 93, some 94, some 95, some 96, some 97, some 98, some 99, some 100, some 101, some 102, some 103, some 104, some 105, some 106, none, some 107, some 108, some 109, none, none, none, none, some 110, some 111, some 112, some 113, some 114, some 115, some 116, some 117, some 118, some 119, some 120, some 121, some 122, some 123, none, none, none, some 124, some 125, some 126, none, none, none, some 127, some 128, none, some 129, some 130, some 131, some 132, some 133, some 134, some 135, some 136], [], [], [], [], [], [], [], [], [], [], [], [], [], [], [], [], [], [], [], [], [], [], [], [], [], [], [], [], [], [], [], [], [], [], [], [], [], [], [], [], [], [], [], [], []]
def am_FIN (a : Nat) (k : Int) : Option Nat := (am_FINL.getD a []).getD k.toNat none
abbrev am_K0 : am_Sh := (am_SH, am_FIN)
abbrev am_pI (σ : am_D) (a : Nat) (k x : Int) : am_D := (am_up σ.1 a k x, σ.2)
abbrev am_pJ (σ : am_D) (a : Nat) (k : Int) (x : Int64) : am_D := (σ.1, am_up σ.2.1 a k x, σ.2.2)
abbrev am_pR (σ : am_D) (a : Nat) (k : Int) (o : Option Nat) : am_D := (σ.1, σ.2.1, am_up σ.2.2 a k o)
theorem ob_0 : (am_sh am_SH 0).1 = 10 := by decide +kernel
theorem fn_0_0 : am_FIN 0 0 = some 1 := by decide +kernel
theorem fn_0_1 : am_FIN 0 1 = some 3 := by decide +kernel
theorem fn_0_2 : am_FIN 0 2 = some 4 := by decide +kernel
theorem fn_0_3 : am_FIN 0 3 = some 5 := by decide +kernel
theorem fn_0_4 : am_FIN 0 4 = some 6 := by decide +kernel
theorem fn_0_5 : am_FIN 0 5 = some 8 := by decide +kernel
theorem fn_0_6 : am_FIN 0 6 = some 10 := by decide +kernel
theorem fn_0_7 : am_FIN 0 7 = some 12 := by decide +kernel
theorem fn_0_8 : am_FIN 0 8 = some 16 := by decide +kernel
theorem fn_0_9 : am_FIN 0 9 = some 20 := by decide +kernel
theorem fn_0_10 : am_FIN 0 10 = some 24 := by decide +kernel
theorem fn_0_11 : am_FIN 0 11 = some 28 := by decide +kernel
theorem fn_0_12 : am_FIN 0 12 = some 30 := by decide +kernel
theorem fn_0_13 : am_FIN 0 13 = some 31 := by decide +kernel
theorem ob_1 : (am_sh am_SH 1).1 = 7 := by decide +kernel
theorem fn_1_0 : am_FIN 1 0 = some 2 := by decide +kernel
theorem sh_2 : am_sh am_SH 2 = (100, 600) := by decide +kernel
theorem ob_3 : (am_sh am_SH 3).1 = 8 := by decide +kernel
theorem fn_3_0 : am_FIN 3 0 = some 1 := by decide +kernel
theorem sh_4 : am_sh am_SH 4 = (104, 4) := by decide +kernel
theorem sh_5 : am_sh am_SH 5 = (104, 6) := by decide +kernel
theorem ob_6 : (am_sh am_SH 6).1 = 0 := by decide +kernel
theorem sh_7 : am_sh am_SH 7 = (100, 80) := by decide +kernel
theorem ob_8 : (am_sh am_SH 8).1 = 0 := by decide +kernel
theorem sh_9 : am_sh am_SH 9 = (100, 80) := by decide +kernel
theorem ob_10 : (am_sh am_SH 10).1 = 0 := by decide +kernel
theorem sh_11 : am_sh am_SH 11 = (100, 4812) := by decide +kernel
theorem ob_12 : (am_sh am_SH 12).1 = 3 := by decide +kernel
theorem sh_13 : am_sh am_SH 13 = (100, 12816) := by decide +kernel
theorem sh_14 : am_sh am_SH 14 = (100, 4812) := by decide +kernel
theorem sh_15 : am_sh am_SH 15 = (100, 4812) := by decide +kernel
theorem ob_16 : (am_sh am_SH 16).1 = 3 := by decide +kernel
theorem sh_17 : am_sh am_SH 17 = (100, 1296) := by decide +kernel
theorem sh_18 : am_sh am_SH 18 = (100, 492) := by decide +kernel
theorem sh_19 : am_sh am_SH 19 = (100, 492) := by decide +kernel
theorem ob_20 : (am_sh am_SH 20).1 = 3 := by decide +kernel
theorem sh_21 : am_sh am_SH 21 = (100, 7888) := by decide +kernel
theorem sh_22 : am_sh am_SH 22 = (100, 2964) := by decide +kernel
theorem sh_23 : am_sh am_SH 23 = (100, 2964) := by decide +kernel
theorem ob_24 : (am_sh am_SH 24).1 = 9 := by decide +kernel
theorem fn_24_0 : am_FIN 24 0 = some 25 := by decide +kernel
theorem fn_24_1 : am_FIN 24 1 = some 26 := by decide +kernel
theorem fn_24_2 : am_FIN 24 2 = some 27 := by decide +kernel
theorem sh_25 : am_sh am_SH 25 = (103, 36) := by decide +kernel
theorem sh_26 : am_sh am_SH 26 = (103, 612) := by decide +kernel
theorem sh_27 : am_sh am_SH 27 = (103, 612) := by decide +kernel
theorem ob_28 : (am_sh am_SH 28).1 = 5 := by decide +kernel
theorem fn_28_0 : am_FIN 28 0 = some 29 := by decide +kernel
theorem sh_29 : am_sh am_SH 29 = (100, 246) := by decide +kernel
theorem ob_30 : (am_sh am_SH 30).1 = 6 := by decide +kernel
theorem fn_30_0 : am_FIN 30 0 = some 16 := by decide +kernel
theorem fn_30_1 : am_FIN 30 1 = some 20 := by decide +kernel
theorem fn_30_2 : am_FIN 30 2 = some 28 := by decide +kernel
theorem fn_30_3 : am_FIN 30 3 = some 8 := by decide +kernel
theorem ob_31 : (am_sh am_SH 31).1 = 4 := by decide +kernel
theorem fn_31_0 : am_FIN 31 0 = some 32 := by decide +kernel
theorem fn_31_1 : am_FIN 31 1 = some 35 := by decide +kernel
theorem fn_31_2 : am_FIN 31 2 = some 36 := by decide +kernel
theorem fn_31_4 : am_FIN 31 4 = some 37 := by decide +kernel
theorem fn_31_5 : am_FIN 31 5 = some 38 := by decide +kernel
theorem fn_31_6 : am_FIN 31 6 = some 39 := by decide +kernel
theorem fn_31_7 : am_FIN 31 7 = some 40 := by decide +kernel
theorem fn_31_8 : am_FIN 31 8 = some 41 := by decide +kernel
theorem fn_31_9 : am_FIN 31 9 = some 42 := by decide +kernel
theorem ob_32 : (am_sh am_SH 32).1 = 1 := by decide +kernel
theorem fn_32_0 : am_FIN 32 0 = some 33 := by decide +kernel
theorem fn_32_1 : am_FIN 32 1 = some 34 := by decide +kernel
theorem sh_33 : am_sh am_SH 33 = (100, 256) := by decide +kernel
theorem sh_34 : am_sh am_SH 34 = (100, 48) := by decide +kernel
theorem sh_35 : am_sh am_SH 35 = (102, 4096) := by decide +kernel
theorem sh_36 : am_sh am_SH 36 = (100, 729) := by decide +kernel
theorem sh_37 : am_sh am_SH 37 = (100, 3) := by decide +kernel
theorem sh_38 : am_sh am_SH 38 = (100, 3) := by decide +kernel
theorem sh_39 : am_sh am_SH 39 = (100, 729) := by decide +kernel
theorem sh_40 : am_sh am_SH 40 = (100, 729) := by decide +kernel
theorem sh_41 : am_sh am_SH 41 = (100, 6) := by decide +kernel
theorem sh_42 : am_sh am_SH 42 = (100, 6) := by decide +kernel
theorem ob_43 : (am_sh am_SH 43).1 = 2 := by decide +kernel
theorem sh_44 : am_sh am_SH 44 = (100, 18) := by decide +kernel
theorem sh_45 : am_sh am_SH 45 = (100, 18) := by decide +kernel
theorem sh_46 : am_sh am_SH 46 = (100, 108) := by decide +kernel
theorem sh_47 : am_sh am_SH 47 = (100, 108) := by decide +kernel
theorem sh_48 : am_sh am_SH 48 = (100, 6) := by decide +kernel
theorem sh_49 : am_sh am_SH 49 = (100, 432) := by decide +kernel
theorem sh_50 : am_sh am_SH 50 = (100, 73) := by decide +kernel
theorem ob_51 : (am_sh am_SH 51).1 = 2 := by decide +kernel
theorem sh_52 : am_sh am_SH 52 = (100, 18) := by decide +kernel
theorem sh_53 : am_sh am_SH 53 = (100, 18) := by decide +kernel
theorem sh_54 : am_sh am_SH 54 = (100, 108) := by decide +kernel
theorem sh_55 : am_sh am_SH 55 = (100, 108) := by decide +kernel
theorem sh_56 : am_sh am_SH 56 = (100, 6) := by decide +kernel
theorem sh_57 : am_sh am_SH 57 = (100, 432) := by decide +kernel
theorem sh_58 : am_sh am_SH 58 = (100, 73) := by decide +kernel
theorem ob_59 : (am_sh am_SH 59).1 = 2 := by decide +kernel
theorem sh_60 : am_sh am_SH 60 = (100, 18) := by decide +kernel
theorem sh_61 : am_sh am_SH 61 = (100, 18) := by decide +kernel
theorem sh_62 : am_sh am_SH 62 = (100, 108) := by decide +kernel
theorem sh_63 : am_sh am_SH 63 = (100, 108) := by decide +kernel
theorem sh_64 : am_sh am_SH 64 = (100, 6) := by decide +kernel
theorem sh_65 : am_sh am_SH 65 = (100, 432) := by decide +kernel
theorem sh_66 : am_sh am_SH 66 = (100, 73) := by decide +kernel
theorem ob_67 : (am_sh am_SH 67).1 = 2 := by decide +kernel
theorem sh_68 : am_sh am_SH 68 = (100, 18) := by decide +kernel
theorem sh_69 : am_sh am_SH 69 = (100, 18) := by decide +kernel
theorem sh_70 : am_sh am_SH 70 = (100, 108) := by decide +kernel
theorem sh_71 : am_sh am_SH 71 = (100, 108) := by decide +kernel
theorem sh_72 : am_sh am_SH 72 = (100, 6) := by decide +kernel
theorem sh_73 : am_sh am_SH 73 = (100, 432) := by decide +kernel
theorem sh_74 : am_sh am_SH 74 = (100, 73) := by decide +kernel
theorem ob_75 : (am_sh am_SH 75).1 = 2 := by decide +kernel
theorem sh_76 : am_sh am_SH 76 = (100, 18) := by decide +kernel
theorem sh_77 : am_sh am_SH 77 = (100, 18) := by decide +kernel
theorem sh_78 : am_sh am_SH 78 = (100, 108) := by decide +kernel
theorem sh_79 : am_sh am_SH 79 = (100, 108) := by decide +kernel
theorem sh_80 : am_sh am_SH 80 = (100, 6) := by decide +kernel
theorem sh_81 : am_sh am_SH 81 = (100, 432) := by decide +kernel
theorem sh_82 : am_sh am_SH 82 = (100, 73) := by decide +kernel
theorem ob_83 : (am_sh am_SH 83).1 = 2 := by decide +kernel
theorem sh_84 : am_sh am_SH 84 = (100, 18) := by decide +kernel
theorem sh_85 : am_sh am_SH 85 = (100, 18) := by decide +kernel
theorem sh_86 : am_sh am_SH 86 = (100, 108) := by decide +kernel
theorem sh_87 : am_sh am_SH 87 = (100, 108) := by decide +kernel
theorem sh_88 : am_sh am_SH 88 = (100, 6) := by decide +kernel
theorem sh_89 : am_sh am_SH 89 = (100, 432) := by decide +kernel
theorem sh_90 : am_sh am_SH 90 = (100, 73) := by decide +kernel
theorem ob_91 : (am_sh am_SH 91).1 = 11 := by decide +kernel
theorem fn_91_0 : am_FIN 91 0 = some 92 := by decide +kernel
theorem fn_91_7 : am_FIN 91 7 = some 93 := by decide +kernel
theorem fn_91_8 : am_FIN 91 8 = some 94 := by decide +kernel
theorem fn_91_9 : am_FIN 91 9 = some 95 := by decide +kernel
theorem fn_91_10 : am_FIN 91 10 = some 96 := by decide +kernel
theorem fn_91_11 : am_FIN 91 11 = some 97 := by decide +kernel
theorem fn_91_12 : am_FIN 91 12 = some 98 := by decide +kernel
theorem fn_91_13 : am_FIN 91 13 = some 99 := by decide +kernel
theorem fn_91_14 : am_FIN 91 14 = some 100 := by decide +kernel
theorem fn_91_15 : am_FIN 91 15 = some 101 := by decide +kernel
theorem fn_91_16 : am_FIN 91 16 = some 102 := by decide +kernel
theorem fn_91_17 : am_FIN 91 17 = some 103 := by decide +kernel
theorem fn_91_18 : am_FIN 91 18 = some 104 := by decide +kernel
theorem fn_91_19 : am_FIN 91 19 = some 105 := by decide +kernel
theorem fn_91_20 : am_FIN 91 20 = some 106 := by decide +kernel
theorem fn_91_22 : am_FIN 91 22 = some 107 := by decide +kernel
theorem fn_91_23 : am_FIN 91 23 = some 108 := by decide +kernel
theorem fn_91_24 : am_FIN 91 24 = some 109 := by decide +kernel
theorem fn_91_29 : am_FIN 91 29 = some 110 := by decide +kernel
theorem fn_91_30 : am_FIN 91 30 = some 111 := by decide +kernel
theorem fn_91_31 : am_FIN 91 31 = some 112 := by decide +kernel
theorem fn_91_32 : am_FIN 91 32 = some 113 := by decide +kernel
theorem fn_91_33 : am_FIN 91 33 = some 114 := by decide +kernel
theorem fn_91_34 : am_FIN 91 34 = some 115 := by decide +kernel
theorem fn_91_35 : am_FIN 91 35 = some 116 := by decide +kernel
theorem fn_91_36 : am_FIN 91 36 = some 117 := by decide +kernel
theorem fn_91_37 : am_FIN 91 37 = some 118 := by decide +kernel
theorem fn_91_38 : am_FIN 91 38 = some 119 := by decide +kernel
theorem fn_91_39 : am_FIN 91 39 = some 120 := by decide +kernel
theorem fn_91_40 : am_FIN 91 40 = some 121 := by decide +kernel
theorem fn_91_41 : am_FIN 91 41 = some 122 := by decide +kernel
theorem fn_91_42 : am_FIN 91 42 = some 123 := by decide +kernel
theorem fn_91_46 : am_FIN 91 46 = some 124 := by decide +kernel
theorem fn_91_47 : am_FIN 91 47 = some 125 := by decide +kernel
theorem fn_91_48 : am_FIN 91 48 = some 126 := by decide +kernel
theorem fn_91_52 : am_FIN 91 52 = some 127 := by decide +kernel
theorem fn_91_53 : am_FIN 91 53 = some 128 := by decide +kernel
theorem fn_91_55 : am_FIN 91 55 = some 129 := by decide +kernel
theorem fn_91_56 : am_FIN 91 56 = some 130 := by decide +kernel
theorem fn_91_57 : am_FIN 91 57 = some 131 := by decide +kernel
theorem fn_91_58 : am_FIN 91 58 = some 132 := by decide +kernel
theorem fn_91_59 : am_FIN 91 59 = some 133 := by decide +kernel
theorem fn_91_60 : am_FIN 91 60 = some 134 := by decide +kernel
theorem fn_91_61 : am_FIN 91 61 = some 135 := by decide +kernel
theorem fn_91_62 : am_FIN 91 62 = some 136 := by decide +kernel
theorem sh_92 : am_sh am_SH 92 = (101, 600) := by decide +kernel
theorem sh_93 : am_sh am_SH 93 = (102, 6) := by decide +kernel
theorem sh_94 : am_sh am_SH 94 = (100, 6) := by decide +kernel
theorem sh_95 : am_sh am_SH 95 = (100, 6) := by decide +kernel
theorem sh_96 : am_sh am_SH 96 = (100, 6) := by decide +kernel
theorem sh_97 : am_sh am_SH 97 = (100, 6) := by decide +kernel
theorem sh_98 : am_sh am_SH 98 = (100, 108) := by decide +kernel
theorem sh_99 : am_sh am_SH 99 = (100, 108) := by decide +kernel
theorem sh_100 : am_sh am_SH 100 = (100, 648) := by decide +kernel
theorem sh_101 : am_sh am_SH 101 = (100, 648) := by decide +kernel
theorem sh_102 : am_sh am_SH 102 = (100, 36) := by decide +kernel
theorem sh_103 : am_sh am_SH 103 = (100, 432) := by decide +kernel
theorem sh_104 : am_sh am_SH 104 = (100, 432) := by decide +kernel
theorem sh_105 : am_sh am_SH 105 = (100, 144) := by decide +kernel
theorem sh_106 : am_sh am_SH 106 = (100, 3600) := by decide +kernel
theorem sh_107 : am_sh am_SH 107 = (100, 80) := by decide +kernel
theorem sh_108 : am_sh am_SH 108 = (100, 80) := by decide +kernel
theorem sh_109 : am_sh am_SH 109 = (100, 5000) := by decide +kernel
theorem sh_110 : am_sh am_SH 110 = (100, 15000) := by decide +kernel
theorem sh_111 : am_sh am_SH 111 = (100, 15000) := by decide +kernel
theorem sh_112 : am_sh am_SH 112 = (100, 3) := by decide +kernel
theorem sh_113 : am_sh am_SH 113 = (100, 3) := by decide +kernel
theorem sh_114 : am_sh am_SH 114 = (100, 3) := by decide +kernel
theorem sh_115 : am_sh am_SH 115 = (100, 3) := by decide +kernel
theorem sh_116 : am_sh am_SH 116 = (100, 9) := by decide +kernel
theorem sh_117 : am_sh am_SH 117 = (100, 9) := by decide +kernel
theorem sh_118 : am_sh am_SH 118 = (100, 9) := by decide +kernel
theorem sh_119 : am_sh am_SH 119 = (100, 780) := by decide +kernel
theorem sh_120 : am_sh am_SH 120 = (100, 780) := by decide +kernel
theorem sh_121 : am_sh am_SH 121 = (100, 2340) := by decide +kernel
theorem sh_122 : am_sh am_SH 122 = (100, 2340) := by decide +kernel
theorem sh_123 : am_sh am_SH 123 = (100, 2340) := by decide +kernel
theorem sh_124 : am_sh am_SH 124 = (100, 3) := by decide +kernel
theorem sh_125 : am_sh am_SH 125 = (100, 3) := by decide +kernel
theorem sh_126 : am_sh am_SH 126 = (100, 3) := by decide +kernel
theorem sh_127 : am_sh am_SH 127 = (100, 5000) := by decide +kernel
theorem sh_128 : am_sh am_SH 128 = (100, 5000) := by decide +kernel
theorem sh_129 : am_sh am_SH 129 = (103, 36) := by decide +kernel
theorem sh_130 : am_sh am_SH 130 = (103, 612) := by decide +kernel
theorem sh_131 : am_sh am_SH 131 = (100, 8) := by decide +kernel
theorem sh_132 : am_sh am_SH 132 = (102, 729) := by decide +kernel
theorem sh_133 : am_sh am_SH 133 = (100, 2) := by decide +kernel
theorem sh_134 : am_sh am_SH 134 = (100, 2) := by decide +kernel
theorem sh_135 : am_sh am_SH 135 = (100, 8) := by decide +kernel
theorem sh_136 : am_sh am_SH 136 = (100, 8) := by decide +kernel
def am_isM (m : Nat) : Prop := 43 ≤ m ∧ m ≤ 83 ∧ m % 8 = 3
def am_isR (r : Nat) : Prop := r = 12 ∨ r = 16 ∨ r = 20
def am_isE (e : Nat) : Prop := e = 6 ∨ e = 8 ∨ e = 10
theorem am_isM.c {m : Nat} (h : am_isM m) : m = 43 ∨ m = 51 ∨ m = 59 ∨ m = 67 ∨ m = 75 ∨ m = 83 := by unfold am_isM at h; omega
def am_rc (r : Nat) : Nat := if r = 12 then 12816 else if r = 16 then 1296 else 7888
def am_rs (r : Nat) : Nat := if r = 12 then 4812 else if r = 16 then 492 else 2964
def am_es (e : Nat) : Nat := if e = 10 then 4812 else 80
theorem obM {m : Nat} (h : am_isM m) : (am_sh am_SH m).1 = 2 := by rcases h.c with rfl | rfl | rfl | rfl | rfl | rfl <;> decide +kernel
theorem shM1 {m : Nat} (h : am_isM m) : am_sh am_SH (m + 1) = (100, 18) := by rcases h.c with rfl | rfl | rfl | rfl | rfl | rfl <;> decide +kernel
theorem fnM7 {m : Nat} (h : am_isM m) : am_FIN m 7 = some (m + 1) := by rcases h.c with rfl | rfl | rfl | rfl | rfl | rfl <;> decide +kernel
theorem shM2 {m : Nat} (h : am_isM m) : am_sh am_SH (m + 2) = (100, 18) := by rcases h.c with rfl | rfl | rfl | rfl | rfl | rfl <;> decide +kernel
theorem fnM8 {m : Nat} (h : am_isM m) : am_FIN m 8 = some (m + 2) := by rcases h.c with rfl | rfl | rfl | rfl | rfl | rfl <;> decide +kernel
theorem shM3 {m : Nat} (h : am_isM m) : am_sh am_SH (m + 3) = (100, 108) := by rcases h.c with rfl | rfl | rfl | rfl | rfl | rfl <;> decide +kernel
theorem fnM9 {m : Nat} (h : am_isM m) : am_FIN m 9 = some (m + 3) := by rcases h.c with rfl | rfl | rfl | rfl | rfl | rfl <;> decide +kernel
theorem shM4 {m : Nat} (h : am_isM m) : am_sh am_SH (m + 4) = (100, 108) := by rcases h.c with rfl | rfl | rfl | rfl | rfl | rfl <;> decide +kernel
theorem fnM10 {m : Nat} (h : am_isM m) : am_FIN m 10 = some (m + 4) := by rcases h.c with rfl | rfl | rfl | rfl | rfl | rfl <;> decide +kernel
theorem shM5 {m : Nat} (h : am_isM m) : am_sh am_SH (m + 5) = (100, 6) := by rcases h.c with rfl | rfl | rfl | rfl | rfl | rfl <;> decide +kernel
theorem fnM11 {m : Nat} (h : am_isM m) : am_FIN m 11 = some (m + 5) := by rcases h.c with rfl | rfl | rfl | rfl | rfl | rfl <;> decide +kernel
theorem shM6 {m : Nat} (h : am_isM m) : am_sh am_SH (m + 6) = (100, 432) := by rcases h.c with rfl | rfl | rfl | rfl | rfl | rfl <;> decide +kernel
theorem fnM12 {m : Nat} (h : am_isM m) : am_FIN m 12 = some (m + 6) := by rcases h.c with rfl | rfl | rfl | rfl | rfl | rfl <;> decide +kernel
theorem shM7 {m : Nat} (h : am_isM m) : am_sh am_SH (m + 7) = (100, 73) := by rcases h.c with rfl | rfl | rfl | rfl | rfl | rfl <;> decide +kernel
theorem fnM13 {m : Nat} (h : am_isM m) : am_FIN m 13 = some (m + 7) := by rcases h.c with rfl | rfl | rfl | rfl | rfl | rfl <;> decide +kernel
theorem obR {m : Nat} (h : am_isR m) : (am_sh am_SH m).1 = 3 := by rcases h with rfl | rfl | rfl <;> decide +kernel
theorem obE {m : Nat} (h : am_isE m) : (am_sh am_SH m).1 = 0 := by rcases h with rfl | rfl | rfl <;> decide +kernel
theorem shR1 {m : Nat} (h : am_isR m) : am_sh am_SH (m + 1) = (100, am_rc m) := by rcases h with rfl | rfl | rfl <;> decide +kernel
theorem fnR0 {m : Nat} (h : am_isR m) : am_FIN m 0 = some (m + 1) := by rcases h with rfl | rfl | rfl <;> decide +kernel
theorem shR2 {m : Nat} (h : am_isR m) : am_sh am_SH (m + 2) = (100, am_rs m) := by rcases h with rfl | rfl | rfl <;> decide +kernel
theorem fnR1 {m : Nat} (h : am_isR m) : am_FIN m 1 = some (m + 2) := by rcases h with rfl | rfl | rfl <;> decide +kernel
theorem shR3 {m : Nat} (h : am_isR m) : am_sh am_SH (m + 3) = (100, am_rs m) := by rcases h with rfl | rfl | rfl <;> decide +kernel
theorem fnR2 {m : Nat} (h : am_isR m) : am_FIN m 2 = some (m + 3) := by rcases h with rfl | rfl | rfl <;> decide +kernel
theorem shE1 {m : Nat} (h : am_isE m) : am_sh am_SH (m + 1) = (100, am_es m) := by rcases h with rfl | rfl | rfl <;> decide +kernel
theorem fnE0 {m : Nat} (h : am_isE m) : am_FIN m 0 = some (m + 1) := by rcases h with rfl | rfl | rfl <;> decide +kernel
theorem am_SHle : ∀ a, (am_sh am_SH a).2 ≤ 20000 := by
  have h1 : ∀ a, a < 137 → (am_sh am_SH a).2 ≤ 20000 := by decide +kernel
  have h2 : ∀ (l : List (Nat × Nat)) (a : Nat), l.length ≤ a → am_sh l a = (999, 0) := by
    intro l
    induction l with
    | nil => intro a _; rfl
    | cons x l ih =>
      intro a ha
      cases a with
      | zero => simp at ha
      | succ a => exact ih a (by simpa using ha)
  intro a
  by_cases h : a < 137
  · exact h1 a h
  · rw [h2 am_SH a (by show 137 ≤ a; omega)]; decide
theorem am_shle {a kd n : Nat} (h : am_sh am_SH a = (kd, n)) : n ≤ 2147483647 := by have := am_SHle a; rw [h] at this; exact Nat.le_trans this (by decide)
theorem cw0 : am_cw 0 RX0 TX0 2 tyX0 := ⟨by decide, rfl, uwX0, tyX0_ok, nmX0⟩
theorem cw1 : am_cw 1 RX1 TX1 2 tyX1 := ⟨by decide, rfl, uwX1, tyX1_ok, nmX1⟩
theorem cw2 : am_cw 2 RX2 TX2 16 tyX2 := ⟨by decide, rfl, uwX2, tyX2_ok, nmX2⟩
theorem cw3 : am_cw 3 RX3 TX3 9 tyX3 := ⟨by decide, rfl, uwX3, tyX3_ok, nmX3⟩
theorem cw4 : am_cw 4 RX4 TX4 12 tyX4 := ⟨by decide, rfl, uwX4, tyX4_ok, nmX4⟩
theorem cw5 : am_cw 5 RX5 TX5 1 tyX5 := ⟨by decide, rfl, uwX5, tyX5_ok, nmX5⟩
theorem cw6 : am_cw 6 RX6 TX6 7 tyX6 := ⟨by decide, rfl, uwX6, tyX6_ok, nmX6⟩
theorem cw7 : am_cw 7 RX7 TX7 6 tyX7 := ⟨by decide, rfl, uwX7, tyX7_ok, nmX7⟩
theorem cw8 : am_cw 8 RX8 TX8 3 tyX8 := ⟨by decide, rfl, uwX8, tyX8_ok, nmX8⟩
theorem cw9 : am_cw 9 RX9 TX9 3 tyX9 := ⟨by decide, rfl, uwX9, tyX9_ok, nmX9⟩
theorem cw10 : am_cw 10 RX10 TX10 14 tyX10 := ⟨by decide, rfl, uwX10, tyX10_ok, nmX10⟩
theorem cw11 : am_cw 11 RX11 TX11 63 tyX11 := ⟨by decide, rfl, uwX11, tyX11_ok, nmX11⟩
theorem fl_X10_12 : Cond.fieldLink RX10 12 (TX10 0).1 (TX10 0).2.1 (TX10 0).2.2.1 ∈ am_tb := am_mt 324 (by decide +kernel) (by decide +kernel)
theorem fl_X10_21 : Cond.fieldLink RX10 21 (TX10 1).1 (TX10 1).2.1 (TX10 1).2.2.1 ∈ am_tb := am_mt 325 (by decide +kernel) (by decide +kernel)
theorem fl_X10_27 : Cond.fieldLink RX10 27 (TX10 2).1 (TX10 2).2.1 (TX10 2).2.2.1 ∈ am_tb := am_mt 326 (by decide +kernel) (by decide +kernel)
theorem fl_X10_31 : Cond.fieldLink RX10 31 (TX10 3).1 (TX10 3).2.1 (TX10 3).2.2.1 ∈ am_tb := am_mt 327 (by decide +kernel) (by decide +kernel)
theorem fl_X10_39 : Cond.fieldLink RX10 39 (TX10 4).1 (TX10 4).2.1 (TX10 4).2.2.1 ∈ am_tb := am_mt 328 (by decide +kernel) (by decide +kernel)
theorem fl_X10_43 : Cond.fieldLink RX10 43 (TX10 5).1 (TX10 5).2.1 (TX10 5).2.2.1 ∈ am_tb := am_mt 329 (by decide +kernel) (by decide +kernel)
theorem fl_X10_46 : Cond.fieldLink RX10 46 (TX10 6).1 (TX10 6).2.1 (TX10 6).2.2.1 ∈ am_tb := am_mt 330 (by decide +kernel) (by decide +kernel)
theorem fl_X10_52 : Cond.fieldLink RX10 52 (TX10 7).1 (TX10 7).2.1 (TX10 7).2.2.1 ∈ am_tb := am_mt 331 (by decide +kernel) (by decide +kernel)
theorem fl_X10_56 : Cond.fieldLink RX10 56 (TX10 8).1 (TX10 8).2.1 (TX10 8).2.2.1 ∈ am_tb := am_mt 332 (by decide +kernel) (by decide +kernel)
theorem fl_X10_59 : Cond.fieldLink RX10 59 (TX10 9).1 (TX10 9).2.1 (TX10 9).2.2.1 ∈ am_tb := am_mt 333 (by decide +kernel) (by decide +kernel)
theorem fl_X10_65 : Cond.fieldLink RX10 65 (TX10 10).1 (TX10 10).2.1 (TX10 10).2.2.1 ∈ am_tb := am_mt 334 (by decide +kernel) (by decide +kernel)
theorem fl_X10_72 : Cond.fieldLink RX10 72 (TX10 11).1 (TX10 11).2.1 (TX10 11).2.2.1 ∈ am_tb := am_mt 335 (by decide +kernel) (by decide +kernel)
theorem fl_X10_81 : Cond.fieldLink RX10 81 (TX10 12).1 (TX10 12).2.1 (TX10 12).2.2.1 ∈ am_tb := am_mt 336 (by decide +kernel) (by decide +kernel)
theorem fl_X10_88 : Cond.fieldLink RX10 88 (TX10 13).1 (TX10 13).2.1 (TX10 13).2.2.1 ∈ am_tb := am_mt 337 (by decide +kernel) (by decide +kernel)
theorem fl_X10_100 : Cond.fieldLinkNest RX10 100 (TX7 1).1 (TX7 1).2.1 (TX7 1).2.2.1 "TreeStream" ∈ am_nst := am_mn 35 (by decide +kernel) rfl
theorem fl_X10_112 : Cond.fieldLinkNest RX10 112 (TX7 5).1 (TX7 5).2.1 (TX7 5).2.2.1 "TreeStream" ∈ am_nst := am_mn 43 (by decide +kernel) rfl
theorem fl_X10_133 : Cond.fieldLinkNest RX10 133 (TX2 0).1 (TX2 0).2.1 (TX2 0).2.2.1 "TreeStream" ∈ am_nst := am_mn 260 (by decide +kernel) rfl
theorem fl_X10_136 : Cond.fieldLinkNest RX10 136 (TX2 1).1 (TX2 1).2.1 (TX2 1).2.2.1 "TreeStream" ∈ am_nst := am_mn 263 (by decide +kernel) rfl
theorem fl_X10_139 : Cond.fieldLinkNest RX10 139 (TX2 2).1 (TX2 2).2.1 (TX2 2).2.2.1 "TreeStream" ∈ am_nst := am_mn 267 (by decide +kernel) rfl
theorem fl_X10_142 : Cond.fieldLinkNest RX10 142 (TX2 3).1 (TX2 3).2.1 (TX2 3).2.2.1 "TreeStream" ∈ am_nst := am_mn 269 (by decide +kernel) rfl
theorem fl_X10_145 : Cond.fieldLinkNest RX10 145 (TX2 4).1 (TX2 4).2.1 (TX2 4).2.2.1 "TreeStream" ∈ am_nst := am_mn 271 (by decide +kernel) rfl
theorem fl_X10_148 : Cond.fieldLinkNest RX10 148 (TX2 5).1 (TX2 5).2.1 (TX2 5).2.2.1 "TreeStream" ∈ am_nst := am_mn 274 (by decide +kernel) rfl
theorem fl_X10_151 : Cond.fieldLinkNest RX10 151 (TX2 6).1 (TX2 6).2.1 (TX2 6).2.2.1 "TreeStream" ∈ am_nst := am_mn 277 (by decide +kernel) rfl
theorem fl_X10_166 : Cond.fieldLinkNest RX10 166 (TX3 4).1 (TX3 4).2.1 (TX3 4).2.2.1 "TreeStream" ∈ am_nst := am_mn 108 (by decide +kernel) rfl
theorem fl_X10_170 : Cond.fieldLinkNest RX10 170 (TX3 5).1 (TX3 5).2.1 (TX3 5).2.2.1 "TreeStream" ∈ am_nst := am_mn 111 (by decide +kernel) rfl
theorem fl_X0_15 : Cond.fieldLink RX0 15 (TX0 0).1 (TX0 0).2.1 (TX0 0).2.2.1 ∈ am_tb := am_mt 85 (by decide +kernel) (by decide +kernel)
theorem fl_X0_21 : Cond.fieldLink RX0 21 (TX0 1).1 (TX0 1).2.1 (TX0 1).2.2.1 ∈ am_tb := am_mt 86 (by decide +kernel) (by decide +kernel)
theorem fl_X0_37 : Cond.fieldLinkNest RX0 37 (TX3 6).1 (TX3 6).2.1 (TX3 6).2.2.1 "TreeStream" ∈ am_nst := am_mn 114 (by decide +kernel) rfl
theorem fl_X0_42 : Cond.fieldLinkNest RX0 42 (TX3 8).1 (TX3 8).2.1 (TX3 8).2.2.1 "TreeStream" ∈ am_nst := am_mn 118 (by decide +kernel) rfl
theorem fl_X0_43 : Cond.fieldLinkNest RX0 43 (TX3 1).1 (TX3 1).2.1 (TX3 1).2.2.1 "TreeStream" ∈ am_nst := am_mn 102 (by decide +kernel) rfl
theorem fl_X0_44 : Cond.fieldLinkNest RX0 44 (TX3 2).1 (TX3 2).2.1 (TX3 2).2.2.1 "TreeStream" ∈ am_nst := am_mn 105 (by decide +kernel) rfl
theorem fl_X1_11 : Cond.fieldLink RX1 11 (TX1 0).1 (TX1 0).2.1 (TX1 0).2.2.1 ∈ am_tb := am_mt 208 (by decide +kernel) (by decide +kernel)
theorem fl_X1_15 : Cond.fieldLink RX1 15 (TX1 1).1 (TX1 1).2.1 (TX1 1).2.2.1 ∈ am_tb := am_mt 209 (by decide +kernel) (by decide +kernel)
theorem fl_X2_9 : Cond.fieldLink RX2 9 (TX2 7).1 (TX2 7).2.1 (TX2 7).2.2.1 ∈ am_tb := am_mt 278 (by decide +kernel) (by decide +kernel)
theorem fl_X2_15 : Cond.fieldLink RX2 15 (TX2 8).1 (TX2 8).2.1 (TX2 8).2.2.1 ∈ am_tb := am_mt 279 (by decide +kernel) (by decide +kernel)
theorem fl_X2_18 : Cond.fieldLink RX2 18 (TX2 9).1 (TX2 9).2.1 (TX2 9).2.2.1 ∈ am_tb := am_mt 280 (by decide +kernel) (by decide +kernel)
theorem fl_X2_21 : Cond.fieldLink RX2 21 (TX2 10).1 (TX2 10).2.1 (TX2 10).2.2.1 ∈ am_tb := am_mt 281 (by decide +kernel) (by decide +kernel)
theorem fl_X2_24 : Cond.fieldLink RX2 24 (TX2 11).1 (TX2 11).2.1 (TX2 11).2.2.1 ∈ am_tb := am_mt 282 (by decide +kernel) (by decide +kernel)
theorem fl_X2_27 : Cond.fieldLink RX2 27 (TX2 12).1 (TX2 12).2.1 (TX2 12).2.2.1 ∈ am_tb := am_mt 283 (by decide +kernel) (by decide +kernel)
theorem fl_X2_30 : Cond.fieldLink RX2 30 (TX2 13).1 (TX2 13).2.1 (TX2 13).2.2.1 ∈ am_tb := am_mt 286 (by decide +kernel) (by decide +kernel)
theorem fl_X2_33 : Cond.fieldLink RX2 33 (TX2 2).1 (TX2 2).2.1 (TX2 2).2.2.1 ∈ am_tb := am_mt 266 (by decide +kernel) (by decide +kernel)
theorem fl_X2_37 : Cond.fieldLink RX2 37 (TX2 3).1 (TX2 3).2.1 (TX2 3).2.2.1 ∈ am_tb := am_mt 268 (by decide +kernel) (by decide +kernel)
theorem fl_X2_40 : Cond.fieldLink RX2 40 (TX2 4).1 (TX2 4).2.1 (TX2 4).2.2.1 ∈ am_tb := am_mt 270 (by decide +kernel) (by decide +kernel)
theorem fl_X2_43 : Cond.fieldLink RX2 43 (TX2 5).1 (TX2 5).2.1 (TX2 5).2.2.1 ∈ am_tb := am_mt 272 (by decide +kernel) (by decide +kernel)
theorem fl_X2_46 : Cond.fieldLink RX2 46 (TX2 6).1 (TX2 6).2.1 (TX2 6).2.2.1 ∈ am_tb := am_mt 275 (by decide +kernel) (by decide +kernel)
theorem fl_X2_49 : Cond.fieldLink RX2 49 (TX2 14).1 (TX2 14).2.1 (TX2 14).2.2.1 ∈ am_tb := am_mt 289 (by decide +kernel) (by decide +kernel)
theorem fl_X2_52 : Cond.fieldLink RX2 52 (TX2 15).1 (TX2 15).2.1 (TX2 15).2.2.1 ∈ am_tb := am_mt 290 (by decide +kernel) (by decide +kernel)
theorem fl_X3_17 : Cond.fieldLink RX3 17 (TX3 0).1 (TX3 0).2.1 (TX3 0).2.2.1 ∈ am_tb := am_mt 99 (by decide +kernel) (by decide +kernel)
theorem fl_X3_21 : Cond.fieldLink RX3 21 (TX3 1).1 (TX3 1).2.1 (TX3 1).2.2.1 ∈ am_tb := am_mt 100 (by decide +kernel) (by decide +kernel)
theorem fl_X3_24 : Cond.fieldLink RX3 24 (TX3 2).1 (TX3 2).2.1 (TX3 2).2.2.1 ∈ am_tb := am_mt 103 (by decide +kernel) (by decide +kernel)
theorem fl_X3_27 : Cond.fieldLink RX3 27 (TX3 4).1 (TX3 4).2.1 (TX3 4).2.2.1 ∈ am_tb := am_mt 107 (by decide +kernel) (by decide +kernel)
theorem fl_X3_31 : Cond.fieldLink RX3 31 (TX3 5).1 (TX3 5).2.1 (TX3 5).2.2.1 ∈ am_tb := am_mt 109 (by decide +kernel) (by decide +kernel)
theorem fl_X3_69 : Cond.fieldLink RX3 69 (TX3 3).1 (TX3 3).2.1 (TX3 3).2.2.1 ∈ am_tb := am_mt 106 (by decide +kernel) (by decide +kernel)
theorem fl_X3_72 : Cond.fieldLinkNest RX3 72 (TX2 1).1 (TX2 1).2.1 (TX2 1).2.2.1 "TreeStream" ∈ am_nst := am_mn 264 (by decide +kernel) rfl
theorem fl_X3_79 : Cond.fieldLink RX3 79 (TX3 6).1 (TX3 6).2.1 (TX3 6).2.2.1 ∈ am_tb := am_mt 113 (by decide +kernel) (by decide +kernel)
theorem fl_X3_82 : Cond.fieldLink RX3 82 (TX3 7).1 (TX3 7).2.1 (TX3 7).2.2.1 ∈ am_tb := am_mt 115 (by decide +kernel) (by decide +kernel)
theorem fl_X3_85 : Cond.fieldLink RX3 85 (TX3 8).1 (TX3 8).2.1 (TX3 8).2.2.1 ∈ am_tb := am_mt 117 (by decide +kernel) (by decide +kernel)
theorem fl_X3_112 : Cond.fieldLinkNest RX3 112 (TX2 13).1 (TX2 13).2.1 (TX2 13).2.2.1 "TreeStream" ∈ am_nst := am_mn 288 (by decide +kernel) rfl
theorem fl_X3_115 : Cond.fieldLinkNest RX3 115 (TX2 12).1 (TX2 12).2.1 (TX2 12).2.2.1 "TreeStream" ∈ am_nst := am_mn 285 (by decide +kernel) rfl
theorem fl_X4_14 : Cond.fieldLink RX4 14 (TX4 0).1 (TX4 0).2.1 (TX4 0).2.2.1 ∈ am_tb := am_mt 215 (by decide +kernel) (by decide +kernel)
theorem fl_X4_18 : Cond.fieldLink RX4 18 (TX4 1).1 (TX4 1).2.1 (TX4 1).2.2.1 ∈ am_tb := am_mt 216 (by decide +kernel) (by decide +kernel)
theorem fl_X4_22 : Cond.fieldLink RX4 22 (TX4 2).1 (TX4 2).2.1 (TX4 2).2.2.1 ∈ am_tb := am_mt 217 (by decide +kernel) (by decide +kernel)
theorem fl_X4_26 : Cond.fieldLink RX4 26 (TX4 4).1 (TX4 4).2.1 (TX4 4).2.2.1 ∈ am_tb := am_mt 219 (by decide +kernel) (by decide +kernel)
theorem fl_X4_29 : Cond.fieldLink RX4 29 (TX4 5).1 (TX4 5).2.1 (TX4 5).2.2.1 ∈ am_tb := am_mt 220 (by decide +kernel) (by decide +kernel)
theorem fl_X4_32 : Cond.fieldLink RX4 32 (TX4 6).1 (TX4 6).2.1 (TX4 6).2.2.1 ∈ am_tb := am_mt 221 (by decide +kernel) (by decide +kernel)
theorem fl_X4_35 : Cond.fieldLink RX4 35 (TX4 7).1 (TX4 7).2.1 (TX4 7).2.2.1 ∈ am_tb := am_mt 222 (by decide +kernel) (by decide +kernel)
theorem fl_X4_38 : Cond.fieldLink RX4 38 (TX4 8).1 (TX4 8).2.1 (TX4 8).2.2.1 ∈ am_tb := am_mt 223 (by decide +kernel) (by decide +kernel)
theorem fl_X4_41 : Cond.fieldLink RX4 41 (TX4 9).1 (TX4 9).2.1 (TX4 9).2.2.1 ∈ am_tb := am_mt 224 (by decide +kernel) (by decide +kernel)
theorem fl_X4_52 : Cond.fieldLink RX4 52 (TX4 3).1 (TX4 3).2.1 (TX4 3).2.2.1 ∈ am_tb := am_mt 218 (by decide +kernel) (by decide +kernel)
theorem fl_X4_82 : Cond.fieldLink RX4 82 (TX4 10).1 (TX4 10).2.1 (TX4 10).2.2.1 ∈ am_tb := am_mt 225 (by decide +kernel) (by decide +kernel)
theorem fl_X4_86 : Cond.fieldLink RX4 86 (TX4 11).1 (TX4 11).2.1 (TX4 11).2.2.1 ∈ am_tb := am_mt 226 (by decide +kernel) (by decide +kernel)
theorem fl_X4_111 : Cond.fieldLinkNest RX4 111 (TX2 0).1 (TX2 0).2.1 (TX2 0).2.2.1 "TreeStream" ∈ am_nst := am_mn 261 (by decide +kernel) rfl
theorem fl_X4_120 : Cond.fieldLinkNest RX4 120 (TX2 1).1 (TX2 1).2.1 (TX2 1).2.2.1 "TreeStream" ∈ am_nst := am_mn 265 (by decide +kernel) rfl
theorem fl_X4_133 : Cond.fieldLinkNest RX4 133 (TX2 13).1 (TX2 13).2.1 (TX2 13).2.2.1 "TreeStream" ∈ am_nst := am_mn 287 (by decide +kernel) rfl
theorem fl_X4_136 : Cond.fieldLinkNest RX4 136 (TX2 12).1 (TX2 12).2.1 (TX2 12).2.2.1 "TreeStream" ∈ am_nst := am_mn 284 (by decide +kernel) rfl
theorem fl_X5_9 : Cond.fieldLink RX5 9 (TX5 0).1 (TX5 0).2.1 (TX5 0).2.2.1 ∈ am_tb := am_mt 161 (by decide +kernel) (by decide +kernel)
theorem fl_X5_15 : Cond.fieldLinkNest RX5 15 (TX3 6).1 (TX3 6).2.1 (TX3 6).2.2.1 "TreeStream" ∈ am_nst := am_mn 112 (by decide +kernel) rfl
theorem fl_X5_21 : Cond.fieldLinkNest RX5 21 (TX3 8).1 (TX3 8).2.1 (TX3 8).2.2.1 "TreeStream" ∈ am_nst := am_mn 116 (by decide +kernel) rfl
theorem fl_X5_24 : Cond.fieldLinkNest RX5 24 (TX3 1).1 (TX3 1).2.1 (TX3 1).2.2.1 "TreeStream" ∈ am_nst := am_mn 101 (by decide +kernel) rfl
theorem fl_X5_31 : Cond.fieldLinkNest RX5 31 (TX3 2).1 (TX3 2).2.1 (TX3 2).2.2.1 "TreeStream" ∈ am_nst := am_mn 104 (by decide +kernel) rfl
theorem fl_X6_9 : Cond.fieldLink RX6 9 (TX6 0).1 (TX6 0).2.1 (TX6 0).2.2.1 ∈ am_tb := am_mt 171 (by decide +kernel) (by decide +kernel)
theorem fl_X6_15 : Cond.fieldLink RX6 15 (TX6 1).1 (TX6 1).2.1 (TX6 1).2.2.1 ∈ am_tb := am_mt 172 (by decide +kernel) (by decide +kernel)
theorem fl_X6_18 : Cond.fieldLink RX6 18 (TX6 2).1 (TX6 2).2.1 (TX6 2).2.2.1 ∈ am_tb := am_mt 173 (by decide +kernel) (by decide +kernel)
theorem fl_X6_22 : Cond.fieldLink RX6 22 (TX6 3).1 (TX6 3).2.1 (TX6 3).2.2.1 ∈ am_tb := am_mt 174 (by decide +kernel) (by decide +kernel)
theorem fl_X6_37 : Cond.fieldLink RX6 37 (TX6 5).1 (TX6 5).2.1 (TX6 5).2.2.1 ∈ am_tb := am_mt 176 (by decide +kernel) (by decide +kernel)
theorem fl_X6_54 : Cond.fieldLink RX6 54 (TX6 6).1 (TX6 6).2.1 (TX6 6).2.2.1 ∈ am_tb := am_mt 177 (by decide +kernel) (by decide +kernel)
theorem fl_X6_62 : Cond.fieldLink RX6 62 (TX6 4).1 (TX6 4).2.1 (TX6 4).2.2.1 ∈ am_tb := am_mt 175 (by decide +kernel) (by decide +kernel)
theorem fl_X6_75 : Cond.fieldLinkNest RX6 75 (TX3 5).1 (TX3 5).2.1 (TX3 5).2.2.1 "TreeStream" ∈ am_nst := am_mn 110 (by decide +kernel) rfl
theorem fl_X7_9 : Cond.fieldLink RX7 9 (TX7 0).1 (TX7 0).2.1 (TX7 0).2.2.1 ∈ am_tb := am_mt 33 (by decide +kernel) (by decide +kernel)
theorem fl_X7_15 : Cond.fieldLink RX7 15 (TX7 1).1 (TX7 1).2.1 (TX7 1).2.2.1 ∈ am_tb := am_mt 34 (by decide +kernel) (by decide +kernel)
theorem fl_X7_23 : Cond.fieldLink RX7 23 (TX7 3).1 (TX7 3).2.1 (TX7 3).2.2.1 ∈ am_tb := am_mt 39 (by decide +kernel) (by decide +kernel)
theorem fl_X7_26 : Cond.fieldLink RX7 26 (TX7 4).1 (TX7 4).2.1 (TX7 4).2.2.1 ∈ am_tb := am_mt 40 (by decide +kernel) (by decide +kernel)
theorem fl_X7_29 : Cond.fieldLink RX7 29 (TX7 5).1 (TX7 5).2.1 (TX7 5).2.2.1 ∈ am_tb := am_mt 42 (by decide +kernel) (by decide +kernel)
theorem fl_X7_40 : Cond.fieldLink RX7 40 (TX7 2).1 (TX7 2).2.1 (TX7 2).2.2.1 ∈ am_tb := am_mt 38 (by decide +kernel) (by decide +kernel)
theorem fl_X8_9 : Cond.fieldLink RX8 9 (TX8 0).1 (TX8 0).2.1 (TX8 0).2.2.1 ∈ am_tb := am_mt 64 (by decide +kernel) (by decide +kernel)
theorem fl_X8_28 : Cond.fieldLinkNest RX8 28 (TX7 2).1 (TX7 2).2.1 (TX7 2).2.2.1 "TreeStream" ∈ am_nst := am_mn 37 (by decide +kernel) rfl
theorem fl_X8_32 : Cond.fieldLinkNest RX8 32 (TX7 5).1 (TX7 5).2.1 (TX7 5).2.2.1 "TreeStream" ∈ am_nst := am_mn 41 (by decide +kernel) rfl
theorem fl_X8_46 : Cond.fieldLinkNest RX8 46 (TX7 1).1 (TX7 1).2.1 (TX7 1).2.2.1 "TreeStream" ∈ am_nst := am_mn 36 (by decide +kernel) rfl
theorem fl_X8_62 : Cond.fieldLinkNest RX8 62 (TX2 0).1 (TX2 0).2.1 (TX2 0).2.2.1 "TreeStream" ∈ am_nst := am_mn 259 (by decide +kernel) rfl
theorem fl_X8_65 : Cond.fieldLinkNest RX8 65 (TX2 1).1 (TX2 1).2.1 (TX2 1).2.2.1 "TreeStream" ∈ am_nst := am_mn 262 (by decide +kernel) rfl
theorem fl_X8_90 : Cond.fieldLink RX8 90 (TX8 1).1 (TX8 1).2.1 (TX8 1).2.2.1 ∈ am_tb := am_mt 65 (by decide +kernel) (by decide +kernel)
theorem fl_X8_93 : Cond.fieldLink RX8 93 (TX8 2).1 (TX8 2).2.1 (TX8 2).2.2.1 ∈ am_tb := am_mt 66 (by decide +kernel) (by decide +kernel)
theorem fl_X8_120 : Cond.fieldLinkNest RX8 120 (TX2 5).1 (TX2 5).2.1 (TX2 5).2.2.1 "TreeStream" ∈ am_nst := am_mn 273 (by decide +kernel) rfl
theorem fl_X8_135 : Cond.fieldLinkNest RX8 135 (TX2 6).1 (TX2 6).2.1 (TX2 6).2.2.1 "TreeStream" ∈ am_nst := am_mn 276 (by decide +kernel) rfl
theorem fl_X9_11 : Cond.fieldLink RX9 11 (TX9 0).1 (TX9 0).2.1 (TX9 0).2.2.1 ∈ am_tb := am_mt 144 (by decide +kernel) (by decide +kernel)
theorem fl_X9_15 : Cond.fieldLink RX9 15 (TX9 1).1 (TX9 1).2.1 (TX9 1).2.2.1 ∈ am_tb := am_mt 145 (by decide +kernel) (by decide +kernel)
theorem fl_X9_18 : Cond.fieldLink RX9 18 (TX9 2).1 (TX9 2).2.1 (TX9 2).2.2.1 ∈ am_tb := am_mt 146 (by decide +kernel) (by decide +kernel)
theorem fl_X9_29 : Cond.fieldLinkNest RX9 29 (TX2 0).1 (TX2 0).2.1 (TX2 0).2.2.1 "TreeStream" ∈ am_nst := am_mn 258 (by decide +kernel) rfl
theorem fl_X11_7 : Cond.fieldLink RX11 7 (TX11 0).1 (TX11 0).2.1 (TX11 0).2.2.1 ∈ am_tb := am_mt 985 (by decide +kernel) (by decide +kernel)
theorem fl_X11_13 : Cond.fieldLink RX11 13 (TX11 7).1 (TX11 7).2.1 (TX11 7).2.2.1 ∈ am_tb := am_mt 992 (by decide +kernel) (by decide +kernel)
theorem fl_X11_17 : Cond.fieldLink RX11 17 (TX11 8).1 (TX11 8).2.1 (TX11 8).2.2.1 ∈ am_tb := am_mt 993 (by decide +kernel) (by decide +kernel)
theorem fl_X11_21 : Cond.fieldLink RX11 21 (TX11 9).1 (TX11 9).2.1 (TX11 9).2.2.1 ∈ am_tb := am_mt 994 (by decide +kernel) (by decide +kernel)
theorem fl_X11_24 : Cond.fieldLink RX11 24 (TX11 10).1 (TX11 10).2.1 (TX11 10).2.2.1 ∈ am_tb := am_mt 995 (by decide +kernel) (by decide +kernel)
theorem fl_X11_27 : Cond.fieldLink RX11 27 (TX11 11).1 (TX11 11).2.1 (TX11 11).2.2.1 ∈ am_tb := am_mt 996 (by decide +kernel) (by decide +kernel)
theorem fl_X11_30 : Cond.fieldLink RX11 30 (TX11 12).1 (TX11 12).2.1 (TX11 12).2.2.1 ∈ am_tb := am_mt 997 (by decide +kernel) (by decide +kernel)
theorem fl_X11_33 : Cond.fieldLink RX11 33 (TX11 13).1 (TX11 13).2.1 (TX11 13).2.2.1 ∈ am_tb := am_mt 998 (by decide +kernel) (by decide +kernel)
theorem fl_X11_36 : Cond.fieldLink RX11 36 (TX11 14).1 (TX11 14).2.1 (TX11 14).2.2.1 ∈ am_tb := am_mt 999 (by decide +kernel) (by decide +kernel)
theorem fl_X11_39 : Cond.fieldLink RX11 39 (TX11 15).1 (TX11 15).2.1 (TX11 15).2.2.1 ∈ am_tb := am_mt 1000 (by decide +kernel) (by decide +kernel)
theorem fl_X11_42 : Cond.fieldLink RX11 42 (TX11 16).1 (TX11 16).2.1 (TX11 16).2.2.1 ∈ am_tb := am_mt 1001 (by decide +kernel) (by decide +kernel)
theorem fl_X11_45 : Cond.fieldLink RX11 45 (TX11 17).1 (TX11 17).2.1 (TX11 17).2.2.1 ∈ am_tb := am_mt 1002 (by decide +kernel) (by decide +kernel)
theorem fl_X11_48 : Cond.fieldLink RX11 48 (TX11 18).1 (TX11 18).2.1 (TX11 18).2.2.1 ∈ am_tb := am_mt 1003 (by decide +kernel) (by decide +kernel)
theorem fl_X11_51 : Cond.fieldLink RX11 51 (TX11 19).1 (TX11 19).2.1 (TX11 19).2.2.1 ∈ am_tb := am_mt 1004 (by decide +kernel) (by decide +kernel)
theorem fl_X11_54 : Cond.fieldLink RX11 54 (TX11 20).1 (TX11 20).2.1 (TX11 20).2.2.1 ∈ am_tb := am_mt 1005 (by decide +kernel) (by decide +kernel)
theorem fl_X11_57 : Cond.fieldLink RX11 57 (TX11 22).1 (TX11 22).2.1 (TX11 22).2.2.1 ∈ am_tb := am_mt 1007 (by decide +kernel) (by decide +kernel)
theorem fl_X11_60 : Cond.fieldLink RX11 60 (TX11 23).1 (TX11 23).2.1 (TX11 23).2.2.1 ∈ am_tb := am_mt 1008 (by decide +kernel) (by decide +kernel)
theorem fl_X11_63 : Cond.fieldLink RX11 63 (TX11 24).1 (TX11 24).2.1 (TX11 24).2.2.1 ∈ am_tb := am_mt 1009 (by decide +kernel) (by decide +kernel)
theorem fl_X11_66 : Cond.fieldLink RX11 66 (TX11 29).1 (TX11 29).2.1 (TX11 29).2.2.1 ∈ am_tb := am_mt 1014 (by decide +kernel) (by decide +kernel)
theorem fl_X11_69 : Cond.fieldLink RX11 69 (TX11 30).1 (TX11 30).2.1 (TX11 30).2.2.1 ∈ am_tb := am_mt 1015 (by decide +kernel) (by decide +kernel)
theorem fl_X11_72 : Cond.fieldLink RX11 72 (TX11 31).1 (TX11 31).2.1 (TX11 31).2.2.1 ∈ am_tb := am_mt 1016 (by decide +kernel) (by decide +kernel)
theorem fl_X11_75 : Cond.fieldLink RX11 75 (TX11 32).1 (TX11 32).2.1 (TX11 32).2.2.1 ∈ am_tb := am_mt 1017 (by decide +kernel) (by decide +kernel)
theorem fl_X11_78 : Cond.fieldLink RX11 78 (TX11 33).1 (TX11 33).2.1 (TX11 33).2.2.1 ∈ am_tb := am_mt 1018 (by decide +kernel) (by decide +kernel)
theorem fl_X11_81 : Cond.fieldLink RX11 81 (TX11 34).1 (TX11 34).2.1 (TX11 34).2.2.1 ∈ am_tb := am_mt 1019 (by decide +kernel) (by decide +kernel)
theorem fl_X11_84 : Cond.fieldLink RX11 84 (TX11 35).1 (TX11 35).2.1 (TX11 35).2.2.1 ∈ am_tb := am_mt 1020 (by decide +kernel) (by decide +kernel)
theorem fl_X11_87 : Cond.fieldLink RX11 87 (TX11 36).1 (TX11 36).2.1 (TX11 36).2.2.1 ∈ am_tb := am_mt 1021 (by decide +kernel) (by decide +kernel)
theorem fl_X11_90 : Cond.fieldLink RX11 90 (TX11 37).1 (TX11 37).2.1 (TX11 37).2.2.1 ∈ am_tb := am_mt 1022 (by decide +kernel) (by decide +kernel)
theorem fl_X11_93 : Cond.fieldLink RX11 93 (TX11 38).1 (TX11 38).2.1 (TX11 38).2.2.1 ∈ am_tb := am_mt 1023 (by decide +kernel) (by decide +kernel)
theorem fl_X11_96 : Cond.fieldLink RX11 96 (TX11 39).1 (TX11 39).2.1 (TX11 39).2.2.1 ∈ am_tb := am_mt 1024 (by decide +kernel) (by decide +kernel)
theorem fl_X11_99 : Cond.fieldLink RX11 99 (TX11 40).1 (TX11 40).2.1 (TX11 40).2.2.1 ∈ am_tb := am_mt 1025 (by decide +kernel) (by decide +kernel)
theorem fl_X11_102 : Cond.fieldLink RX11 102 (TX11 41).1 (TX11 41).2.1 (TX11 41).2.2.1 ∈ am_tb := am_mt 1026 (by decide +kernel) (by decide +kernel)
theorem fl_X11_105 : Cond.fieldLink RX11 105 (TX11 42).1 (TX11 42).2.1 (TX11 42).2.2.1 ∈ am_tb := am_mt 1027 (by decide +kernel) (by decide +kernel)
theorem fl_X11_108 : Cond.fieldLink RX11 108 (TX11 46).1 (TX11 46).2.1 (TX11 46).2.2.1 ∈ am_tb := am_mt 1031 (by decide +kernel) (by decide +kernel)
theorem fl_X11_111 : Cond.fieldLink RX11 111 (TX11 47).1 (TX11 47).2.1 (TX11 47).2.2.1 ∈ am_tb := am_mt 1032 (by decide +kernel) (by decide +kernel)
theorem fl_X11_114 : Cond.fieldLink RX11 114 (TX11 48).1 (TX11 48).2.1 (TX11 48).2.2.1 ∈ am_tb := am_mt 1033 (by decide +kernel) (by decide +kernel)
theorem fl_X11_117 : Cond.fieldLink RX11 117 (TX11 52).1 (TX11 52).2.1 (TX11 52).2.2.1 ∈ am_tb := am_mt 1037 (by decide +kernel) (by decide +kernel)
theorem fl_X11_120 : Cond.fieldLink RX11 120 (TX11 53).1 (TX11 53).2.1 (TX11 53).2.2.1 ∈ am_tb := am_mt 1038 (by decide +kernel) (by decide +kernel)
theorem fl_X11_123 : Cond.fieldLink RX11 123 (TX11 55).1 (TX11 55).2.1 (TX11 55).2.2.1 ∈ am_tb := am_mt 1040 (by decide +kernel) (by decide +kernel)
theorem fl_X11_127 : Cond.fieldLink RX11 127 (TX11 56).1 (TX11 56).2.1 (TX11 56).2.2.1 ∈ am_tb := am_mt 1041 (by decide +kernel) (by decide +kernel)
theorem fl_X11_130 : Cond.fieldLink RX11 130 (TX11 57).1 (TX11 57).2.1 (TX11 57).2.2.1 ∈ am_tb := am_mt 1042 (by decide +kernel) (by decide +kernel)
theorem fl_X11_133 : Cond.fieldLink RX11 133 (TX11 58).1 (TX11 58).2.1 (TX11 58).2.2.1 ∈ am_tb := am_mt 1043 (by decide +kernel) (by decide +kernel)
theorem fl_X11_136 : Cond.fieldLink RX11 136 (TX11 59).1 (TX11 59).2.1 (TX11 59).2.2.1 ∈ am_tb := am_mt 1044 (by decide +kernel) (by decide +kernel)
theorem fl_X11_139 : Cond.fieldLink RX11 139 (TX11 60).1 (TX11 60).2.1 (TX11 60).2.2.1 ∈ am_tb := am_mt 1045 (by decide +kernel) (by decide +kernel)
theorem fl_X11_142 : Cond.fieldLink RX11 142 (TX11 61).1 (TX11 61).2.1 (TX11 61).2.2.1 ∈ am_tb := am_mt 1046 (by decide +kernel) (by decide +kernel)
theorem fl_X11_145 : Cond.fieldLink RX11 145 (TX11 62).1 (TX11 62).2.1 (TX11 62).2.2.1 ∈ am_tb := am_mt 1047 (by decide +kernel) (by decide +kernel)
theorem fl_X11_148 : Cond.fieldLink RX11 148 (TX11 1).1 (TX11 1).2.1 (TX11 1).2.2.1 ∈ am_tb := am_mt 986 (by decide +kernel) (by decide +kernel)
theorem fl_X11_160 : Cond.fieldLink RX11 160 (TX11 4).1 (TX11 4).2.1 (TX11 4).2.2.1 ∈ am_tb := am_mt 989 (by decide +kernel) (by decide +kernel)
theorem fl_X11_163 : Cond.fieldLink RX11 163 (TX11 3).1 (TX11 3).2.1 (TX11 3).2.2.1 ∈ am_tb := am_mt 988 (by decide +kernel) (by decide +kernel)
theorem fl_X11_166 : Cond.fieldLink RX11 166 (TX11 5).1 (TX11 5).2.1 (TX11 5).2.2.1 ∈ am_tb := am_mt 990 (by decide +kernel) (by decide +kernel)
theorem fl_X11_169 : Cond.fieldLink RX11 169 (TX11 6).1 (TX11 6).2.1 (TX11 6).2.2.1 ∈ am_tb := am_mt 991 (by decide +kernel) (by decide +kernel)
theorem fl_X11_179 : Cond.fieldLink RX11 179 (TX11 2).1 (TX11 2).2.1 (TX11 2).2.2.1 ∈ am_tb := am_mt 987 (by decide +kernel) (by decide +kernel)
theorem fl_X11_219 : Cond.fieldLink RX11 219 (TX11 21).1 (TX11 21).2.1 (TX11 21).2.2.1 ∈ am_tb := am_mt 1006 (by decide +kernel) (by decide +kernel)
theorem fl_X11_290 : Cond.fieldLink RX11 290 (TX11 26).1 (TX11 26).2.1 (TX11 26).2.2.1 ∈ am_tb := am_mt 1011 (by decide +kernel) (by decide +kernel)
theorem fl_X11_293 : Cond.fieldLink RX11 293 (TX11 28).1 (TX11 28).2.1 (TX11 28).2.2.1 ∈ am_tb := am_mt 1013 (by decide +kernel) (by decide +kernel)
theorem fl_X11_299 : Cond.fieldLink RX11 299 (TX11 25).1 (TX11 25).2.1 (TX11 25).2.2.1 ∈ am_tb := am_mt 1010 (by decide +kernel) (by decide +kernel)
theorem fl_X11_325 : Cond.fieldLink RX11 325 (TX11 27).1 (TX11 27).2.1 (TX11 27).2.2.1 ∈ am_tb := am_mt 1012 (by decide +kernel) (by decide +kernel)
theorem fl_X11_328 : Cond.fieldLink RX11 328 (TX11 49).1 (TX11 49).2.1 (TX11 49).2.2.1 ∈ am_tb := am_mt 1034 (by decide +kernel) (by decide +kernel)
theorem fl_X11_332 : Cond.fieldLink RX11 332 (TX11 50).1 (TX11 50).2.1 (TX11 50).2.2.1 ∈ am_tb := am_mt 1035 (by decide +kernel) (by decide +kernel)
theorem fl_X11_342 : Cond.fieldLink RX11 342 (TX11 45).1 (TX11 45).2.1 (TX11 45).2.2.1 ∈ am_tb := am_mt 1030 (by decide +kernel) (by decide +kernel)
theorem fl_X11_345 : Cond.fieldLink RX11 345 (TX11 43).1 (TX11 43).2.1 (TX11 43).2.2.1 ∈ am_tb := am_mt 1028 (by decide +kernel) (by decide +kernel)
theorem fl_X11_348 : Cond.fieldLink RX11 348 (TX11 44).1 (TX11 44).2.1 (TX11 44).2.2.1 ∈ am_tb := am_mt 1029 (by decide +kernel) (by decide +kernel)
theorem fl_X11_375 : Cond.fieldLink RX11 375 (TX11 51).1 (TX11 51).2.1 (TX11 51).2.2.1 ∈ am_tb := am_mt 1036 (by decide +kernel) (by decide +kernel)
theorem fl_X11_386 : Cond.fieldLink RX11 386 (TX11 54).1 (TX11 54).2.1 (TX11 54).2.2.1 ∈ am_tb := am_mt 1039 (by decide +kernel) (by decide +kernel)
abbrev mX0_init : am_Me := (yX0_init, cX0_init, 2, none)
theorem mb_X0_init : am_mB mX0_init 1 := ⟨am_mt 80 (by decide +kernel) rfl, am_mt 4 (by decide +kernel) (by decide +kernel), ⟨by decide +kernel, by decide +kernel, by decide +kernel⟩, by decide⟩
theorem mv_X0_init : mX0_init.1.name = "<init>" ∧ Cond.instanceMethod yX0_init ∈ am_tb ∧ mX0_init.2.2.2 = none := ⟨rfl, am_mt 79 (by decide +kernel) (by decide +kernel), rfl⟩
abbrev mX0_clear : am_Me := (yX0_clear, cX0_clear, 1, none)
theorem mb_X0_clear : am_mB mX0_clear 0 := ⟨am_mt 583 (by decide +kernel) rfl, am_mt 4 (by decide +kernel) (by decide +kernel), ⟨by decide +kernel, by decide +kernel, by decide +kernel⟩, by decide⟩
theorem mv_X0_clear : Cond.instanceMethod yX0_clear ∈ am_tb ∧ Cond.selects mX0_clear.1.cls yX0_clear yX0_clear ∈ am_tb := ⟨am_mt 581 (by decide +kernel) (by decide +kernel), am_mt 582 (by decide +kernel) (by decide +kernel)⟩
abbrev mX0_add : am_Me := (yX0_add, cX0_add, 2, none)
theorem mb_X0_add : am_mB mX0_add 1 := ⟨am_mt 587 (by decide +kernel) rfl, am_mt 4 (by decide +kernel) (by decide +kernel), ⟨by decide +kernel, by decide +kernel, by decide +kernel⟩, by decide⟩
theorem mv_X0_add : Cond.instanceMethod yX0_add ∈ am_tb ∧ Cond.selects mX0_add.1.cls yX0_add yX0_add ∈ am_tb := ⟨am_mt 585 (by decide +kernel) (by decide +kernel), am_mt 586 (by decide +kernel) (by decide +kernel)⟩
abbrev mX0_drop : am_Me := (yX0_drop, cX0_drop, 1, (some .int))
theorem mb_X0_drop : am_mB mX0_drop 0 := ⟨am_mt 889 (by decide +kernel) rfl, am_mt 4 (by decide +kernel) (by decide +kernel), ⟨by decide +kernel, by decide +kernel, by decide +kernel⟩, by decide⟩
theorem mv_X0_drop : Cond.instanceMethod yX0_drop ∈ am_tb ∧ Cond.selects mX0_drop.1.cls yX0_drop yX0_drop ∈ am_tb := ⟨am_mt 887 (by decide +kernel) (by decide +kernel), am_mt 888 (by decide +kernel) (by decide +kernel)⟩
abbrev mX0_size : am_Me := (yX0_size, cX0_size, 1, (some .int))
theorem mb_X0_size : am_mB mX0_size 0 := ⟨am_mt 740 (by decide +kernel) rfl, am_mt 4 (by decide +kernel) (by decide +kernel), ⟨by decide +kernel, by decide +kernel, by decide +kernel⟩, by decide⟩
theorem mv_X0_size : Cond.instanceMethod yX0_size ∈ am_tb ∧ Cond.selects mX0_size.1.cls yX0_size yX0_size ∈ am_tb := ⟨am_mt 738 (by decide +kernel) (by decide +kernel), am_mt 739 (by decide +kernel) (by decide +kernel)⟩
abbrev mX0_signAt : am_Me := (yX0_signAt, cX0_signAt, 2, (some .int))
theorem mb_X0_signAt : am_mB mX0_signAt 1 := ⟨am_mt 595 (by decide +kernel) rfl, am_mt 4 (by decide +kernel) (by decide +kernel), ⟨by decide +kernel, by decide +kernel, by decide +kernel⟩, by decide⟩
theorem mv_X0_signAt : Cond.instanceMethod yX0_signAt ∈ am_tb ∧ Cond.selects mX0_signAt.1.cls yX0_signAt yX0_signAt ∈ am_tb := ⟨am_mt 593 (by decide +kernel) (by decide +kernel), am_mt 594 (by decide +kernel) (by decide +kernel)⟩
abbrev mX0_elements : am_Me := (yX0_elements, cX0_elements, 1, (some .int))
theorem mb_X0_elements : am_mB mX0_elements 0 := ⟨am_mt 601 (by decide +kernel) rfl, am_mt 4 (by decide +kernel) (by decide +kernel), ⟨by decide +kernel, by decide +kernel, by decide +kernel⟩, by decide⟩
theorem mv_X0_elements : Cond.instanceMethod yX0_elements ∈ am_tb ∧ Cond.selects mX0_elements.1.cls yX0_elements yX0_elements ∈ am_tb := ⟨am_mt 599 (by decide +kernel) (by decide +kernel), am_mt 600 (by decide +kernel) (by decide +kernel)⟩
abbrev mX0_depth : am_Me := (yX0_depth, cX0_depth, 4, (some .int))
theorem mb_X0_depth : am_mB mX0_depth 0 := ⟨am_mt 626 (by decide +kernel) rfl, am_mt 4 (by decide +kernel) (by decide +kernel), ⟨by decide +kernel, by decide +kernel, by decide +kernel⟩, by decide⟩
theorem mv_X0_depth : Cond.instanceMethod yX0_depth ∈ am_tb ∧ Cond.selects mX0_depth.1.cls yX0_depth yX0_depth ∈ am_tb := ⟨am_mt 624 (by decide +kernel) (by decide +kernel), am_mt 625 (by decide +kernel) (by decide +kernel)⟩
abbrev mX0_become : am_Me := (yX0_become, cX0_become, 3, none)
theorem mb_X0_become : am_mB mX0_become 1 := ⟨am_mt 591 (by decide +kernel) rfl, am_mt 4 (by decide +kernel) (by decide +kernel), ⟨by decide +kernel, by decide +kernel, by decide +kernel⟩, by decide⟩
theorem mv_X0_become : Cond.instanceMethod yX0_become ∈ am_tb ∧ Cond.selects mX0_become.1.cls yX0_become yX0_become ∈ am_tb := ⟨am_mt 589 (by decide +kernel) (by decide +kernel), am_mt 590 (by decide +kernel) (by decide +kernel)⟩
abbrev mX0_receive : am_Me := (yX0_receive, cX0_receive, 4, none)
theorem mb_X0_receive : am_mB mX0_receive 1 := ⟨am_mt 727 (by decide +kernel) rfl, am_mt 4 (by decide +kernel) (by decide +kernel), ⟨by decide +kernel, by decide +kernel, by decide +kernel⟩, by decide⟩
theorem mv_X0_receive : Cond.instanceMethod yX0_receive ∈ am_tb ∧ Cond.selects mX0_receive.1.cls yX0_receive yX0_receive ∈ am_tb := ⟨am_mt 725 (by decide +kernel) (by decide +kernel), am_mt 726 (by decide +kernel) (by decide +kernel)⟩
abbrev mX1_init : am_Me := (yX1_init, cX1_init, 4, none)
theorem mb_X1_init : am_mB mX1_init 0 := ⟨am_mt 203 (by decide +kernel) rfl, am_mt 11 (by decide +kernel) (by decide +kernel), ⟨by decide +kernel, by decide +kernel, by decide +kernel⟩, by decide⟩
theorem mv_X1_init : mX1_init.1.name = "<init>" ∧ Cond.instanceMethod yX1_init ∈ am_tb ∧ mX1_init.2.2.2 = none := ⟨rfl, am_mt 202 (by decide +kernel) (by decide +kernel), rfl⟩
abbrev mX1_to : am_Me := (yX1_to, cX1_to, 2, (some .int))
theorem mb_X1_to : am_mB mX1_to 2 := ⟨am_mt 207 (by decide +kernel) rfl, am_mt 11 (by decide +kernel) (by decide +kernel), ⟨by decide +kernel, by decide +kernel, by decide +kernel⟩, by decide⟩
theorem mv_X1_to : Cond.static yX1_to ∈ am_tb := am_mt 206 (by decide +kernel) (by decide +kernel)
abbrev mX1_learn : am_Me := (yX1_learn, cX1_learn, 5, none)
theorem mb_X1_learn : am_mB mX1_learn 1 := ⟨am_mt 923 (by decide +kernel) rfl, am_mt 11 (by decide +kernel) (by decide +kernel), ⟨by decide +kernel, by decide +kernel, by decide +kernel⟩, by decide⟩
theorem mv_X1_learn : Cond.instanceMethod yX1_learn ∈ am_tb ∧ Cond.selects mX1_learn.1.cls yX1_learn yX1_learn ∈ am_tb := ⟨am_mt 921 (by decide +kernel) (by decide +kernel), am_mt 922 (by decide +kernel) (by decide +kernel)⟩
abbrev mX1_passing : am_Me := (yX1_passing, cX1_passing, 7, (some .int))
theorem mb_X1_passing : am_mB mX1_passing 4 := ⟨am_mt 926 (by decide +kernel) rfl, am_mt 11 (by decide +kernel) (by decide +kernel), ⟨by decide +kernel, by decide +kernel, by decide +kernel⟩, by decide⟩
theorem mv_X1_passing : Cond.static yX1_passing ∈ am_tb := am_mt 925 (by decide +kernel) (by decide +kernel)
abbrev mX1_join : am_Me := (yX1_join, cX1_join, 4, (some .int))
theorem mb_X1_join : am_mB mX1_join 2 := ⟨am_mt 961 (by decide +kernel) rfl, am_mt 11 (by decide +kernel) (by decide +kernel), ⟨by decide +kernel, by decide +kernel, by decide +kernel⟩, by decide⟩
theorem mv_X1_join : Cond.instanceMethod yX1_join ∈ am_tb ∧ Cond.selects mX1_join.1.cls yX1_join yX1_join ∈ am_tb := ⟨am_mt 959 (by decide +kernel) (by decide +kernel), am_mt 960 (by decide +kernel) (by decide +kernel)⟩
abbrev mX1_wrap : am_Me := (yX1_wrap, cX1_wrap, 3, (some .int))
theorem mb_X1_wrap : am_mB mX1_wrap 2 := ⟨am_mt 956 (by decide +kernel) rfl, am_mt 11 (by decide +kernel) (by decide +kernel), ⟨by decide +kernel, by decide +kernel, by decide +kernel⟩, by decide⟩
theorem mv_X1_wrap : Cond.instanceMethod yX1_wrap ∈ am_tb ∧ Cond.selects mX1_wrap.1.cls yX1_wrap yX1_wrap ∈ am_tb := ⟨am_mt 954 (by decide +kernel) (by decide +kernel), am_mt 955 (by decide +kernel) (by decide +kernel)⟩
abbrev mX2_init : am_Me := (yX2_init, cX2_init, 1, none)
theorem mb_X2_init : am_mB mX2_init 0 := ⟨am_mt 256 (by decide +kernel) rfl, am_mt 12 (by decide +kernel) (by decide +kernel), ⟨by decide +kernel, by decide +kernel, by decide +kernel⟩, by decide⟩
theorem mv_X2_init : mX2_init.1.name = "<init>" ∧ Cond.instanceMethod yX2_init ∈ am_tb ∧ mX2_init.2.2.2 = none := ⟨rfl, am_mt 255 (by decide +kernel) (by decide +kernel), rfl⟩
abbrev mX2_clear : am_Me := (yX2_clear, cX2_clear, 1, none)
theorem mb_X2_clear : am_mB mX2_clear 0 := ⟨am_mt 401 (by decide +kernel) rfl, am_mt 12 (by decide +kernel) (by decide +kernel), ⟨by decide +kernel, by decide +kernel, by decide +kernel⟩, by decide⟩
theorem mv_X2_clear : Cond.instanceMethod yX2_clear ∈ am_tb ∧ Cond.selects mX2_clear.1.cls yX2_clear yX2_clear ∈ am_tb := ⟨am_mt 399 (by decide +kernel) (by decide +kernel), am_mt 400 (by decide +kernel) (by decide +kernel)⟩
abbrev mX2_rules : am_Me := (yX2_rules, cX2_rules, 1, (some .int))
theorem mb_X2_rules : am_mB mX2_rules 0 := ⟨am_mt 492 (by decide +kernel) rfl, am_mt 12 (by decide +kernel) (by decide +kernel), ⟨by decide +kernel, by decide +kernel, by decide +kernel⟩, by decide⟩
theorem mv_X2_rules : Cond.instanceMethod yX2_rules ∈ am_tb ∧ Cond.selects mX2_rules.1.cls yX2_rules yX2_rules ∈ am_tb := ⟨am_mt 490 (by decide +kernel) (by decide +kernel), am_mt 491 (by decide +kernel) (by decide +kernel)⟩
abbrev mX2_opensTo : am_Me := (yX2_opensTo, cX2_opensTo, 4, (some .int))
theorem mb_X2_opensTo : am_mB mX2_opensTo 2 := ⟨am_mt 504 (by decide +kernel) rfl, am_mt 12 (by decide +kernel) (by decide +kernel), ⟨by decide +kernel, by decide +kernel, by decide +kernel⟩, by decide⟩
theorem mv_X2_opensTo : Cond.instanceMethod yX2_opensTo ∈ am_tb ∧ Cond.selects mX2_opensTo.1.cls yX2_opensTo yX2_opensTo ∈ am_tb := ⟨am_mt 502 (by decide +kernel) (by decide +kernel), am_mt 503 (by decide +kernel) (by decide +kernel)⟩
abbrev mX2_lays : am_Me := (yX2_lays, cX2_lays, 4, (some .int))
theorem mb_X2_lays : am_mB mX2_lays 2 := ⟨am_mt 688 (by decide +kernel) rfl, am_mt 12 (by decide +kernel) (by decide +kernel), ⟨by decide +kernel, by decide +kernel, by decide +kernel⟩, by decide⟩
theorem mv_X2_lays : Cond.instanceMethod yX2_lays ∈ am_tb ∧ Cond.selects mX2_lays.1.cls yX2_lays yX2_lays ∈ am_tb := ⟨am_mt 686 (by decide +kernel) (by decide +kernel), am_mt 687 (by decide +kernel) (by decide +kernel)⟩
abbrev mX2_closesTo : am_Me := (yX2_closesTo, cX2_closesTo, 4, (some .int))
theorem mb_X2_closesTo : am_mB mX2_closesTo 2 := ⟨am_mt 521 (by decide +kernel) rfl, am_mt 12 (by decide +kernel) (by decide +kernel), ⟨by decide +kernel, by decide +kernel, by decide +kernel⟩, by decide⟩
theorem mv_X2_closesTo : Cond.instanceMethod yX2_closesTo ∈ am_tb ∧ Cond.selects mX2_closesTo.1.cls yX2_closesTo yX2_closesTo ∈ am_tb := ⟨am_mt 519 (by decide +kernel) (by decide +kernel), am_mt 520 (by decide +kernel) (by decide +kernel)⟩
abbrev mX2_closeTells : am_Me := (yX2_closeTells, cX2_closeTells, 3, (some .int))
theorem mb_X2_closeTells : am_mB mX2_closeTells 2 := ⟨am_mt 671 (by decide +kernel) rfl, am_mt 12 (by decide +kernel) (by decide +kernel), ⟨by decide +kernel, by decide +kernel, by decide +kernel⟩, by decide⟩
theorem mv_X2_closeTells : Cond.instanceMethod yX2_closeTells ∈ am_tb ∧ Cond.selects mX2_closeTells.1.cls yX2_closeTells yX2_closeTells ∈ am_tb := ⟨am_mt 669 (by decide +kernel) (by decide +kernel), am_mt 670 (by decide +kernel) (by decide +kernel)⟩
abbrev mX2_endTells : am_Me := (yX2_endTells, cX2_endTells, 2, (some .int))
theorem mb_X2_endTells : am_mB mX2_endTells 1 := ⟨am_mt 564 (by decide +kernel) rfl, am_mt 12 (by decide +kernel) (by decide +kernel), ⟨by decide +kernel, by decide +kernel, by decide +kernel⟩, by decide⟩
theorem mv_X2_endTells : Cond.instanceMethod yX2_endTells ∈ am_tb ∧ Cond.selects mX2_endTells.1.cls yX2_endTells yX2_endTells ∈ am_tb := ⟨am_mt 562 (by decide +kernel) (by decide +kernel), am_mt 563 (by decide +kernel) (by decide +kernel)⟩
abbrev mX2_addOpen : am_Me := (yX2_addOpen, cX2_addOpen, 5, none)
theorem mb_X2_addOpen : am_mB mX2_addOpen 4 := ⟨am_mt 508 (by decide +kernel) rfl, am_mt 12 (by decide +kernel) (by decide +kernel), ⟨by decide +kernel, by decide +kernel, by decide +kernel⟩, by decide⟩
theorem mv_X2_addOpen : Cond.instanceMethod yX2_addOpen ∈ am_tb ∧ Cond.selects mX2_addOpen.1.cls yX2_addOpen yX2_addOpen ∈ am_tb := ⟨am_mt 506 (by decide +kernel) (by decide +kernel), am_mt 507 (by decide +kernel) (by decide +kernel)⟩
abbrev mX2_addClose : am_Me := (yX2_addClose, cX2_addClose, 4, none)
theorem mb_X2_addClose : am_mB mX2_addClose 3 := ⟨am_mt 529 (by decide +kernel) rfl, am_mt 12 (by decide +kernel) (by decide +kernel), ⟨by decide +kernel, by decide +kernel, by decide +kernel⟩, by decide⟩
theorem mv_X2_addClose : Cond.instanceMethod yX2_addClose ∈ am_tb ∧ Cond.selects mX2_addClose.1.cls yX2_addClose yX2_addClose ∈ am_tb := ⟨am_mt 527 (by decide +kernel) (by decide +kernel), am_mt 528 (by decide +kernel) (by decide +kernel)⟩
abbrev mX2_addEnd : am_Me := (yX2_addEnd, cX2_addEnd, 2, none)
theorem mb_X2_addEnd : am_mB mX2_addEnd 1 := ⟨am_mt 569 (by decide +kernel) rfl, am_mt 12 (by decide +kernel) (by decide +kernel), ⟨by decide +kernel, by decide +kernel, by decide +kernel⟩, by decide⟩
theorem mv_X2_addEnd : Cond.instanceMethod yX2_addEnd ∈ am_tb ∧ Cond.selects mX2_addEnd.1.cls yX2_addEnd yX2_addEnd ∈ am_tb := ⟨am_mt 567 (by decide +kernel) (by decide +kernel), am_mt 568 (by decide +kernel) (by decide +kernel)⟩
abbrev mX2_startExpression : am_Me := (yX2_startExpression, cX2_startExpression, 1, none)
theorem mb_X2_startExpression : am_mB mX2_startExpression 0 := ⟨am_mt 537 (by decide +kernel) rfl, am_mt 12 (by decide +kernel) (by decide +kernel), ⟨by decide +kernel, by decide +kernel, by decide +kernel⟩, by decide⟩
theorem mv_X2_startExpression : Cond.instanceMethod yX2_startExpression ∈ am_tb ∧ Cond.selects mX2_startExpression.1.cls yX2_startExpression yX2_startExpression ∈ am_tb := ⟨am_mt 535 (by decide +kernel) (by decide +kernel), am_mt 536 (by decide +kernel) (by decide +kernel)⟩
abbrev mX2_addSign : am_Me := (yX2_addSign, cX2_addSign, 2, none)
theorem mb_X2_addSign : am_mB mX2_addSign 1 := ⟨am_mt 545 (by decide +kernel) rfl, am_mt 12 (by decide +kernel) (by decide +kernel), ⟨by decide +kernel, by decide +kernel, by decide +kernel⟩, by decide⟩
theorem mv_X2_addSign : Cond.instanceMethod yX2_addSign ∈ am_tb ∧ Cond.selects mX2_addSign.1.cls yX2_addSign yX2_addSign ∈ am_tb := ⟨am_mt 543 (by decide +kernel) (by decide +kernel), am_mt 544 (by decide +kernel) (by decide +kernel)⟩
abbrev mX2_stopExpression : am_Me := (yX2_stopExpression, cX2_stopExpression, 1, none)
theorem mb_X2_stopExpression : am_mB mX2_stopExpression 0 := ⟨am_mt 555 (by decide +kernel) rfl, am_mt 12 (by decide +kernel) (by decide +kernel), ⟨by decide +kernel, by decide +kernel, by decide +kernel⟩, by decide⟩
theorem mv_X2_stopExpression : Cond.instanceMethod yX2_stopExpression ∈ am_tb ∧ Cond.selects mX2_stopExpression.1.cls yX2_stopExpression yX2_stopExpression ∈ am_tb := ⟨am_mt 553 (by decide +kernel) (by decide +kernel), am_mt 554 (by decide +kernel) (by decide +kernel)⟩
abbrev mX3_init : am_Me := (yX3_init, cX3_init, 3, none)
theorem mb_X3_init : am_mB mX3_init 1 := ⟨am_mt 96 (by decide +kernel) rfl, am_mt 6 (by decide +kernel) (by decide +kernel), ⟨by decide +kernel, by decide +kernel, by decide +kernel⟩, by decide⟩
theorem mv_X3_init : mX3_init.1.name = "<init>" ∧ Cond.instanceMethod yX3_init ∈ am_tb ∧ mX3_init.2.2.2 = none := ⟨rfl, am_mt 95 (by decide +kernel) (by decide +kernel), rfl⟩
abbrev mX3_start : am_Me := (yX3_start, cX3_start, 3, none)
theorem mb_X3_start : am_mB mX3_start 1 := ⟨am_mt 648 (by decide +kernel) rfl, am_mt 6 (by decide +kernel) (by decide +kernel), ⟨by decide +kernel, by decide +kernel, by decide +kernel⟩, by decide⟩
theorem mv_X3_start : Cond.instanceMethod yX3_start ∈ am_tb ∧ Cond.selects mX3_start.1.cls yX3_start yX3_start ∈ am_tb := ⟨am_mt 646 (by decide +kernel) (by decide +kernel), am_mt 647 (by decide +kernel) (by decide +kernel)⟩
abbrev mX3_now : am_Me := (yX3_now, cX3_now, 2, (some .int))
theorem mb_X3_now : am_mB mX3_now 1 := ⟨am_mt 630 (by decide +kernel) rfl, am_mt 6 (by decide +kernel) (by decide +kernel), ⟨by decide +kernel, by decide +kernel, by decide +kernel⟩, by decide⟩
theorem mv_X3_now : Cond.instanceMethod yX3_now ∈ am_tb ∧ Cond.selects mX3_now.1.cls yX3_now yX3_now ∈ am_tb := ⟨am_mt 628 (by decide +kernel) (by decide +kernel), am_mt 629 (by decide +kernel) (by decide +kernel)⟩
abbrev mX3_opens : am_Me := (yX3_opens, cX3_opens, 1, (some .int))
theorem mb_X3_opens : am_mB mX3_opens 0 := ⟨am_mt 657 (by decide +kernel) rfl, am_mt 6 (by decide +kernel) (by decide +kernel), ⟨by decide +kernel, by decide +kernel, by decide +kernel⟩, by decide⟩
theorem mv_X3_opens : Cond.instanceMethod yX3_opens ∈ am_tb ∧ Cond.selects mX3_opens.1.cls yX3_opens yX3_opens ∈ am_tb := ⟨am_mt 655 (by decide +kernel) (by decide +kernel), am_mt 656 (by decide +kernel) (by decide +kernel)⟩
abbrev mX3_step : am_Me := (yX3_step, cX3_step, 2, (some .boolean))
theorem mb_X3_step : am_mB mX3_step 1 := ⟨am_mt 662 (by decide +kernel) rfl, am_mt 6 (by decide +kernel) (by decide +kernel), ⟨by decide +kernel, by decide +kernel, by decide +kernel⟩, by decide⟩
theorem mv_X3_step : Cond.instanceMethod yX3_step ∈ am_tb ∧ Cond.selects mX3_step.1.cls yX3_step yX3_step ∈ am_tb := ⟨am_mt 660 (by decide +kernel) (by decide +kernel), am_mt 661 (by decide +kernel) (by decide +kernel)⟩
abbrev mX3_stepIn : am_Me := (yX3_stepIn, cX3_stepIn, 7, (some .boolean))
theorem mb_X3_stepIn : am_mB mX3_stepIn 1 := ⟨am_mt 683 (by decide +kernel) rfl, am_mt 6 (by decide +kernel) (by decide +kernel), ⟨by decide +kernel, by decide +kernel, by decide +kernel⟩, by decide⟩
theorem mv_X3_stepIn : Cond.instanceMethod yX3_stepIn ∈ am_tb ∧ Cond.selects mX3_stepIn.1.cls yX3_stepIn yX3_stepIn ∈ am_tb := ⟨am_mt 682 (by decide +kernel) (by decide +kernel), am_ms 13 (by decide +kernel) (by decide +kernel)⟩
abbrev mX3_stepOut : am_Me := (yX3_stepOut, cX3_stepOut, 9, (some .boolean))
theorem mb_X3_stepOut : am_mB mX3_stepOut 0 := ⟨am_mt 666 (by decide +kernel) rfl, am_mt 6 (by decide +kernel) (by decide +kernel), ⟨by decide +kernel, by decide +kernel, by decide +kernel⟩, by decide⟩
theorem mv_X3_stepOut : Cond.instanceMethod yX3_stepOut ∈ am_tb ∧ Cond.selects mX3_stepOut.1.cls yX3_stepOut yX3_stepOut ∈ am_tb := ⟨am_mt 665 (by decide +kernel) (by decide +kernel), am_ms 10 (by decide +kernel) (by decide +kernel)⟩
abbrev mX3_stepBack : am_Me := (yX3_stepBack, cX3_stepBack, 1, none)
theorem mb_X3_stepBack : am_mB mX3_stepBack 0 := ⟨am_mt 893 (by decide +kernel) rfl, am_mt 6 (by decide +kernel) (by decide +kernel), ⟨by decide +kernel, by decide +kernel, by decide +kernel⟩, by decide⟩
theorem mv_X3_stepBack : Cond.instanceMethod yX3_stepBack ∈ am_tb ∧ Cond.selects mX3_stepBack.1.cls yX3_stepBack yX3_stepBack ∈ am_tb := ⟨am_mt 891 (by decide +kernel) (by decide +kernel), am_mt 892 (by decide +kernel) (by decide +kernel)⟩
abbrev mX3_canEnd : am_Me := (yX3_canEnd, cX3_canEnd, 1, (some .boolean))
theorem mb_X3_canEnd : am_mB mX3_canEnd 0 := ⟨am_mt 717 (by decide +kernel) rfl, am_mt 6 (by decide +kernel) (by decide +kernel), ⟨by decide +kernel, by decide +kernel, by decide +kernel⟩, by decide⟩
theorem mv_X3_canEnd : Cond.instanceMethod yX3_canEnd ∈ am_tb ∧ Cond.selects mX3_canEnd.1.cls yX3_canEnd yX3_canEnd ∈ am_tb := ⟨am_mt 715 (by decide +kernel) (by decide +kernel), am_mt 716 (by decide +kernel) (by decide +kernel)⟩
abbrev mX3_write : am_Me := (yX3_write, cX3_write, 1, none)
theorem mb_X3_write : am_mB mX3_write 0 := ⟨am_mt 722 (by decide +kernel) rfl, am_mt 6 (by decide +kernel) (by decide +kernel), ⟨by decide +kernel, by decide +kernel, by decide +kernel⟩, by decide⟩
theorem mv_X3_write : Cond.instanceMethod yX3_write ∈ am_tb ∧ Cond.selects mX3_write.1.cls yX3_write yX3_write ∈ am_tb := ⟨am_mt 720 (by decide +kernel) (by decide +kernel), am_mt 721 (by decide +kernel) (by decide +kernel)⟩
abbrev mX3_refusal : am_Me := (yX3_refusal, cX3_refusal, 4, (some .int))
theorem mb_X3_refusal : am_mB mX3_refusal 2 := ⟨am_mt 735 (by decide +kernel) rfl, am_mt 6 (by decide +kernel) (by decide +kernel), ⟨by decide +kernel, by decide +kernel, by decide +kernel⟩, by decide⟩
theorem mv_X3_refusal : Cond.instanceMethod yX3_refusal ∈ am_tb ∧ Cond.selects mX3_refusal.1.cls yX3_refusal yX3_refusal ∈ am_tb := ⟨am_mt 733 (by decide +kernel) (by decide +kernel), am_mt 734 (by decide +kernel) (by decide +kernel)⟩
abbrev mX3_readBehind : am_Me := (yX3_readBehind, cX3_readBehind, 5, (some .boolean))
theorem mb_X3_readBehind : am_mB mX3_readBehind 2 := ⟨am_mt 750 (by decide +kernel) rfl, am_mt 6 (by decide +kernel) (by decide +kernel), ⟨by decide +kernel, by decide +kernel, by decide +kernel⟩, by decide⟩
theorem mv_X3_readBehind : Cond.instanceMethod yX3_readBehind ∈ am_tb ∧ Cond.selects mX3_readBehind.1.cls yX3_readBehind yX3_readBehind ∈ am_tb := ⟨am_mt 748 (by decide +kernel) (by decide +kernel), am_mt 749 (by decide +kernel) (by decide +kernel)⟩
abbrev mX3_wroteAlike : am_Me := (yX3_wroteAlike, cX3_wroteAlike, 5, (some .boolean))
theorem mb_X3_wroteAlike : am_mB mX3_wroteAlike 1 := ⟨am_mt 877 (by decide +kernel) rfl, am_mt 6 (by decide +kernel) (by decide +kernel), ⟨by decide +kernel, by decide +kernel, by decide +kernel⟩, by decide⟩
theorem mv_X3_wroteAlike : Cond.instanceMethod yX3_wroteAlike ∈ am_tb ∧ Cond.selects mX3_wroteAlike.1.cls yX3_wroteAlike yX3_wroteAlike ∈ am_tb := ⟨am_mt 875 (by decide +kernel) (by decide +kernel), am_mt 876 (by decide +kernel) (by decide +kernel)⟩
abbrev mX3_layingWith : am_Me := (yX3_layingWith, cX3_layingWith, 4, (some .int))
theorem mb_X3_layingWith : am_mB mX3_layingWith 1 := ⟨am_mt 700 (by decide +kernel) rfl, am_mt 6 (by decide +kernel) (by decide +kernel), ⟨by decide +kernel, by decide +kernel, by decide +kernel⟩, by decide⟩
theorem mv_X3_layingWith : Cond.instanceMethod yX3_layingWith ∈ am_tb ∧ Cond.selects mX3_layingWith.1.cls yX3_layingWith yX3_layingWith ∈ am_tb := ⟨am_mt 698 (by decide +kernel) (by decide +kernel), am_mt 699 (by decide +kernel) (by decide +kernel)⟩
abbrev mX3_sizeOf : am_Me := (yX3_sizeOf, cX3_sizeOf, 3, (some .int))
theorem mb_X3_sizeOf : am_mB mX3_sizeOf 2 := ⟨am_mt 704 (by decide +kernel) rfl, am_mt 6 (by decide +kernel) (by decide +kernel), ⟨by decide +kernel, by decide +kernel, by decide +kernel⟩, by decide⟩
theorem mv_X3_sizeOf : Cond.instanceMethod yX3_sizeOf ∈ am_tb ∧ Cond.selects mX3_sizeOf.1.cls yX3_sizeOf yX3_sizeOf ∈ am_tb := ⟨am_mt 702 (by decide +kernel) (by decide +kernel), am_mt 703 (by decide +kernel) (by decide +kernel)⟩
abbrev mX3_signOf : am_Me := (yX3_signOf, cX3_signOf, 6, (some .int))
theorem mb_X3_signOf : am_mB mX3_signOf 3 := ⟨am_mt 708 (by decide +kernel) rfl, am_mt 6 (by decide +kernel) (by decide +kernel), ⟨by decide +kernel, by decide +kernel, by decide +kernel⟩, by decide⟩
theorem mv_X3_signOf : Cond.instanceMethod yX3_signOf ∈ am_tb ∧ Cond.selects mX3_signOf.1.cls yX3_signOf yX3_signOf ∈ am_tb := ⟨am_mt 706 (by decide +kernel) (by decide +kernel), am_mt 707 (by decide +kernel) (by decide +kernel)⟩
abbrev mX3_putTogether : am_Me := (yX3_putTogether, cX3_putTogether, 8, none)
theorem mb_X3_putTogether : am_mB mX3_putTogether 3 := ⟨am_mt 675 (by decide +kernel) rfl, am_mt 6 (by decide +kernel) (by decide +kernel), ⟨by decide +kernel, by decide +kernel, by decide +kernel⟩, by decide⟩
theorem mv_X3_putTogether : Cond.instanceMethod yX3_putTogether ∈ am_tb ∧ Cond.selects mX3_putTogether.1.cls yX3_putTogether yX3_putTogether ∈ am_tb := ⟨am_mt 674 (by decide +kernel) (by decide +kernel), am_ms 11 (by decide +kernel) (by decide +kernel)⟩
abbrev mX3_join : am_Me := (yX3_join, cX3_join, 4, none)
theorem mb_X3_join : am_mB mX3_join 3 := ⟨am_mt 679 (by decide +kernel) rfl, am_mt 6 (by decide +kernel) (by decide +kernel), ⟨by decide +kernel, by decide +kernel, by decide +kernel⟩, by decide⟩
theorem mv_X3_join : Cond.instanceMethod yX3_join ∈ am_tb ∧ Cond.selects mX3_join.1.cls yX3_join yX3_join ∈ am_tb := ⟨am_mt 678 (by decide +kernel) (by decide +kernel), am_ms 12 (by decide +kernel) (by decide +kernel)⟩
abbrev mX4_init : am_Me := (yX4_init, cX4_init, 1, none)
theorem mb_X4_init : am_mB mX4_init 0 := ⟨am_mt 197 (by decide +kernel) rfl, am_mt 10 (by decide +kernel) (by decide +kernel), ⟨by decide +kernel, by decide +kernel, by decide +kernel⟩, by decide⟩
theorem mv_X4_init : mX4_init.1.name = "<init>" ∧ Cond.instanceMethod yX4_init ∈ am_tb ∧ mX4_init.2.2.2 = none := ⟨rfl, am_mt 196 (by decide +kernel) (by decide +kernel), rfl⟩
abbrev mX4_neverSpoils : am_Me := (yX4_neverSpoils, cX4_neverSpoils, 5, (some .boolean))
theorem mb_X4_neverSpoils : am_mB mX4_neverSpoils 2 := ⟨am_mt 915 (by decide +kernel) rfl, am_mt 10 (by decide +kernel) (by decide +kernel), ⟨by decide +kernel, by decide +kernel, by decide +kernel⟩, by decide⟩
theorem mv_X4_neverSpoils : Cond.instanceMethod yX4_neverSpoils ∈ am_tb ∧ Cond.selects mX4_neverSpoils.1.cls yX4_neverSpoils yX4_neverSpoils ∈ am_tb := ⟨am_mt 913 (by decide +kernel) (by decide +kernel), am_mt 914 (by decide +kernel) (by decide +kernel)⟩
abbrev mX4_start : am_Me := (yX4_start, cX4_start, 4, none)
theorem mb_X4_start : am_mB mX4_start 2 := ⟨am_mt 919 (by decide +kernel) rfl, am_mt 10 (by decide +kernel) (by decide +kernel), ⟨by decide +kernel, by decide +kernel, by decide +kernel⟩, by decide⟩
theorem mv_X4_start : Cond.instanceMethod yX4_start ∈ am_tb ∧ Cond.selects mX4_start.1.cls yX4_start yX4_start ∈ am_tb := ⟨am_mt 918 (by decide +kernel) (by decide +kernel), am_ms 28 (by decide +kernel) (by decide +kernel)⟩
abbrev mX4_beginOf : am_Me := (yX4_beginOf, cX4_beginOf, 1, (some .int))
theorem mb_X4_beginOf : am_mB mX4_beginOf 1 := ⟨am_mt 948 (by decide +kernel) rfl, am_mt 10 (by decide +kernel) (by decide +kernel), ⟨by decide +kernel, by decide +kernel, by decide +kernel⟩, by decide⟩
theorem mv_X4_beginOf : Cond.static yX4_beginOf ∈ am_tb := am_mt 947 (by decide +kernel) (by decide +kernel)
abbrev mX4_stateOf : am_Me := (yX4_stateOf, cX4_stateOf, 1, (some .int))
theorem mb_X4_stateOf : am_mB mX4_stateOf 1 := ⟨am_mt 944 (by decide +kernel) rfl, am_mt 10 (by decide +kernel) (by decide +kernel), ⟨by decide +kernel, by decide +kernel, by decide +kernel⟩, by decide⟩
theorem mv_X4_stateOf : Cond.static yX4_stateOf ∈ am_tb := am_mt 943 (by decide +kernel) (by decide +kernel)
abbrev mX4_note : am_Me := (yX4_note, cX4_note, 5, none)
theorem mb_X4_note : am_mB mX4_note 3 := ⟨am_mt 935 (by decide +kernel) rfl, am_mt 10 (by decide +kernel) (by decide +kernel), ⟨by decide +kernel, by decide +kernel, by decide +kernel⟩, by decide⟩
theorem mv_X4_note : Cond.instanceMethod yX4_note ∈ am_tb ∧ Cond.selects mX4_note.1.cls yX4_note yX4_note ∈ am_tb := ⟨am_mt 934 (by decide +kernel) (by decide +kernel), am_ms 29 (by decide +kernel) (by decide +kernel)⟩
abbrev mX4_asOuter : am_Me := (yX4_asOuter, cX4_asOuter, 7, none)
theorem mb_X4_asOuter : am_mB mX4_asOuter 1 := ⟨am_mt 966 (by decide +kernel) rfl, am_mt 10 (by decide +kernel) (by decide +kernel), ⟨by decide +kernel, by decide +kernel, by decide +kernel⟩, by decide⟩
theorem mv_X4_asOuter : Cond.instanceMethod yX4_asOuter ∈ am_tb ∧ Cond.selects mX4_asOuter.1.cls yX4_asOuter yX4_asOuter ∈ am_tb := ⟨am_mt 965 (by decide +kernel) (by decide +kernel), am_ms 32 (by decide +kernel) (by decide +kernel)⟩
abbrev mX4_asInner : am_Me := (yX4_asInner, cX4_asInner, 7, none)
theorem mb_X4_asInner : am_mB mX4_asInner 1 := ⟨am_mt 978 (by decide +kernel) rfl, am_mt 10 (by decide +kernel) (by decide +kernel), ⟨by decide +kernel, by decide +kernel, by decide +kernel⟩, by decide⟩
theorem mv_X4_asInner : Cond.instanceMethod yX4_asInner ∈ am_tb ∧ Cond.selects mX4_asInner.1.cls yX4_asInner yX4_asInner ∈ am_tb := ⟨am_mt 977 (by decide +kernel) (by decide +kernel), am_ms 34 (by decide +kernel) (by decide +kernel)⟩
abbrev mX4_nest : am_Me := (yX4_nest, cX4_nest, 7, none)
theorem mb_X4_nest : am_mB mX4_nest 3 := ⟨am_mt 972 (by decide +kernel) rfl, am_mt 10 (by decide +kernel) (by decide +kernel), ⟨by decide +kernel, by decide +kernel, by decide +kernel⟩, by decide⟩
theorem mv_X4_nest : Cond.instanceMethod yX4_nest ∈ am_tb ∧ Cond.selects mX4_nest.1.cls yX4_nest yX4_nest ∈ am_tb := ⟨am_mt 971 (by decide +kernel) (by decide +kernel), am_ms 33 (by decide +kernel) (by decide +kernel)⟩
abbrev mX4_spoilsAtEnd : am_Me := (yX4_spoilsAtEnd, cX4_spoilsAtEnd, 4, (some .boolean))
theorem mb_X4_spoilsAtEnd : am_mB mX4_spoilsAtEnd 1 := ⟨am_mt 941 (by decide +kernel) rfl, am_mt 10 (by decide +kernel) (by decide +kernel), ⟨by decide +kernel, by decide +kernel, by decide +kernel⟩, by decide⟩
theorem mv_X4_spoilsAtEnd : Cond.instanceMethod yX4_spoilsAtEnd ∈ am_tb ∧ Cond.selects mX4_spoilsAtEnd.1.cls yX4_spoilsAtEnd yX4_spoilsAtEnd ∈ am_tb := ⟨am_mt 940 (by decide +kernel) (by decide +kernel), am_ms 30 (by decide +kernel) (by decide +kernel)⟩
abbrev mX4_kindOf : am_Me := (yX4_kindOf, cX4_kindOf, 10, (some .int))
theorem mb_X4_kindOf : am_mB mX4_kindOf 3 := ⟨am_mt 952 (by decide +kernel) rfl, am_mt 10 (by decide +kernel) (by decide +kernel), ⟨by decide +kernel, by decide +kernel, by decide +kernel⟩, by decide⟩
theorem mv_X4_kindOf : Cond.instanceMethod yX4_kindOf ∈ am_tb ∧ Cond.selects mX4_kindOf.1.cls yX4_kindOf yX4_kindOf ∈ am_tb := ⟨am_mt 951 (by decide +kernel) (by decide +kernel), am_ms 31 (by decide +kernel) (by decide +kernel)⟩
abbrev mX5_init : am_Me := (yX5_init, cX5_init, 1, none)
theorem mb_X5_init : am_mB mX5_init 0 := ⟨am_mt 159 (by decide +kernel) rfl, am_mt 8 (by decide +kernel) (by decide +kernel), ⟨by decide +kernel, by decide +kernel, by decide +kernel⟩, by decide⟩
theorem mv_X5_init : mX5_init.1.name = "<init>" ∧ Cond.instanceMethod yX5_init ∈ am_tb ∧ mX5_init.2.2.2 = none := ⟨rfl, am_mt 158 (by decide +kernel) (by decide +kernel), rfl⟩
abbrev mX5_canReadBehind : am_Me := (yX5_canReadBehind, cX5_canReadBehind, 8, (some .boolean))
theorem mb_X5_canReadBehind : am_mB mX5_canReadBehind 2 := ⟨am_mt 762 (by decide +kernel) rfl, am_mt 8 (by decide +kernel) (by decide +kernel), ⟨by decide +kernel, by decide +kernel, by decide +kernel⟩, by decide⟩
theorem mv_X5_canReadBehind : Cond.instanceMethod yX5_canReadBehind ∈ am_tb ∧ Cond.selects mX5_canReadBehind.1.cls yX5_canReadBehind yX5_canReadBehind ∈ am_tb := ⟨am_mt 760 (by decide +kernel) (by decide +kernel), am_mt 761 (by decide +kernel) (by decide +kernel)⟩
abbrev mX6_init : am_Me := (yX6_init, cX6_init, 5, none)
theorem mb_X6_init : am_mB mX6_init 4 := ⟨am_mt 169 (by decide +kernel) rfl, am_mt 9 (by decide +kernel) (by decide +kernel), ⟨by decide +kernel, by decide +kernel, by decide +kernel⟩, by decide⟩
theorem mv_X6_init : mX6_init.1.name = "<init>" ∧ Cond.instanceMethod yX6_init ∈ am_tb ∧ mX6_init.2.2.2 = none := ⟨rfl, am_mt 168 (by decide +kernel) (by decide +kernel), rfl⟩
abbrev mX6_fewest : am_Me := (yX6_fewest, cX6_fewest, 9, (some .int))
theorem mb_X6_fewest : am_mB mX6_fewest 4 := ⟨am_mt 850 (by decide +kernel) rfl, am_mt 9 (by decide +kernel) (by decide +kernel), ⟨by decide +kernel, by decide +kernel, by decide +kernel⟩, by decide⟩
theorem mv_X6_fewest : Cond.instanceMethod yX6_fewest ∈ am_tb ∧ Cond.selects mX6_fewest.1.cls yX6_fewest yX6_fewest ∈ am_tb := ⟨am_mt 848 (by decide +kernel) (by decide +kernel), am_mt 849 (by decide +kernel) (by decide +kernel)⟩
abbrev mX6_prepare : am_Me := (yX6_prepare, cX6_prepare, 4, none)
theorem mb_X6_prepare : am_mB mX6_prepare 3 := ⟨am_mt 854 (by decide +kernel) rfl, am_mt 9 (by decide +kernel) (by decide +kernel), ⟨by decide +kernel, by decide +kernel, by decide +kernel⟩, by decide⟩
theorem mv_X6_prepare : Cond.instanceMethod yX6_prepare ∈ am_tb ∧ Cond.selects mX6_prepare.1.cls yX6_prepare yX6_prepare ∈ am_tb := ⟨am_mt 853 (by decide +kernel) (by decide +kernel), am_ms 20 (by decide +kernel) (by decide +kernel)⟩
abbrev mX6_reads : am_Me := (yX6_reads, cX6_reads, 2, (some .boolean))
theorem mb_X6_reads : am_mB mX6_reads 1 := ⟨am_mt 866 (by decide +kernel) rfl, am_mt 9 (by decide +kernel) (by decide +kernel), ⟨by decide +kernel, by decide +kernel, by decide +kernel⟩, by decide⟩
theorem mv_X6_reads : Cond.instanceMethod yX6_reads ∈ am_tb ∧ Cond.selects mX6_reads.1.cls yX6_reads yX6_reads ∈ am_tb := ⟨am_mt 865 (by decide +kernel) (by decide +kernel), am_ms 22 (by decide +kernel) (by decide +kernel)⟩
abbrev mX6_hopeless : am_Me := (yX6_hopeless, cX6_hopeless, 1, (some .boolean))
theorem mb_X6_hopeless : am_mB mX6_hopeless 0 := ⟨am_mt 881 (by decide +kernel) rfl, am_mt 9 (by decide +kernel) (by decide +kernel), ⟨by decide +kernel, by decide +kernel, by decide +kernel⟩, by decide⟩
theorem mv_X6_hopeless : Cond.instanceMethod yX6_hopeless ∈ am_tb ∧ Cond.selects mX6_hopeless.1.cls yX6_hopeless yX6_hopeless ∈ am_tb := ⟨am_mt 880 (by decide +kernel) (by decide +kernel), am_ms 24 (by decide +kernel) (by decide +kernel)⟩
abbrev mX6_go : am_Me := (yX6_go, cX6_go, 2, none)
theorem mb_X6_go : am_mB mX6_go 1 := ⟨am_mt 897 (by decide +kernel) rfl, am_mt 9 (by decide +kernel) (by decide +kernel), ⟨by decide +kernel, by decide +kernel, by decide +kernel⟩, by decide⟩
theorem mv_X6_go : Cond.instanceMethod yX6_go ∈ am_tb ∧ Cond.selects mX6_go.1.cls yX6_go yX6_go ∈ am_tb := ⟨am_mt 896 (by decide +kernel) (by decide +kernel), am_ms 26 (by decide +kernel) (by decide +kernel)⟩
abbrev mX6_goBack : am_Me := (yX6_goBack, cX6_goBack, 2, (some .int))
theorem mb_X6_goBack : am_mB mX6_goBack 0 := ⟨am_mt 885 (by decide +kernel) rfl, am_mt 9 (by decide +kernel) (by decide +kernel), ⟨by decide +kernel, by decide +kernel, by decide +kernel⟩, by decide⟩
theorem mv_X6_goBack : Cond.instanceMethod yX6_goBack ∈ am_tb ∧ Cond.selects mX6_goBack.1.cls yX6_goBack yX6_goBack ∈ am_tb := ⟨am_mt 884 (by decide +kernel) (by decide +kernel), am_ms 25 (by decide +kernel) (by decide +kernel)⟩
abbrev mX6_spoilt : am_Me := (yX6_spoilt, cX6_spoilt, 1, (some .boolean))
theorem mb_X6_spoilt : am_mB mX6_spoilt 0 := ⟨am_mt 862 (by decide +kernel) rfl, am_mt 9 (by decide +kernel) (by decide +kernel), ⟨by decide +kernel, by decide +kernel, by decide +kernel⟩, by decide⟩
theorem mv_X6_spoilt : Cond.instanceMethod yX6_spoilt ∈ am_tb ∧ Cond.selects mX6_spoilt.1.cls yX6_spoilt yX6_spoilt ∈ am_tb := ⟨am_mt 861 (by decide +kernel) (by decide +kernel), am_ms 21 (by decide +kernel) (by decide +kernel)⟩
abbrev mX6_different : am_Me := (yX6_different, cX6_different, 3, (some .boolean))
theorem mb_X6_different : am_mB mX6_different 0 := ⟨am_mt 873 (by decide +kernel) rfl, am_mt 9 (by decide +kernel) (by decide +kernel), ⟨by decide +kernel, by decide +kernel, by decide +kernel⟩, by decide⟩
theorem mv_X6_different : Cond.instanceMethod yX6_different ∈ am_tb ∧ Cond.selects mX6_different.1.cls yX6_different yX6_different ∈ am_tb := ⟨am_mt 872 (by decide +kernel) (by decide +kernel), am_ms 23 (by decide +kernel) (by decide +kernel)⟩
abbrev mX7_init : am_Me := (yX7_init, cX7_init, 1, none)
theorem mb_X7_init : am_mB mX7_init 0 := ⟨am_mt 31 (by decide +kernel) rfl, am_mt 2 (by decide +kernel) (by decide +kernel), ⟨by decide +kernel, by decide +kernel, by decide +kernel⟩, by decide⟩
theorem mv_X7_init : mX7_init.1.name = "<init>" ∧ Cond.instanceMethod yX7_init ∈ am_tb ∧ mX7_init.2.2.2 = none := ⟨rfl, am_mt 30 (by decide +kernel) (by decide +kernel), rfl⟩
abbrev mX7_hasRoom : am_Me := (yX7_hasRoom, cX7_hasRoom, 1, (some .boolean))
theorem mb_X7_hasRoom : am_mB mX7_hasRoom 0 := ⟨am_mt 374 (by decide +kernel) rfl, am_mt 2 (by decide +kernel) (by decide +kernel), ⟨by decide +kernel, by decide +kernel, by decide +kernel⟩, by decide⟩
theorem mv_X7_hasRoom : Cond.instanceMethod yX7_hasRoom ∈ am_tb ∧ Cond.selects mX7_hasRoom.1.cls yX7_hasRoom yX7_hasRoom ∈ am_tb := ⟨am_mt 372 (by decide +kernel) (by decide +kernel), am_mt 373 (by decide +kernel) (by decide +kernel)⟩
abbrev mX7_append : am_Me := (yX7_append, cX7_append, 3, none)
theorem mb_X7_append : am_mB mX7_append 1 := ⟨am_mt 378 (by decide +kernel) rfl, am_mt 2 (by decide +kernel) (by decide +kernel), ⟨by decide +kernel, by decide +kernel, by decide +kernel⟩, by decide⟩
theorem mv_X7_append : Cond.instanceMethod yX7_append ∈ am_tb ∧ Cond.selects mX7_append.1.cls yX7_append yX7_append ∈ am_tb := ⟨am_mt 376 (by decide +kernel) (by decide +kernel), am_mt 377 (by decide +kernel) (by decide +kernel)⟩
abbrev mX7_rewind : am_Me := (yX7_rewind, cX7_rewind, 1, none)
theorem mb_X7_rewind : am_mB mX7_rewind 0 := ⟨am_mt 408 (by decide +kernel) rfl, am_mt 2 (by decide +kernel) (by decide +kernel), ⟨by decide +kernel, by decide +kernel, by decide +kernel⟩, by decide⟩
theorem mv_X7_rewind : Cond.instanceMethod yX7_rewind ∈ am_tb ∧ Cond.selects mX7_rewind.1.cls yX7_rewind yX7_rewind ∈ am_tb := ⟨am_mt 406 (by decide +kernel) (by decide +kernel), am_mt 407 (by decide +kernel) (by decide +kernel)⟩
abbrev mX7_fail : am_Me := (yX7_fail, cX7_fail, 2, none)
theorem mb_X7_fail : am_mB mX7_fail 1 := ⟨am_mt 475 (by decide +kernel) rfl, am_mt 2 (by decide +kernel) (by decide +kernel), ⟨by decide +kernel, by decide +kernel, by decide +kernel⟩, by decide⟩
theorem mv_X7_fail : Cond.instanceMethod yX7_fail ∈ am_tb ∧ Cond.selects mX7_fail.1.cls yX7_fail yX7_fail ∈ am_tb := ⟨am_mt 473 (by decide +kernel) (by decide +kernel), am_mt 474 (by decide +kernel) (by decide +kernel)⟩
abbrev mX7_advance : am_Me := (yX7_advance, cX7_advance, 2, none)
theorem mb_X7_advance : am_mB mX7_advance 0 := ⟨am_mt 412 (by decide +kernel) rfl, am_mt 2 (by decide +kernel) (by decide +kernel), ⟨by decide +kernel, by decide +kernel, by decide +kernel⟩, by decide⟩
theorem mv_X7_advance : Cond.instanceMethod yX7_advance ∈ am_tb ∧ Cond.selects mX7_advance.1.cls yX7_advance yX7_advance ∈ am_tb := ⟨am_mt 410 (by decide +kernel) (by decide +kernel), am_mt 411 (by decide +kernel) (by decide +kernel)⟩
abbrev mX7_kindOf : am_Me := (yX7_kindOf, cX7_kindOf, 2, (some .int))
theorem mb_X7_kindOf : am_mB mX7_kindOf 1 := ⟨am_mt 418 (by decide +kernel) rfl, am_mt 2 (by decide +kernel) (by decide +kernel), ⟨by decide +kernel, by decide +kernel, by decide +kernel⟩, by decide⟩
theorem mv_X7_kindOf : Cond.static yX7_kindOf ∈ am_tb := am_mt 417 (by decide +kernel) (by decide +kernel)
abbrev mX7_isWord : am_Me := (yX7_isWord, cX7_isWord, 3, (some .boolean))
theorem mb_X7_isWord : am_mB mX7_isWord 1 := ⟨am_mt 423 (by decide +kernel) rfl, am_mt 2 (by decide +kernel) (by decide +kernel), ⟨by decide +kernel, by decide +kernel, by decide +kernel⟩, by decide⟩
theorem mv_X7_isWord : Cond.instanceMethod yX7_isWord ∈ am_tb ∧ Cond.selects mX7_isWord.1.cls yX7_isWord yX7_isWord ∈ am_tb := ⟨am_mt 421 (by decide +kernel) (by decide +kernel), am_mt 422 (by decide +kernel) (by decide +kernel)⟩
abbrev mX7_letter : am_Me := (yX7_letter, cX7_letter, 2, (some .int))
theorem mb_X7_letter : am_mB mX7_letter 0 := ⟨am_mt 500 (by decide +kernel) rfl, am_mt 2 (by decide +kernel) (by decide +kernel), ⟨by decide +kernel, by decide +kernel, by decide +kernel⟩, by decide⟩
theorem mv_X7_letter : Cond.instanceMethod yX7_letter ∈ am_tb ∧ Cond.selects mX7_letter.1.cls yX7_letter yX7_letter ∈ am_tb := ⟨am_mt 498 (by decide +kernel) (by decide +kernel), am_mt 499 (by decide +kernel) (by decide +kernel)⟩
abbrev mX7_digit : am_Me := (yX7_digit, cX7_digit, 4, (some .int))
theorem mb_X7_digit : am_mB mX7_digit 2 := ⟨am_mt 479 (by decide +kernel) rfl, am_mt 2 (by decide +kernel) (by decide +kernel), ⟨by decide +kernel, by decide +kernel, by decide +kernel⟩, by decide⟩
theorem mv_X7_digit : Cond.instanceMethod yX7_digit ∈ am_tb ∧ Cond.selects mX7_digit.1.cls yX7_digit yX7_digit ∈ am_tb := ⟨am_mt 477 (by decide +kernel) (by decide +kernel), am_mt 478 (by decide +kernel) (by decide +kernel)⟩
abbrev mX7_sign : am_Me := (yX7_sign, cX7_sign, 2, none)
theorem mb_X7_sign : am_mB mX7_sign 1 := ⟨am_mt 525 (by decide +kernel) rfl, am_mt 2 (by decide +kernel) (by decide +kernel), ⟨by decide +kernel, by decide +kernel, by decide +kernel⟩, by decide⟩
theorem mv_X7_sign : Cond.instanceMethod yX7_sign ∈ am_tb ∧ Cond.selects mX7_sign.1.cls yX7_sign yX7_sign ∈ am_tb := ⟨am_mt 523 (by decide +kernel) (by decide +kernel), am_mt 524 (by decide +kernel) (by decide +kernel)⟩
abbrev mX8_init : am_Me := (yX8_init, cX8_init, 2, none)
theorem mb_X8_init : am_mB mX8_init 1 := ⟨am_mt 62 (by decide +kernel) rfl, am_mt 3 (by decide +kernel) (by decide +kernel), ⟨by decide +kernel, by decide +kernel, by decide +kernel⟩, by decide⟩
theorem mv_X8_init : mX8_init.1.name = "<init>" ∧ Cond.instanceMethod yX8_init ∈ am_tb ∧ mX8_init.2.2.2 = none := ⟨rfl, am_mt 61 (by decide +kernel) (by decide +kernel), rfl⟩
abbrev mX8_readDocument : am_Me := (yX8_readDocument, cX8_readDocument, 5, none)
theorem mb_X8_readDocument : am_mB mX8_readDocument 1 := ⟨am_mt 579 (by decide +kernel) rfl, am_mt 3 (by decide +kernel) (by decide +kernel), ⟨by decide +kernel, by decide +kernel, by decide +kernel⟩, by decide⟩
theorem mv_X8_readDocument : Cond.instanceMethod yX8_readDocument ∈ am_tb ∧ Cond.selects mX8_readDocument.1.cls yX8_readDocument yX8_readDocument ∈ am_tb := ⟨am_mt 577 (by decide +kernel) (by decide +kernel), am_mt 578 (by decide +kernel) (by decide +kernel)⟩
abbrev mX8_readMachine : am_Me := (yX8_readMachine, cX8_readMachine, 3, none)
theorem mb_X8_readMachine : am_mB mX8_readMachine 1 := ⟨am_mt 397 (by decide +kernel) rfl, am_mt 3 (by decide +kernel) (by decide +kernel), ⟨by decide +kernel, by decide +kernel, by decide +kernel⟩, by decide⟩
theorem mv_X8_readMachine : Cond.instanceMethod yX8_readMachine ∈ am_tb ∧ Cond.selects mX8_readMachine.1.cls yX8_readMachine yX8_readMachine ∈ am_tb := ⟨am_mt 395 (by decide +kernel) (by decide +kernel), am_mt 396 (by decide +kernel) (by decide +kernel)⟩
abbrev mX8_startRule : am_Me := (yX8_startRule, cX8_startRule, 2, none)
theorem mb_X8_startRule : am_mB mX8_startRule 1 := ⟨am_mt 485 (by decide +kernel) rfl, am_mt 3 (by decide +kernel) (by decide +kernel), ⟨by decide +kernel, by decide +kernel, by decide +kernel⟩, by decide⟩
theorem mv_X8_startRule : Cond.instanceMethod yX8_startRule ∈ am_tb ∧ Cond.selects mX8_startRule.1.cls yX8_startRule yX8_startRule ∈ am_tb := ⟨am_mt 484 (by decide +kernel) (by decide +kernel), am_ms 1 (by decide +kernel) (by decide +kernel)⟩
abbrev mX8_readOpen : am_Me := (yX8_readOpen, cX8_readOpen, 6, none)
theorem mb_X8_readOpen : am_mB mX8_readOpen 1 := ⟨am_mt 496 (by decide +kernel) rfl, am_mt 3 (by decide +kernel) (by decide +kernel), ⟨by decide +kernel, by decide +kernel, by decide +kernel⟩, by decide⟩
theorem mv_X8_readOpen : Cond.instanceMethod yX8_readOpen ∈ am_tb ∧ Cond.selects mX8_readOpen.1.cls yX8_readOpen yX8_readOpen ∈ am_tb := ⟨am_mt 495 (by decide +kernel) (by decide +kernel), am_ms 2 (by decide +kernel) (by decide +kernel)⟩
abbrev mX8_readClose : am_Me := (yX8_readClose, cX8_readClose, 8, none)
theorem mb_X8_readClose : am_mB mX8_readClose 1 := ⟨am_mt 516 (by decide +kernel) rfl, am_mt 3 (by decide +kernel) (by decide +kernel), ⟨by decide +kernel, by decide +kernel, by decide +kernel⟩, by decide⟩
theorem mv_X8_readClose : Cond.instanceMethod yX8_readClose ∈ am_tb ∧ Cond.selects mX8_readClose.1.cls yX8_readClose yX8_readClose ∈ am_tb := ⟨am_mt 515 (by decide +kernel) (by decide +kernel), am_ms 3 (by decide +kernel) (by decide +kernel)⟩
abbrev mX8_readEnd : am_Me := (yX8_readEnd, cX8_readEnd, 3, none)
theorem mb_X8_readEnd : am_mB mX8_readEnd 1 := ⟨am_mt 560 (by decide +kernel) rfl, am_mt 3 (by decide +kernel) (by decide +kernel), ⟨by decide +kernel, by decide +kernel, by decide +kernel⟩, by decide⟩
theorem mv_X8_readEnd : Cond.instanceMethod yX8_readEnd ∈ am_tb ∧ Cond.selects mX8_readEnd.1.cls yX8_readEnd yX8_readEnd ∈ am_tb := ⟨am_mt 559 (by decide +kernel) (by decide +kernel), am_ms 7 (by decide +kernel) (by decide +kernel)⟩
abbrev mX8_readExpression : am_Me := (yX8_readExpression, cX8_readExpression, 6, none)
theorem mb_X8_readExpression : am_mB mX8_readExpression 2 := ⟨am_mt 533 (by decide +kernel) rfl, am_mt 3 (by decide +kernel) (by decide +kernel), ⟨by decide +kernel, by decide +kernel, by decide +kernel⟩, by decide⟩
theorem mv_X8_readExpression : Cond.instanceMethod yX8_readExpression ∈ am_tb ∧ Cond.selects mX8_readExpression.1.cls yX8_readExpression yX8_readExpression ∈ am_tb := ⟨am_mt 532 (by decide +kernel) (by decide +kernel), am_ms 4 (by decide +kernel) (by decide +kernel)⟩
abbrev mX8_readElement : am_Me := (yX8_readElement, cX8_readElement, 2, none)
theorem mb_X8_readElement : am_mB mX8_readElement 1 := ⟨am_mt 541 (by decide +kernel) rfl, am_mt 3 (by decide +kernel) (by decide +kernel), ⟨by decide +kernel, by decide +kernel, by decide +kernel⟩, by decide⟩
theorem mv_X8_readElement : Cond.instanceMethod yX8_readElement ∈ am_tb ∧ Cond.selects mX8_readElement.1.cls yX8_readElement yX8_readElement ∈ am_tb := ⟨am_mt 540 (by decide +kernel) (by decide +kernel), am_ms 5 (by decide +kernel) (by decide +kernel)⟩
abbrev mX8_readRegister : am_Me := (yX8_readRegister, cX8_readRegister, 5, none)
theorem mb_X8_readRegister : am_mB mX8_readRegister 2 := ⟨am_mt 550 (by decide +kernel) rfl, am_mt 3 (by decide +kernel) (by decide +kernel), ⟨by decide +kernel, by decide +kernel, by decide +kernel⟩, by decide⟩
theorem mv_X8_readRegister : Cond.instanceMethod yX8_readRegister ∈ am_tb ∧ Cond.selects mX8_readRegister.1.cls yX8_readRegister yX8_readRegister ∈ am_tb := ⟨am_mt 549 (by decide +kernel) (by decide +kernel), am_ms 6 (by decide +kernel) (by decide +kernel)⟩
abbrev mX9_init : am_Me := (yX9_init, cX9_init, 1, none)
theorem mb_X9_init : am_mB mX9_init 0 := ⟨am_mt 142 (by decide +kernel) rfl, am_mt 7 (by decide +kernel) (by decide +kernel), ⟨by decide +kernel, by decide +kernel, by decide +kernel⟩, by decide⟩
theorem mv_X9_init : mX9_init.1.name = "<init>" ∧ Cond.instanceMethod yX9_init ∈ am_tb ∧ mX9_init.2.2.2 = none := ⟨rfl, am_mt 141 (by decide +kernel) (by decide +kernel), rfl⟩
abbrev mX9_reached : am_Me := (yX9_reached, cX9_reached, 5, (some .int))
theorem mb_X9_reached : am_mB mX9_reached 1 := ⟨am_mt 784 (by decide +kernel) rfl, am_mt 7 (by decide +kernel) (by decide +kernel), ⟨by decide +kernel, by decide +kernel, by decide +kernel⟩, by decide⟩
theorem mv_X9_reached : Cond.instanceMethod yX9_reached ∈ am_tb ∧ Cond.selects mX9_reached.1.cls yX9_reached yX9_reached ∈ am_tb := ⟨am_mt 782 (by decide +kernel) (by decide +kernel), am_mt 783 (by decide +kernel) (by decide +kernel)⟩
abbrev mX9_reachedFrom : am_Me := (yX9_reachedFrom, cX9_reachedFrom, 6, (some .int))
theorem mb_X9_reachedFrom : am_mB mX9_reachedFrom 2 := ⟨am_mt 813 (by decide +kernel) rfl, am_mt 7 (by decide +kernel) (by decide +kernel), ⟨by decide +kernel, by decide +kernel, by decide +kernel⟩, by decide⟩
theorem mv_X9_reachedFrom : Cond.instanceMethod yX9_reachedFrom ∈ am_tb ∧ Cond.selects mX9_reachedFrom.1.cls yX9_reachedFrom yX9_reachedFrom ∈ am_tb := ⟨am_mt 812 (by decide +kernel) (by decide +kernel), am_ms 17 (by decide +kernel) (by decide +kernel)⟩
abbrev mX9_smallest : am_Me := (yX9_smallest, cX9_smallest, 5, (some .int))
theorem mb_X9_smallest : am_mB mX9_smallest 1 := ⟨am_mt 839 (by decide +kernel) rfl, am_mt 7 (by decide +kernel) (by decide +kernel), ⟨by decide +kernel, by decide +kernel, by decide +kernel⟩, by decide⟩
theorem mv_X9_smallest : Cond.instanceMethod yX9_smallest ∈ am_tb ∧ Cond.selects mX9_smallest.1.cls yX9_smallest yX9_smallest ∈ am_tb := ⟨am_mt 837 (by decide +kernel) (by decide +kernel), am_mt 838 (by decide +kernel) (by decide +kernel)⟩
abbrev mX9_measure : am_Me := (yX9_measure, cX9_measure, 4, none)
theorem mb_X9_measure : am_mB mX9_measure 1 := ⟨am_mt 788 (by decide +kernel) rfl, am_mt 7 (by decide +kernel) (by decide +kernel), ⟨by decide +kernel, by decide +kernel, by decide +kernel⟩, by decide⟩
theorem mv_X9_measure : Cond.instanceMethod yX9_measure ∈ am_tb ∧ Cond.selects mX9_measure.1.cls yX9_measure yX9_measure ∈ am_tb := ⟨am_mt 787 (by decide +kernel) (by decide +kernel), am_ms 14 (by decide +kernel) (by decide +kernel)⟩
abbrev mX9_shorten : am_Me := (yX9_shorten, cX9_shorten, 10, (some .boolean))
theorem mb_X9_shorten : am_mB mX9_shorten 1 := ⟨am_mt 799 (by decide +kernel) rfl, am_mt 7 (by decide +kernel) (by decide +kernel), ⟨by decide +kernel, by decide +kernel, by decide +kernel⟩, by decide⟩
theorem mv_X9_shorten : Cond.instanceMethod yX9_shorten ∈ am_tb ∧ Cond.selects mX9_shorten.1.cls yX9_shorten yX9_shorten ∈ am_tb := ⟨am_mt 798 (by decide +kernel) (by decide +kernel), am_ms 15 (by decide +kernel) (by decide +kernel)⟩
abbrev mX9_shortenBy : am_Me := (yX9_shortenBy, cX9_shortenBy, 9, (some .boolean))
theorem mb_X9_shortenBy : am_mB mX9_shortenBy 3 := ⟨am_mt 809 (by decide +kernel) rfl, am_mt 7 (by decide +kernel) (by decide +kernel), ⟨by decide +kernel, by decide +kernel, by decide +kernel⟩, by decide⟩
theorem mv_X9_shortenBy : Cond.instanceMethod yX9_shortenBy ∈ am_tb ∧ Cond.selects mX9_shortenBy.1.cls yX9_shortenBy yX9_shortenBy ∈ am_tb := ⟨am_mt 808 (by decide +kernel) (by decide +kernel), am_ms 16 (by decide +kernel) (by decide +kernel)⟩
abbrev mX9_readable : am_Me := (yX9_readable, cX9_readable, 6, (some .long))
theorem mb_X9_readable : am_mB mX9_readable 2 := ⟨am_mt 822 (by decide +kernel) rfl, am_mt 7 (by decide +kernel) (by decide +kernel), ⟨by decide +kernel, by decide +kernel, by decide +kernel⟩, by decide⟩
theorem mv_X9_readable : Cond.instanceMethod yX9_readable ∈ am_tb ∧ Cond.selects mX9_readable.1.cls yX9_readable yX9_readable ∈ am_tb := ⟨am_mt 820 (by decide +kernel) (by decide +kernel), am_mt 821 (by decide +kernel) (by decide +kernel)⟩
abbrev mX9_countSingles : am_Me := (yX9_countSingles, cX9_countSingles, 11, none)
theorem mb_X9_countSingles : am_mB mX9_countSingles 2 := ⟨am_mt 826 (by decide +kernel) rfl, am_mt 7 (by decide +kernel) (by decide +kernel), ⟨by decide +kernel, by decide +kernel, by decide +kernel⟩, by decide⟩
theorem mv_X9_countSingles : Cond.instanceMethod yX9_countSingles ∈ am_tb ∧ Cond.selects mX9_countSingles.1.cls yX9_countSingles yX9_countSingles ∈ am_tb := ⟨am_mt 825 (by decide +kernel) (by decide +kernel), am_ms 18 (by decide +kernel) (by decide +kernel)⟩
abbrev mX9_countRows : am_Me := (yX9_countRows, cX9_countRows, 12, none)
theorem mb_X9_countRows : am_mB mX9_countRows 3 := ⟨am_mt 830 (by decide +kernel) rfl, am_mt 7 (by decide +kernel) (by decide +kernel), ⟨by decide +kernel, by decide +kernel, by decide +kernel⟩, by decide⟩
theorem mv_X9_countRows : Cond.instanceMethod yX9_countRows ∈ am_tb ∧ Cond.selects mX9_countRows.1.cls yX9_countRows yX9_countRows ∈ am_tb := ⟨am_mt 829 (by decide +kernel) (by decide +kernel), am_ms 19 (by decide +kernel) (by decide +kernel)⟩
abbrev mX9_pair : am_Me := (yX9_pair, cX9_pair, 2, (some .int))
theorem mb_X9_pair : am_mB mX9_pair 2 := ⟨am_mt 791 (by decide +kernel) rfl, am_mt 7 (by decide +kernel) (by decide +kernel), ⟨by decide +kernel, by decide +kernel, by decide +kernel⟩, by decide⟩
theorem mv_X9_pair : Cond.static yX9_pair ∈ am_tb := am_mt 790 (by decide +kernel) (by decide +kernel)
abbrev mX9_at : am_Me := (yX9_at, cX9_at, 2, (some .long))
theorem mb_X9_at : am_mB mX9_at 2 := ⟨am_mt 805 (by decide +kernel) rfl, am_mt 7 (by decide +kernel) (by decide +kernel), ⟨by decide +kernel, by decide +kernel, by decide +kernel⟩, by decide⟩
theorem mv_X9_at : Cond.static yX9_at ∈ am_tb := am_mt 804 (by decide +kernel) (by decide +kernel)
abbrev mX9_put : am_Me := (yX9_put, cX9_put, 4, none)
theorem mb_X9_put : am_mB mX9_put 3 := ⟨am_mt 795 (by decide +kernel) rfl, am_mt 7 (by decide +kernel) (by decide +kernel), ⟨by decide +kernel, by decide +kernel, by decide +kernel⟩, by decide⟩
theorem mv_X9_put : Cond.static yX9_put ∈ am_tb := am_mt 794 (by decide +kernel) (by decide +kernel)
abbrev mX10_init : am_Me := (yX10_init, cX10_init, 2, none)
theorem mb_X10_init : am_mB mX10_init 0 := ⟨am_mt 23 (by decide +kernel) rfl, am_mt 1 (by decide +kernel) (by decide +kernel), ⟨by decide +kernel, by decide +kernel, by decide +kernel⟩, by decide⟩
theorem mv_X10_init : mX10_init.1.name = "<init>" ∧ Cond.instanceMethod yX10_init ∈ am_tb ∧ mX10_init.2.2.2 = none := ⟨rfl, am_mt 22 (by decide +kernel) (by decide +kernel), rfl⟩
abbrev mX10_feed : am_Me := (yX10_feed, cX10_feed, 6, (some .int))
theorem mb_X10_feed : am_mB mX10_feed 5 := ⟨am_mt 370 (by decide +kernel) rfl, am_mt 1 (by decide +kernel) (by decide +kernel), ⟨by decide +kernel, by decide +kernel, by decide +kernel⟩, by decide⟩
theorem mv_X10_feed : Cond.instanceMethod yX10_feed ∈ am_tb ∧ Cond.selects mX10_feed.1.cls yX10_feed yX10_feed ∈ am_tb := ⟨am_mt 368 (by decide +kernel) (by decide +kernel), am_mt 369 (by decide +kernel) (by decide +kernel)⟩
abbrev mX10_end : am_Me := (yX10_end, cX10_end, 2, (some .boolean))
theorem mb_X10_end : am_mB mX10_end 1 := ⟨am_mt 385 (by decide +kernel) rfl, am_mt 1 (by decide +kernel) (by decide +kernel), ⟨by decide +kernel, by decide +kernel, by decide +kernel⟩, by decide⟩
theorem mv_X10_end : Cond.instanceMethod yX10_end ∈ am_tb ∧ Cond.selects mX10_end.1.cls yX10_end yX10_end ∈ am_tb := ⟨am_mt 383 (by decide +kernel) (by decide +kernel), am_mt 384 (by decide +kernel) (by decide +kernel)⟩
abbrev mX10_machine : am_Me := (yX10_machine, cX10_machine, 3, (some .int))
theorem mb_X10_machine : am_mB mX10_machine 1 := ⟨am_mt 389 (by decide +kernel) rfl, am_mt 1 (by decide +kernel) (by decide +kernel), ⟨by decide +kernel, by decide +kernel, by decide +kernel⟩, by decide⟩
theorem mv_X10_machine : Cond.instanceMethod yX10_machine ∈ am_tb ∧ Cond.selects mX10_machine.1.cls yX10_machine yX10_machine ∈ am_tb := ⟨am_mt 387 (by decide +kernel) (by decide +kernel), am_mt 388 (by decide +kernel) (by decide +kernel)⟩
abbrev mX10_document : am_Me := (yX10_document, cX10_document, 1, (some .int))
theorem mb_X10_document : am_mB mX10_document 0 := ⟨am_mt 575 (by decide +kernel) rfl, am_mt 1 (by decide +kernel) (by decide +kernel), ⟨by decide +kernel, by decide +kernel, by decide +kernel⟩, by decide⟩
theorem mv_X10_document : Cond.instanceMethod yX10_document ∈ am_tb ∧ Cond.selects mX10_document.1.cls yX10_document yX10_document ∈ am_tb := ⟨am_mt 573 (by decide +kernel) (by decide +kernel), am_mt 574 (by decide +kernel) (by decide +kernel)⟩
abbrev mX10_fault : am_Me := (yX10_fault, cX10_fault, 1, (some .int))
theorem mb_X10_fault : am_mB mX10_fault 0 := ⟨am_mt 605 (by decide +kernel) rfl, am_mt 1 (by decide +kernel) (by decide +kernel), ⟨by decide +kernel, by decide +kernel, by decide +kernel⟩, by decide⟩
theorem mv_X10_fault : Cond.instanceMethod yX10_fault ∈ am_tb ∧ Cond.selects mX10_fault.1.cls yX10_fault yX10_fault ∈ am_tb := ⟨am_mt 603 (by decide +kernel) (by decide +kernel), am_mt 604 (by decide +kernel) (by decide +kernel)⟩
abbrev mX10_of : am_Me := (yX10_of, cX10_of, 4, (some .int))
theorem mb_X10_of : am_mB mX10_of 2 := ⟨am_mt 609 (by decide +kernel) rfl, am_mt 1 (by decide +kernel) (by decide +kernel), ⟨by decide +kernel, by decide +kernel, by decide +kernel⟩, by decide⟩
theorem mv_X10_of : Cond.instanceMethod yX10_of ∈ am_tb ∧ Cond.selects mX10_of.1.cls yX10_of yX10_of ∈ am_tb := ⟨am_mt 607 (by decide +kernel) (by decide +kernel), am_mt 608 (by decide +kernel) (by decide +kernel)⟩
abbrev mX10_count : am_Me := (yX10_count, cX10_count, 2, (some .int))
theorem mb_X10_count : am_mB mX10_count 1 := ⟨am_mt 618 (by decide +kernel) rfl, am_mt 1 (by decide +kernel) (by decide +kernel), ⟨by decide +kernel, by decide +kernel, by decide +kernel⟩, by decide⟩
theorem mv_X10_count : Cond.instanceMethod yX10_count ∈ am_tb ∧ Cond.selects mX10_count.1.cls yX10_count yX10_count ∈ am_tb := ⟨am_mt 616 (by decide +kernel) (by decide +kernel), am_mt 617 (by decide +kernel) (by decide +kernel)⟩
abbrev mX10_event : am_Me := (yX10_event, cX10_event, 3, (some .int))
theorem mb_X10_event : am_mB mX10_event 2 := ⟨am_mt 635 (by decide +kernel) rfl, am_mt 1 (by decide +kernel) (by decide +kernel), ⟨by decide +kernel, by decide +kernel, by decide +kernel⟩, by decide⟩
theorem mv_X10_event : Cond.instanceMethod yX10_event ∈ am_tb ∧ Cond.selects mX10_event.1.cls yX10_event yX10_event ∈ am_tb := ⟨am_mt 633 (by decide +kernel) (by decide +kernel), am_mt 634 (by decide +kernel) (by decide +kernel)⟩
abbrev mX10_take : am_Me := (yX10_take, cX10_take, 1, (some .int))
theorem mb_X10_take : am_mB mX10_take 0 := ⟨am_mt 640 (by decide +kernel) rfl, am_mt 1 (by decide +kernel) (by decide +kernel), ⟨by decide +kernel, by decide +kernel, by decide +kernel⟩, by decide⟩
theorem mv_X10_take : Cond.instanceMethod yX10_take ∈ am_tb ∧ Cond.selects mX10_take.1.cls yX10_take yX10_take ∈ am_tb := ⟨am_mt 638 (by decide +kernel) (by decide +kernel), am_mt 639 (by decide +kernel) (by decide +kernel)⟩
abbrev mX10_begin : am_Me := (yX10_begin, cX10_begin, 3, (some .int))
theorem mb_X10_begin : am_mB mX10_begin 1 := ⟨am_mt 644 (by decide +kernel) rfl, am_mt 1 (by decide +kernel) (by decide +kernel), ⟨by decide +kernel, by decide +kernel, by decide +kernel⟩, by decide⟩
theorem mv_X10_begin : Cond.instanceMethod yX10_begin ∈ am_tb ∧ Cond.selects mX10_begin.1.cls yX10_begin yX10_begin ∈ am_tb := ⟨am_mt 642 (by decide +kernel) (by decide +kernel), am_mt 643 (by decide +kernel) (by decide +kernel)⟩
abbrev mX10_next : am_Me := (yX10_next, cX10_next, 3, (some .int))
theorem mb_X10_next : am_mB mX10_next 1 := ⟨am_mt 653 (by decide +kernel) rfl, am_mt 1 (by decide +kernel) (by decide +kernel), ⟨by decide +kernel, by decide +kernel, by decide +kernel⟩, by decide⟩
theorem mv_X10_next : Cond.instanceMethod yX10_next ∈ am_tb ∧ Cond.selects mX10_next.1.cls yX10_next yX10_next ∈ am_tb := ⟨am_mt 651 (by decide +kernel) (by decide +kernel), am_mt 652 (by decide +kernel) (by decide +kernel)⟩
abbrev mX10_state : am_Me := (yX10_state, cX10_state, 1, (some .int))
theorem mb_X10_state : am_mB mX10_state 0 := ⟨am_mt 692 (by decide +kernel) rfl, am_mt 1 (by decide +kernel) (by decide +kernel), ⟨by decide +kernel, by decide +kernel, by decide +kernel⟩, by decide⟩
theorem mv_X10_state : Cond.instanceMethod yX10_state ∈ am_tb ∧ Cond.selects mX10_state.1.cls yX10_state yX10_state ∈ am_tb := ⟨am_mt 690 (by decide +kernel) (by decide +kernel), am_mt 691 (by decide +kernel) (by decide +kernel)⟩
abbrev mX10_held : am_Me := (yX10_held, cX10_held, 6, (some .int))
theorem mb_X10_held : am_mB mX10_held 3 := ⟨am_mt 696 (by decide +kernel) rfl, am_mt 1 (by decide +kernel) (by decide +kernel), ⟨by decide +kernel, by decide +kernel, by decide +kernel⟩, by decide⟩
theorem mv_X10_held : Cond.instanceMethod yX10_held ∈ am_tb ∧ Cond.selects mX10_held.1.cls yX10_held yX10_held ∈ am_tb := ⟨am_mt 694 (by decide +kernel) (by decide +kernel), am_mt 695 (by decide +kernel) (by decide +kernel)⟩
abbrev mX10_finish : am_Me := (yX10_finish, cX10_finish, 1, (some .int))
theorem mb_X10_finish : am_mB mX10_finish 0 := ⟨am_mt 713 (by decide +kernel) rfl, am_mt 1 (by decide +kernel) (by decide +kernel), ⟨by decide +kernel, by decide +kernel, by decide +kernel⟩, by decide⟩
theorem mv_X10_finish : Cond.instanceMethod yX10_finish ∈ am_tb ∧ Cond.selects mX10_finish.1.cls yX10_finish yX10_finish ∈ am_tb := ⟨am_mt 711 (by decide +kernel) (by decide +kernel), am_mt 712 (by decide +kernel) (by decide +kernel)⟩
abbrev mX10_run : am_Me := (yX10_run, cX10_run, 3, (some .int))
theorem mb_X10_run : am_mB mX10_run 1 := ⟨am_mt 731 (by decide +kernel) rfl, am_mt 1 (by decide +kernel) (by decide +kernel), ⟨by decide +kernel, by decide +kernel, by decide +kernel⟩, by decide⟩
theorem mv_X10_run : Cond.instanceMethod yX10_run ∈ am_tb ∧ Cond.selects mX10_run.1.cls yX10_run yX10_run ∈ am_tb := ⟨am_mt 729 (by decide +kernel) (by decide +kernel), am_mt 730 (by decide +kernel) (by decide +kernel)⟩
abbrev mX10_through : am_Me := (yX10_through, cX10_through, 5, (some .int))
theorem mb_X10_through : am_mB mX10_through 2 := ⟨am_mt 746 (by decide +kernel) rfl, am_mt 1 (by decide +kernel) (by decide +kernel), ⟨by decide +kernel, by decide +kernel, by decide +kernel⟩, by decide⟩
theorem mv_X10_through : Cond.instanceMethod yX10_through ∈ am_tb ∧ Cond.selects mX10_through.1.cls yX10_through yX10_through ∈ am_tb := ⟨am_mt 744 (by decide +kernel) (by decide +kernel), am_mt 745 (by decide +kernel) (by decide +kernel)⟩
abbrev mX10_refused : am_Me := (yX10_refused, cX10_refused, 3, (some .int))
theorem mb_X10_refused : am_mB mX10_refused 1 := ⟨am_mt 754 (by decide +kernel) rfl, am_mt 1 (by decide +kernel) (by decide +kernel), ⟨by decide +kernel, by decide +kernel, by decide +kernel⟩, by decide⟩
theorem mv_X10_refused : Cond.instanceMethod yX10_refused ∈ am_tb ∧ Cond.selects mX10_refused.1.cls yX10_refused yX10_refused ∈ am_tb := ⟨am_mt 752 (by decide +kernel) (by decide +kernel), am_mt 753 (by decide +kernel) (by decide +kernel)⟩
abbrev mX10_ahead : am_Me := (yX10_ahead, cX10_ahead, 5, (some .int))
theorem mb_X10_ahead : am_mB mX10_ahead 2 := ⟨am_mt 758 (by decide +kernel) rfl, am_mt 1 (by decide +kernel) (by decide +kernel), ⟨by decide +kernel, by decide +kernel, by decide +kernel⟩, by decide⟩
theorem mv_X10_ahead : Cond.instanceMethod yX10_ahead ∈ am_tb ∧ Cond.selects mX10_ahead.1.cls yX10_ahead yX10_ahead ∈ am_tb := ⟨am_mt 756 (by decide +kernel) (by decide +kernel), am_mt 757 (by decide +kernel) (by decide +kernel)⟩
abbrev mX10_peak : am_Me := (yX10_peak, cX10_peak, 3, (some .int))
theorem mb_X10_peak : am_mB mX10_peak 1 := ⟨am_mt 772 (by decide +kernel) rfl, am_mt 1 (by decide +kernel) (by decide +kernel), ⟨by decide +kernel, by decide +kernel, by decide +kernel⟩, by decide⟩
theorem mv_X10_peak : Cond.instanceMethod yX10_peak ∈ am_tb ∧ Cond.selects mX10_peak.1.cls yX10_peak yX10_peak ∈ am_tb := ⟨am_mt 770 (by decide +kernel) (by decide +kernel), am_mt 771 (by decide +kernel) (by decide +kernel)⟩
abbrev mX10_bound : am_Me := (yX10_bound, cX10_bound, 4, (some .int))
theorem mb_X10_bound : am_mB mX10_bound 2 := ⟨am_mt 776 (by decide +kernel) rfl, am_mt 1 (by decide +kernel) (by decide +kernel), ⟨by decide +kernel, by decide +kernel, by decide +kernel⟩, by decide⟩
theorem mv_X10_bound : Cond.instanceMethod yX10_bound ∈ am_tb ∧ Cond.selects mX10_bound.1.cls yX10_bound yX10_bound ∈ am_tb := ⟨am_mt 774 (by decide +kernel) (by decide +kernel), am_mt 775 (by decide +kernel) (by decide +kernel)⟩
abbrev mX10_states : am_Me := (yX10_states, cX10_states, 3, (some .int))
theorem mb_X10_states : am_mB mX10_states 1 := ⟨am_mt 780 (by decide +kernel) rfl, am_mt 1 (by decide +kernel) (by decide +kernel), ⟨by decide +kernel, by decide +kernel, by decide +kernel⟩, by decide⟩
theorem mv_X10_states : Cond.instanceMethod yX10_states ∈ am_tb ∧ Cond.selects mX10_states.1.cls yX10_states yX10_states ∈ am_tb := ⟨am_mt 778 (by decide +kernel) (by decide +kernel), am_mt 779 (by decide +kernel) (by decide +kernel)⟩
abbrev mX10_many : am_Me := (yX10_many, cX10_many, 4, (some .long))
theorem mb_X10_many : am_mB mX10_many 2 := ⟨am_mt 817 (by decide +kernel) rfl, am_mt 1 (by decide +kernel) (by decide +kernel), ⟨by decide +kernel, by decide +kernel, by decide +kernel⟩, by decide⟩
theorem mv_X10_many : Cond.instanceMethod yX10_many ∈ am_tb ∧ Cond.selects mX10_many.1.cls yX10_many yX10_many ∈ am_tb := ⟨am_mt 815 (by decide +kernel) (by decide +kernel), am_mt 816 (by decide +kernel) (by decide +kernel)⟩
abbrev mX10_least : am_Me := (yX10_least, cX10_least, 3, (some .int))
theorem mb_X10_least : am_mB mX10_least 1 := ⟨am_mt 835 (by decide +kernel) rfl, am_mt 1 (by decide +kernel) (by decide +kernel), ⟨by decide +kernel, by decide +kernel, by decide +kernel⟩, by decide⟩
theorem mv_X10_least : Cond.instanceMethod yX10_least ∈ am_tb ∧ Cond.selects mX10_least.1.cls yX10_least yX10_least ∈ am_tb := ⟨am_mt 833 (by decide +kernel) (by decide +kernel), am_mt 834 (by decide +kernel) (by decide +kernel)⟩
abbrev mX10_differ : am_Me := (yX10_differ, cX10_differ, 4, (some .int))
theorem mb_X10_differ : am_mB mX10_differ 3 := ⟨am_mt 846 (by decide +kernel) rfl, am_mt 1 (by decide +kernel) (by decide +kernel), ⟨by decide +kernel, by decide +kernel, by decide +kernel⟩, by decide⟩
theorem mv_X10_differ : Cond.instanceMethod yX10_differ ∈ am_tb ∧ Cond.selects mX10_differ.1.cls yX10_differ yX10_differ ∈ am_tb := ⟨am_mt 844 (by decide +kernel) (by decide +kernel), am_mt 845 (by decide +kernel) (by decide +kernel)⟩
abbrev mX10_spoils : am_Me := (yX10_spoils, cX10_spoils, 4, (some .int))
theorem mb_X10_spoils : am_mB mX10_spoils 3 := ⟨am_mt 907 (by decide +kernel) rfl, am_mt 1 (by decide +kernel) (by decide +kernel), ⟨by decide +kernel, by decide +kernel, by decide +kernel⟩, by decide⟩
theorem mv_X10_spoils : Cond.instanceMethod yX10_spoils ∈ am_tb ∧ Cond.selects mX10_spoils.1.cls yX10_spoils yX10_spoils ∈ am_tb := ⟨am_mt 905 (by decide +kernel) (by decide +kernel), am_mt 906 (by decide +kernel) (by decide +kernel)⟩
abbrev mX10_safe : am_Me := (yX10_safe, cX10_safe, 5, (some .int))
theorem mb_X10_safe : am_mB mX10_safe 2 := ⟨am_mt 911 (by decide +kernel) rfl, am_mt 1 (by decide +kernel) (by decide +kernel), ⟨by decide +kernel, by decide +kernel, by decide +kernel⟩, by decide⟩
theorem mv_X10_safe : Cond.instanceMethod yX10_safe ∈ am_tb ∧ Cond.selects mX10_safe.1.cls yX10_safe yX10_safe ∈ am_tb := ⟨am_mt 909 (by decide +kernel) (by decide +kernel), am_mt 910 (by decide +kernel) (by decide +kernel)⟩
abbrev mX10_found : am_Me := (yX10_found, cX10_found, 2, (some .int))
theorem mb_X10_found : am_mB mX10_found 1 := ⟨am_mt 903 (by decide +kernel) rfl, am_mt 1 (by decide +kernel) (by decide +kernel), ⟨by decide +kernel, by decide +kernel, by decide +kernel⟩, by decide⟩
theorem mv_X10_found : Cond.instanceMethod yX10_found ∈ am_tb ∧ Cond.selects mX10_found.1.cls yX10_found yX10_found ∈ am_tb := ⟨am_mt 902 (by decide +kernel) (by decide +kernel), am_ms 27 (by decide +kernel) (by decide +kernel)⟩
abbrev mX10_told : am_Me := (yX10_told, cX10_told, 2, (some (.object "TreeStream$Machine")))
theorem mb_X10_told : am_mB mX10_told 1 := ⟨am_mt 613 (by decide +kernel) rfl, am_mt 1 (by decide +kernel) (by decide +kernel), ⟨by decide +kernel, by decide +kernel, by decide +kernel⟩, by decide⟩
theorem mv_X10_told : Cond.instanceMethod yX10_told ∈ am_tb ∧ Cond.selects mX10_told.1.cls yX10_told yX10_told ∈ am_tb := ⟨am_mt 612 (by decide +kernel) (by decide +kernel), am_ms 8 (by decide +kernel) (by decide +kernel)⟩
abbrev mX10_toldMachines : am_Me := (yX10_toldMachines, cX10_toldMachines, 3, (some .int))
theorem mb_X10_toldMachines : am_mB mX10_toldMachines 0 := ⟨am_mt 622 (by decide +kernel) rfl, am_mt 1 (by decide +kernel) (by decide +kernel), ⟨by decide +kernel, by decide +kernel, by decide +kernel⟩, by decide⟩
theorem mv_X10_toldMachines : Cond.instanceMethod yX10_toldMachines ∈ am_tb ∧ Cond.selects mX10_toldMachines.1.cls yX10_toldMachines yX10_toldMachines ∈ am_tb := ⟨am_mt 621 (by decide +kernel) (by decide +kernel), am_ms 9 (by decide +kernel) (by decide +kernel)⟩
abbrev mX10_unused : am_Me := (yX10_unused, cX10_unused, 5, (some (.object "TreeStream$Machine")))
theorem mb_X10_unused : am_mB mX10_unused 0 := ⟨am_mt 393 (by decide +kernel) rfl, am_mt 1 (by decide +kernel) (by decide +kernel), ⟨by decide +kernel, by decide +kernel, by decide +kernel⟩, by decide⟩
theorem mv_X10_unused : Cond.instanceMethod yX10_unused ∈ am_tb ∧ Cond.selects mX10_unused.1.cls yX10_unused yX10_unused ∈ am_tb := ⟨am_mt 392 (by decide +kernel) (by decide +kernel), am_ms 0 (by decide +kernel) (by decide +kernel)⟩
abbrev mX10_at : am_Me := (yX10_at, cX10_at, 2, (some .int))
theorem mb_X10_at : am_mB mX10_at 2 := ⟨am_mt 415 (by decide +kernel) rfl, am_mt 1 (by decide +kernel) (by decide +kernel), ⟨by decide +kernel, by decide +kernel, by decide +kernel⟩, by decide⟩
theorem mv_X10_at : Cond.static yX10_at ∈ am_tb := am_mt 414 (by decide +kernel) (by decide +kernel)
abbrev mX10_put : am_Me := (yX10_put, cX10_put, 3, none)
theorem mb_X10_put : am_mB mX10_put 3 := ⟨am_mt 381 (by decide +kernel) rfl, am_mt 1 (by decide +kernel) (by decide +kernel), ⟨by decide +kernel, by decide +kernel, by decide +kernel⟩, by decide⟩
theorem mv_X10_put : Cond.static yX10_put ∈ am_tb := am_mt 380 (by decide +kernel) (by decide +kernel)
abbrev mX10_laying : am_Me := (yX10_laying, cX10_laying, 2, (some .int))
theorem mb_X10_laying : am_mB mX10_laying 2 := ⟨am_mt 512 (by decide +kernel) rfl, am_mt 1 (by decide +kernel) (by decide +kernel), ⟨by decide +kernel, by decide +kernel, by decide +kernel⟩, by decide⟩
theorem mv_X10_laying : Cond.static yX10_laying ∈ am_tb := am_mt 511 (by decide +kernel) (by decide +kernel)
abbrev mX11_init : am_Me := (yX11_init, cX11_init, 1, none)
theorem mb_X11_init : am_mB mX11_init 0 := ⟨am_mt 983 (by decide +kernel) rfl, am_mt 13 (by decide +kernel) (by decide +kernel), ⟨by decide +kernel, by decide +kernel, by decide +kernel⟩, by decide⟩
theorem mv_X11_init : mX11_init.1.name = "<init>" ∧ Cond.instanceMethod yX11_init ∈ am_tb ∧ mX11_init.2.2.2 = none := ⟨rfl, am_mt 982 (by decide +kernel) (by decide +kernel), rfl⟩
abbrev mX11_isIn : am_Me := (yX11_isIn, cX11_isIn, 3, (some .boolean))
theorem mb_X11_isIn : am_mB mX11_isIn 3 := ⟨am_mt 1189 (by decide +kernel) rfl, am_mt 13 (by decide +kernel) (by decide +kernel), ⟨by decide +kernel, by decide +kernel, by decide +kernel⟩, by decide⟩
theorem mv_X11_isIn : Cond.static yX11_isIn ∈ am_tb := am_mt 1188 (by decide +kernel) (by decide +kernel)
abbrev mX11_put : am_Me := (yX11_put, cX11_put, 3, none)
theorem mb_X11_put : am_mB mX11_put 1 := ⟨am_mt 1182 (by decide +kernel) rfl, am_mt 13 (by decide +kernel) (by decide +kernel), ⟨by decide +kernel, by decide +kernel, by decide +kernel⟩, by decide⟩
theorem mv_X11_put : Cond.instanceMethod yX11_put ∈ am_tb ∧ Cond.selects mX11_put.1.cls yX11_put yX11_put ∈ am_tb := ⟨am_mt 1181 (by decide +kernel) (by decide +kernel), am_ms 35 (by decide +kernel) (by decide +kernel)⟩
abbrev mX11_feed : am_Me := (yX11_feed, cX11_feed, 6, (some .int))
theorem mb_X11_feed : am_mB mX11_feed 5 := ⟨am_mt 1178 (by decide +kernel) rfl, am_mt 13 (by decide +kernel) (by decide +kernel), ⟨by decide +kernel, by decide +kernel, by decide +kernel⟩, by decide⟩
theorem mv_X11_feed : Cond.instanceMethod yX11_feed ∈ am_tb ∧ Cond.selects mX11_feed.1.cls yX11_feed yX11_feed ∈ am_tb := ⟨am_mt 1176 (by decide +kernel) (by decide +kernel), am_mt 1177 (by decide +kernel) (by decide +kernel)⟩
abbrev mX11_end : am_Me := (yX11_end, cX11_end, 2, (some .boolean))
theorem mb_X11_end : am_mB mX11_end 1 := ⟨am_mt 1186 (by decide +kernel) rfl, am_mt 13 (by decide +kernel) (by decide +kernel), ⟨by decide +kernel, by decide +kernel, by decide +kernel⟩, by decide⟩
theorem mv_X11_end : Cond.instanceMethod yX11_end ∈ am_tb ∧ Cond.selects mX11_end.1.cls yX11_end yX11_end ∈ am_tb := ⟨am_mt 1184 (by decide +kernel) (by decide +kernel), am_mt 1185 (by decide +kernel) (by decide +kernel)⟩
abbrev mX11_isLetter : am_Me := (yX11_isLetter, cX11_isLetter, 1, (some .boolean))
theorem mb_X11_isLetter : am_mB mX11_isLetter 1 := ⟨am_mt 1204 (by decide +kernel) rfl, am_mt 13 (by decide +kernel) (by decide +kernel), ⟨by decide +kernel, by decide +kernel, by decide +kernel⟩, by decide⟩
theorem mv_X11_isLetter : Cond.static yX11_isLetter ∈ am_tb := am_mt 1203 (by decide +kernel) (by decide +kernel)
abbrev mX11_isDigit : am_Me := (yX11_isDigit, cX11_isDigit, 1, (some .boolean))
theorem mb_X11_isDigit : am_mB mX11_isDigit 1 := ⟨am_mt 1207 (by decide +kernel) rfl, am_mt 13 (by decide +kernel) (by decide +kernel), ⟨by decide +kernel, by decide +kernel, by decide +kernel⟩, by decide⟩
theorem mv_X11_isDigit : Cond.static yX11_isDigit ∈ am_tb := am_mt 1206 (by decide +kernel) (by decide +kernel)
abbrev mX11_goes : am_Me := (yX11_goes, cX11_goes, 2, none)
theorem mb_X11_goes : am_mB mX11_goes 0 := ⟨am_mt 1201 (by decide +kernel) rfl, am_mt 13 (by decide +kernel) (by decide +kernel), ⟨by decide +kernel, by decide +kernel, by decide +kernel⟩, by decide⟩
theorem mv_X11_goes : Cond.instanceMethod yX11_goes ∈ am_tb ∧ Cond.selects mX11_goes.1.cls yX11_goes yX11_goes ∈ am_tb := ⟨am_mt 1200 (by decide +kernel) (by decide +kernel), am_ms 37 (by decide +kernel) (by decide +kernel)⟩
abbrev mX11_begins : am_Me := (yX11_begins, cX11_begins, 1, none)
theorem mb_X11_begins : am_mB mX11_begins 0 := ⟨am_mt 1197 (by decide +kernel) rfl, am_mt 13 (by decide +kernel) (by decide +kernel), ⟨by decide +kernel, by decide +kernel, by decide +kernel⟩, by decide⟩
theorem mv_X11_begins : Cond.instanceMethod yX11_begins ∈ am_tb ∧ Cond.selects mX11_begins.1.cls yX11_begins yX11_begins ∈ am_tb := ⟨am_mt 1196 (by decide +kernel) (by decide +kernel), am_ms 36 (by decide +kernel) (by decide +kernel)⟩
abbrev mX11_fails : am_Me := (yX11_fails, cX11_fails, 2, none)
theorem mb_X11_fails : am_mB mX11_fails 1 := ⟨am_mt 1226 (by decide +kernel) rfl, am_mt 13 (by decide +kernel) (by decide +kernel), ⟨by decide +kernel, by decide +kernel, by decide +kernel⟩, by decide⟩
theorem mv_X11_fails : Cond.instanceMethod yX11_fails ∈ am_tb ∧ Cond.selects mX11_fails.1.cls yX11_fails yX11_fails ∈ am_tb := ⟨am_mt 1225 (by decide +kernel) (by decide +kernel), am_ms 41 (by decide +kernel) (by decide +kernel)⟩
abbrev mX11_isGood : am_Me := (yX11_isGood, cX11_isGood, 1, (some .boolean))
theorem mb_X11_isGood : am_mB mX11_isGood 0 := ⟨am_mt 1220 (by decide +kernel) rfl, am_mt 13 (by decide +kernel) (by decide +kernel), ⟨by decide +kernel, by decide +kernel, by decide +kernel⟩, by decide⟩
theorem mv_X11_isGood : Cond.instanceMethod yX11_isGood ∈ am_tb ∧ Cond.selects mX11_isGood.1.cls yX11_isGood yX11_isGood ∈ am_tb := ⟨am_mt 1219 (by decide +kernel) (by decide +kernel), am_ms 40 (by decide +kernel) (by decide +kernel)⟩
abbrev mX11_isWord : am_Me := (yX11_isWord, cX11_isWord, 4, (some .boolean))
theorem mb_X11_isWord : am_mB mX11_isWord 1 := ⟨am_mt 1216 (by decide +kernel) rfl, am_mt 13 (by decide +kernel) (by decide +kernel), ⟨by decide +kernel, by decide +kernel, by decide +kernel⟩, by decide⟩
theorem mv_X11_isWord : Cond.instanceMethod yX11_isWord ∈ am_tb ∧ Cond.selects mX11_isWord.1.cls yX11_isWord yX11_isWord ∈ am_tb := ⟨am_mt 1215 (by decide +kernel) (by decide +kernel), am_ms 39 (by decide +kernel) (by decide +kernel)⟩
abbrev mX11_isSign : am_Me := (yX11_isSign, cX11_isSign, 2, (some .boolean))
theorem mb_X11_isSign : am_mB mX11_isSign 1 := ⟨am_mt 1238 (by decide +kernel) rfl, am_mt 13 (by decide +kernel) (by decide +kernel), ⟨by decide +kernel, by decide +kernel, by decide +kernel⟩, by decide⟩
theorem mv_X11_isSign : Cond.instanceMethod yX11_isSign ∈ am_tb ∧ Cond.selects mX11_isSign.1.cls yX11_isSign yX11_isSign ∈ am_tb := ⟨am_mt 1237 (by decide +kernel) (by decide +kernel), am_ms 44 (by decide +kernel) (by decide +kernel)⟩
abbrev mX11_sign : am_Me := (yX11_sign, cX11_sign, 2, none)
theorem mb_X11_sign : am_mB mX11_sign 1 := ⟨am_mt 1270 (by decide +kernel) rfl, am_mt 13 (by decide +kernel) (by decide +kernel), ⟨by decide +kernel, by decide +kernel, by decide +kernel⟩, by decide⟩
theorem mv_X11_sign : Cond.instanceMethod yX11_sign ∈ am_tb ∧ Cond.selects mX11_sign.1.cls yX11_sign yX11_sign ∈ am_tb := ⟨am_mt 1269 (by decide +kernel) (by decide +kernel), am_ms 49 (by decide +kernel) (by decide +kernel)⟩
abbrev mX11_letter : am_Me := (yX11_letter, cX11_letter, 2, (some .int))
theorem mb_X11_letter : am_mB mX11_letter 0 := ⟨am_mt 1253 (by decide +kernel) rfl, am_mt 13 (by decide +kernel) (by decide +kernel), ⟨by decide +kernel, by decide +kernel, by decide +kernel⟩, by decide⟩
theorem mv_X11_letter : Cond.instanceMethod yX11_letter ∈ am_tb ∧ Cond.selects mX11_letter.1.cls yX11_letter yX11_letter ∈ am_tb := ⟨am_mt 1252 (by decide +kernel) (by decide +kernel), am_ms 47 (by decide +kernel) (by decide +kernel)⟩
abbrev mX11_digit : am_Me := (yX11_digit, cX11_digit, 4, (some .int))
theorem mb_X11_digit : am_mB mX11_digit 2 := ⟨am_mt 1234 (by decide +kernel) rfl, am_mt 13 (by decide +kernel) (by decide +kernel), ⟨by decide +kernel, by decide +kernel, by decide +kernel⟩, by decide⟩
theorem mv_X11_digit : Cond.instanceMethod yX11_digit ∈ am_tb ∧ Cond.selects mX11_digit.1.cls yX11_digit yX11_digit ∈ am_tb := ⟨am_mt 1233 (by decide +kernel) (by decide +kernel), am_ms 43 (by decide +kernel) (by decide +kernel)⟩
abbrev mX11_number : am_Me := (yX11_number, cX11_number, 4, (some .int))
theorem mb_X11_number : am_mB mX11_number 2 := ⟨am_mt 1230 (by decide +kernel) rfl, am_mt 13 (by decide +kernel) (by decide +kernel), ⟨by decide +kernel, by decide +kernel, by decide +kernel⟩, by decide⟩
theorem mv_X11_number : Cond.instanceMethod yX11_number ∈ am_tb ∧ Cond.selects mX11_number.1.cls yX11_number yX11_number ∈ am_tb := ⟨am_mt 1229 (by decide +kernel) (by decide +kernel), am_ms 42 (by decide +kernel) (by decide +kernel)⟩
abbrev mX11_openAt : am_Me := (yX11_openAt, cX11_openAt, 3, (some .int))
theorem mb_X11_openAt : am_mB mX11_openAt 3 := ⟨am_mt 1259 (by decide +kernel) rfl, am_mt 13 (by decide +kernel) (by decide +kernel), ⟨by decide +kernel, by decide +kernel, by decide +kernel⟩, by decide⟩
theorem mv_X11_openAt : Cond.static yX11_openAt ∈ am_tb := am_mt 1258 (by decide +kernel) (by decide +kernel)
abbrev mX11_closeAt : am_Me := (yX11_closeAt, cX11_closeAt, 4, (some .int))
theorem mb_X11_closeAt : am_mB mX11_closeAt 4 := ⟨am_mt 1266 (by decide +kernel) rfl, am_mt 13 (by decide +kernel) (by decide +kernel), ⟨by decide +kernel, by decide +kernel, by decide +kernel⟩, by decide⟩
theorem mv_X11_closeAt : Cond.static yX11_closeAt ∈ am_tb := am_mt 1265 (by decide +kernel) (by decide +kernel)
abbrev mX11_clears : am_Me := (yX11_clears, cX11_clears, 3, none)
theorem mb_X11_clears : am_mB mX11_clears 1 := ⟨am_mt 1211 (by decide +kernel) rfl, am_mt 13 (by decide +kernel) (by decide +kernel), ⟨by decide +kernel, by decide +kernel, by decide +kernel⟩, by decide⟩
theorem mv_X11_clears : Cond.instanceMethod yX11_clears ∈ am_tb ∧ Cond.selects mX11_clears.1.cls yX11_clears yX11_clears ∈ am_tb := ⟨am_mt 1210 (by decide +kernel) (by decide +kernel), am_ms 38 (by decide +kernel) (by decide +kernel)⟩
abbrev mX11_copies : am_Me := (yX11_copies, cX11_copies, 4, none)
theorem mb_X11_copies : am_mB mX11_copies 2 := ⟨am_mt 1300 (by decide +kernel) rfl, am_mt 13 (by decide +kernel) (by decide +kernel), ⟨by decide +kernel, by decide +kernel, by decide +kernel⟩, by decide⟩
theorem mv_X11_copies : Cond.instanceMethod yX11_copies ∈ am_tb ∧ Cond.selects mX11_copies.1.cls yX11_copies yX11_copies ∈ am_tb := ⟨am_mt 1299 (by decide +kernel) (by decide +kernel), am_ms 56 (by decide +kernel) (by decide +kernel)⟩
abbrev mX11_emits : am_Me := (yX11_emits, cX11_emits, 2, none)
theorem mb_X11_emits : am_mB mX11_emits 1 := ⟨am_mt 1288 (by decide +kernel) rfl, am_mt 13 (by decide +kernel) (by decide +kernel), ⟨by decide +kernel, by decide +kernel, by decide +kernel⟩, by decide⟩
theorem mv_X11_emits : Cond.instanceMethod yX11_emits ∈ am_tb ∧ Cond.selects mX11_emits.1.cls yX11_emits yX11_emits ∈ am_tb := ⟨am_mt 1287 (by decide +kernel) (by decide +kernel), am_ms 53 (by decide +kernel) (by decide +kernel)⟩
abbrev mX11_register : am_Me := (yX11_register, cX11_register, 4, none)
theorem mb_X11_register : am_mB mX11_register 1 := ⟨am_mt 1284 (by decide +kernel) rfl, am_mt 13 (by decide +kernel) (by decide +kernel), ⟨by decide +kernel, by decide +kernel, by decide +kernel⟩, by decide⟩
theorem mv_X11_register : Cond.instanceMethod yX11_register ∈ am_tb ∧ Cond.selects mX11_register.1.cls yX11_register yX11_register ∈ am_tb := ⟨am_mt 1283 (by decide +kernel) (by decide +kernel), am_ms 52 (by decide +kernel) (by decide +kernel)⟩
abbrev mX11_parts : am_Me := (yX11_parts, cX11_parts, 4, none)
theorem mb_X11_parts : am_mB mX11_parts 2 := ⟨am_mt 1278 (by decide +kernel) rfl, am_mt 13 (by decide +kernel) (by decide +kernel), ⟨by decide +kernel, by decide +kernel, by decide +kernel⟩, by decide⟩
theorem mv_X11_parts : Cond.instanceMethod yX11_parts ∈ am_tb ∧ Cond.selects mX11_parts.1.cls yX11_parts yX11_parts ∈ am_tb := ⟨am_mt 1277 (by decide +kernel) (by decide +kernel), am_ms 51 (by decide +kernel) (by decide +kernel)⟩
abbrev mX11_element : am_Me := (yX11_element, cX11_element, 4, none)
theorem mb_X11_element : am_mB mX11_element 2 := ⟨am_mt 1292 (by decide +kernel) rfl, am_mt 13 (by decide +kernel) (by decide +kernel), ⟨by decide +kernel, by decide +kernel, by decide +kernel⟩, by decide⟩
theorem mv_X11_element : Cond.instanceMethod yX11_element ∈ am_tb ∧ Cond.selects mX11_element.1.cls yX11_element yX11_element ∈ am_tb := ⟨am_mt 1291 (by decide +kernel) (by decide +kernel), am_ms 54 (by decide +kernel) (by decide +kernel)⟩
abbrev mX11_expression : am_Me := (yX11_expression, cX11_expression, 4, none)
theorem mb_X11_expression : am_mB mX11_expression 3 := ⟨am_mt 1274 (by decide +kernel) rfl, am_mt 13 (by decide +kernel) (by decide +kernel), ⟨by decide +kernel, by decide +kernel, by decide +kernel⟩, by decide⟩
theorem mv_X11_expression : Cond.instanceMethod yX11_expression ∈ am_tb ∧ Cond.selects mX11_expression.1.cls yX11_expression yX11_expression ∈ am_tb := ⟨am_mt 1273 (by decide +kernel) (by decide +kernel), am_ms 50 (by decide +kernel) (by decide +kernel)⟩
abbrev mX11_openRule : am_Me := (yX11_openRule, cX11_openRule, 5, none)
theorem mb_X11_openRule : am_mB mX11_openRule 0 := ⟨am_mt 1249 (by decide +kernel) rfl, am_mt 13 (by decide +kernel) (by decide +kernel), ⟨by decide +kernel, by decide +kernel, by decide +kernel⟩, by decide⟩
theorem mv_X11_openRule : Cond.instanceMethod yX11_openRule ∈ am_tb ∧ Cond.selects mX11_openRule.1.cls yX11_openRule yX11_openRule ∈ am_tb := ⟨am_mt 1248 (by decide +kernel) (by decide +kernel), am_ms 46 (by decide +kernel) (by decide +kernel)⟩
abbrev mX11_closeRule : am_Me := (yX11_closeRule, cX11_closeRule, 7, none)
theorem mb_X11_closeRule : am_mB mX11_closeRule 1 := ⟨am_mt 1263 (by decide +kernel) rfl, am_mt 13 (by decide +kernel) (by decide +kernel), ⟨by decide +kernel, by decide +kernel, by decide +kernel⟩, by decide⟩
theorem mv_X11_closeRule : Cond.instanceMethod yX11_closeRule ∈ am_tb ∧ Cond.selects mX11_closeRule.1.cls yX11_closeRule yX11_closeRule ∈ am_tb := ⟨am_mt 1262 (by decide +kernel) (by decide +kernel), am_ms 48 (by decide +kernel) (by decide +kernel)⟩
abbrev mX11_endsRule : am_Me := (yX11_endsRule, cX11_endsRule, 3, none)
theorem mb_X11_endsRule : am_mB mX11_endsRule 1 := ⟨am_mt 1296 (by decide +kernel) rfl, am_mt 13 (by decide +kernel) (by decide +kernel), ⟨by decide +kernel, by decide +kernel, by decide +kernel⟩, by decide⟩
theorem mv_X11_endsRule : Cond.instanceMethod yX11_endsRule ∈ am_tb ∧ Cond.selects mX11_endsRule.1.cls yX11_endsRule yX11_endsRule ∈ am_tb := ⟨am_mt 1295 (by decide +kernel) (by decide +kernel), am_ms 55 (by decide +kernel) (by decide +kernel)⟩
abbrev mX11_rule : am_Me := (yX11_rule, cX11_rule, 4, none)
theorem mb_X11_rule : am_mB mX11_rule 0 := ⟨am_mt 1242 (by decide +kernel) rfl, am_mt 13 (by decide +kernel) (by decide +kernel), ⟨by decide +kernel, by decide +kernel, by decide +kernel⟩, by decide⟩
theorem mv_X11_rule : Cond.instanceMethod yX11_rule ∈ am_tb ∧ Cond.selects mX11_rule.1.cls yX11_rule yX11_rule ∈ am_tb := ⟨am_mt 1241 (by decide +kernel) (by decide +kernel), am_ms 45 (by decide +kernel) (by decide +kernel)⟩
abbrev mX11_machine : am_Me := (yX11_machine, cX11_machine, 2, (some .int))
theorem mb_X11_machine : am_mB mX11_machine 1 := ⟨am_mt 1193 (by decide +kernel) rfl, am_mt 13 (by decide +kernel) (by decide +kernel), ⟨by decide +kernel, by decide +kernel, by decide +kernel⟩, by decide⟩
theorem mv_X11_machine : Cond.instanceMethod yX11_machine ∈ am_tb ∧ Cond.selects mX11_machine.1.cls yX11_machine yX11_machine ∈ am_tb := ⟨am_mt 1191 (by decide +kernel) (by decide +kernel), am_mt 1192 (by decide +kernel) (by decide +kernel)⟩
abbrev mX11_readsElement : am_Me := (yX11_readsElement, cX11_readsElement, 2, none)
theorem mb_X11_readsElement : am_mB mX11_readsElement 0 := ⟨am_mt 1308 (by decide +kernel) rfl, am_mt 13 (by decide +kernel) (by decide +kernel), ⟨by decide +kernel, by decide +kernel, by decide +kernel⟩, by decide⟩
theorem mv_X11_readsElement : Cond.instanceMethod yX11_readsElement ∈ am_tb ∧ Cond.selects mX11_readsElement.1.cls yX11_readsElement yX11_readsElement ∈ am_tb := ⟨am_mt 1307 (by decide +kernel) (by decide +kernel), am_ms 57 (by decide +kernel) (by decide +kernel)⟩
abbrev mX11_document : am_Me := (yX11_document, cX11_document, 2, (some .int))
theorem mb_X11_document : am_mB mX11_document 0 := ⟨am_mt 1304 (by decide +kernel) rfl, am_mt 13 (by decide +kernel) (by decide +kernel), ⟨by decide +kernel, by decide +kernel, by decide +kernel⟩, by decide⟩
theorem mv_X11_document : Cond.instanceMethod yX11_document ∈ am_tb ∧ Cond.selects mX11_document.1.cls yX11_document yX11_document ∈ am_tb := ⟨am_mt 1302 (by decide +kernel) (by decide +kernel), am_mt 1303 (by decide +kernel) (by decide +kernel)⟩
abbrev mX11_fault : am_Me := (yX11_fault, cX11_fault, 1, (some .int))
theorem mb_X11_fault : am_mB mX11_fault 0 := ⟨am_mt 1312 (by decide +kernel) rfl, am_mt 13 (by decide +kernel) (by decide +kernel), ⟨by decide +kernel, by decide +kernel, by decide +kernel⟩, by decide⟩
theorem mv_X11_fault : Cond.instanceMethod yX11_fault ∈ am_tb ∧ Cond.selects mX11_fault.1.cls yX11_fault yX11_fault ∈ am_tb := ⟨am_mt 1310 (by decide +kernel) (by decide +kernel), am_mt 1311 (by decide +kernel) (by decide +kernel)⟩
abbrev mX11_isMachine : am_Me := (yX11_isMachine, cX11_isMachine, 2, (some .boolean))
theorem mb_X11_isMachine : am_mB mX11_isMachine 1 := ⟨am_mt 1320 (by decide +kernel) rfl, am_mt 13 (by decide +kernel) (by decide +kernel), ⟨by decide +kernel, by decide +kernel, by decide +kernel⟩, by decide⟩
theorem mv_X11_isMachine : Cond.instanceMethod yX11_isMachine ∈ am_tb ∧ Cond.selects mX11_isMachine.1.cls yX11_isMachine yX11_isMachine ∈ am_tb := ⟨am_mt 1319 (by decide +kernel) (by decide +kernel), am_ms 58 (by decide +kernel) (by decide +kernel)⟩
abbrev mX11_mostOwn : am_Me := (yX11_mostOwn, cX11_mostOwn, 6, (some .int))
theorem mb_X11_mostOwn : am_mB mX11_mostOwn 3 := ⟨am_mt 1327 (by decide +kernel) rfl, am_mt 13 (by decide +kernel) (by decide +kernel), ⟨by decide +kernel, by decide +kernel, by decide +kernel⟩, by decide⟩
theorem mv_X11_mostOwn : Cond.instanceMethod yX11_mostOwn ∈ am_tb ∧ Cond.selects mX11_mostOwn.1.cls yX11_mostOwn yX11_mostOwn ∈ am_tb := ⟨am_mt 1326 (by decide +kernel) (by decide +kernel), am_ms 59 (by decide +kernel) (by decide +kernel)⟩
abbrev mX11_told : am_Me := (yX11_told, cX11_told, 5, (some .int))
theorem mb_X11_told : am_mB mX11_told 3 := ⟨am_mt 1323 (by decide +kernel) rfl, am_mt 13 (by decide +kernel) (by decide +kernel), ⟨by decide +kernel, by decide +kernel, by decide +kernel⟩, by decide⟩
theorem mv_X11_told : Cond.static yX11_told ∈ am_tb := am_mt 1322 (by decide +kernel) (by decide +kernel)
abbrev mX11_of : am_Me := (yX11_of, cX11_of, 3, (some .int))
theorem mb_X11_of : am_mB mX11_of 2 := ⟨am_mt 1316 (by decide +kernel) rfl, am_mt 13 (by decide +kernel) (by decide +kernel), ⟨by decide +kernel, by decide +kernel, by decide +kernel⟩, by decide⟩
theorem mv_X11_of : Cond.instanceMethod yX11_of ∈ am_tb ∧ Cond.selects mX11_of.1.cls yX11_of yX11_of ∈ am_tb := ⟨am_mt 1314 (by decide +kernel) (by decide +kernel), am_mt 1315 (by decide +kernel) (by decide +kernel)⟩
abbrev mX11_deepOf : am_Me := (yX11_deepOf, cX11_deepOf, 5, (some .int))
theorem mb_X11_deepOf : am_mB mX11_deepOf 2 := ⟨am_mt 1339 (by decide +kernel) rfl, am_mt 13 (by decide +kernel) (by decide +kernel), ⟨by decide +kernel, by decide +kernel, by decide +kernel⟩, by decide⟩
theorem mv_X11_deepOf : Cond.static yX11_deepOf ∈ am_tb := am_mt 1338 (by decide +kernel) (by decide +kernel)
abbrev mX11_machines : am_Me := (yX11_machines, cX11_machines, 3, (some .int))
theorem mb_X11_machines : am_mB mX11_machines 0 := ⟨am_mt 1336 (by decide +kernel) rfl, am_mt 13 (by decide +kernel) (by decide +kernel), ⟨by decide +kernel, by decide +kernel, by decide +kernel⟩, by decide⟩
theorem mv_X11_machines : Cond.instanceMethod yX11_machines ∈ am_tb ∧ Cond.selects mX11_machines.1.cls yX11_machines yX11_machines ∈ am_tb := ⟨am_mt 1335 (by decide +kernel) (by decide +kernel), am_ms 60 (by decide +kernel) (by decide +kernel)⟩
abbrev mX11_count : am_Me := (yX11_count, cX11_count, 2, (some .int))
theorem mb_X11_count : am_mB mX11_count 1 := ⟨am_mt 1332 (by decide +kernel) rfl, am_mt 13 (by decide +kernel) (by decide +kernel), ⟨by decide +kernel, by decide +kernel, by decide +kernel⟩, by decide⟩
theorem mv_X11_count : Cond.instanceMethod yX11_count ∈ am_tb ∧ Cond.selects mX11_count.1.cls yX11_count yX11_count ∈ am_tb := ⟨am_mt 1330 (by decide +kernel) (by decide +kernel), am_mt 1331 (by decide +kernel) (by decide +kernel)⟩
abbrev mX11_event : am_Me := (yX11_event, cX11_event, 3, (some .int))
theorem mb_X11_event : am_mB mX11_event 2 := ⟨am_mt 1347 (by decide +kernel) rfl, am_mt 13 (by decide +kernel) (by decide +kernel), ⟨by decide +kernel, by decide +kernel, by decide +kernel⟩, by decide⟩
theorem mv_X11_event : Cond.instanceMethod yX11_event ∈ am_tb ∧ Cond.selects mX11_event.1.cls yX11_event yX11_event ∈ am_tb := ⟨am_mt 1345 (by decide +kernel) (by decide +kernel), am_mt 1346 (by decide +kernel) (by decide +kernel)⟩
abbrev mX11_take : am_Me := (yX11_take, cX11_take, 2, (some .int))
theorem mb_X11_take : am_mB mX11_take 0 := ⟨am_mt 1351 (by decide +kernel) rfl, am_mt 13 (by decide +kernel) (by decide +kernel), ⟨by decide +kernel, by decide +kernel, by decide +kernel⟩, by decide⟩
theorem mv_X11_take : Cond.instanceMethod yX11_take ∈ am_tb ∧ Cond.selects mX11_take.1.cls yX11_take yX11_take ∈ am_tb := ⟨am_mt 1349 (by decide +kernel) (by decide +kernel), am_mt 1350 (by decide +kernel) (by decide +kernel)⟩
abbrev mX11_empties : am_Me := (yX11_empties, cX11_empties, 3, none)
theorem mb_X11_empties : am_mB mX11_empties 1 := ⟨am_mt 1363 (by decide +kernel) rfl, am_mt 13 (by decide +kernel) (by decide +kernel), ⟨by decide +kernel, by decide +kernel, by decide +kernel⟩, by decide⟩
theorem mv_X11_empties : Cond.instanceMethod yX11_empties ∈ am_tb ∧ Cond.selects mX11_empties.1.cls yX11_empties yX11_empties ∈ am_tb := ⟨am_mt 1362 (by decide +kernel) (by decide +kernel), am_ms 63 (by decide +kernel) (by decide +kernel)⟩
abbrev mX11_starts : am_Me := (yX11_starts, cX11_starts, 2, none)
theorem mb_X11_starts : am_mB mX11_starts 1 := ⟨am_mt 1359 (by decide +kernel) rfl, am_mt 13 (by decide +kernel) (by decide +kernel), ⟨by decide +kernel, by decide +kernel, by decide +kernel⟩, by decide⟩
theorem mv_X11_starts : Cond.instanceMethod yX11_starts ∈ am_tb ∧ Cond.selects mX11_starts.1.cls yX11_starts yX11_starts ∈ am_tb := ⟨am_mt 1358 (by decide +kernel) (by decide +kernel), am_ms 62 (by decide +kernel) (by decide +kernel)⟩
abbrev mX11_heldBy : am_Me := (yX11_heldBy, cX11_heldBy, 4, (some .int))
theorem mb_X11_heldBy : am_mB mX11_heldBy 1 := ⟨am_mt 1343 (by decide +kernel) rfl, am_mt 13 (by decide +kernel) (by decide +kernel), ⟨by decide +kernel, by decide +kernel, by decide +kernel⟩, by decide⟩
theorem mv_X11_heldBy : Cond.instanceMethod yX11_heldBy ∈ am_tb ∧ Cond.selects mX11_heldBy.1.cls yX11_heldBy yX11_heldBy ∈ am_tb := ⟨am_mt 1342 (by decide +kernel) (by decide +kernel), am_ms 61 (by decide +kernel) (by decide +kernel)⟩
abbrev mX11_opens : am_Me := (yX11_opens, cX11_opens, 7, (some .boolean))
theorem mb_X11_opens : am_mB mX11_opens 3 := ⟨am_mt 1387 (by decide +kernel) rfl, am_mt 13 (by decide +kernel) (by decide +kernel), ⟨by decide +kernel, by decide +kernel, by decide +kernel⟩, by decide⟩
theorem mv_X11_opens : Cond.instanceMethod yX11_opens ∈ am_tb ∧ Cond.selects mX11_opens.1.cls yX11_opens yX11_opens ∈ am_tb := ⟨am_mt 1386 (by decide +kernel) (by decide +kernel), am_ms 68 (by decide +kernel) (by decide +kernel)⟩
abbrev mX11_adds : am_Me := (yX11_adds, cX11_adds, 4, none)
theorem mb_X11_adds : am_mB mX11_adds 3 := ⟨am_mt 1383 (by decide +kernel) rfl, am_mt 13 (by decide +kernel) (by decide +kernel), ⟨by decide +kernel, by decide +kernel, by decide +kernel⟩, by decide⟩
theorem mv_X11_adds : Cond.instanceMethod yX11_adds ∈ am_tb ∧ Cond.selects mX11_adds.1.cls yX11_adds yX11_adds ∈ am_tb := ⟨am_mt 1382 (by decide +kernel) (by decide +kernel), am_ms 67 (by decide +kernel) (by decide +kernel)⟩
abbrev mX11_makes : am_Me := (yX11_makes, cX11_makes, 9, none)
theorem mb_X11_makes : am_mB mX11_makes 4 := ⟨am_mt 1379 (by decide +kernel) rfl, am_mt 13 (by decide +kernel) (by decide +kernel), ⟨by decide +kernel, by decide +kernel, by decide +kernel⟩, by decide⟩
theorem mv_X11_makes : Cond.instanceMethod yX11_makes ∈ am_tb ∧ Cond.selects mX11_makes.1.cls yX11_makes yX11_makes ∈ am_tb := ⟨am_mt 1378 (by decide +kernel) (by decide +kernel), am_ms 66 (by decide +kernel) (by decide +kernel)⟩
abbrev mX11_closes : am_Me := (yX11_closes, cX11_closes, 6, (some .boolean))
theorem mb_X11_closes : am_mB mX11_closes 2 := ⟨am_mt 1375 (by decide +kernel) rfl, am_mt 13 (by decide +kernel) (by decide +kernel), ⟨by decide +kernel, by decide +kernel, by decide +kernel⟩, by decide⟩
theorem mv_X11_closes : Cond.instanceMethod yX11_closes ∈ am_tb ∧ Cond.selects mX11_closes.1.cls yX11_closes yX11_closes ∈ am_tb := ⟨am_mt 1374 (by decide +kernel) (by decide +kernel), am_ms 65 (by decide +kernel) (by decide +kernel)⟩
abbrev mX11_reads : am_Me := (yX11_reads, cX11_reads, 5, (some .boolean))
theorem mb_X11_reads : am_mB mX11_reads 3 := ⟨am_mt 1371 (by decide +kernel) rfl, am_mt 13 (by decide +kernel) (by decide +kernel), ⟨by decide +kernel, by decide +kernel, by decide +kernel⟩, by decide⟩
theorem mv_X11_reads : Cond.instanceMethod yX11_reads ∈ am_tb ∧ Cond.selects mX11_reads.1.cls yX11_reads yX11_reads ∈ am_tb := ⟨am_mt 1370 (by decide +kernel) (by decide +kernel), am_ms 64 (by decide +kernel) (by decide +kernel)⟩
abbrev mX11_canEnd : am_Me := (yX11_canEnd, cX11_canEnd, 3, (some .boolean))
theorem mb_X11_canEnd : am_mB mX11_canEnd 2 := ⟨am_mt 1403 (by decide +kernel) rfl, am_mt 13 (by decide +kernel) (by decide +kernel), ⟨by decide +kernel, by decide +kernel, by decide +kernel⟩, by decide⟩
theorem mv_X11_canEnd : Cond.instanceMethod yX11_canEnd ∈ am_tb ∧ Cond.selects mX11_canEnd.1.cls yX11_canEnd yX11_canEnd ∈ am_tb := ⟨am_mt 1402 (by decide +kernel) (by decide +kernel), am_ms 69 (by decide +kernel) (by decide +kernel)⟩
abbrev mX11_writes : am_Me := (yX11_writes, cX11_writes, 6, (some .int))
theorem mb_X11_writes : am_mB mX11_writes 3 := ⟨am_mt 1407 (by decide +kernel) rfl, am_mt 13 (by decide +kernel) (by decide +kernel), ⟨by decide +kernel, by decide +kernel, by decide +kernel⟩, by decide⟩
theorem mv_X11_writes : Cond.instanceMethod yX11_writes ∈ am_tb ∧ Cond.selects mX11_writes.1.cls yX11_writes yX11_writes ∈ am_tb := ⟨am_mt 1406 (by decide +kernel) (by decide +kernel), am_ms 70 (by decide +kernel) (by decide +kernel)⟩
abbrev mX11_refusedAt : am_Me := (yX11_refusedAt, cX11_refusedAt, 6, (some .int))
theorem mb_X11_refusedAt : am_mB mX11_refusedAt 4 := ⟨am_mt 1415 (by decide +kernel) rfl, am_mt 13 (by decide +kernel) (by decide +kernel), ⟨by decide +kernel, by decide +kernel, by decide +kernel⟩, by decide⟩
theorem mv_X11_refusedAt : Cond.instanceMethod yX11_refusedAt ∈ am_tb ∧ Cond.selects mX11_refusedAt.1.cls yX11_refusedAt yX11_refusedAt ∈ am_tb := ⟨am_mt 1414 (by decide +kernel) (by decide +kernel), am_ms 71 (by decide +kernel) (by decide +kernel)⟩
abbrev mX11_begin : am_Me := (yX11_begin, cX11_begin, 2, (some .int))
theorem mb_X11_begin : am_mB mX11_begin 1 := ⟨am_mt 1355 (by decide +kernel) rfl, am_mt 13 (by decide +kernel) (by decide +kernel), ⟨by decide +kernel, by decide +kernel, by decide +kernel⟩, by decide⟩
theorem mv_X11_begin : Cond.instanceMethod yX11_begin ∈ am_tb ∧ Cond.selects mX11_begin.1.cls yX11_begin yX11_begin ∈ am_tb := ⟨am_mt 1353 (by decide +kernel) (by decide +kernel), am_mt 1354 (by decide +kernel) (by decide +kernel)⟩
abbrev mX11_next : am_Me := (yX11_next, cX11_next, 2, (some .int))
theorem mb_X11_next : am_mB mX11_next 1 := ⟨am_mt 1367 (by decide +kernel) rfl, am_mt 13 (by decide +kernel) (by decide +kernel), ⟨by decide +kernel, by decide +kernel, by decide +kernel⟩, by decide⟩
theorem mv_X11_next : Cond.instanceMethod yX11_next ∈ am_tb ∧ Cond.selects mX11_next.1.cls yX11_next yX11_next ∈ am_tb := ⟨am_mt 1365 (by decide +kernel) (by decide +kernel), am_mt 1366 (by decide +kernel) (by decide +kernel)⟩
abbrev mX11_state : am_Me := (yX11_state, cX11_state, 1, (some .int))
theorem mb_X11_state : am_mB mX11_state 0 := ⟨am_mt 1391 (by decide +kernel) rfl, am_mt 13 (by decide +kernel) (by decide +kernel), ⟨by decide +kernel, by decide +kernel, by decide +kernel⟩, by decide⟩
theorem mv_X11_state : Cond.instanceMethod yX11_state ∈ am_tb ∧ Cond.selects mX11_state.1.cls yX11_state yX11_state ∈ am_tb := ⟨am_mt 1389 (by decide +kernel) (by decide +kernel), am_mt 1390 (by decide +kernel) (by decide +kernel)⟩
abbrev mX11_held : am_Me := (yX11_held, cX11_held, 8, (some .int))
theorem mb_X11_held : am_mB mX11_held 3 := ⟨am_mt 1395 (by decide +kernel) rfl, am_mt 13 (by decide +kernel) (by decide +kernel), ⟨by decide +kernel, by decide +kernel, by decide +kernel⟩, by decide⟩
theorem mv_X11_held : Cond.instanceMethod yX11_held ∈ am_tb ∧ Cond.selects mX11_held.1.cls yX11_held yX11_held ∈ am_tb := ⟨am_mt 1393 (by decide +kernel) (by decide +kernel), am_mt 1394 (by decide +kernel) (by decide +kernel)⟩
abbrev mX11_finish : am_Me := (yX11_finish, cX11_finish, 1, (some .int))
theorem mb_X11_finish : am_mB mX11_finish 0 := ⟨am_mt 1399 (by decide +kernel) rfl, am_mt 13 (by decide +kernel) (by decide +kernel), ⟨by decide +kernel, by decide +kernel, by decide +kernel⟩, by decide⟩
theorem mv_X11_finish : Cond.instanceMethod yX11_finish ∈ am_tb ∧ Cond.selects mX11_finish.1.cls yX11_finish yX11_finish ∈ am_tb := ⟨am_mt 1397 (by decide +kernel) (by decide +kernel), am_mt 1398 (by decide +kernel) (by decide +kernel)⟩
abbrev mX11_run : am_Me := (yX11_run, cX11_run, 2, (some .int))
theorem mb_X11_run : am_mB mX11_run 1 := ⟨am_mt 1411 (by decide +kernel) rfl, am_mt 13 (by decide +kernel) (by decide +kernel), ⟨by decide +kernel, by decide +kernel, by decide +kernel⟩, by decide⟩
theorem mv_X11_run : Cond.instanceMethod yX11_run ∈ am_tb ∧ Cond.selects mX11_run.1.cls yX11_run yX11_run ∈ am_tb := ⟨am_mt 1409 (by decide +kernel) (by decide +kernel), am_mt 1410 (by decide +kernel) (by decide +kernel)⟩
abbrev mX11_isReadBy : am_Me := (yX11_isReadBy, cX11_isReadBy, 5, (some .boolean))
theorem mb_X11_isReadBy : am_mB mX11_isReadBy 4 := ⟨am_mt 1423 (by decide +kernel) rfl, am_mt 13 (by decide +kernel) (by decide +kernel), ⟨by decide +kernel, by decide +kernel, by decide +kernel⟩, by decide⟩
theorem mv_X11_isReadBy : Cond.instanceMethod yX11_isReadBy ∈ am_tb ∧ Cond.selects mX11_isReadBy.1.cls yX11_isReadBy yX11_isReadBy ∈ am_tb := ⟨am_mt 1422 (by decide +kernel) (by decide +kernel), am_ms 72 (by decide +kernel) (by decide +kernel)⟩
abbrev mX11_through : am_Me := (yX11_through, cX11_through, 3, (some .int))
theorem mb_X11_through : am_mB mX11_through 2 := ⟨am_mt 1419 (by decide +kernel) rfl, am_mt 13 (by decide +kernel) (by decide +kernel), ⟨by decide +kernel, by decide +kernel, by decide +kernel⟩, by decide⟩
theorem mv_X11_through : Cond.instanceMethod yX11_through ∈ am_tb ∧ Cond.selects mX11_through.1.cls yX11_through yX11_through ∈ am_tb := ⟨am_mt 1417 (by decide +kernel) (by decide +kernel), am_mt 1418 (by decide +kernel) (by decide +kernel)⟩
abbrev mX11_refused : am_Me := (yX11_refused, cX11_refused, 2, (some .int))
theorem mb_X11_refused : am_mB mX11_refused 1 := ⟨am_mt 1427 (by decide +kernel) rfl, am_mt 13 (by decide +kernel) (by decide +kernel), ⟨by decide +kernel, by decide +kernel, by decide +kernel⟩, by decide⟩
theorem mv_X11_refused : Cond.instanceMethod yX11_refused ∈ am_tb ∧ Cond.selects mX11_refused.1.cls yX11_refused yX11_refused ∈ am_tb := ⟨am_mt 1425 (by decide +kernel) (by decide +kernel), am_mt 1426 (by decide +kernel) (by decide +kernel)⟩
abbrev mX11_ahead : am_Me := (yX11_ahead, cX11_ahead, 3, (some .int))
theorem mb_X11_ahead : am_mB mX11_ahead 2 := ⟨am_mt 1431 (by decide +kernel) rfl, am_mt 13 (by decide +kernel) (by decide +kernel), ⟨by decide +kernel, by decide +kernel, by decide +kernel⟩, by decide⟩
theorem mv_X11_ahead : Cond.instanceMethod yX11_ahead ∈ am_tb ∧ Cond.selects mX11_ahead.1.cls yX11_ahead yX11_ahead ∈ am_tb := ⟨am_mt 1429 (by decide +kernel) (by decide +kernel), am_mt 1430 (by decide +kernel) (by decide +kernel)⟩
abbrev mX11_peak : am_Me := (yX11_peak, cX11_peak, 2, (some .int))
theorem mb_X11_peak : am_mB mX11_peak 1 := ⟨am_mt 1435 (by decide +kernel) rfl, am_mt 13 (by decide +kernel) (by decide +kernel), ⟨by decide +kernel, by decide +kernel, by decide +kernel⟩, by decide⟩
theorem mv_X11_peak : Cond.instanceMethod yX11_peak ∈ am_tb ∧ Cond.selects mX11_peak.1.cls yX11_peak yX11_peak ∈ am_tb := ⟨am_mt 1433 (by decide +kernel) (by decide +kernel), am_mt 1434 (by decide +kernel) (by decide +kernel)⟩
abbrev mX11_bound : am_Me := (yX11_bound, cX11_bound, 3, (some .int))
theorem mb_X11_bound : am_mB mX11_bound 2 := ⟨am_mt 1439 (by decide +kernel) rfl, am_mt 13 (by decide +kernel) (by decide +kernel), ⟨by decide +kernel, by decide +kernel, by decide +kernel⟩, by decide⟩
theorem mv_X11_bound : Cond.instanceMethod yX11_bound ∈ am_tb ∧ Cond.selects mX11_bound.1.cls yX11_bound yX11_bound ∈ am_tb := ⟨am_mt 1437 (by decide +kernel) (by decide +kernel), am_mt 1438 (by decide +kernel) (by decide +kernel)⟩
abbrev mX11_laysLeast : am_Me := (yX11_laysLeast, cX11_laysLeast, 6, none)
theorem mb_X11_laysLeast : am_mB mX11_laysLeast 1 := ⟨am_mt 1447 (by decide +kernel) rfl, am_mt 13 (by decide +kernel) (by decide +kernel), ⟨by decide +kernel, by decide +kernel, by decide +kernel⟩, by decide⟩
theorem mv_X11_laysLeast : Cond.instanceMethod yX11_laysLeast ∈ am_tb ∧ Cond.selects mX11_laysLeast.1.cls yX11_laysLeast yX11_laysLeast ∈ am_tb := ⟨am_mt 1446 (by decide +kernel) (by decide +kernel), am_ms 73 (by decide +kernel) (by decide +kernel)⟩
abbrev mX11_lets : am_Me := (yX11_lets, cX11_lets, 11, (some .boolean))
theorem mb_X11_lets : am_mB mX11_lets 4 := ⟨am_mt 1452 (by decide +kernel) rfl, am_mt 13 (by decide +kernel) (by decide +kernel), ⟨by decide +kernel, by decide +kernel, by decide +kernel⟩, by decide⟩
theorem mv_X11_lets : Cond.instanceMethod yX11_lets ∈ am_tb ∧ Cond.selects mX11_lets.1.cls yX11_lets yX11_lets ∈ am_tb := ⟨am_mt 1451 (by decide +kernel) (by decide +kernel), am_ms 74 (by decide +kernel) (by decide +kernel)⟩
abbrev mX11_states : am_Me := (yX11_states, cX11_states, 6, (some .int))
theorem mb_X11_states : am_mB mX11_states 1 := ⟨am_mt 1443 (by decide +kernel) rfl, am_mt 13 (by decide +kernel) (by decide +kernel), ⟨by decide +kernel, by decide +kernel, by decide +kernel⟩, by decide⟩
theorem mv_X11_states : Cond.instanceMethod yX11_states ∈ am_tb ∧ Cond.selects mX11_states.1.cls yX11_states yX11_states ∈ am_tb := ⟨am_mt 1441 (by decide +kernel) (by decide +kernel), am_mt 1442 (by decide +kernel) (by decide +kernel)⟩
abbrev mX11_many : am_Me := (yX11_many, cX11_many, 6, (some .long))
theorem mb_X11_many : am_mB mX11_many 2 := ⟨am_mt 1456 (by decide +kernel) rfl, am_mt 13 (by decide +kernel) (by decide +kernel), ⟨by decide +kernel, by decide +kernel, by decide +kernel⟩, by decide⟩
theorem mv_X11_many : Cond.instanceMethod yX11_many ∈ am_tb ∧ Cond.selects mX11_many.1.cls yX11_many yX11_many ∈ am_tb := ⟨am_mt 1454 (by decide +kernel) (by decide +kernel), am_mt 1455 (by decide +kernel) (by decide +kernel)⟩
abbrev mX11_rowsOf : am_Me := (yX11_rowsOf, cX11_rowsOf, 12, (some .long))
theorem mb_X11_rowsOf : am_mB mX11_rowsOf 4 := ⟨am_mt 1461 (by decide +kernel) rfl, am_mt 13 (by decide +kernel) (by decide +kernel), ⟨by decide +kernel, by decide +kernel, by decide +kernel⟩, by decide⟩
theorem mv_X11_rowsOf : Cond.instanceMethod yX11_rowsOf ∈ am_tb ∧ Cond.selects mX11_rowsOf.1.cls yX11_rowsOf yX11_rowsOf ∈ am_tb := ⟨am_mt 1460 (by decide +kernel) (by decide +kernel), am_ms 75 (by decide +kernel) (by decide +kernel)⟩
abbrev mX11_least : am_Me := (yX11_least, cX11_least, 5, (some .int))
theorem mb_X11_least : am_mB mX11_least 1 := ⟨am_mt 1465 (by decide +kernel) rfl, am_mt 13 (by decide +kernel) (by decide +kernel), ⟨by decide +kernel, by decide +kernel, by decide +kernel⟩, by decide⟩
theorem mv_X11_least : Cond.instanceMethod yX11_least ∈ am_tb ∧ Cond.selects mX11_least.1.cls yX11_least yX11_least ∈ am_tb := ⟨am_mt 1463 (by decide +kernel) (by decide +kernel), am_mt 1464 (by decide +kernel) (by decide +kernel)⟩
abbrev mX11_isUnlike : am_Me := (yX11_isUnlike, cX11_isUnlike, 8, (some .boolean))
theorem mb_X11_isUnlike : am_mB mX11_isUnlike 3 := ⟨am_mt 1486 (by decide +kernel) rfl, am_mt 13 (by decide +kernel) (by decide +kernel), ⟨by decide +kernel, by decide +kernel, by decide +kernel⟩, by decide⟩
theorem mv_X11_isUnlike : Cond.instanceMethod yX11_isUnlike ∈ am_tb ∧ Cond.selects mX11_isUnlike.1.cls yX11_isUnlike yX11_isUnlike ∈ am_tb := ⟨am_mt 1485 (by decide +kernel) (by decide +kernel), am_ms 79 (by decide +kernel) (by decide +kernel)⟩
abbrev mX11_isSpoilt : am_Me := (yX11_isSpoilt, cX11_isSpoilt, 4, (some .boolean))
theorem mb_X11_isSpoilt : am_mB mX11_isSpoilt 3 := ⟨am_mt 1482 (by decide +kernel) rfl, am_mt 13 (by decide +kernel) (by decide +kernel), ⟨by decide +kernel, by decide +kernel, by decide +kernel⟩, by decide⟩
theorem mv_X11_isSpoilt : Cond.instanceMethod yX11_isSpoilt ∈ am_tb ∧ Cond.selects mX11_isSpoilt.1.cls yX11_isSpoilt yX11_isSpoilt ∈ am_tb := ⟨am_mt 1481 (by decide +kernel) (by decide +kernel), am_ms 78 (by decide +kernel) (by decide +kernel)⟩
abbrev mX11_finds : am_Me := (yX11_finds, cX11_finds, 8, (some .boolean))
theorem mb_X11_finds : am_mB mX11_finds 6 := ⟨am_mt 1478 (by decide +kernel) rfl, am_mt 13 (by decide +kernel) (by decide +kernel), ⟨by decide +kernel, by decide +kernel, by decide +kernel⟩, by decide⟩
theorem mv_X11_finds : Cond.instanceMethod yX11_finds ∈ am_tb ∧ Cond.selects mX11_finds.1.cls yX11_finds yX11_finds ∈ am_tb := ⟨am_mt 1477 (by decide +kernel) (by decide +kernel), am_ms 77 (by decide +kernel) (by decide +kernel)⟩
abbrev mX11_found : am_Me := (yX11_found, cX11_found, 7, (some .int))
theorem mb_X11_found : am_mB mX11_found 4 := ⟨am_mt 1474 (by decide +kernel) rfl, am_mt 13 (by decide +kernel) (by decide +kernel), ⟨by decide +kernel, by decide +kernel, by decide +kernel⟩, by decide⟩
theorem mv_X11_found : Cond.instanceMethod yX11_found ∈ am_tb ∧ Cond.selects mX11_found.1.cls yX11_found yX11_found ∈ am_tb := ⟨am_mt 1473 (by decide +kernel) (by decide +kernel), am_ms 76 (by decide +kernel) (by decide +kernel)⟩
abbrev mX11_differ : am_Me := (yX11_differ, cX11_differ, 4, (some .int))
theorem mb_X11_differ : am_mB mX11_differ 3 := ⟨am_mt 1470 (by decide +kernel) rfl, am_mt 13 (by decide +kernel) (by decide +kernel), ⟨by decide +kernel, by decide +kernel, by decide +kernel⟩, by decide⟩
theorem mv_X11_differ : Cond.instanceMethod yX11_differ ∈ am_tb ∧ Cond.selects mX11_differ.1.cls yX11_differ yX11_differ ∈ am_tb := ⟨am_mt 1468 (by decide +kernel) (by decide +kernel), am_mt 1469 (by decide +kernel) (by decide +kernel)⟩
abbrev mX11_spoils : am_Me := (yX11_spoils, cX11_spoils, 4, (some .int))
theorem mb_X11_spoils : am_mB mX11_spoils 3 := ⟨am_mt 1490 (by decide +kernel) rfl, am_mt 13 (by decide +kernel) (by decide +kernel), ⟨by decide +kernel, by decide +kernel, by decide +kernel⟩, by decide⟩
theorem mv_X11_spoils : Cond.instanceMethod yX11_spoils ∈ am_tb ∧ Cond.selects mX11_spoils.1.cls yX11_spoils yX11_spoils ∈ am_tb := ⟨am_mt 1488 (by decide +kernel) (by decide +kernel), am_mt 1489 (by decide +kernel) (by decide +kernel)⟩
abbrev mX11_by : am_Me := (yX11_by, cX11_by, 2, (some .int))
theorem mb_X11_by : am_mB mX11_by 2 := ⟨am_mt 1512 (by decide +kernel) rfl, am_mt 13 (by decide +kernel) (by decide +kernel), ⟨by decide +kernel, by decide +kernel, by decide +kernel⟩, by decide⟩
theorem mv_X11_by : Cond.static yX11_by ∈ am_tb := am_mt 1511 (by decide +kernel) (by decide +kernel)
abbrev mX11_then : am_Me := (yX11_then, cX11_then, 2, (some .int))
theorem mb_X11_then : am_mB mX11_then 2 := ⟨am_mt 1509 (by decide +kernel) rfl, am_mt 13 (by decide +kernel) (by decide +kernel), ⟨by decide +kernel, by decide +kernel, by decide +kernel⟩, by decide⟩
theorem mv_X11_then : Cond.static yX11_then ∈ am_tb := am_mt 1508 (by decide +kernel) (by decide +kernel)
abbrev mX11_within : am_Me := (yX11_within, cX11_within, 7, (some .int))
theorem mb_X11_within : am_mB mX11_within 4 := ⟨am_mt 1516 (by decide +kernel) rfl, am_mt 13 (by decide +kernel) (by decide +kernel), ⟨by decide +kernel, by decide +kernel, by decide +kernel⟩, by decide⟩
theorem mv_X11_within : Cond.instanceMethod yX11_within ∈ am_tb ∧ Cond.selects mX11_within.1.cls yX11_within yX11_within ∈ am_tb := ⟨am_mt 1515 (by decide +kernel) (by decide +kernel), am_ms 83 (by decide +kernel) (by decide +kernel)⟩
abbrev mX11_does : am_Me := (yX11_does, cX11_does, 10, (some .int))
theorem mb_X11_does : am_mB mX11_does 4 := ⟨am_mt 1506 (by decide +kernel) rfl, am_mt 13 (by decide +kernel) (by decide +kernel), ⟨by decide +kernel, by decide +kernel, by decide +kernel⟩, by decide⟩
theorem mv_X11_does : Cond.instanceMethod yX11_does ∈ am_tb ∧ Cond.selects mX11_does.1.cls yX11_does yX11_does ∈ am_tb := ⟨am_mt 1505 (by decide +kernel) (by decide +kernel), am_ms 82 (by decide +kernel) (by decide +kernel)⟩
abbrev mX11_adds_ : am_Me := (yX11_adds_, cX11_adds_, 13, (some .boolean))
theorem mb_X11_adds_ : am_mB mX11_adds_ 6 := ⟨am_mt 1502 (by decide +kernel) rfl, am_mt 13 (by decide +kernel) (by decide +kernel), ⟨by decide +kernel, by decide +kernel, by decide +kernel⟩, by decide⟩
theorem mv_X11_adds_ : Cond.instanceMethod yX11_adds_ ∈ am_tb ∧ Cond.selects mX11_adds_.1.cls yX11_adds_ yX11_adds_ ∈ am_tb := ⟨am_mt 1501 (by decide +kernel) (by decide +kernel), am_ms 81 (by decide +kernel) (by decide +kernel)⟩
abbrev mX11_goesOn : am_Me := (yX11_goesOn, cX11_goesOn, 9, (some .boolean))
theorem mb_X11_goesOn : am_mB mX11_goesOn 4 := ⟨am_mt 1498 (by decide +kernel) rfl, am_mt 13 (by decide +kernel) (by decide +kernel), ⟨by decide +kernel, by decide +kernel, by decide +kernel⟩, by decide⟩
theorem mv_X11_goesOn : Cond.instanceMethod yX11_goesOn ∈ am_tb ∧ Cond.selects mX11_goesOn.1.cls yX11_goesOn yX11_goesOn ∈ am_tb := ⟨am_mt 1497 (by decide +kernel) (by decide +kernel), am_ms 80 (by decide +kernel) (by decide +kernel)⟩
abbrev mX11_isSpoiltHere : am_Me := (yX11_isSpoiltHere, cX11_isSpoiltHere, 6, (some .boolean))
theorem mb_X11_isSpoiltHere : am_mB mX11_isSpoiltHere 3 := ⟨am_mt 1520 (by decide +kernel) rfl, am_mt 13 (by decide +kernel) (by decide +kernel), ⟨by decide +kernel, by decide +kernel, by decide +kernel⟩, by decide⟩
theorem mv_X11_isSpoiltHere : Cond.instanceMethod yX11_isSpoiltHere ∈ am_tb ∧ Cond.selects mX11_isSpoiltHere.1.cls yX11_isSpoiltHere yX11_isSpoiltHere ∈ am_tb := ⟨am_mt 1519 (by decide +kernel) (by decide +kernel), am_ms 84 (by decide +kernel) (by decide +kernel)⟩
abbrev mX11_safe : am_Me := (yX11_safe, cX11_safe, 6, (some .int))
theorem mb_X11_safe : am_mB mX11_safe 2 := ⟨am_mt 1494 (by decide +kernel) rfl, am_mt 13 (by decide +kernel) (by decide +kernel), ⟨by decide +kernel, by decide +kernel, by decide +kernel⟩, by decide⟩
theorem mv_X11_safe : Cond.instanceMethod yX11_safe ∈ am_tb ∧ Cond.selects mX11_safe.1.cls yX11_safe yX11_safe ∈ am_tb := ⟨am_mt 1492 (by decide +kernel) (by decide +kernel), am_mt 1493 (by decide +kernel) (by decide +kernel)⟩
abbrev mJ9_max_7cf53 : am_Me := (yJ9_max_7cf53, cJ9_max_7cf53, 2, (some .int))
theorem mb_J9_max_7cf53 : am_mB mJ9_max_7cf53 2 := ⟨am_mt 84 (by decide +kernel) rfl, am_mt 5 (by decide +kernel) (by decide +kernel), ⟨by decide +kernel, by decide +kernel, by decide +kernel⟩, by decide⟩
theorem mv_J9_max_7cf53 : Cond.static yJ9_max_7cf53 ∈ am_tb := am_mt 83 (by decide +kernel) (by decide +kernel)
abbrev mJ9_min_f86c9 : am_Me := (yJ9_min_f86c9, cJ9_min_f86c9, 4, (some .long))
theorem mb_J9_min_f86c9 : am_mB mJ9_min_f86c9 2 := ⟨am_mt 842 (by decide +kernel) rfl, am_mt 5 (by decide +kernel) (by decide +kernel), ⟨by decide +kernel, by decide +kernel, by decide +kernel⟩, by decide⟩
theorem mv_J9_min_f86c9 : Cond.static yJ9_min_f86c9 ∈ am_tb := am_mt 841 (by decide +kernel) (by decide +kernel)
abbrev mJ0_length_8abf5 : am_Me := (yJ0_length_8abf5, cJ0_length_8abf5, 1, (some .int))
theorem mb_J0_length_8abf5 : am_mB mJ0_length_8abf5 0 := ⟨am_mt 427 (by decide +kernel) rfl, am_mt 15 (by decide +kernel) (by decide +kernel), ⟨by decide +kernel, by decide +kernel, by decide +kernel⟩, by decide⟩
theorem mv_J0_length_8abf5 : Cond.instanceMethod yJ0_length_8abf5 ∈ am_tb ∧ Cond.selects mJ0_length_8abf5.1.cls yJ0_length_8abf5 yJ0_length_8abf5 ∈ am_tb := ⟨am_mt 425 (by decide +kernel) (by decide +kernel), am_mt 426 (by decide +kernel) (by decide +kernel)⟩
abbrev mJ0_charAt_5068e : am_Me := (yJ0_charAt_5068e, cJ0_charAt_5068e, 2, (some .char))
theorem mb_J0_charAt_5068e : am_mB mJ0_charAt_5068e 1 := ⟨am_mt 437 (by decide +kernel) rfl, am_mt 15 (by decide +kernel) (by decide +kernel), ⟨by decide +kernel, by decide +kernel, by decide +kernel⟩, by decide⟩
theorem mv_J0_charAt_5068e : Cond.instanceMethod yJ0_charAt_5068e ∈ am_tb ∧ Cond.selects mJ0_charAt_5068e.1.cls yJ0_charAt_5068e yJ0_charAt_5068e ∈ am_tb := ⟨am_mt 435 (by decide +kernel) (by decide +kernel), am_mt 436 (by decide +kernel) (by decide +kernel)⟩
abbrev mJ0_coder_7d493 : am_Me := (yJ0_coder_7d493, cJ0_coder_7d493, 1, (some .byte))
theorem mb_J0_coder_7d493 : am_mB mJ0_coder_7d493 0 := ⟨am_mt 431 (by decide +kernel) rfl, am_mt 15 (by decide +kernel) (by decide +kernel), ⟨by decide +kernel, by decide +kernel, by decide +kernel⟩, by decide⟩
theorem mv_J0_coder_7d493 : Cond.instanceMethod yJ0_coder_7d493 ∈ am_tb ∧ Cond.selects mJ0_coder_7d493.1.cls yJ0_coder_7d493 yJ0_coder_7d493 ∈ am_tb := ⟨am_mt 429 (by decide +kernel) (by decide +kernel), am_mt 430 (by decide +kernel) (by decide +kernel)⟩
abbrev mJ0_isLatin1_aae02 : am_Me := (yJ0_isLatin1_aae02, cJ0_isLatin1_aae02, 1, (some .boolean))
theorem mb_J0_isLatin1_aae02 : am_mB mJ0_isLatin1_aae02 0 := ⟨am_mt 441 (by decide +kernel) rfl, am_mt 15 (by decide +kernel) (by decide +kernel), ⟨by decide +kernel, by decide +kernel, by decide +kernel⟩, by decide⟩
theorem mv_J0_isLatin1_aae02 : Cond.instanceMethod yJ0_isLatin1_aae02 ∈ am_tb ∧ Cond.selects mJ0_isLatin1_aae02.1.cls yJ0_isLatin1_aae02 yJ0_isLatin1_aae02 ∈ am_tb := ⟨am_mt 439 (by decide +kernel) (by decide +kernel), am_mt 440 (by decide +kernel) (by decide +kernel)⟩
abbrev mJ0_checkIndex_df160 : am_Me := (yJ0_checkIndex_df160, cJ0_checkIndex_df160, 2, none)
theorem mb_J0_checkIndex_df160 : am_mB mJ0_checkIndex_df160 2 := ⟨am_mt 447 (by decide +kernel) rfl, am_mt 15 (by decide +kernel) (by decide +kernel), ⟨by decide +kernel, by decide +kernel, by decide +kernel⟩, by decide⟩
theorem mv_J0_checkIndex_df160 : Cond.static yJ0_checkIndex_df160 ∈ am_tb := am_mt 446 (by decide +kernel) (by decide +kernel)
abbrev mJ1_charAt_3b067 : am_Me := (yJ1_charAt_3b067, cJ1_charAt_3b067, 2, (some .char))
theorem mb_J1_charAt_3b067 : am_mB mJ1_charAt_3b067 2 := ⟨am_mt 444 (by decide +kernel) rfl, am_mt 16 (by decide +kernel) (by decide +kernel), ⟨by decide +kernel, by decide +kernel, by decide +kernel⟩, by decide⟩
theorem mv_J1_charAt_3b067 : Cond.static yJ1_charAt_3b067 ∈ am_tb := am_mt 443 (by decide +kernel) (by decide +kernel)
abbrev mJ2_getChar_3b067 : am_Me := (yJ2_getChar_3b067, cJ2_getChar_3b067, 2, (some .char))
theorem mb_J2_getChar_3b067 : am_mB mJ2_getChar_3b067 2 := ⟨am_mt 465 (by decide +kernel) rfl, am_mt 18 (by decide +kernel) (by decide +kernel), ⟨by decide +kernel, by decide +kernel, by decide +kernel⟩, by decide⟩
theorem mv_J2_getChar_3b067 : Cond.static yJ2_getChar_3b067 ∈ am_tb := am_mt 464 (by decide +kernel) (by decide +kernel)
abbrev mJ2_length_9d52b : am_Me := (yJ2_length_9d52b, cJ2_length_9d52b, 1, (some .int))
theorem mb_J2_length_9d52b : am_mB mJ2_length_9d52b 1 := ⟨am_mt 461 (by decide +kernel) rfl, am_mt 18 (by decide +kernel) (by decide +kernel), ⟨by decide +kernel, by decide +kernel, by decide +kernel⟩, by decide⟩
theorem mv_J2_length_9d52b : Cond.static yJ2_length_9d52b ∈ am_tb := am_mt 460 (by decide +kernel) (by decide +kernel)
abbrev mJ2_charAt_3b067 : am_Me := (yJ2_charAt_3b067, cJ2_charAt_3b067, 2, (some .char))
theorem mb_J2_charAt_3b067 : am_mB mJ2_charAt_3b067 2 := ⟨am_mt 455 (by decide +kernel) rfl, am_mt 18 (by decide +kernel) (by decide +kernel), ⟨by decide +kernel, by decide +kernel, by decide +kernel⟩, by decide⟩
theorem mv_J2_charAt_3b067 : Cond.static yJ2_charAt_3b067 ∈ am_tb := am_mt 454 (by decide +kernel) (by decide +kernel)
abbrev mJ2_checkIndex_2214a : am_Me := (yJ2_checkIndex_2214a, cJ2_checkIndex_2214a, 2, none)
theorem mb_J2_checkIndex_2214a : am_mB mJ2_checkIndex_2214a 2 := ⟨am_mt 458 (by decide +kernel) rfl, am_mt 18 (by decide +kernel) (by decide +kernel), ⟨by decide +kernel, by decide +kernel, by decide +kernel⟩, by decide⟩
theorem mv_J2_checkIndex_2214a : Cond.static yJ2_checkIndex_2214a ∈ am_tb := am_mt 457 (by decide +kernel) (by decide +kernel)
abbrev mJ7_fill_53178 : am_Me := (yJ7_fill_53178, cJ7_fill_53178, 4, none)
theorem mb_J7_fill_53178 : am_mB mJ7_fill_53178 2 := ⟨am_mt 404 (by decide +kernel) rfl, am_mt 14 (by decide +kernel) (by decide +kernel), ⟨by decide +kernel, by decide +kernel, by decide +kernel⟩, by decide⟩
theorem mv_J7_fill_53178 : Cond.static yJ7_fill_53178 ∈ am_tb := am_mt 403 (by decide +kernel) (by decide +kernel)
abbrev mJ3_checkIndex_8e157 : am_Me := (yJ3_checkIndex_8e157, cJ3_checkIndex_8e157, 3, (some .int))
theorem mb_J3_checkIndex_8e157 : am_mB mJ3_checkIndex_8e157 3 := ⟨am_mt 452 (by decide +kernel) rfl, am_mt 17 (by decide +kernel) (by decide +kernel), ⟨by decide +kernel, by decide +kernel, by decide +kernel⟩, by decide⟩
theorem mv_J3_checkIndex_8e157 : Cond.static yJ3_checkIndex_8e157 ∈ am_tb := am_mt 451 (by decide +kernel) (by decide +kernel)
theorem ml_X10_11 : Cond.methodLinkNest RX10 11 yX7_init "TreeStream" ∈ am_nst := am_mn 29 (by decide +kernel) rfl
theorem ml_X10_18 : Cond.methodLink RX10 18 yX8_init ∈ am_tb := am_mt 60 (by decide +kernel) (by decide +kernel)
theorem ml_X10_36 : Cond.methodLink RX10 36 yX0_init ∈ am_tb := am_mt 78 (by decide +kernel) (by decide +kernel)
theorem ml_X10_51 : Cond.methodLink RX10 51 yX3_init ∈ am_tb := am_mt 94 (by decide +kernel) (by decide +kernel)
theorem ml_X10_64 : Cond.methodLinkNest RX10 64 yX9_init "TreeStream" ∈ am_nst := am_mn 140 (by decide +kernel) rfl
theorem ml_X10_71 : Cond.methodLinkNest RX10 71 yX5_init "TreeStream" ∈ am_nst := am_mn 157 (by decide +kernel) rfl
theorem ml_X10_78 : Cond.methodLink RX10 78 yX6_init ∈ am_tb := am_mt 167 (by decide +kernel) (by decide +kernel)
theorem ml_X10_87 : Cond.methodLinkNest RX10 87 yX4_init "TreeStream" ∈ am_nst := am_mn 195 (by decide +kernel) rfl
theorem ml_X10_92 : Cond.methodLinkNest RX10 92 yX2_init "TreeStream" ∈ am_nst := am_mn 254 (by decide +kernel) rfl
theorem ml_X10_93 : Cond.methodLink RX10 93 yX7_hasRoom ∈ am_tb := am_mt 371 (by decide +kernel) (by decide +kernel)
theorem ml_X10_97 : Cond.methodLink RX10 97 yX7_append ∈ am_tb := am_mt 375 (by decide +kernel) (by decide +kernel)
theorem ml_X10_104 : Cond.methodLink RX10 104 yX10_unused ∈ am_tb := am_mt 390 (by decide +kernel) (by decide +kernel)
theorem ml_X10_108 : Cond.methodLink RX10 108 yX8_readMachine ∈ am_tb := am_mt 394 (by decide +kernel) (by decide +kernel)
theorem ml_X10_115 : Cond.methodLink RX10 115 yX2_rules ∈ am_tb := am_mt 570 (by decide +kernel) (by decide +kernel)
theorem ml_X10_119 : Cond.methodLink RX10 119 yX8_readDocument ∈ am_tb := am_mt 576 (by decide +kernel) (by decide +kernel)
theorem ml_X10_123 : Cond.methodLink RX10 123 yX0_become ∈ am_tb := am_mt 588 (by decide +kernel) (by decide +kernel)
theorem ml_X10_126 : Cond.methodLink RX10 126 yX0_elements ∈ am_tb := am_mt 598 (by decide +kernel) (by decide +kernel)
theorem ml_X10_129 : Cond.methodLink RX10 129 yX10_told ∈ am_tb := am_mt 610 (by decide +kernel) (by decide +kernel)
theorem ml_X10_154 : Cond.methodLink RX10 154 yJ9_max_7cf53 ∈ am_tb := am_mt 614 (by decide +kernel) (by decide +kernel)
theorem ml_X10_160 : Cond.methodLink RX10 160 yX10_toldMachines ∈ am_tb := am_mt 619 (by decide +kernel) (by decide +kernel)
theorem ml_X10_163 : Cond.methodLink RX10 163 yX0_depth ∈ am_tb := am_mt 623 (by decide +kernel) (by decide +kernel)
theorem ml_X10_173 : Cond.methodLink RX10 173 yX3_now ∈ am_tb := am_mt 627 (by decide +kernel) (by decide +kernel)
theorem ml_X10_177 : Cond.methodLink RX10 177 yX0_signAt ∈ am_tb := am_mt 636 (by decide +kernel) (by decide +kernel)
theorem ml_X10_180 : Cond.methodLink RX10 180 yX3_start ∈ am_tb := am_mt 645 (by decide +kernel) (by decide +kernel)
theorem ml_X10_183 : Cond.methodLink RX10 183 yX3_opens ∈ am_tb := am_mt 654 (by decide +kernel) (by decide +kernel)
theorem ml_X10_186 : Cond.methodLink RX10 186 yX3_step ∈ am_tb := am_mt 659 (by decide +kernel) (by decide +kernel)
theorem ml_X10_190 : Cond.methodLink RX10 190 yX3_layingWith ∈ am_tb := am_mt 697 (by decide +kernel) (by decide +kernel)
theorem ml_X10_193 : Cond.methodLink RX10 193 yX3_sizeOf ∈ am_tb := am_mt 701 (by decide +kernel) (by decide +kernel)
theorem ml_X10_196 : Cond.methodLink RX10 196 yX3_signOf ∈ am_tb := am_mt 705 (by decide +kernel) (by decide +kernel)
theorem ml_X10_200 : Cond.methodLink RX10 200 yX3_canEnd ∈ am_tb := am_mt 714 (by decide +kernel) (by decide +kernel)
theorem ml_X10_203 : Cond.methodLink RX10 203 yX3_write ∈ am_tb := am_mt 719 (by decide +kernel) (by decide +kernel)
theorem ml_X10_206 : Cond.methodLink RX10 206 yX0_receive ∈ am_tb := am_mt 724 (by decide +kernel) (by decide +kernel)
theorem ml_X10_210 : Cond.methodLink RX10 210 yX3_refusal ∈ am_tb := am_mt 732 (by decide +kernel) (by decide +kernel)
theorem ml_X10_214 : Cond.methodLink RX10 214 yX3_readBehind ∈ am_tb := am_mt 747 (by decide +kernel) (by decide +kernel)
theorem ml_X10_218 : Cond.methodLink RX10 218 yX5_canReadBehind ∈ am_tb := am_mt 759 (by decide +kernel) (by decide +kernel)
theorem ml_X10_221 : Cond.methodLink RX10 221 yX9_reached ∈ am_tb := am_mt 781 (by decide +kernel) (by decide +kernel)
theorem ml_X10_227 : Cond.methodLink RX10 227 yX9_readable ∈ am_tb := am_mt 819 (by decide +kernel) (by decide +kernel)
theorem ml_X10_231 : Cond.methodLink RX10 231 yX9_smallest ∈ am_tb := am_mt 836 (by decide +kernel) (by decide +kernel)
theorem ml_X10_234 : Cond.methodLink RX10 234 yX6_fewest ∈ am_tb := am_mt 847 (by decide +kernel) (by decide +kernel)
theorem ml_X10_238 : Cond.methodLink RX10 238 yX10_found ∈ am_tb := am_mt 900 (by decide +kernel) (by decide +kernel)
theorem ml_X10_241 : Cond.methodLink RX10 241 yX4_neverSpoils ∈ am_tb := am_mt 912 (by decide +kernel) (by decide +kernel)
theorem ml_X0_9 : Cond.methodLink RX0 9 yJ9_max_7cf53 ∈ am_tb := am_mt 82 (by decide +kernel) (by decide +kernel)
theorem ml_X0_25 : Cond.methodLinkNest RX0 25 yX10_at "TreeStream" ∈ am_nst := am_mn 596 (by decide +kernel) rfl
theorem ml_X0_29 : Cond.methodLink RX0 29 yX0_signAt ∈ am_tb := am_mt 592 (by decide +kernel) (by decide +kernel)
theorem ml_X0_33 : Cond.methodLink RX0 33 yX0_add ∈ am_tb := am_mt 597 (by decide +kernel) (by decide +kernel)
theorem ml_X1_18 : Cond.methodLink RX1 18 yX1_to ∈ am_tb := am_mt 205 (by decide +kernel) (by decide +kernel)
theorem ml_X1_22 : Cond.methodLink RX1 22 yX1_passing ∈ am_tb := am_mt 924 (by decide +kernel) (by decide +kernel)
theorem ml_X1_26 : Cond.methodLinkNest RX1 26 yX10_put "TreeStream" ∈ am_nst := am_mn 930 (by decide +kernel) rfl
theorem ml_X1_30 : Cond.methodLink RX1 30 yX2_opensTo ∈ am_tb := am_mt 927 (by decide +kernel) (by decide +kernel)
theorem ml_X1_35 : Cond.methodLink RX1 35 yX2_lays ∈ am_tb := am_mt 928 (by decide +kernel) (by decide +kernel)
theorem ml_X1_38 : Cond.methodLink RX1 38 yX2_closesTo ∈ am_tb := am_mt 929 (by decide +kernel) (by decide +kernel)
theorem ml_X1_41 : Cond.methodLinkNest RX1 41 yX10_at "TreeStream" ∈ am_nst := am_mn 957 (by decide +kernel) rfl
theorem ml_X2_55 : Cond.methodLink RX2 55 yJ7_fill_53178 ∈ am_tb := am_mt 402 (by decide +kernel) (by decide +kernel)
theorem ml_X2_61 : Cond.methodLinkNest RX2 61 yX10_at "TreeStream" ∈ am_nst := am_mn 565 (by decide +kernel) rfl
theorem ml_X2_65 : Cond.methodLinkNest RX2 65 yX10_put "TreeStream" ∈ am_nst := am_mn 509 (by decide +kernel) rfl
theorem ml_X2_69 : Cond.methodLinkNest RX2 69 yX10_laying "TreeStream" ∈ am_nst := am_mn 510 (by decide +kernel) rfl
theorem ml_X3_11 : Cond.methodLink RX3 11 yJ9_max_7cf53 ∈ am_tb := am_mt 98 (by decide +kernel) (by decide +kernel)
theorem ml_X3_35 : Cond.methodLinkNest RX3 35 yX10_put "TreeStream" ∈ am_nst := am_mn 649 (by decide +kernel) rfl
theorem ml_X3_39 : Cond.methodLinkNest RX3 39 yX10_at "TreeStream" ∈ am_nst := am_mn 631 (by decide +kernel) rfl
theorem ml_X3_43 : Cond.methodLink RX3 43 yX3_now ∈ am_tb := am_mt 658 (by decide +kernel) (by decide +kernel)
theorem ml_X3_47 : Cond.methodLink RX3 47 yX3_stepOut ∈ am_tb := am_mt 663 (by decide +kernel) (by decide +kernel)
theorem ml_X3_51 : Cond.methodLink RX3 51 yX3_stepIn ∈ am_tb := am_mt 680 (by decide +kernel) (by decide +kernel)
theorem ml_X3_55 : Cond.methodLink RX3 55 yX2_opensTo ∈ am_tb := am_mt 684 (by decide +kernel) (by decide +kernel)
theorem ml_X3_60 : Cond.methodLink RX3 60 yX2_lays ∈ am_tb := am_mt 685 (by decide +kernel) (by decide +kernel)
theorem ml_X3_63 : Cond.methodLink RX3 63 yX2_closesTo ∈ am_tb := am_mt 667 (by decide +kernel) (by decide +kernel)
theorem ml_X3_66 : Cond.methodLink RX3 66 yX2_closeTells ∈ am_tb := am_mt 668 (by decide +kernel) (by decide +kernel)
theorem ml_X3_75 : Cond.methodLink RX3 75 yX3_putTogether ∈ am_tb := am_mt 672 (by decide +kernel) (by decide +kernel)
theorem ml_X3_88 : Cond.methodLink RX3 88 yX2_endTells ∈ am_tb := am_mt 718 (by decide +kernel) (by decide +kernel)
theorem ml_X3_91 : Cond.methodLink RX3 91 yX3_canEnd ∈ am_tb := am_mt 723 (by decide +kernel) (by decide +kernel)
theorem ml_X3_94 : Cond.methodLink RX3 94 yX3_start ∈ am_tb := am_mt 736 (by decide +kernel) (by decide +kernel)
theorem ml_X3_98 : Cond.methodLink RX3 98 yX0_size ∈ am_tb := am_mt 737 (by decide +kernel) (by decide +kernel)
theorem ml_X3_103 : Cond.methodLink RX3 103 yX0_signAt ∈ am_tb := am_mt 741 (by decide +kernel) (by decide +kernel)
theorem ml_X3_106 : Cond.methodLink RX3 106 yX3_step ∈ am_tb := am_mt 742 (by decide +kernel) (by decide +kernel)
theorem ml_X3_109 : Cond.methodLink RX3 109 yX3_sizeOf ∈ am_tb := am_mt 709 (by decide +kernel) (by decide +kernel)
theorem ml_X3_116 : Cond.methodLink RX3 116 yX3_join ∈ am_tb := am_mt 676 (by decide +kernel) (by decide +kernel)
theorem ml_X4_13 : Cond.methodLink RX4 13 yX1_init ∈ am_tb := am_mt 201 (by decide +kernel) (by decide +kernel)
theorem ml_X4_44 : Cond.methodLink RX4 44 yX4_start ∈ am_tb := am_mt 916 (by decide +kernel) (by decide +kernel)
theorem ml_X4_48 : Cond.methodLink RX4 48 yX4_note ∈ am_tb := am_mt 932 (by decide +kernel) (by decide +kernel)
theorem ml_X4_56 : Cond.methodLinkNest RX4 56 yX10_at "TreeStream" ∈ am_nst := am_mn 937 (by decide +kernel) rfl
theorem ml_X4_60 : Cond.methodLink RX4 60 yX4_spoilsAtEnd ∈ am_tb := am_mt 938 (by decide +kernel) (by decide +kernel)
theorem ml_X4_64 : Cond.methodLink RX4 64 yX4_beginOf ∈ am_tb := am_mt 946 (by decide +kernel) (by decide +kernel)
theorem ml_X4_68 : Cond.methodLinkNest RX4 68 yX10_put "TreeStream" ∈ am_nst := am_mn 936 (by decide +kernel) rfl
theorem ml_X4_72 : Cond.methodLink RX4 72 yX4_asOuter ∈ am_tb := am_mt 963 (by decide +kernel) (by decide +kernel)
theorem ml_X4_76 : Cond.methodLink RX4 76 yX4_asInner ∈ am_tb := am_mt 975 (by decide +kernel) (by decide +kernel)
theorem ml_X4_79 : Cond.methodLink RX4 79 yX4_stateOf ∈ am_tb := am_mt 942 (by decide +kernel) (by decide +kernel)
theorem ml_X4_89 : Cond.methodLink RX4 89 yX1_learn ∈ am_tb := am_mt 920 (by decide +kernel) (by decide +kernel)
theorem ml_X4_93 : Cond.methodLink RX4 93 yJ7_fill_53178 ∈ am_tb := am_mt 931 (by decide +kernel) (by decide +kernel)
theorem ml_X4_99 : Cond.methodLink RX4 99 yX2_opensTo ∈ am_tb := am_mt 967 (by decide +kernel) (by decide +kernel)
theorem ml_X4_105 : Cond.methodLink RX4 105 yX2_lays ∈ am_tb := am_mt 968 (by decide +kernel) (by decide +kernel)
theorem ml_X4_108 : Cond.methodLink RX4 108 yX4_nest ∈ am_tb := am_mt 969 (by decide +kernel) (by decide +kernel)
theorem ml_X4_114 : Cond.methodLink RX4 114 yX2_closesTo ∈ am_tb := am_mt 973 (by decide +kernel) (by decide +kernel)
theorem ml_X4_117 : Cond.methodLink RX4 117 yX2_closeTells ∈ am_tb := am_mt 974 (by decide +kernel) (by decide +kernel)
theorem ml_X4_123 : Cond.methodLink RX4 123 yX4_kindOf ∈ am_tb := am_mt 949 (by decide +kernel) (by decide +kernel)
theorem ml_X4_127 : Cond.methodLink RX4 127 yX2_endTells ∈ am_tb := am_mt 945 (by decide +kernel) (by decide +kernel)
theorem ml_X4_130 : Cond.methodLink RX4 130 yX1_to ∈ am_tb := am_mt 962 (by decide +kernel) (by decide +kernel)
theorem ml_X4_139 : Cond.methodLink RX4 139 yX1_wrap ∈ am_tb := am_mt 953 (by decide +kernel) (by decide +kernel)
theorem ml_X4_142 : Cond.methodLink RX4 142 yX1_join ∈ am_tb := am_mt 958 (by decide +kernel) (by decide +kernel)
theorem ml_X5_27 : Cond.methodLinkNest RX5 27 yX10_at "TreeStream" ∈ am_nst := am_mn 763 (by decide +kernel) rfl
theorem ml_X5_34 : Cond.methodLink RX5 34 yX2_closesTo ∈ am_tb := am_mt 764 (by decide +kernel) (by decide +kernel)
theorem ml_X5_40 : Cond.methodLink RX5 40 yX2_lays ∈ am_tb := am_mt 765 (by decide +kernel) (by decide +kernel)
theorem ml_X5_43 : Cond.methodLinkNest RX5 43 yX10_put "TreeStream" ∈ am_nst := am_mn 766 (by decide +kernel) rfl
theorem ml_X5_47 : Cond.methodLink RX5 47 yX2_opensTo ∈ am_tb := am_mt 767 (by decide +kernel) (by decide +kernel)
theorem ml_X5_50 : Cond.methodLink RX5 50 yX2_endTells ∈ am_tb := am_mt 768 (by decide +kernel) (by decide +kernel)
theorem ml_X6_26 : Cond.methodLink RX6 26 yX6_prepare ∈ am_tb := am_mt 851 (by decide +kernel) (by decide +kernel)
theorem ml_X6_31 : Cond.methodLink RX6 31 yX0_size ∈ am_tb := am_mt 858 (by decide +kernel) (by decide +kernel)
theorem ml_X6_41 : Cond.methodLink RX6 41 yX6_spoilt ∈ am_tb := am_mt 859 (by decide +kernel) (by decide +kernel)
theorem ml_X6_45 : Cond.methodLink RX6 45 yX6_different ∈ am_tb := am_mt 870 (by decide +kernel) (by decide +kernel)
theorem ml_X6_48 : Cond.methodLink RX6 48 yX6_hopeless ∈ am_tb := am_mt 878 (by decide +kernel) (by decide +kernel)
theorem ml_X6_51 : Cond.methodLink RX6 51 yX6_goBack ∈ am_tb := am_mt 882 (by decide +kernel) (by decide +kernel)
theorem ml_X6_58 : Cond.methodLink RX6 58 yX6_go ∈ am_tb := am_mt 894 (by decide +kernel) (by decide +kernel)
theorem ml_X6_66 : Cond.methodLink RX6 66 yX0_clear ∈ am_tb := am_mt 855 (by decide +kernel) (by decide +kernel)
theorem ml_X6_69 : Cond.methodLink RX6 69 yX3_start ∈ am_tb := am_mt 856 (by decide +kernel) (by decide +kernel)
theorem ml_X6_78 : Cond.methodLink RX6 78 yX6_reads ∈ am_tb := am_mt 863 (by decide +kernel) (by decide +kernel)
theorem ml_X6_82 : Cond.methodLink RX6 82 yX3_step ∈ am_tb := am_mt 898 (by decide +kernel) (by decide +kernel)
theorem ml_X6_86 : Cond.methodLink RX6 86 yX0_add ∈ am_tb := am_mt 899 (by decide +kernel) (by decide +kernel)
theorem ml_X6_89 : Cond.methodLink RX6 89 yX0_drop ∈ am_tb := am_mt 886 (by decide +kernel) (by decide +kernel)
theorem ml_X6_92 : Cond.methodLink RX6 92 yX3_stepBack ∈ am_tb := am_mt 890 (by decide +kernel) (by decide +kernel)
theorem ml_X6_95 : Cond.methodLink RX6 95 yX3_canEnd ∈ am_tb := am_mt 867 (by decide +kernel) (by decide +kernel)
theorem ml_X6_98 : Cond.methodLink RX6 98 yX3_write ∈ am_tb := am_mt 868 (by decide +kernel) (by decide +kernel)
theorem ml_X6_101 : Cond.methodLink RX6 101 yX5_canReadBehind ∈ am_tb := am_mt 869 (by decide +kernel) (by decide +kernel)
theorem ml_X6_107 : Cond.methodLink RX6 107 yX3_wroteAlike ∈ am_tb := am_mt 874 (by decide +kernel) (by decide +kernel)
theorem ml_X7_19 : Cond.methodLinkNest RX7 19 yX10_put "TreeStream" ∈ am_nst := am_mn 379 (by decide +kernel) rfl
theorem ml_X7_32 : Cond.methodLinkNest RX7 32 yX10_at "TreeStream" ∈ am_nst := am_mn 413 (by decide +kernel) rfl
theorem ml_X7_36 : Cond.methodLink RX7 36 yX7_kindOf ∈ am_tb := am_mt 416 (by decide +kernel) (by decide +kernel)
theorem ml_X7_43 : Cond.methodLink RX7 43 yJ0_length_8abf5 ∈ am_tb := am_mt 424 (by decide +kernel) (by decide +kernel)
theorem ml_X7_48 : Cond.methodLink RX7 48 yJ0_charAt_5068e ∈ am_tb := am_mt 434 (by decide +kernel) (by decide +kernel)
theorem ml_X7_52 : Cond.methodLink RX7 52 yX7_advance ∈ am_tb := am_mt 480 (by decide +kernel) (by decide +kernel)
theorem ml_X7_55 : Cond.methodLink RX7 55 yX7_fail ∈ am_tb := am_mt 481 (by decide +kernel) (by decide +kernel)
theorem ml_X8_15 : Cond.methodLink RX8 15 yX0_clear ∈ am_tb := am_mt 580 (by decide +kernel) (by decide +kernel)
theorem ml_X8_20 : Cond.methodLink RX8 20 yX7_rewind ∈ am_tb := am_mt 405 (by decide +kernel) (by decide +kernel)
theorem ml_X8_25 : Cond.methodLink RX8 25 yX7_advance ∈ am_tb := am_mt 409 (by decide +kernel) (by decide +kernel)
theorem ml_X8_35 : Cond.methodLink RX8 35 yX7_fail ∈ am_tb := am_mt 472 (by decide +kernel) (by decide +kernel)
theorem ml_X8_39 : Cond.methodLink RX8 39 yX7_letter ∈ am_tb := am_mt 497 (by decide +kernel) (by decide +kernel)
theorem ml_X8_43 : Cond.methodLink RX8 43 yX0_add ∈ am_tb := am_mt 584 (by decide +kernel) (by decide +kernel)
theorem ml_X8_49 : Cond.methodLink RX8 49 yX2_clear ∈ am_tb := am_mt 398 (by decide +kernel) (by decide +kernel)
theorem ml_X8_54 : Cond.methodLink RX8 54 yX7_isWord ∈ am_tb := am_mt 420 (by decide +kernel) (by decide +kernel)
theorem ml_X8_58 : Cond.methodLink RX8 58 yX7_digit ∈ am_tb := am_mt 476 (by decide +kernel) (by decide +kernel)
theorem ml_X8_68 : Cond.methodLink RX8 68 yX8_startRule ∈ am_tb := am_mt 482 (by decide +kernel) (by decide +kernel)
theorem ml_X8_74 : Cond.methodLink RX8 74 yX8_readOpen ∈ am_tb := am_mt 493 (by decide +kernel) (by decide +kernel)
theorem ml_X8_79 : Cond.methodLink RX8 79 yX8_readClose ∈ am_tb := am_mt 513 (by decide +kernel) (by decide +kernel)
theorem ml_X8_82 : Cond.methodLink RX8 82 yX8_readEnd ∈ am_tb := am_mt 557 (by decide +kernel) (by decide +kernel)
theorem ml_X8_87 : Cond.methodLink RX8 87 yX2_rules ∈ am_tb := am_mt 489 (by decide +kernel) (by decide +kernel)
theorem ml_X8_96 : Cond.methodLink RX8 96 yX2_opensTo ∈ am_tb := am_mt 501 (by decide +kernel) (by decide +kernel)
theorem ml_X8_99 : Cond.methodLink RX8 99 yX2_addOpen ∈ am_tb := am_mt 505 (by decide +kernel) (by decide +kernel)
theorem ml_X8_103 : Cond.methodLinkNest RX8 103 yX10_laying "TreeStream" ∈ am_nst := am_mn 517 (by decide +kernel) rfl
theorem ml_X8_106 : Cond.methodLink RX8 106 yX2_closesTo ∈ am_tb := am_mt 518 (by decide +kernel) (by decide +kernel)
theorem ml_X8_109 : Cond.methodLink RX8 109 yX7_sign ∈ am_tb := am_mt 522 (by decide +kernel) (by decide +kernel)
theorem ml_X8_112 : Cond.methodLink RX8 112 yX2_addClose ∈ am_tb := am_mt 526 (by decide +kernel) (by decide +kernel)
theorem ml_X8_116 : Cond.methodLink RX8 116 yX8_readExpression ∈ am_tb := am_mt 530 (by decide +kernel) (by decide +kernel)
theorem ml_X8_123 : Cond.methodLink RX8 123 yJ9_max_7cf53 ∈ am_tb := am_mt 556 (by decide +kernel) (by decide +kernel)
theorem ml_X8_128 : Cond.methodLink RX8 128 yX2_endTells ∈ am_tb := am_mt 561 (by decide +kernel) (by decide +kernel)
theorem ml_X8_132 : Cond.methodLink RX8 132 yX2_addEnd ∈ am_tb := am_mt 566 (by decide +kernel) (by decide +kernel)
theorem ml_X8_138 : Cond.methodLink RX8 138 yX2_startExpression ∈ am_tb := am_mt 534 (by decide +kernel) (by decide +kernel)
theorem ml_X8_141 : Cond.methodLink RX8 141 yX8_readElement ∈ am_tb := am_mt 538 (by decide +kernel) (by decide +kernel)
theorem ml_X8_144 : Cond.methodLink RX8 144 yX2_addSign ∈ am_tb := am_mt 542 (by decide +kernel) (by decide +kernel)
theorem ml_X8_149 : Cond.methodLink RX8 149 yX8_readRegister ∈ am_tb := am_mt 547 (by decide +kernel) (by decide +kernel)
theorem ml_X8_155 : Cond.methodLink RX8 155 yX2_stopExpression ∈ am_tb := am_mt 552 (by decide +kernel) (by decide +kernel)
theorem ml_X9_21 : Cond.methodLink RX9 21 yX9_measure ∈ am_tb := am_mt 785 (by decide +kernel) (by decide +kernel)
theorem ml_X9_25 : Cond.methodLink RX9 25 yX9_reachedFrom ∈ am_tb := am_mt 810 (by decide +kernel) (by decide +kernel)
theorem ml_X9_35 : Cond.methodLink RX9 35 yX9_pair ∈ am_tb := am_mt 789 (by decide +kernel) (by decide +kernel)
theorem ml_X9_39 : Cond.methodLink RX9 39 yX9_at ∈ am_tb := am_mt 803 (by decide +kernel) (by decide +kernel)
theorem ml_X9_45 : Cond.methodLink RX9 45 yX2_opensTo ∈ am_tb := am_mt 800 (by decide +kernel) (by decide +kernel)
theorem ml_X9_48 : Cond.methodLink RX9 48 yX2_endTells ∈ am_tb := am_mt 831 (by decide +kernel) (by decide +kernel)
theorem ml_X9_52 : Cond.methodLink RX9 52 yJ9_min_f86c9 ∈ am_tb := am_mt 840 (by decide +kernel) (by decide +kernel)
theorem ml_X9_58 : Cond.methodLink RX9 58 yX9_put ∈ am_tb := am_mt 793 (by decide +kernel) (by decide +kernel)
theorem ml_X9_62 : Cond.methodLink RX9 62 yX9_shorten ∈ am_tb := am_mt 796 (by decide +kernel) (by decide +kernel)
theorem ml_X9_66 : Cond.methodLink RX9 66 yX2_lays ∈ am_tb := am_mt 801 (by decide +kernel) (by decide +kernel)
theorem ml_X9_69 : Cond.methodLink RX9 69 yX2_closesTo ∈ am_tb := am_mt 802 (by decide +kernel) (by decide +kernel)
theorem ml_X9_72 : Cond.methodLink RX9 72 yX9_shortenBy ∈ am_tb := am_mt 806 (by decide +kernel) (by decide +kernel)
theorem ml_X9_76 : Cond.methodLink RX9 76 yX9_countSingles ∈ am_tb := am_mt 823 (by decide +kernel) (by decide +kernel)
theorem ml_X9_80 : Cond.methodLink RX9 80 yX9_countRows ∈ am_tb := am_mt 827 (by decide +kernel) (by decide +kernel)
theorem ml_L_9 : Cond.methodLink "TreeStreamLaw" 9 yX10_init ∈ am_tb := am_mt 21 (by decide +kernel) (by decide +kernel)
theorem ml_L_12 : Cond.methodLink "TreeStreamLaw" 12 yX11_init ∈ am_tb := am_mt 981 (by decide +kernel) (by decide +kernel)
theorem ml_L_13 : Cond.methodLink "TreeStreamLaw" 13 yX10_feed ∈ am_tb := am_mt 367 (by decide +kernel) (by decide +kernel)
theorem ml_L_17 : Cond.methodLink "TreeStreamLaw" 17 yX11_feed ∈ am_tb := am_mt 1175 (by decide +kernel) (by decide +kernel)
theorem ml_L_18 : Cond.methodLink "TreeStreamLaw" 18 yX10_end ∈ am_tb := am_mt 382 (by decide +kernel) (by decide +kernel)
theorem ml_L_22 : Cond.methodLink "TreeStreamLaw" 22 yX11_end ∈ am_tb := am_mt 1183 (by decide +kernel) (by decide +kernel)
theorem ml_L_23 : Cond.methodLink "TreeStreamLaw" 23 yX10_machine ∈ am_tb := am_mt 386 (by decide +kernel) (by decide +kernel)
theorem ml_L_27 : Cond.methodLink "TreeStreamLaw" 27 yX11_machine ∈ am_tb := am_mt 1190 (by decide +kernel) (by decide +kernel)
theorem ml_L_28 : Cond.methodLink "TreeStreamLaw" 28 yX10_document ∈ am_tb := am_mt 572 (by decide +kernel) (by decide +kernel)
theorem ml_L_32 : Cond.methodLink "TreeStreamLaw" 32 yX11_document ∈ am_tb := am_mt 1301 (by decide +kernel) (by decide +kernel)
theorem ml_L_33 : Cond.methodLink "TreeStreamLaw" 33 yX10_fault ∈ am_tb := am_mt 602 (by decide +kernel) (by decide +kernel)
theorem ml_L_36 : Cond.methodLink "TreeStreamLaw" 36 yX11_fault ∈ am_tb := am_mt 1309 (by decide +kernel) (by decide +kernel)
theorem ml_L_37 : Cond.methodLink "TreeStreamLaw" 37 yX10_of ∈ am_tb := am_mt 606 (by decide +kernel) (by decide +kernel)
theorem ml_L_41 : Cond.methodLink "TreeStreamLaw" 41 yX11_of ∈ am_tb := am_mt 1313 (by decide +kernel) (by decide +kernel)
theorem ml_L_42 : Cond.methodLink "TreeStreamLaw" 42 yX10_count ∈ am_tb := am_mt 615 (by decide +kernel) (by decide +kernel)
theorem ml_L_45 : Cond.methodLink "TreeStreamLaw" 45 yX11_count ∈ am_tb := am_mt 1329 (by decide +kernel) (by decide +kernel)
theorem ml_L_46 : Cond.methodLink "TreeStreamLaw" 46 yX10_event ∈ am_tb := am_mt 632 (by decide +kernel) (by decide +kernel)
theorem ml_L_50 : Cond.methodLink "TreeStreamLaw" 50 yX11_event ∈ am_tb := am_mt 1344 (by decide +kernel) (by decide +kernel)
theorem ml_L_51 : Cond.methodLink "TreeStreamLaw" 51 yX10_take ∈ am_tb := am_mt 637 (by decide +kernel) (by decide +kernel)
theorem ml_L_54 : Cond.methodLink "TreeStreamLaw" 54 yX11_take ∈ am_tb := am_mt 1348 (by decide +kernel) (by decide +kernel)
theorem ml_L_55 : Cond.methodLink "TreeStreamLaw" 55 yX10_begin ∈ am_tb := am_mt 641 (by decide +kernel) (by decide +kernel)
theorem ml_L_58 : Cond.methodLink "TreeStreamLaw" 58 yX11_begin ∈ am_tb := am_mt 1352 (by decide +kernel) (by decide +kernel)
theorem ml_L_59 : Cond.methodLink "TreeStreamLaw" 59 yX10_next ∈ am_tb := am_mt 650 (by decide +kernel) (by decide +kernel)
theorem ml_L_62 : Cond.methodLink "TreeStreamLaw" 62 yX11_next ∈ am_tb := am_mt 1364 (by decide +kernel) (by decide +kernel)
theorem ml_L_63 : Cond.methodLink "TreeStreamLaw" 63 yX10_state ∈ am_tb := am_mt 689 (by decide +kernel) (by decide +kernel)
theorem ml_L_66 : Cond.methodLink "TreeStreamLaw" 66 yX11_state ∈ am_tb := am_mt 1388 (by decide +kernel) (by decide +kernel)
theorem ml_L_67 : Cond.methodLink "TreeStreamLaw" 67 yX10_held ∈ am_tb := am_mt 693 (by decide +kernel) (by decide +kernel)
theorem ml_L_71 : Cond.methodLink "TreeStreamLaw" 71 yX11_held ∈ am_tb := am_mt 1392 (by decide +kernel) (by decide +kernel)
theorem ml_L_72 : Cond.methodLink "TreeStreamLaw" 72 yX10_finish ∈ am_tb := am_mt 710 (by decide +kernel) (by decide +kernel)
theorem ml_L_75 : Cond.methodLink "TreeStreamLaw" 75 yX11_finish ∈ am_tb := am_mt 1396 (by decide +kernel) (by decide +kernel)
theorem ml_L_76 : Cond.methodLink "TreeStreamLaw" 76 yX10_run ∈ am_tb := am_mt 728 (by decide +kernel) (by decide +kernel)
theorem ml_L_79 : Cond.methodLink "TreeStreamLaw" 79 yX11_run ∈ am_tb := am_mt 1408 (by decide +kernel) (by decide +kernel)
theorem ml_L_80 : Cond.methodLink "TreeStreamLaw" 80 yX10_through ∈ am_tb := am_mt 743 (by decide +kernel) (by decide +kernel)
theorem ml_L_83 : Cond.methodLink "TreeStreamLaw" 83 yX11_through ∈ am_tb := am_mt 1416 (by decide +kernel) (by decide +kernel)
theorem ml_L_84 : Cond.methodLink "TreeStreamLaw" 84 yX10_refused ∈ am_tb := am_mt 751 (by decide +kernel) (by decide +kernel)
theorem ml_L_87 : Cond.methodLink "TreeStreamLaw" 87 yX11_refused ∈ am_tb := am_mt 1424 (by decide +kernel) (by decide +kernel)
theorem ml_L_88 : Cond.methodLink "TreeStreamLaw" 88 yX10_ahead ∈ am_tb := am_mt 755 (by decide +kernel) (by decide +kernel)
theorem ml_L_91 : Cond.methodLink "TreeStreamLaw" 91 yX11_ahead ∈ am_tb := am_mt 1428 (by decide +kernel) (by decide +kernel)
theorem ml_L_92 : Cond.methodLink "TreeStreamLaw" 92 yX10_peak ∈ am_tb := am_mt 769 (by decide +kernel) (by decide +kernel)
theorem ml_L_95 : Cond.methodLink "TreeStreamLaw" 95 yX11_peak ∈ am_tb := am_mt 1432 (by decide +kernel) (by decide +kernel)
theorem ml_L_96 : Cond.methodLink "TreeStreamLaw" 96 yX10_bound ∈ am_tb := am_mt 773 (by decide +kernel) (by decide +kernel)
theorem ml_L_99 : Cond.methodLink "TreeStreamLaw" 99 yX11_bound ∈ am_tb := am_mt 1436 (by decide +kernel) (by decide +kernel)
theorem ml_L_100 : Cond.methodLink "TreeStreamLaw" 100 yX10_states ∈ am_tb := am_mt 777 (by decide +kernel) (by decide +kernel)
theorem ml_L_103 : Cond.methodLink "TreeStreamLaw" 103 yX11_states ∈ am_tb := am_mt 1440 (by decide +kernel) (by decide +kernel)
theorem ml_L_104 : Cond.methodLink "TreeStreamLaw" 104 yX10_many ∈ am_tb := am_mt 814 (by decide +kernel) (by decide +kernel)
theorem ml_L_108 : Cond.methodLink "TreeStreamLaw" 108 yX11_many ∈ am_tb := am_mt 1453 (by decide +kernel) (by decide +kernel)
theorem ml_L_109 : Cond.methodLink "TreeStreamLaw" 109 yX10_least ∈ am_tb := am_mt 832 (by decide +kernel) (by decide +kernel)
theorem ml_L_112 : Cond.methodLink "TreeStreamLaw" 112 yX11_least ∈ am_tb := am_mt 1462 (by decide +kernel) (by decide +kernel)
theorem ml_L_113 : Cond.methodLink "TreeStreamLaw" 113 yX10_differ ∈ am_tb := am_mt 843 (by decide +kernel) (by decide +kernel)
theorem ml_L_116 : Cond.methodLink "TreeStreamLaw" 116 yX11_differ ∈ am_tb := am_mt 1467 (by decide +kernel) (by decide +kernel)
theorem ml_L_117 : Cond.methodLink "TreeStreamLaw" 117 yX10_spoils ∈ am_tb := am_mt 904 (by decide +kernel) (by decide +kernel)
theorem ml_L_120 : Cond.methodLink "TreeStreamLaw" 120 yX11_spoils ∈ am_tb := am_mt 1487 (by decide +kernel) (by decide +kernel)
theorem ml_L_121 : Cond.methodLink "TreeStreamLaw" 121 yX10_safe ∈ am_tb := am_mt 908 (by decide +kernel) (by decide +kernel)
theorem ml_L_124 : Cond.methodLink "TreeStreamLaw" 124 yX11_safe ∈ am_tb := am_mt 1491 (by decide +kernel) (by decide +kernel)
theorem ml_X11_152 : Cond.methodLink RX11 152 yX11_put ∈ am_tb := am_mt 1179 (by decide +kernel) (by decide +kernel)
theorem ml_X11_156 : Cond.methodLink RX11 156 yX11_isIn ∈ am_tb := am_mt 1187 (by decide +kernel) (by decide +kernel)
theorem ml_X11_172 : Cond.methodLink RX11 172 yX11_isLetter ∈ am_tb := am_mt 1202 (by decide +kernel) (by decide +kernel)
theorem ml_X11_176 : Cond.methodLink RX11 176 yX11_isDigit ∈ am_tb := am_mt 1205 (by decide +kernel) (by decide +kernel)
theorem ml_X11_182 : Cond.methodLink RX11 182 yX11_goes ∈ am_tb := am_mt 1198 (by decide +kernel) (by decide +kernel)
theorem ml_X11_185 : Cond.methodLink RX11 185 yX11_isGood ∈ am_tb := am_mt 1217 (by decide +kernel) (by decide +kernel)
theorem ml_X11_189 : Cond.methodLink RX11 189 yJ0_length_8abf5 ∈ am_tb := am_mt 1221 (by decide +kernel) (by decide +kernel)
theorem ml_X11_195 : Cond.methodLink RX11 195 yJ0_charAt_5068e ∈ am_tb := am_mt 1222 (by decide +kernel) (by decide +kernel)
theorem ml_X11_199 : Cond.methodLink RX11 199 yX11_isSign ∈ am_tb := am_mt 1235 (by decide +kernel) (by decide +kernel)
theorem ml_X11_202 : Cond.methodLink RX11 202 yX11_fails ∈ am_tb := am_mt 1223 (by decide +kernel) (by decide +kernel)
theorem ml_X11_207 : Cond.methodLink RX11 207 yX11_isWord ∈ am_tb := am_mt 1213 (by decide +kernel) (by decide +kernel)
theorem ml_X11_215 : Cond.methodLink RX11 215 yX11_digit ∈ am_tb := am_mt 1231 (by decide +kernel) (by decide +kernel)
theorem ml_X11_222 : Cond.methodLink RX11 222 yX11_emits ∈ am_tb := am_mt 1285 (by decide +kernel) (by decide +kernel)
theorem ml_X11_229 : Cond.methodLink RX11 229 yX11_register ∈ am_tb := am_mt 1281 (by decide +kernel) (by decide +kernel)
theorem ml_X11_233 : Cond.methodLink RX11 233 yX11_element ∈ am_tb := am_mt 1289 (by decide +kernel) (by decide +kernel)
theorem ml_X11_237 : Cond.methodLink RX11 237 yX11_letter ∈ am_tb := am_mt 1250 (by decide +kernel) (by decide +kernel)
theorem ml_X11_240 : Cond.methodLink RX11 240 yX11_parts ∈ am_tb := am_mt 1275 (by decide +kernel) (by decide +kernel)
theorem ml_X11_243 : Cond.methodLink RX11 243 yX11_sign ∈ am_tb := am_mt 1267 (by decide +kernel) (by decide +kernel)
theorem ml_X11_246 : Cond.methodLink RX11 246 yX11_openAt ∈ am_tb := am_mt 1257 (by decide +kernel) (by decide +kernel)
theorem ml_X11_250 : Cond.methodLink RX11 250 yX11_number ∈ am_tb := am_mt 1227 (by decide +kernel) (by decide +kernel)
theorem ml_X11_253 : Cond.methodLink RX11 253 yX11_closeAt ∈ am_tb := am_mt 1264 (by decide +kernel) (by decide +kernel)
theorem ml_X11_257 : Cond.methodLink RX11 257 yX11_expression ∈ am_tb := am_mt 1271 (by decide +kernel) (by decide +kernel)
theorem ml_X11_267 : Cond.methodLink RX11 267 yX11_openRule ∈ am_tb := am_mt 1246 (by decide +kernel) (by decide +kernel)
theorem ml_X11_270 : Cond.methodLink RX11 270 yX11_closeRule ∈ am_tb := am_mt 1260 (by decide +kernel) (by decide +kernel)
theorem ml_X11_272 : Cond.methodLink RX11 272 yX11_endsRule ∈ am_tb := am_mt 1293 (by decide +kernel) (by decide +kernel)
theorem ml_X11_275 : Cond.methodLink RX11 275 yX11_begins ∈ am_tb := am_mt 1194 (by decide +kernel) (by decide +kernel)
theorem ml_X11_278 : Cond.methodLink RX11 278 yX11_clears ∈ am_tb := am_mt 1208 (by decide +kernel) (by decide +kernel)
theorem ml_X11_283 : Cond.methodLink RX11 283 yX11_rule ∈ am_tb := am_mt 1239 (by decide +kernel) (by decide +kernel)
theorem ml_X11_286 : Cond.methodLink RX11 286 yX11_copies ∈ am_tb := am_mt 1297 (by decide +kernel) (by decide +kernel)
theorem ml_X11_296 : Cond.methodLink RX11 296 yX11_readsElement ∈ am_tb := am_mt 1305 (by decide +kernel) (by decide +kernel)
theorem ml_X11_302 : Cond.methodLink RX11 302 yJ9_max_7cf53 ∈ am_tb := am_mt 1328 (by decide +kernel) (by decide +kernel)
theorem ml_X11_307 : Cond.methodLink RX11 307 yX11_isMachine ∈ am_tb := am_mt 1317 (by decide +kernel) (by decide +kernel)
theorem ml_X11_310 : Cond.methodLink RX11 310 yX11_told ∈ am_tb := am_mt 1321 (by decide +kernel) (by decide +kernel)
theorem ml_X11_314 : Cond.methodLink RX11 314 yX11_mostOwn ∈ am_tb := am_mt 1324 (by decide +kernel) (by decide +kernel)
theorem ml_X11_318 : Cond.methodLink RX11 318 yX11_machines ∈ am_tb := am_mt 1333 (by decide +kernel) (by decide +kernel)
theorem ml_X11_321 : Cond.methodLink RX11 321 yX11_deepOf ∈ am_tb := am_mt 1337 (by decide +kernel) (by decide +kernel)
theorem ml_X11_335 : Cond.methodLink RX11 335 yX11_heldBy ∈ am_tb := am_mt 1340 (by decide +kernel) (by decide +kernel)
theorem ml_X11_339 : Cond.methodLink RX11 339 yX11_empties ∈ am_tb := am_mt 1360 (by decide +kernel) (by decide +kernel)
theorem ml_X11_351 : Cond.methodLink RX11 351 yX11_adds ∈ am_tb := am_mt 1380 (by decide +kernel) (by decide +kernel)
theorem ml_X11_355 : Cond.methodLink RX11 355 yX11_makes ∈ am_tb := am_mt 1376 (by decide +kernel) (by decide +kernel)
theorem ml_X11_359 : Cond.methodLink RX11 359 yX11_closes ∈ am_tb := am_mt 1372 (by decide +kernel) (by decide +kernel)
theorem ml_X11_363 : Cond.methodLink RX11 363 yX11_opens ∈ am_tb := am_mt 1384 (by decide +kernel) (by decide +kernel)
theorem ml_X11_366 : Cond.methodLink RX11 366 yX11_starts ∈ am_tb := am_mt 1356 (by decide +kernel) (by decide +kernel)
theorem ml_X11_369 : Cond.methodLink RX11 369 yX11_reads ∈ am_tb := am_mt 1368 (by decide +kernel) (by decide +kernel)
theorem ml_X11_372 : Cond.methodLink RX11 372 yX11_canEnd ∈ am_tb := am_mt 1400 (by decide +kernel) (by decide +kernel)
theorem ml_X11_378 : Cond.methodLink RX11 378 yX11_writes ∈ am_tb := am_mt 1404 (by decide +kernel) (by decide +kernel)
theorem ml_X11_382 : Cond.methodLink RX11 382 yX11_refusedAt ∈ am_tb := am_mt 1412 (by decide +kernel) (by decide +kernel)
theorem ml_X11_389 : Cond.methodLink RX11 389 yX11_isReadBy ∈ am_tb := am_mt 1420 (by decide +kernel) (by decide +kernel)
theorem ml_X11_395 : Cond.methodLink RX11 395 yX11_lets ∈ am_tb := am_mt 1449 (by decide +kernel) (by decide +kernel)
theorem ml_X11_399 : Cond.methodLink RX11 399 yX11_laysLeast ∈ am_tb := am_mt 1444 (by decide +kernel) (by decide +kernel)
theorem ml_X11_404 : Cond.methodLink RX11 404 yX11_rowsOf ∈ am_tb := am_mt 1458 (by decide +kernel) (by decide +kernel)
theorem ml_X11_408 : Cond.methodLink RX11 408 yJ9_min_f86c9 ∈ am_tb := am_mt 1466 (by decide +kernel) (by decide +kernel)
theorem ml_X11_412 : Cond.methodLink RX11 412 yX11_isSpoilt ∈ am_tb := am_mt 1479 (by decide +kernel) (by decide +kernel)
theorem ml_X11_415 : Cond.methodLink RX11 415 yX11_isUnlike ∈ am_tb := am_mt 1483 (by decide +kernel) (by decide +kernel)
theorem ml_X11_418 : Cond.methodLink RX11 418 yX11_finds ∈ am_tb := am_mt 1475 (by decide +kernel) (by decide +kernel)
theorem ml_X11_422 : Cond.methodLink RX11 422 yX11_found ∈ am_tb := am_mt 1471 (by decide +kernel) (by decide +kernel)
theorem ml_X11_426 : Cond.methodLink RX11 426 yX11_by ∈ am_tb := am_mt 1510 (by decide +kernel) (by decide +kernel)
theorem ml_X11_429 : Cond.methodLink RX11 429 yX11_then ∈ am_tb := am_mt 1507 (by decide +kernel) (by decide +kernel)
theorem ml_X11_432 : Cond.methodLink RX11 432 yX11_within ∈ am_tb := am_mt 1513 (by decide +kernel) (by decide +kernel)
theorem ml_X11_435 : Cond.methodLink RX11 435 yX11_does ∈ am_tb := am_mt 1503 (by decide +kernel) (by decide +kernel)
theorem ml_X11_438 : Cond.methodLink RX11 438 yX11_adds_ ∈ am_tb := am_mt 1499 (by decide +kernel) (by decide +kernel)
theorem ml_X11_441 : Cond.methodLink RX11 441 yX11_goesOn ∈ am_tb := am_mt 1495 (by decide +kernel) (by decide +kernel)
theorem ml_X11_444 : Cond.methodLink RX11 444 yX11_isSpoiltHere ∈ am_tb := am_mt 1517 (by decide +kernel) (by decide +kernel)
theorem ml_J0_335 : Cond.methodLink RJ0 335 yJ0_coder_7d493 ∈ am_tb := am_mt 428 (by decide +kernel) (by decide +kernel)
theorem ml_J0_492 : Cond.methodLink RJ0 492 yJ0_isLatin1_aae02 ∈ am_tb := am_mt 438 (by decide +kernel) (by decide +kernel)
theorem ml_J0_495 : Cond.methodLink RJ0 495 yJ1_charAt_3b067 ∈ am_tb := am_mt 442 (by decide +kernel) (by decide +kernel)
theorem ml_J0_498 : Cond.methodLink RJ0 498 yJ2_charAt_3b067 ∈ am_tb := am_mt 453 (by decide +kernel) (by decide +kernel)
theorem ml_J0_1059 : Cond.methodLink RJ0 1059 yJ3_checkIndex_8e157 ∈ am_tb := am_mt 450 (by decide +kernel) (by decide +kernel)
theorem ml_J1_9 : Cond.methodLink RJ1 9 yJ0_checkIndex_df160 ∈ am_tb := am_mt 445 (by decide +kernel) (by decide +kernel)
theorem ml_J2_48 : Cond.methodLink RJ2 48 yJ2_length_9d52b ∈ am_tb := am_mt 459 (by decide +kernel) (by decide +kernel)
theorem ml_J2_67 : Cond.methodLink RJ2 67 yJ2_checkIndex_2214a ∈ am_tb := am_mt 456 (by decide +kernel) (by decide +kernel)
theorem ml_J2_71 : Cond.methodLink RJ2 71 yJ2_getChar_3b067 ∈ am_tb := am_mt 463 (by decide +kernel) (by decide +kernel)
theorem ml_J2_414 : Cond.methodLink RJ2 414 yJ0_checkIndex_df160 ∈ am_tb := am_mt 462 (by decide +kernel) (by decide +kernel)
end
