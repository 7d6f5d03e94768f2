/-! ===== the memory behind the constructors (by program) ===== -/
def lp_tab : List (Nat × Nat) := [(9, 0), (21, 240), (3, 0), (6, 0), (21, 242), (21, 242), (22, 242), (23, 242), (21, 242), (7, 0), (21, 104), (21, 104), (21, 104), (21, 104), (21, 104), (21, 104), (21, 104), (21, 104), (21, 104), (22, 104), (21, 104), (23, 104), (2, 0), (22, 33), (21, 33), (21, 33), (21, 6), (21, 6), (21, 6), (4, 0), (21, 168), (21, 168), (21, 168), (21, 168), (21, 168), (21, 168), (3, 0), (6, 0), (21, 242), (21, 242), (22, 242), (23, 242), (21, 242), (7, 0), (21, 104), (21, 104), (21, 104), (21, 104), (21, 104), (21, 104), (21, 104), (21, 104), (21, 104), (22, 104), (21, 104), (23, 104), (2, 0), (22, 33), (21, 33), (21, 33), (21, 6), (21, 6), (21, 6), (4, 0), (21, 168), (21, 168), (21, 168), (21, 168), (21, 168), (21, 168), (5, 0), (21, 626), (21, 626), (21, 626), (21, 626), (21, 626), (21, 1256), (0, 0), (21, 168), (23, 168), (1, 0), (4, 0), (21, 168), (21, 168), (21, 168), (21, 168), (21, 168), (21, 168), (23, 168), (21, 3040), (8, 0), (21, 300), (21, 300), (21, 600), (21, 300), (23, 168), (10, 0), (24, 240), (24, 320), (21, 81), (21, 81), (22, 81), (21, 81), (21, 81), (21, 81), (21, 81), (21, 81), (21, 81), (21, 81), (23, 81), (22, 24), (21, 24), (21, 24), (21, 24), (21, 24), (21, 7), (21, 7), (21, 64), (21, 64), (21, 64), (21, 64), (21, 64), (21, 64), (21, 81), (21, 81), (21, 80), (21, 80), (21, 80), (21, 80), (21, 80), (21, 80), (21, 80), (21, 80), (21, 80), (22, 24), (21, 24), (21, 24), (21, 24), (21, 6), (21, 6), (22, 11), (21, 500), (21, 500), (21, 500), (21, 500), (21, 500), (21, 81), (21, 6000), (21, 6000), (21, 6000), (21, 6000), (21, 12000), (21, 6000), (23, 500), (21, 500), (23, 500), (24, 320), (21, 6000), (21, 4000), (21, 4000), (21, 4000), (23, 80)]
def lp_shape (S : lm_S) : Prop := ∀ o, o < 162 → S.2.2 o = lp_tab.getD o (99, 0)
theorem sh_0 {S : lm_S} (h : lp_shape S) : S.2.2 0 = (9, 0) := h 0 (by decide)
theorem sh_1 {S : lm_S} (h : lp_shape S) : S.2.2 1 = (21, 240) := h 1 (by decide)
theorem sh_2 {S : lm_S} (h : lp_shape S) : S.2.2 2 = (3, 0) := h 2 (by decide)
theorem sh_3 {S : lm_S} (h : lp_shape S) : S.2.2 3 = (6, 0) := h 3 (by decide)
theorem sh_4 {S : lm_S} (h : lp_shape S) : S.2.2 4 = (21, 242) := h 4 (by decide)
theorem sh_5 {S : lm_S} (h : lp_shape S) : S.2.2 5 = (21, 242) := h 5 (by decide)
theorem sh_6 {S : lm_S} (h : lp_shape S) : S.2.2 6 = (22, 242) := h 6 (by decide)
theorem sh_7 {S : lm_S} (h : lp_shape S) : S.2.2 7 = (23, 242) := h 7 (by decide)
theorem sh_8 {S : lm_S} (h : lp_shape S) : S.2.2 8 = (21, 242) := h 8 (by decide)
theorem sh_9 {S : lm_S} (h : lp_shape S) : S.2.2 9 = (7, 0) := h 9 (by decide)
theorem sh_10 {S : lm_S} (h : lp_shape S) : S.2.2 10 = (21, 104) := h 10 (by decide)
theorem sh_11 {S : lm_S} (h : lp_shape S) : S.2.2 11 = (21, 104) := h 11 (by decide)
theorem sh_12 {S : lm_S} (h : lp_shape S) : S.2.2 12 = (21, 104) := h 12 (by decide)
theorem sh_13 {S : lm_S} (h : lp_shape S) : S.2.2 13 = (21, 104) := h 13 (by decide)
theorem sh_14 {S : lm_S} (h : lp_shape S) : S.2.2 14 = (21, 104) := h 14 (by decide)
theorem sh_15 {S : lm_S} (h : lp_shape S) : S.2.2 15 = (21, 104) := h 15 (by decide)
theorem sh_16 {S : lm_S} (h : lp_shape S) : S.2.2 16 = (21, 104) := h 16 (by decide)
theorem sh_17 {S : lm_S} (h : lp_shape S) : S.2.2 17 = (21, 104) := h 17 (by decide)
theorem sh_18 {S : lm_S} (h : lp_shape S) : S.2.2 18 = (21, 104) := h 18 (by decide)
theorem sh_19 {S : lm_S} (h : lp_shape S) : S.2.2 19 = (22, 104) := h 19 (by decide)
theorem sh_20 {S : lm_S} (h : lp_shape S) : S.2.2 20 = (21, 104) := h 20 (by decide)
theorem sh_21 {S : lm_S} (h : lp_shape S) : S.2.2 21 = (23, 104) := h 21 (by decide)
theorem sh_22 {S : lm_S} (h : lp_shape S) : S.2.2 22 = (2, 0) := h 22 (by decide)
theorem sh_23 {S : lm_S} (h : lp_shape S) : S.2.2 23 = (22, 33) := h 23 (by decide)
theorem sh_24 {S : lm_S} (h : lp_shape S) : S.2.2 24 = (21, 33) := h 24 (by decide)
theorem sh_25 {S : lm_S} (h : lp_shape S) : S.2.2 25 = (21, 33) := h 25 (by decide)
theorem sh_26 {S : lm_S} (h : lp_shape S) : S.2.2 26 = (21, 6) := h 26 (by decide)
theorem sh_27 {S : lm_S} (h : lp_shape S) : S.2.2 27 = (21, 6) := h 27 (by decide)
theorem sh_28 {S : lm_S} (h : lp_shape S) : S.2.2 28 = (21, 6) := h 28 (by decide)
theorem sh_29 {S : lm_S} (h : lp_shape S) : S.2.2 29 = (4, 0) := h 29 (by decide)
theorem sh_30 {S : lm_S} (h : lp_shape S) : S.2.2 30 = (21, 168) := h 30 (by decide)
theorem sh_31 {S : lm_S} (h : lp_shape S) : S.2.2 31 = (21, 168) := h 31 (by decide)
theorem sh_32 {S : lm_S} (h : lp_shape S) : S.2.2 32 = (21, 168) := h 32 (by decide)
theorem sh_33 {S : lm_S} (h : lp_shape S) : S.2.2 33 = (21, 168) := h 33 (by decide)
theorem sh_34 {S : lm_S} (h : lp_shape S) : S.2.2 34 = (21, 168) := h 34 (by decide)
theorem sh_35 {S : lm_S} (h : lp_shape S) : S.2.2 35 = (21, 168) := h 35 (by decide)
theorem sh_36 {S : lm_S} (h : lp_shape S) : S.2.2 36 = (3, 0) := h 36 (by decide)
theorem sh_37 {S : lm_S} (h : lp_shape S) : S.2.2 37 = (6, 0) := h 37 (by decide)
theorem sh_38 {S : lm_S} (h : lp_shape S) : S.2.2 38 = (21, 242) := h 38 (by decide)
theorem sh_39 {S : lm_S} (h : lp_shape S) : S.2.2 39 = (21, 242) := h 39 (by decide)
theorem sh_40 {S : lm_S} (h : lp_shape S) : S.2.2 40 = (22, 242) := h 40 (by decide)
theorem sh_41 {S : lm_S} (h : lp_shape S) : S.2.2 41 = (23, 242) := h 41 (by decide)
theorem sh_42 {S : lm_S} (h : lp_shape S) : S.2.2 42 = (21, 242) := h 42 (by decide)
theorem sh_43 {S : lm_S} (h : lp_shape S) : S.2.2 43 = (7, 0) := h 43 (by decide)
theorem sh_44 {S : lm_S} (h : lp_shape S) : S.2.2 44 = (21, 104) := h 44 (by decide)
theorem sh_45 {S : lm_S} (h : lp_shape S) : S.2.2 45 = (21, 104) := h 45 (by decide)
theorem sh_46 {S : lm_S} (h : lp_shape S) : S.2.2 46 = (21, 104) := h 46 (by decide)
theorem sh_47 {S : lm_S} (h : lp_shape S) : S.2.2 47 = (21, 104) := h 47 (by decide)
theorem sh_48 {S : lm_S} (h : lp_shape S) : S.2.2 48 = (21, 104) := h 48 (by decide)
theorem sh_49 {S : lm_S} (h : lp_shape S) : S.2.2 49 = (21, 104) := h 49 (by decide)
theorem sh_50 {S : lm_S} (h : lp_shape S) : S.2.2 50 = (21, 104) := h 50 (by decide)
theorem sh_51 {S : lm_S} (h : lp_shape S) : S.2.2 51 = (21, 104) := h 51 (by decide)
theorem sh_52 {S : lm_S} (h : lp_shape S) : S.2.2 52 = (21, 104) := h 52 (by decide)
theorem sh_53 {S : lm_S} (h : lp_shape S) : S.2.2 53 = (22, 104) := h 53 (by decide)
theorem sh_54 {S : lm_S} (h : lp_shape S) : S.2.2 54 = (21, 104) := h 54 (by decide)
theorem sh_55 {S : lm_S} (h : lp_shape S) : S.2.2 55 = (23, 104) := h 55 (by decide)
theorem sh_56 {S : lm_S} (h : lp_shape S) : S.2.2 56 = (2, 0) := h 56 (by decide)
theorem sh_57 {S : lm_S} (h : lp_shape S) : S.2.2 57 = (22, 33) := h 57 (by decide)
theorem sh_58 {S : lm_S} (h : lp_shape S) : S.2.2 58 = (21, 33) := h 58 (by decide)
theorem sh_59 {S : lm_S} (h : lp_shape S) : S.2.2 59 = (21, 33) := h 59 (by decide)
theorem sh_60 {S : lm_S} (h : lp_shape S) : S.2.2 60 = (21, 6) := h 60 (by decide)
theorem sh_61 {S : lm_S} (h : lp_shape S) : S.2.2 61 = (21, 6) := h 61 (by decide)
theorem sh_62 {S : lm_S} (h : lp_shape S) : S.2.2 62 = (21, 6) := h 62 (by decide)
theorem sh_63 {S : lm_S} (h : lp_shape S) : S.2.2 63 = (4, 0) := h 63 (by decide)
theorem sh_64 {S : lm_S} (h : lp_shape S) : S.2.2 64 = (21, 168) := h 64 (by decide)
theorem sh_65 {S : lm_S} (h : lp_shape S) : S.2.2 65 = (21, 168) := h 65 (by decide)
theorem sh_66 {S : lm_S} (h : lp_shape S) : S.2.2 66 = (21, 168) := h 66 (by decide)
theorem sh_67 {S : lm_S} (h : lp_shape S) : S.2.2 67 = (21, 168) := h 67 (by decide)
theorem sh_68 {S : lm_S} (h : lp_shape S) : S.2.2 68 = (21, 168) := h 68 (by decide)
theorem sh_69 {S : lm_S} (h : lp_shape S) : S.2.2 69 = (21, 168) := h 69 (by decide)
theorem sh_70 {S : lm_S} (h : lp_shape S) : S.2.2 70 = (5, 0) := h 70 (by decide)
theorem sh_71 {S : lm_S} (h : lp_shape S) : S.2.2 71 = (21, 626) := h 71 (by decide)
theorem sh_72 {S : lm_S} (h : lp_shape S) : S.2.2 72 = (21, 626) := h 72 (by decide)
theorem sh_73 {S : lm_S} (h : lp_shape S) : S.2.2 73 = (21, 626) := h 73 (by decide)
theorem sh_74 {S : lm_S} (h : lp_shape S) : S.2.2 74 = (21, 626) := h 74 (by decide)
theorem sh_75 {S : lm_S} (h : lp_shape S) : S.2.2 75 = (21, 626) := h 75 (by decide)
theorem sh_76 {S : lm_S} (h : lp_shape S) : S.2.2 76 = (21, 1256) := h 76 (by decide)
theorem sh_77 {S : lm_S} (h : lp_shape S) : S.2.2 77 = (0, 0) := h 77 (by decide)
theorem sh_78 {S : lm_S} (h : lp_shape S) : S.2.2 78 = (21, 168) := h 78 (by decide)
theorem sh_79 {S : lm_S} (h : lp_shape S) : S.2.2 79 = (23, 168) := h 79 (by decide)
theorem sh_80 {S : lm_S} (h : lp_shape S) : S.2.2 80 = (1, 0) := h 80 (by decide)
theorem sh_81 {S : lm_S} (h : lp_shape S) : S.2.2 81 = (4, 0) := h 81 (by decide)
theorem sh_82 {S : lm_S} (h : lp_shape S) : S.2.2 82 = (21, 168) := h 82 (by decide)
theorem sh_83 {S : lm_S} (h : lp_shape S) : S.2.2 83 = (21, 168) := h 83 (by decide)
theorem sh_84 {S : lm_S} (h : lp_shape S) : S.2.2 84 = (21, 168) := h 84 (by decide)
theorem sh_85 {S : lm_S} (h : lp_shape S) : S.2.2 85 = (21, 168) := h 85 (by decide)
theorem sh_86 {S : lm_S} (h : lp_shape S) : S.2.2 86 = (21, 168) := h 86 (by decide)
theorem sh_87 {S : lm_S} (h : lp_shape S) : S.2.2 87 = (21, 168) := h 87 (by decide)
theorem sh_88 {S : lm_S} (h : lp_shape S) : S.2.2 88 = (23, 168) := h 88 (by decide)
theorem sh_89 {S : lm_S} (h : lp_shape S) : S.2.2 89 = (21, 3040) := h 89 (by decide)
theorem sh_90 {S : lm_S} (h : lp_shape S) : S.2.2 90 = (8, 0) := h 90 (by decide)
theorem sh_91 {S : lm_S} (h : lp_shape S) : S.2.2 91 = (21, 300) := h 91 (by decide)
theorem sh_92 {S : lm_S} (h : lp_shape S) : S.2.2 92 = (21, 300) := h 92 (by decide)
theorem sh_93 {S : lm_S} (h : lp_shape S) : S.2.2 93 = (21, 600) := h 93 (by decide)
theorem sh_94 {S : lm_S} (h : lp_shape S) : S.2.2 94 = (21, 300) := h 94 (by decide)
theorem sh_95 {S : lm_S} (h : lp_shape S) : S.2.2 95 = (23, 168) := h 95 (by decide)
theorem sh_96 {S : lm_S} (h : lp_shape S) : S.2.2 96 = (10, 0) := h 96 (by decide)
theorem sh_97 {S : lm_S} (h : lp_shape S) : S.2.2 97 = (24, 240) := h 97 (by decide)
theorem sh_98 {S : lm_S} (h : lp_shape S) : S.2.2 98 = (24, 320) := h 98 (by decide)
theorem sh_99 {S : lm_S} (h : lp_shape S) : S.2.2 99 = (21, 81) := h 99 (by decide)
theorem sh_100 {S : lm_S} (h : lp_shape S) : S.2.2 100 = (21, 81) := h 100 (by decide)
theorem sh_101 {S : lm_S} (h : lp_shape S) : S.2.2 101 = (22, 81) := h 101 (by decide)
theorem sh_102 {S : lm_S} (h : lp_shape S) : S.2.2 102 = (21, 81) := h 102 (by decide)
theorem sh_103 {S : lm_S} (h : lp_shape S) : S.2.2 103 = (21, 81) := h 103 (by decide)
theorem sh_104 {S : lm_S} (h : lp_shape S) : S.2.2 104 = (21, 81) := h 104 (by decide)
theorem sh_105 {S : lm_S} (h : lp_shape S) : S.2.2 105 = (21, 81) := h 105 (by decide)
theorem sh_106 {S : lm_S} (h : lp_shape S) : S.2.2 106 = (21, 81) := h 106 (by decide)
theorem sh_107 {S : lm_S} (h : lp_shape S) : S.2.2 107 = (21, 81) := h 107 (by decide)
theorem sh_108 {S : lm_S} (h : lp_shape S) : S.2.2 108 = (21, 81) := h 108 (by decide)
theorem sh_109 {S : lm_S} (h : lp_shape S) : S.2.2 109 = (23, 81) := h 109 (by decide)
theorem sh_110 {S : lm_S} (h : lp_shape S) : S.2.2 110 = (22, 24) := h 110 (by decide)
theorem sh_111 {S : lm_S} (h : lp_shape S) : S.2.2 111 = (21, 24) := h 111 (by decide)
theorem sh_112 {S : lm_S} (h : lp_shape S) : S.2.2 112 = (21, 24) := h 112 (by decide)
theorem sh_113 {S : lm_S} (h : lp_shape S) : S.2.2 113 = (21, 24) := h 113 (by decide)
theorem sh_114 {S : lm_S} (h : lp_shape S) : S.2.2 114 = (21, 24) := h 114 (by decide)
theorem sh_115 {S : lm_S} (h : lp_shape S) : S.2.2 115 = (21, 7) := h 115 (by decide)
theorem sh_116 {S : lm_S} (h : lp_shape S) : S.2.2 116 = (21, 7) := h 116 (by decide)
theorem sh_117 {S : lm_S} (h : lp_shape S) : S.2.2 117 = (21, 64) := h 117 (by decide)
theorem sh_118 {S : lm_S} (h : lp_shape S) : S.2.2 118 = (21, 64) := h 118 (by decide)
theorem sh_119 {S : lm_S} (h : lp_shape S) : S.2.2 119 = (21, 64) := h 119 (by decide)
theorem sh_120 {S : lm_S} (h : lp_shape S) : S.2.2 120 = (21, 64) := h 120 (by decide)
theorem sh_121 {S : lm_S} (h : lp_shape S) : S.2.2 121 = (21, 64) := h 121 (by decide)
theorem sh_122 {S : lm_S} (h : lp_shape S) : S.2.2 122 = (21, 64) := h 122 (by decide)
theorem sh_123 {S : lm_S} (h : lp_shape S) : S.2.2 123 = (21, 81) := h 123 (by decide)
theorem sh_124 {S : lm_S} (h : lp_shape S) : S.2.2 124 = (21, 81) := h 124 (by decide)
theorem sh_125 {S : lm_S} (h : lp_shape S) : S.2.2 125 = (21, 80) := h 125 (by decide)
theorem sh_126 {S : lm_S} (h : lp_shape S) : S.2.2 126 = (21, 80) := h 126 (by decide)
theorem sh_127 {S : lm_S} (h : lp_shape S) : S.2.2 127 = (21, 80) := h 127 (by decide)
theorem sh_128 {S : lm_S} (h : lp_shape S) : S.2.2 128 = (21, 80) := h 128 (by decide)
theorem sh_129 {S : lm_S} (h : lp_shape S) : S.2.2 129 = (21, 80) := h 129 (by decide)
theorem sh_130 {S : lm_S} (h : lp_shape S) : S.2.2 130 = (21, 80) := h 130 (by decide)
theorem sh_131 {S : lm_S} (h : lp_shape S) : S.2.2 131 = (21, 80) := h 131 (by decide)
theorem sh_132 {S : lm_S} (h : lp_shape S) : S.2.2 132 = (21, 80) := h 132 (by decide)
theorem sh_133 {S : lm_S} (h : lp_shape S) : S.2.2 133 = (21, 80) := h 133 (by decide)
theorem sh_134 {S : lm_S} (h : lp_shape S) : S.2.2 134 = (22, 24) := h 134 (by decide)
theorem sh_135 {S : lm_S} (h : lp_shape S) : S.2.2 135 = (21, 24) := h 135 (by decide)
theorem sh_136 {S : lm_S} (h : lp_shape S) : S.2.2 136 = (21, 24) := h 136 (by decide)
theorem sh_137 {S : lm_S} (h : lp_shape S) : S.2.2 137 = (21, 24) := h 137 (by decide)
theorem sh_138 {S : lm_S} (h : lp_shape S) : S.2.2 138 = (21, 6) := h 138 (by decide)
theorem sh_139 {S : lm_S} (h : lp_shape S) : S.2.2 139 = (21, 6) := h 139 (by decide)
theorem sh_140 {S : lm_S} (h : lp_shape S) : S.2.2 140 = (22, 11) := h 140 (by decide)
theorem sh_141 {S : lm_S} (h : lp_shape S) : S.2.2 141 = (21, 500) := h 141 (by decide)
theorem sh_142 {S : lm_S} (h : lp_shape S) : S.2.2 142 = (21, 500) := h 142 (by decide)
theorem sh_143 {S : lm_S} (h : lp_shape S) : S.2.2 143 = (21, 500) := h 143 (by decide)
theorem sh_144 {S : lm_S} (h : lp_shape S) : S.2.2 144 = (21, 500) := h 144 (by decide)
theorem sh_145 {S : lm_S} (h : lp_shape S) : S.2.2 145 = (21, 500) := h 145 (by decide)
theorem sh_146 {S : lm_S} (h : lp_shape S) : S.2.2 146 = (21, 81) := h 146 (by decide)
theorem sh_147 {S : lm_S} (h : lp_shape S) : S.2.2 147 = (21, 6000) := h 147 (by decide)
theorem sh_148 {S : lm_S} (h : lp_shape S) : S.2.2 148 = (21, 6000) := h 148 (by decide)
theorem sh_149 {S : lm_S} (h : lp_shape S) : S.2.2 149 = (21, 6000) := h 149 (by decide)
theorem sh_150 {S : lm_S} (h : lp_shape S) : S.2.2 150 = (21, 6000) := h 150 (by decide)
theorem sh_151 {S : lm_S} (h : lp_shape S) : S.2.2 151 = (21, 12000) := h 151 (by decide)
theorem sh_152 {S : lm_S} (h : lp_shape S) : S.2.2 152 = (21, 6000) := h 152 (by decide)
theorem sh_153 {S : lm_S} (h : lp_shape S) : S.2.2 153 = (23, 500) := h 153 (by decide)
theorem sh_154 {S : lm_S} (h : lp_shape S) : S.2.2 154 = (21, 500) := h 154 (by decide)
theorem sh_155 {S : lm_S} (h : lp_shape S) : S.2.2 155 = (23, 500) := h 155 (by decide)
theorem sh_156 {S : lm_S} (h : lp_shape S) : S.2.2 156 = (24, 320) := h 156 (by decide)
theorem sh_157 {S : lm_S} (h : lp_shape S) : S.2.2 157 = (21, 6000) := h 157 (by decide)
theorem sh_158 {S : lm_S} (h : lp_shape S) : S.2.2 158 = (21, 4000) := h 158 (by decide)
theorem sh_159 {S : lm_S} (h : lp_shape S) : S.2.2 159 = (21, 4000) := h 159 (by decide)
theorem sh_160 {S : lm_S} (h : lp_shape S) : S.2.2 160 = (21, 4000) := h 160 (by decide)
theorem sh_161 {S : lm_S} (h : lp_shape S) : S.2.2 161 = (23, 80) := h 161 (by decide)
def lp_reft : List (Nat × Nat × Nat) := [(0, 0, 1), (0, 5, 70), (0, 6, 77), (0, 7, 80), (0, 8, 90), (0, 9, 95), (2, 0, 3), (2, 1, 9), (2, 2, 22), (2, 3, 29), (3, 0, 4), (3, 1, 5), (3, 2, 6), (3, 3, 7), (3, 4, 8), (9, 0, 10), (9, 1, 11), (9, 2, 12), (9, 3, 13), (9, 4, 14), (9, 5, 15), (9, 6, 16), (9, 7, 17), (9, 8, 18), (9, 9, 19), (9, 10, 20), (9, 11, 21), (22, 0, 23), (22, 1, 24), (22, 2, 25), (22, 3, 26), (22, 4, 27), (22, 5, 28), (29, 0, 30), (29, 1, 31), (29, 2, 32), (29, 3, 33), (29, 4, 34), (29, 5, 35), (36, 0, 37), (36, 1, 43), (36, 2, 56), (36, 3, 63), (37, 0, 38), (37, 1, 39), (37, 2, 40), (37, 3, 41), (37, 4, 42), (43, 0, 44), (43, 1, 45), (43, 2, 46), (43, 3, 47), (43, 4, 48), (43, 5, 49), (43, 6, 50), (43, 7, 51), (43, 8, 52), (43, 9, 53), (43, 10, 54), (43, 11, 55), (56, 0, 57), (56, 1, 58), (56, 2, 59), (56, 3, 60), (56, 4, 61), (56, 5, 62), (63, 0, 64), (63, 1, 65), (63, 2, 66), (63, 3, 67), (63, 4, 68), (63, 5, 69), (70, 0, 71), (70, 1, 72), (70, 2, 73), (70, 3, 74), (70, 4, 75), (70, 5, 76), (77, 0, 78), (77, 1, 79), (80, 0, 81), (80, 1, 88), (80, 2, 89), (81, 0, 82), (81, 1, 83), (81, 2, 84), (81, 3, 85), (81, 4, 86), (81, 5, 87), (90, 0, 91), (90, 2, 92), (90, 4, 93), (90, 6, 94), (96, 0, 97), (96, 2, 98), (96, 10, 99), (96, 11, 100), (96, 12, 101), (96, 13, 102), (96, 14, 103), (96, 15, 104), (96, 16, 105), (96, 17, 106), (96, 18, 107), (96, 19, 108), (96, 20, 109), (96, 22, 110), (96, 23, 111), (96, 24, 112), (96, 25, 113), (96, 26, 114), (96, 29, 115), (96, 30, 116), (96, 32, 117), (96, 33, 118), (96, 34, 119), (96, 35, 120), (96, 36, 121), (96, 37, 122), (96, 44, 123), (96, 45, 124), (96, 52, 125), (96, 53, 126), (96, 54, 127), (96, 55, 128), (96, 56, 129), (96, 57, 130), (96, 58, 131), (96, 59, 132), (96, 60, 133), (96, 61, 134), (96, 62, 135), (96, 63, 136), (96, 64, 137), (96, 65, 138), (96, 66, 139), (96, 67, 140), (96, 69, 141), (96, 70, 142), (96, 71, 143), (96, 72, 144), (96, 73, 145), (96, 74, 146), (96, 76, 147), (96, 77, 148), (96, 78, 149), (96, 79, 150), (96, 81, 151), (96, 83, 152), (96, 87, 153), (96, 93, 154), (96, 94, 155), (96, 96, 156), (96, 97, 157), (96, 100, 158), (96, 101, 159), (96, 102, 160), (96, 103, 161)]
/-- the references that never change -/
def lp_refs (R : lm_R) : Prop := ∀ q ∈ lp_reft, R q.1 q.2.1 = .ref q.2.2
theorem rf_0_0 {R : lm_R} (h : lp_refs R) : R 0 0 = .ref 1 := h (0, 0, 1) (by decide)
theorem rf_0_5 {R : lm_R} (h : lp_refs R) : R 0 5 = .ref 70 := h (0, 5, 70) (by decide)
theorem rf_0_6 {R : lm_R} (h : lp_refs R) : R 0 6 = .ref 77 := h (0, 6, 77) (by decide)
theorem rf_0_7 {R : lm_R} (h : lp_refs R) : R 0 7 = .ref 80 := h (0, 7, 80) (by decide)
theorem rf_0_8 {R : lm_R} (h : lp_refs R) : R 0 8 = .ref 90 := h (0, 8, 90) (by decide)
theorem rf_0_9 {R : lm_R} (h : lp_refs R) : R 0 9 = .ref 95 := h (0, 9, 95) (by decide)
theorem rf_2_0 {R : lm_R} (h : lp_refs R) : R 2 0 = .ref 3 := h (2, 0, 3) (by decide)
theorem rf_2_1 {R : lm_R} (h : lp_refs R) : R 2 1 = .ref 9 := h (2, 1, 9) (by decide)
theorem rf_2_2 {R : lm_R} (h : lp_refs R) : R 2 2 = .ref 22 := h (2, 2, 22) (by decide)
theorem rf_2_3 {R : lm_R} (h : lp_refs R) : R 2 3 = .ref 29 := h (2, 3, 29) (by decide)
theorem rf_3_0 {R : lm_R} (h : lp_refs R) : R 3 0 = .ref 4 := h (3, 0, 4) (by decide)
theorem rf_3_1 {R : lm_R} (h : lp_refs R) : R 3 1 = .ref 5 := h (3, 1, 5) (by decide)
theorem rf_3_2 {R : lm_R} (h : lp_refs R) : R 3 2 = .ref 6 := h (3, 2, 6) (by decide)
theorem rf_3_3 {R : lm_R} (h : lp_refs R) : R 3 3 = .ref 7 := h (3, 3, 7) (by decide)
theorem rf_3_4 {R : lm_R} (h : lp_refs R) : R 3 4 = .ref 8 := h (3, 4, 8) (by decide)
theorem rf_9_0 {R : lm_R} (h : lp_refs R) : R 9 0 = .ref 10 := h (9, 0, 10) (by decide)
theorem rf_9_1 {R : lm_R} (h : lp_refs R) : R 9 1 = .ref 11 := h (9, 1, 11) (by decide)
theorem rf_9_2 {R : lm_R} (h : lp_refs R) : R 9 2 = .ref 12 := h (9, 2, 12) (by decide)
theorem rf_9_3 {R : lm_R} (h : lp_refs R) : R 9 3 = .ref 13 := h (9, 3, 13) (by decide)
theorem rf_9_4 {R : lm_R} (h : lp_refs R) : R 9 4 = .ref 14 := h (9, 4, 14) (by decide)
theorem rf_9_5 {R : lm_R} (h : lp_refs R) : R 9 5 = .ref 15 := h (9, 5, 15) (by decide)
theorem rf_9_6 {R : lm_R} (h : lp_refs R) : R 9 6 = .ref 16 := h (9, 6, 16) (by decide)
theorem rf_9_7 {R : lm_R} (h : lp_refs R) : R 9 7 = .ref 17 := h (9, 7, 17) (by decide)
theorem rf_9_8 {R : lm_R} (h : lp_refs R) : R 9 8 = .ref 18 := h (9, 8, 18) (by decide)
theorem rf_9_9 {R : lm_R} (h : lp_refs R) : R 9 9 = .ref 19 := h (9, 9, 19) (by decide)
theorem rf_9_10 {R : lm_R} (h : lp_refs R) : R 9 10 = .ref 20 := h (9, 10, 20) (by decide)
theorem rf_9_11 {R : lm_R} (h : lp_refs R) : R 9 11 = .ref 21 := h (9, 11, 21) (by decide)
theorem rf_22_0 {R : lm_R} (h : lp_refs R) : R 22 0 = .ref 23 := h (22, 0, 23) (by decide)
theorem rf_22_1 {R : lm_R} (h : lp_refs R) : R 22 1 = .ref 24 := h (22, 1, 24) (by decide)
theorem rf_22_2 {R : lm_R} (h : lp_refs R) : R 22 2 = .ref 25 := h (22, 2, 25) (by decide)
theorem rf_22_3 {R : lm_R} (h : lp_refs R) : R 22 3 = .ref 26 := h (22, 3, 26) (by decide)
theorem rf_22_4 {R : lm_R} (h : lp_refs R) : R 22 4 = .ref 27 := h (22, 4, 27) (by decide)
theorem rf_22_5 {R : lm_R} (h : lp_refs R) : R 22 5 = .ref 28 := h (22, 5, 28) (by decide)
theorem rf_29_0 {R : lm_R} (h : lp_refs R) : R 29 0 = .ref 30 := h (29, 0, 30) (by decide)
theorem rf_29_1 {R : lm_R} (h : lp_refs R) : R 29 1 = .ref 31 := h (29, 1, 31) (by decide)
theorem rf_29_2 {R : lm_R} (h : lp_refs R) : R 29 2 = .ref 32 := h (29, 2, 32) (by decide)
theorem rf_29_3 {R : lm_R} (h : lp_refs R) : R 29 3 = .ref 33 := h (29, 3, 33) (by decide)
theorem rf_29_4 {R : lm_R} (h : lp_refs R) : R 29 4 = .ref 34 := h (29, 4, 34) (by decide)
theorem rf_29_5 {R : lm_R} (h : lp_refs R) : R 29 5 = .ref 35 := h (29, 5, 35) (by decide)
theorem rf_36_0 {R : lm_R} (h : lp_refs R) : R 36 0 = .ref 37 := h (36, 0, 37) (by decide)
theorem rf_36_1 {R : lm_R} (h : lp_refs R) : R 36 1 = .ref 43 := h (36, 1, 43) (by decide)
theorem rf_36_2 {R : lm_R} (h : lp_refs R) : R 36 2 = .ref 56 := h (36, 2, 56) (by decide)
theorem rf_36_3 {R : lm_R} (h : lp_refs R) : R 36 3 = .ref 63 := h (36, 3, 63) (by decide)
theorem rf_37_0 {R : lm_R} (h : lp_refs R) : R 37 0 = .ref 38 := h (37, 0, 38) (by decide)
theorem rf_37_1 {R : lm_R} (h : lp_refs R) : R 37 1 = .ref 39 := h (37, 1, 39) (by decide)
theorem rf_37_2 {R : lm_R} (h : lp_refs R) : R 37 2 = .ref 40 := h (37, 2, 40) (by decide)
theorem rf_37_3 {R : lm_R} (h : lp_refs R) : R 37 3 = .ref 41 := h (37, 3, 41) (by decide)
theorem rf_37_4 {R : lm_R} (h : lp_refs R) : R 37 4 = .ref 42 := h (37, 4, 42) (by decide)
theorem rf_43_0 {R : lm_R} (h : lp_refs R) : R 43 0 = .ref 44 := h (43, 0, 44) (by decide)
theorem rf_43_1 {R : lm_R} (h : lp_refs R) : R 43 1 = .ref 45 := h (43, 1, 45) (by decide)
theorem rf_43_2 {R : lm_R} (h : lp_refs R) : R 43 2 = .ref 46 := h (43, 2, 46) (by decide)
theorem rf_43_3 {R : lm_R} (h : lp_refs R) : R 43 3 = .ref 47 := h (43, 3, 47) (by decide)
theorem rf_43_4 {R : lm_R} (h : lp_refs R) : R 43 4 = .ref 48 := h (43, 4, 48) (by decide)
theorem rf_43_5 {R : lm_R} (h : lp_refs R) : R 43 5 = .ref 49 := h (43, 5, 49) (by decide)
theorem rf_43_6 {R : lm_R} (h : lp_refs R) : R 43 6 = .ref 50 := h (43, 6, 50) (by decide)
theorem rf_43_7 {R : lm_R} (h : lp_refs R) : R 43 7 = .ref 51 := h (43, 7, 51) (by decide)
theorem rf_43_8 {R : lm_R} (h : lp_refs R) : R 43 8 = .ref 52 := h (43, 8, 52) (by decide)
theorem rf_43_9 {R : lm_R} (h : lp_refs R) : R 43 9 = .ref 53 := h (43, 9, 53) (by decide)
theorem rf_43_10 {R : lm_R} (h : lp_refs R) : R 43 10 = .ref 54 := h (43, 10, 54) (by decide)
theorem rf_43_11 {R : lm_R} (h : lp_refs R) : R 43 11 = .ref 55 := h (43, 11, 55) (by decide)
theorem rf_56_0 {R : lm_R} (h : lp_refs R) : R 56 0 = .ref 57 := h (56, 0, 57) (by decide)
theorem rf_56_1 {R : lm_R} (h : lp_refs R) : R 56 1 = .ref 58 := h (56, 1, 58) (by decide)
theorem rf_56_2 {R : lm_R} (h : lp_refs R) : R 56 2 = .ref 59 := h (56, 2, 59) (by decide)
theorem rf_56_3 {R : lm_R} (h : lp_refs R) : R 56 3 = .ref 60 := h (56, 3, 60) (by decide)
theorem rf_56_4 {R : lm_R} (h : lp_refs R) : R 56 4 = .ref 61 := h (56, 4, 61) (by decide)
theorem rf_56_5 {R : lm_R} (h : lp_refs R) : R 56 5 = .ref 62 := h (56, 5, 62) (by decide)
theorem rf_63_0 {R : lm_R} (h : lp_refs R) : R 63 0 = .ref 64 := h (63, 0, 64) (by decide)
theorem rf_63_1 {R : lm_R} (h : lp_refs R) : R 63 1 = .ref 65 := h (63, 1, 65) (by decide)
theorem rf_63_2 {R : lm_R} (h : lp_refs R) : R 63 2 = .ref 66 := h (63, 2, 66) (by decide)
theorem rf_63_3 {R : lm_R} (h : lp_refs R) : R 63 3 = .ref 67 := h (63, 3, 67) (by decide)
theorem rf_63_4 {R : lm_R} (h : lp_refs R) : R 63 4 = .ref 68 := h (63, 4, 68) (by decide)
theorem rf_63_5 {R : lm_R} (h : lp_refs R) : R 63 5 = .ref 69 := h (63, 5, 69) (by decide)
theorem rf_70_0 {R : lm_R} (h : lp_refs R) : R 70 0 = .ref 71 := h (70, 0, 71) (by decide)
theorem rf_70_1 {R : lm_R} (h : lp_refs R) : R 70 1 = .ref 72 := h (70, 1, 72) (by decide)
theorem rf_70_2 {R : lm_R} (h : lp_refs R) : R 70 2 = .ref 73 := h (70, 2, 73) (by decide)
theorem rf_70_3 {R : lm_R} (h : lp_refs R) : R 70 3 = .ref 74 := h (70, 3, 74) (by decide)
theorem rf_70_4 {R : lm_R} (h : lp_refs R) : R 70 4 = .ref 75 := h (70, 4, 75) (by decide)
theorem rf_70_5 {R : lm_R} (h : lp_refs R) : R 70 5 = .ref 76 := h (70, 5, 76) (by decide)
theorem rf_77_0 {R : lm_R} (h : lp_refs R) : R 77 0 = .ref 78 := h (77, 0, 78) (by decide)
theorem rf_77_1 {R : lm_R} (h : lp_refs R) : R 77 1 = .ref 79 := h (77, 1, 79) (by decide)
theorem rf_80_0 {R : lm_R} (h : lp_refs R) : R 80 0 = .ref 81 := h (80, 0, 81) (by decide)
theorem rf_80_1 {R : lm_R} (h : lp_refs R) : R 80 1 = .ref 88 := h (80, 1, 88) (by decide)
theorem rf_80_2 {R : lm_R} (h : lp_refs R) : R 80 2 = .ref 89 := h (80, 2, 89) (by decide)
theorem rf_81_0 {R : lm_R} (h : lp_refs R) : R 81 0 = .ref 82 := h (81, 0, 82) (by decide)
theorem rf_81_1 {R : lm_R} (h : lp_refs R) : R 81 1 = .ref 83 := h (81, 1, 83) (by decide)
theorem rf_81_2 {R : lm_R} (h : lp_refs R) : R 81 2 = .ref 84 := h (81, 2, 84) (by decide)
theorem rf_81_3 {R : lm_R} (h : lp_refs R) : R 81 3 = .ref 85 := h (81, 3, 85) (by decide)
theorem rf_81_4 {R : lm_R} (h : lp_refs R) : R 81 4 = .ref 86 := h (81, 4, 86) (by decide)
theorem rf_81_5 {R : lm_R} (h : lp_refs R) : R 81 5 = .ref 87 := h (81, 5, 87) (by decide)
theorem rf_90_0 {R : lm_R} (h : lp_refs R) : R 90 0 = .ref 91 := h (90, 0, 91) (by decide)
theorem rf_90_2 {R : lm_R} (h : lp_refs R) : R 90 2 = .ref 92 := h (90, 2, 92) (by decide)
theorem rf_90_4 {R : lm_R} (h : lp_refs R) : R 90 4 = .ref 93 := h (90, 4, 93) (by decide)
theorem rf_90_6 {R : lm_R} (h : lp_refs R) : R 90 6 = .ref 94 := h (90, 6, 94) (by decide)
theorem rf_96_0 {R : lm_R} (h : lp_refs R) : R 96 0 = .ref 97 := h (96, 0, 97) (by decide)
theorem rf_96_2 {R : lm_R} (h : lp_refs R) : R 96 2 = .ref 98 := h (96, 2, 98) (by decide)
theorem rf_96_10 {R : lm_R} (h : lp_refs R) : R 96 10 = .ref 99 := h (96, 10, 99) (by decide)
theorem rf_96_11 {R : lm_R} (h : lp_refs R) : R 96 11 = .ref 100 := h (96, 11, 100) (by decide)
theorem rf_96_12 {R : lm_R} (h : lp_refs R) : R 96 12 = .ref 101 := h (96, 12, 101) (by decide)
theorem rf_96_13 {R : lm_R} (h : lp_refs R) : R 96 13 = .ref 102 := h (96, 13, 102) (by decide)
theorem rf_96_14 {R : lm_R} (h : lp_refs R) : R 96 14 = .ref 103 := h (96, 14, 103) (by decide)
theorem rf_96_15 {R : lm_R} (h : lp_refs R) : R 96 15 = .ref 104 := h (96, 15, 104) (by decide)
theorem rf_96_16 {R : lm_R} (h : lp_refs R) : R 96 16 = .ref 105 := h (96, 16, 105) (by decide)
theorem rf_96_17 {R : lm_R} (h : lp_refs R) : R 96 17 = .ref 106 := h (96, 17, 106) (by decide)
theorem rf_96_18 {R : lm_R} (h : lp_refs R) : R 96 18 = .ref 107 := h (96, 18, 107) (by decide)
theorem rf_96_19 {R : lm_R} (h : lp_refs R) : R 96 19 = .ref 108 := h (96, 19, 108) (by decide)
theorem rf_96_20 {R : lm_R} (h : lp_refs R) : R 96 20 = .ref 109 := h (96, 20, 109) (by decide)
theorem rf_96_22 {R : lm_R} (h : lp_refs R) : R 96 22 = .ref 110 := h (96, 22, 110) (by decide)
theorem rf_96_23 {R : lm_R} (h : lp_refs R) : R 96 23 = .ref 111 := h (96, 23, 111) (by decide)
theorem rf_96_24 {R : lm_R} (h : lp_refs R) : R 96 24 = .ref 112 := h (96, 24, 112) (by decide)
theorem rf_96_25 {R : lm_R} (h : lp_refs R) : R 96 25 = .ref 113 := h (96, 25, 113) (by decide)
theorem rf_96_26 {R : lm_R} (h : lp_refs R) : R 96 26 = .ref 114 := h (96, 26, 114) (by decide)
theorem rf_96_29 {R : lm_R} (h : lp_refs R) : R 96 29 = .ref 115 := h (96, 29, 115) (by decide)
theorem rf_96_30 {R : lm_R} (h : lp_refs R) : R 96 30 = .ref 116 := h (96, 30, 116) (by decide)
theorem rf_96_32 {R : lm_R} (h : lp_refs R) : R 96 32 = .ref 117 := h (96, 32, 117) (by decide)
theorem rf_96_33 {R : lm_R} (h : lp_refs R) : R 96 33 = .ref 118 := h (96, 33, 118) (by decide)
theorem rf_96_34 {R : lm_R} (h : lp_refs R) : R 96 34 = .ref 119 := h (96, 34, 119) (by decide)
theorem rf_96_35 {R : lm_R} (h : lp_refs R) : R 96 35 = .ref 120 := h (96, 35, 120) (by decide)
theorem rf_96_36 {R : lm_R} (h : lp_refs R) : R 96 36 = .ref 121 := h (96, 36, 121) (by decide)
theorem rf_96_37 {R : lm_R} (h : lp_refs R) : R 96 37 = .ref 122 := h (96, 37, 122) (by decide)
theorem rf_96_44 {R : lm_R} (h : lp_refs R) : R 96 44 = .ref 123 := h (96, 44, 123) (by decide)
theorem rf_96_45 {R : lm_R} (h : lp_refs R) : R 96 45 = .ref 124 := h (96, 45, 124) (by decide)
theorem rf_96_52 {R : lm_R} (h : lp_refs R) : R 96 52 = .ref 125 := h (96, 52, 125) (by decide)
theorem rf_96_53 {R : lm_R} (h : lp_refs R) : R 96 53 = .ref 126 := h (96, 53, 126) (by decide)
theorem rf_96_54 {R : lm_R} (h : lp_refs R) : R 96 54 = .ref 127 := h (96, 54, 127) (by decide)
theorem rf_96_55 {R : lm_R} (h : lp_refs R) : R 96 55 = .ref 128 := h (96, 55, 128) (by decide)
theorem rf_96_56 {R : lm_R} (h : lp_refs R) : R 96 56 = .ref 129 := h (96, 56, 129) (by decide)
theorem rf_96_57 {R : lm_R} (h : lp_refs R) : R 96 57 = .ref 130 := h (96, 57, 130) (by decide)
theorem rf_96_58 {R : lm_R} (h : lp_refs R) : R 96 58 = .ref 131 := h (96, 58, 131) (by decide)
theorem rf_96_59 {R : lm_R} (h : lp_refs R) : R 96 59 = .ref 132 := h (96, 59, 132) (by decide)
theorem rf_96_60 {R : lm_R} (h : lp_refs R) : R 96 60 = .ref 133 := h (96, 60, 133) (by decide)
theorem rf_96_61 {R : lm_R} (h : lp_refs R) : R 96 61 = .ref 134 := h (96, 61, 134) (by decide)
theorem rf_96_62 {R : lm_R} (h : lp_refs R) : R 96 62 = .ref 135 := h (96, 62, 135) (by decide)
theorem rf_96_63 {R : lm_R} (h : lp_refs R) : R 96 63 = .ref 136 := h (96, 63, 136) (by decide)
theorem rf_96_64 {R : lm_R} (h : lp_refs R) : R 96 64 = .ref 137 := h (96, 64, 137) (by decide)
theorem rf_96_65 {R : lm_R} (h : lp_refs R) : R 96 65 = .ref 138 := h (96, 65, 138) (by decide)
theorem rf_96_66 {R : lm_R} (h : lp_refs R) : R 96 66 = .ref 139 := h (96, 66, 139) (by decide)
theorem rf_96_67 {R : lm_R} (h : lp_refs R) : R 96 67 = .ref 140 := h (96, 67, 140) (by decide)
theorem rf_96_69 {R : lm_R} (h : lp_refs R) : R 96 69 = .ref 141 := h (96, 69, 141) (by decide)
theorem rf_96_70 {R : lm_R} (h : lp_refs R) : R 96 70 = .ref 142 := h (96, 70, 142) (by decide)
theorem rf_96_71 {R : lm_R} (h : lp_refs R) : R 96 71 = .ref 143 := h (96, 71, 143) (by decide)
theorem rf_96_72 {R : lm_R} (h : lp_refs R) : R 96 72 = .ref 144 := h (96, 72, 144) (by decide)
theorem rf_96_73 {R : lm_R} (h : lp_refs R) : R 96 73 = .ref 145 := h (96, 73, 145) (by decide)
theorem rf_96_74 {R : lm_R} (h : lp_refs R) : R 96 74 = .ref 146 := h (96, 74, 146) (by decide)
theorem rf_96_76 {R : lm_R} (h : lp_refs R) : R 96 76 = .ref 147 := h (96, 76, 147) (by decide)
theorem rf_96_77 {R : lm_R} (h : lp_refs R) : R 96 77 = .ref 148 := h (96, 77, 148) (by decide)
theorem rf_96_78 {R : lm_R} (h : lp_refs R) : R 96 78 = .ref 149 := h (96, 78, 149) (by decide)
theorem rf_96_79 {R : lm_R} (h : lp_refs R) : R 96 79 = .ref 150 := h (96, 79, 150) (by decide)
theorem rf_96_81 {R : lm_R} (h : lp_refs R) : R 96 81 = .ref 151 := h (96, 81, 151) (by decide)
theorem rf_96_83 {R : lm_R} (h : lp_refs R) : R 96 83 = .ref 152 := h (96, 83, 152) (by decide)
theorem rf_96_87 {R : lm_R} (h : lp_refs R) : R 96 87 = .ref 153 := h (96, 87, 153) (by decide)
theorem rf_96_93 {R : lm_R} (h : lp_refs R) : R 96 93 = .ref 154 := h (96, 93, 154) (by decide)
theorem rf_96_94 {R : lm_R} (h : lp_refs R) : R 96 94 = .ref 155 := h (96, 94, 155) (by decide)
theorem rf_96_96 {R : lm_R} (h : lp_refs R) : R 96 96 = .ref 156 := h (96, 96, 156) (by decide)
theorem rf_96_97 {R : lm_R} (h : lp_refs R) : R 96 97 = .ref 157 := h (96, 97, 157) (by decide)
theorem rf_96_100 {R : lm_R} (h : lp_refs R) : R 96 100 = .ref 158 := h (96, 100, 158) (by decide)
theorem rf_96_101 {R : lm_R} (h : lp_refs R) : R 96 101 = .ref 159 := h (96, 101, 159) (by decide)
theorem rf_96_102 {R : lm_R} (h : lp_refs R) : R 96 102 = .ref 160 := h (96, 102, 160) (by decide)
theorem rf_96_103 {R : lm_R} (h : lp_refs R) : R 96 103 = .ref 161 := h (96, 103, 161) (by decide)
theorem pg_s0 {S : lm_S} {p : Nat} (h : lp_shape S) (hp : p = 2 ∨ p = 36) : S.2.2 (p + 0) = (3, 0) := by
  rcases hp with rfl | rfl
  · exact sh_2 h
  · exact sh_36 h
theorem pg_s {S : lm_S} {p : Nat} (h : lp_shape S) (hp : p = 2 ∨ p = 36) : S.2.2 p = (3, 0) := by
  rcases hp with rfl | rfl
  · exact sh_2 h
  · exact sh_36 h
theorem pg_s1 {S : lm_S} {p : Nat} (h : lp_shape S) (hp : p = 2 ∨ p = 36) : S.2.2 (p + 1) = (6, 0) := by
  rcases hp with rfl | rfl
  · exact sh_3 h
  · exact sh_37 h
theorem pg_s2 {S : lm_S} {p : Nat} (h : lp_shape S) (hp : p = 2 ∨ p = 36) : S.2.2 (p + 2) = (21, 242) := by
  rcases hp with rfl | rfl
  · exact sh_4 h
  · exact sh_38 h
theorem pg_s3 {S : lm_S} {p : Nat} (h : lp_shape S) (hp : p = 2 ∨ p = 36) : S.2.2 (p + 3) = (21, 242) := by
  rcases hp with rfl | rfl
  · exact sh_5 h
  · exact sh_39 h
theorem pg_s4 {S : lm_S} {p : Nat} (h : lp_shape S) (hp : p = 2 ∨ p = 36) : S.2.2 (p + 4) = (22, 242) := by
  rcases hp with rfl | rfl
  · exact sh_6 h
  · exact sh_40 h
theorem pg_s5 {S : lm_S} {p : Nat} (h : lp_shape S) (hp : p = 2 ∨ p = 36) : S.2.2 (p + 5) = (23, 242) := by
  rcases hp with rfl | rfl
  · exact sh_7 h
  · exact sh_41 h
theorem pg_s6 {S : lm_S} {p : Nat} (h : lp_shape S) (hp : p = 2 ∨ p = 36) : S.2.2 (p + 6) = (21, 242) := by
  rcases hp with rfl | rfl
  · exact sh_8 h
  · exact sh_42 h
theorem pg_s7 {S : lm_S} {p : Nat} (h : lp_shape S) (hp : p = 2 ∨ p = 36) : S.2.2 (p + 7) = (7, 0) := by
  rcases hp with rfl | rfl
  · exact sh_9 h
  · exact sh_43 h
theorem pg_s8 {S : lm_S} {p : Nat} (h : lp_shape S) (hp : p = 2 ∨ p = 36) : S.2.2 (p + 8) = (21, 104) := by
  rcases hp with rfl | rfl
  · exact sh_10 h
  · exact sh_44 h
theorem pg_s9 {S : lm_S} {p : Nat} (h : lp_shape S) (hp : p = 2 ∨ p = 36) : S.2.2 (p + 9) = (21, 104) := by
  rcases hp with rfl | rfl
  · exact sh_11 h
  · exact sh_45 h
theorem pg_s10 {S : lm_S} {p : Nat} (h : lp_shape S) (hp : p = 2 ∨ p = 36) : S.2.2 (p + 10) = (21, 104) := by
  rcases hp with rfl | rfl
  · exact sh_12 h
  · exact sh_46 h
theorem pg_s11 {S : lm_S} {p : Nat} (h : lp_shape S) (hp : p = 2 ∨ p = 36) : S.2.2 (p + 11) = (21, 104) := by
  rcases hp with rfl | rfl
  · exact sh_13 h
  · exact sh_47 h
theorem pg_s12 {S : lm_S} {p : Nat} (h : lp_shape S) (hp : p = 2 ∨ p = 36) : S.2.2 (p + 12) = (21, 104) := by
  rcases hp with rfl | rfl
  · exact sh_14 h
  · exact sh_48 h
theorem pg_s13 {S : lm_S} {p : Nat} (h : lp_shape S) (hp : p = 2 ∨ p = 36) : S.2.2 (p + 13) = (21, 104) := by
  rcases hp with rfl | rfl
  · exact sh_15 h
  · exact sh_49 h
theorem pg_s14 {S : lm_S} {p : Nat} (h : lp_shape S) (hp : p = 2 ∨ p = 36) : S.2.2 (p + 14) = (21, 104) := by
  rcases hp with rfl | rfl
  · exact sh_16 h
  · exact sh_50 h
theorem pg_s15 {S : lm_S} {p : Nat} (h : lp_shape S) (hp : p = 2 ∨ p = 36) : S.2.2 (p + 15) = (21, 104) := by
  rcases hp with rfl | rfl
  · exact sh_17 h
  · exact sh_51 h
theorem pg_s16 {S : lm_S} {p : Nat} (h : lp_shape S) (hp : p = 2 ∨ p = 36) : S.2.2 (p + 16) = (21, 104) := by
  rcases hp with rfl | rfl
  · exact sh_18 h
  · exact sh_52 h
theorem pg_s17 {S : lm_S} {p : Nat} (h : lp_shape S) (hp : p = 2 ∨ p = 36) : S.2.2 (p + 17) = (22, 104) := by
  rcases hp with rfl | rfl
  · exact sh_19 h
  · exact sh_53 h
theorem pg_s18 {S : lm_S} {p : Nat} (h : lp_shape S) (hp : p = 2 ∨ p = 36) : S.2.2 (p + 18) = (21, 104) := by
  rcases hp with rfl | rfl
  · exact sh_20 h
  · exact sh_54 h
theorem pg_s19 {S : lm_S} {p : Nat} (h : lp_shape S) (hp : p = 2 ∨ p = 36) : S.2.2 (p + 19) = (23, 104) := by
  rcases hp with rfl | rfl
  · exact sh_21 h
  · exact sh_55 h
theorem pg_s20 {S : lm_S} {p : Nat} (h : lp_shape S) (hp : p = 2 ∨ p = 36) : S.2.2 (p + 20) = (2, 0) := by
  rcases hp with rfl | rfl
  · exact sh_22 h
  · exact sh_56 h
theorem pg_s21 {S : lm_S} {p : Nat} (h : lp_shape S) (hp : p = 2 ∨ p = 36) : S.2.2 (p + 21) = (22, 33) := by
  rcases hp with rfl | rfl
  · exact sh_23 h
  · exact sh_57 h
theorem pg_s22 {S : lm_S} {p : Nat} (h : lp_shape S) (hp : p = 2 ∨ p = 36) : S.2.2 (p + 22) = (21, 33) := by
  rcases hp with rfl | rfl
  · exact sh_24 h
  · exact sh_58 h
theorem pg_s23 {S : lm_S} {p : Nat} (h : lp_shape S) (hp : p = 2 ∨ p = 36) : S.2.2 (p + 23) = (21, 33) := by
  rcases hp with rfl | rfl
  · exact sh_25 h
  · exact sh_59 h
theorem pg_s24 {S : lm_S} {p : Nat} (h : lp_shape S) (hp : p = 2 ∨ p = 36) : S.2.2 (p + 24) = (21, 6) := by
  rcases hp with rfl | rfl
  · exact sh_26 h
  · exact sh_60 h
theorem pg_s25 {S : lm_S} {p : Nat} (h : lp_shape S) (hp : p = 2 ∨ p = 36) : S.2.2 (p + 25) = (21, 6) := by
  rcases hp with rfl | rfl
  · exact sh_27 h
  · exact sh_61 h
theorem pg_s26 {S : lm_S} {p : Nat} (h : lp_shape S) (hp : p = 2 ∨ p = 36) : S.2.2 (p + 26) = (21, 6) := by
  rcases hp with rfl | rfl
  · exact sh_28 h
  · exact sh_62 h
theorem pg_s27 {S : lm_S} {p : Nat} (h : lp_shape S) (hp : p = 2 ∨ p = 36) : S.2.2 (p + 27) = (4, 0) := by
  rcases hp with rfl | rfl
  · exact sh_29 h
  · exact sh_63 h
theorem pg_s28 {S : lm_S} {p : Nat} (h : lp_shape S) (hp : p = 2 ∨ p = 36) : S.2.2 (p + 28) = (21, 168) := by
  rcases hp with rfl | rfl
  · exact sh_30 h
  · exact sh_64 h
theorem pg_s29 {S : lm_S} {p : Nat} (h : lp_shape S) (hp : p = 2 ∨ p = 36) : S.2.2 (p + 29) = (21, 168) := by
  rcases hp with rfl | rfl
  · exact sh_31 h
  · exact sh_65 h
theorem pg_s30 {S : lm_S} {p : Nat} (h : lp_shape S) (hp : p = 2 ∨ p = 36) : S.2.2 (p + 30) = (21, 168) := by
  rcases hp with rfl | rfl
  · exact sh_32 h
  · exact sh_66 h
theorem pg_s31 {S : lm_S} {p : Nat} (h : lp_shape S) (hp : p = 2 ∨ p = 36) : S.2.2 (p + 31) = (21, 168) := by
  rcases hp with rfl | rfl
  · exact sh_33 h
  · exact sh_67 h
theorem pg_s32 {S : lm_S} {p : Nat} (h : lp_shape S) (hp : p = 2 ∨ p = 36) : S.2.2 (p + 32) = (21, 168) := by
  rcases hp with rfl | rfl
  · exact sh_34 h
  · exact sh_68 h
theorem pg_s33 {S : lm_S} {p : Nat} (h : lp_shape S) (hp : p = 2 ∨ p = 36) : S.2.2 (p + 33) = (21, 168) := by
  rcases hp with rfl | rfl
  · exact sh_35 h
  · exact sh_69 h
theorem pg_r0_0 {R : lm_R} {p : Nat} (h : lp_refs R) (hp : p = 2 ∨ p = 36) : R (p + 0) 0 = .ref (p + 1) := by
  rcases hp with rfl | rfl
  · exact rf_2_0 h
  · exact rf_36_0 h
theorem pg_r_0 {R : lm_R} {p : Nat} (h : lp_refs R) (hp : p = 2 ∨ p = 36) : R p 0 = .ref (p + 1) := by
  rcases hp with rfl | rfl
  · exact rf_2_0 h
  · exact rf_36_0 h
theorem pg_r0_1 {R : lm_R} {p : Nat} (h : lp_refs R) (hp : p = 2 ∨ p = 36) : R (p + 0) 1 = .ref (p + 7) := by
  rcases hp with rfl | rfl
  · exact rf_2_1 h
  · exact rf_36_1 h
theorem pg_r_1 {R : lm_R} {p : Nat} (h : lp_refs R) (hp : p = 2 ∨ p = 36) : R p 1 = .ref (p + 7) := by
  rcases hp with rfl | rfl
  · exact rf_2_1 h
  · exact rf_36_1 h
theorem pg_r0_2 {R : lm_R} {p : Nat} (h : lp_refs R) (hp : p = 2 ∨ p = 36) : R (p + 0) 2 = .ref (p + 20) := by
  rcases hp with rfl | rfl
  · exact rf_2_2 h
  · exact rf_36_2 h
theorem pg_r_2 {R : lm_R} {p : Nat} (h : lp_refs R) (hp : p = 2 ∨ p = 36) : R p 2 = .ref (p + 20) := by
  rcases hp with rfl | rfl
  · exact rf_2_2 h
  · exact rf_36_2 h
theorem pg_r0_3 {R : lm_R} {p : Nat} (h : lp_refs R) (hp : p = 2 ∨ p = 36) : R (p + 0) 3 = .ref (p + 27) := by
  rcases hp with rfl | rfl
  · exact rf_2_3 h
  · exact rf_36_3 h
theorem pg_r_3 {R : lm_R} {p : Nat} (h : lp_refs R) (hp : p = 2 ∨ p = 36) : R p 3 = .ref (p + 27) := by
  rcases hp with rfl | rfl
  · exact rf_2_3 h
  · exact rf_36_3 h
theorem pg_r1_0 {R : lm_R} {p : Nat} (h : lp_refs R) (hp : p = 2 ∨ p = 36) : R (p + 1) 0 = .ref (p + 2) := by
  rcases hp with rfl | rfl
  · exact rf_3_0 h
  · exact rf_37_0 h
theorem pg_r1_1 {R : lm_R} {p : Nat} (h : lp_refs R) (hp : p = 2 ∨ p = 36) : R (p + 1) 1 = .ref (p + 3) := by
  rcases hp with rfl | rfl
  · exact rf_3_1 h
  · exact rf_37_1 h
theorem pg_r1_2 {R : lm_R} {p : Nat} (h : lp_refs R) (hp : p = 2 ∨ p = 36) : R (p + 1) 2 = .ref (p + 4) := by
  rcases hp with rfl | rfl
  · exact rf_3_2 h
  · exact rf_37_2 h
theorem pg_r1_3 {R : lm_R} {p : Nat} (h : lp_refs R) (hp : p = 2 ∨ p = 36) : R (p + 1) 3 = .ref (p + 5) := by
  rcases hp with rfl | rfl
  · exact rf_3_3 h
  · exact rf_37_3 h
theorem pg_r1_4 {R : lm_R} {p : Nat} (h : lp_refs R) (hp : p = 2 ∨ p = 36) : R (p + 1) 4 = .ref (p + 6) := by
  rcases hp with rfl | rfl
  · exact rf_3_4 h
  · exact rf_37_4 h
theorem pg_r7_0 {R : lm_R} {p : Nat} (h : lp_refs R) (hp : p = 2 ∨ p = 36) : R (p + 7) 0 = .ref (p + 8) := by
  rcases hp with rfl | rfl
  · exact rf_9_0 h
  · exact rf_43_0 h
theorem pg_r7_1 {R : lm_R} {p : Nat} (h : lp_refs R) (hp : p = 2 ∨ p = 36) : R (p + 7) 1 = .ref (p + 9) := by
  rcases hp with rfl | rfl
  · exact rf_9_1 h
  · exact rf_43_1 h
theorem pg_r7_2 {R : lm_R} {p : Nat} (h : lp_refs R) (hp : p = 2 ∨ p = 36) : R (p + 7) 2 = .ref (p + 10) := by
  rcases hp with rfl | rfl
  · exact rf_9_2 h
  · exact rf_43_2 h
theorem pg_r7_3 {R : lm_R} {p : Nat} (h : lp_refs R) (hp : p = 2 ∨ p = 36) : R (p + 7) 3 = .ref (p + 11) := by
  rcases hp with rfl | rfl
  · exact rf_9_3 h
  · exact rf_43_3 h
theorem pg_r7_4 {R : lm_R} {p : Nat} (h : lp_refs R) (hp : p = 2 ∨ p = 36) : R (p + 7) 4 = .ref (p + 12) := by
  rcases hp with rfl | rfl
  · exact rf_9_4 h
  · exact rf_43_4 h
theorem pg_r7_5 {R : lm_R} {p : Nat} (h : lp_refs R) (hp : p = 2 ∨ p = 36) : R (p + 7) 5 = .ref (p + 13) := by
  rcases hp with rfl | rfl
  · exact rf_9_5 h
  · exact rf_43_5 h
theorem pg_r7_6 {R : lm_R} {p : Nat} (h : lp_refs R) (hp : p = 2 ∨ p = 36) : R (p + 7) 6 = .ref (p + 14) := by
  rcases hp with rfl | rfl
  · exact rf_9_6 h
  · exact rf_43_6 h
theorem pg_r7_7 {R : lm_R} {p : Nat} (h : lp_refs R) (hp : p = 2 ∨ p = 36) : R (p + 7) 7 = .ref (p + 15) := by
  rcases hp with rfl | rfl
  · exact rf_9_7 h
  · exact rf_43_7 h
theorem pg_r7_8 {R : lm_R} {p : Nat} (h : lp_refs R) (hp : p = 2 ∨ p = 36) : R (p + 7) 8 = .ref (p + 16) := by
  rcases hp with rfl | rfl
  · exact rf_9_8 h
  · exact rf_43_8 h
theorem pg_r7_9 {R : lm_R} {p : Nat} (h : lp_refs R) (hp : p = 2 ∨ p = 36) : R (p + 7) 9 = .ref (p + 17) := by
  rcases hp with rfl | rfl
  · exact rf_9_9 h
  · exact rf_43_9 h
theorem pg_r7_10 {R : lm_R} {p : Nat} (h : lp_refs R) (hp : p = 2 ∨ p = 36) : R (p + 7) 10 = .ref (p + 18) := by
  rcases hp with rfl | rfl
  · exact rf_9_10 h
  · exact rf_43_10 h
theorem pg_r7_11 {R : lm_R} {p : Nat} (h : lp_refs R) (hp : p = 2 ∨ p = 36) : R (p + 7) 11 = .ref (p + 19) := by
  rcases hp with rfl | rfl
  · exact rf_9_11 h
  · exact rf_43_11 h
theorem pg_r20_0 {R : lm_R} {p : Nat} (h : lp_refs R) (hp : p = 2 ∨ p = 36) : R (p + 20) 0 = .ref (p + 21) := by
  rcases hp with rfl | rfl
  · exact rf_22_0 h
  · exact rf_56_0 h
theorem pg_r20_1 {R : lm_R} {p : Nat} (h : lp_refs R) (hp : p = 2 ∨ p = 36) : R (p + 20) 1 = .ref (p + 22) := by
  rcases hp with rfl | rfl
  · exact rf_22_1 h
  · exact rf_56_1 h
theorem pg_r20_2 {R : lm_R} {p : Nat} (h : lp_refs R) (hp : p = 2 ∨ p = 36) : R (p + 20) 2 = .ref (p + 23) := by
  rcases hp with rfl | rfl
  · exact rf_22_2 h
  · exact rf_56_2 h
theorem pg_r20_3 {R : lm_R} {p : Nat} (h : lp_refs R) (hp : p = 2 ∨ p = 36) : R (p + 20) 3 = .ref (p + 24) := by
  rcases hp with rfl | rfl
  · exact rf_22_3 h
  · exact rf_56_3 h
theorem pg_r20_4 {R : lm_R} {p : Nat} (h : lp_refs R) (hp : p = 2 ∨ p = 36) : R (p + 20) 4 = .ref (p + 25) := by
  rcases hp with rfl | rfl
  · exact rf_22_4 h
  · exact rf_56_4 h
theorem pg_r20_5 {R : lm_R} {p : Nat} (h : lp_refs R) (hp : p = 2 ∨ p = 36) : R (p + 20) 5 = .ref (p + 26) := by
  rcases hp with rfl | rfl
  · exact rf_22_5 h
  · exact rf_56_5 h
theorem pg_r27_0 {R : lm_R} {p : Nat} (h : lp_refs R) (hp : p = 2 ∨ p = 36) : R (p + 27) 0 = .ref (p + 28) := by
  rcases hp with rfl | rfl
  · exact rf_29_0 h
  · exact rf_63_0 h
theorem pg_r27_1 {R : lm_R} {p : Nat} (h : lp_refs R) (hp : p = 2 ∨ p = 36) : R (p + 27) 1 = .ref (p + 29) := by
  rcases hp with rfl | rfl
  · exact rf_29_1 h
  · exact rf_63_1 h
theorem pg_r27_2 {R : lm_R} {p : Nat} (h : lp_refs R) (hp : p = 2 ∨ p = 36) : R (p + 27) 2 = .ref (p + 30) := by
  rcases hp with rfl | rfl
  · exact rf_29_2 h
  · exact rf_63_2 h
theorem pg_r27_3 {R : lm_R} {p : Nat} (h : lp_refs R) (hp : p = 2 ∨ p = 36) : R (p + 27) 3 = .ref (p + 31) := by
  rcases hp with rfl | rfl
  · exact rf_29_3 h
  · exact rf_63_3 h
theorem pg_r27_4 {R : lm_R} {p : Nat} (h : lp_refs R) (hp : p = 2 ∨ p = 36) : R (p + 27) 4 = .ref (p + 32) := by
  rcases hp with rfl | rfl
  · exact rf_29_4 h
  · exact rf_63_4 h
theorem pg_r27_5 {R : lm_R} {p : Nat} (h : lp_refs R) (hp : p = 2 ∨ p = 36) : R (p + 27) 5 = .ref (p + 33) := by
  rcases hp with rfl | rfl
  · exact rf_29_5 h
  · exact rf_63_5 h
theorem ru_s0 {S : lm_S} {p : Nat} (h : lp_shape S) (hp : p = 29 ∨ p = 63 ∨ p = 81) : S.2.2 (p + 0) = (4, 0) := by
  rcases hp with rfl | rfl | rfl
  · exact sh_29 h
  · exact sh_63 h
  · exact sh_81 h
theorem ru_s {S : lm_S} {p : Nat} (h : lp_shape S) (hp : p = 29 ∨ p = 63 ∨ p = 81) : S.2.2 p = (4, 0) := by
  rcases hp with rfl | rfl | rfl
  · exact sh_29 h
  · exact sh_63 h
  · exact sh_81 h
theorem ru_s1 {S : lm_S} {p : Nat} (h : lp_shape S) (hp : p = 29 ∨ p = 63 ∨ p = 81) : S.2.2 (p + 1) = (21, 168) := by
  rcases hp with rfl | rfl | rfl
  · exact sh_30 h
  · exact sh_64 h
  · exact sh_82 h
theorem ru_s2 {S : lm_S} {p : Nat} (h : lp_shape S) (hp : p = 29 ∨ p = 63 ∨ p = 81) : S.2.2 (p + 2) = (21, 168) := by
  rcases hp with rfl | rfl | rfl
  · exact sh_31 h
  · exact sh_65 h
  · exact sh_83 h
theorem ru_s3 {S : lm_S} {p : Nat} (h : lp_shape S) (hp : p = 29 ∨ p = 63 ∨ p = 81) : S.2.2 (p + 3) = (21, 168) := by
  rcases hp with rfl | rfl | rfl
  · exact sh_32 h
  · exact sh_66 h
  · exact sh_84 h
theorem ru_s4 {S : lm_S} {p : Nat} (h : lp_shape S) (hp : p = 29 ∨ p = 63 ∨ p = 81) : S.2.2 (p + 4) = (21, 168) := by
  rcases hp with rfl | rfl | rfl
  · exact sh_33 h
  · exact sh_67 h
  · exact sh_85 h
theorem ru_s5 {S : lm_S} {p : Nat} (h : lp_shape S) (hp : p = 29 ∨ p = 63 ∨ p = 81) : S.2.2 (p + 5) = (21, 168) := by
  rcases hp with rfl | rfl | rfl
  · exact sh_34 h
  · exact sh_68 h
  · exact sh_86 h
theorem ru_s6 {S : lm_S} {p : Nat} (h : lp_shape S) (hp : p = 29 ∨ p = 63 ∨ p = 81) : S.2.2 (p + 6) = (21, 168) := by
  rcases hp with rfl | rfl | rfl
  · exact sh_35 h
  · exact sh_69 h
  · exact sh_87 h
theorem ru_r0_0 {R : lm_R} {p : Nat} (h : lp_refs R) (hp : p = 29 ∨ p = 63 ∨ p = 81) : R (p + 0) 0 = .ref (p + 1) := by
  rcases hp with rfl | rfl | rfl
  · exact rf_29_0 h
  · exact rf_63_0 h
  · exact rf_81_0 h
theorem ru_r_0 {R : lm_R} {p : Nat} (h : lp_refs R) (hp : p = 29 ∨ p = 63 ∨ p = 81) : R p 0 = .ref (p + 1) := by
  rcases hp with rfl | rfl | rfl
  · exact rf_29_0 h
  · exact rf_63_0 h
  · exact rf_81_0 h
theorem ru_r0_1 {R : lm_R} {p : Nat} (h : lp_refs R) (hp : p = 29 ∨ p = 63 ∨ p = 81) : R (p + 0) 1 = .ref (p + 2) := by
  rcases hp with rfl | rfl | rfl
  · exact rf_29_1 h
  · exact rf_63_1 h
  · exact rf_81_1 h
theorem ru_r_1 {R : lm_R} {p : Nat} (h : lp_refs R) (hp : p = 29 ∨ p = 63 ∨ p = 81) : R p 1 = .ref (p + 2) := by
  rcases hp with rfl | rfl | rfl
  · exact rf_29_1 h
  · exact rf_63_1 h
  · exact rf_81_1 h
theorem ru_r0_2 {R : lm_R} {p : Nat} (h : lp_refs R) (hp : p = 29 ∨ p = 63 ∨ p = 81) : R (p + 0) 2 = .ref (p + 3) := by
  rcases hp with rfl | rfl | rfl
  · exact rf_29_2 h
  · exact rf_63_2 h
  · exact rf_81_2 h
theorem ru_r_2 {R : lm_R} {p : Nat} (h : lp_refs R) (hp : p = 29 ∨ p = 63 ∨ p = 81) : R p 2 = .ref (p + 3) := by
  rcases hp with rfl | rfl | rfl
  · exact rf_29_2 h
  · exact rf_63_2 h
  · exact rf_81_2 h
theorem ru_r0_3 {R : lm_R} {p : Nat} (h : lp_refs R) (hp : p = 29 ∨ p = 63 ∨ p = 81) : R (p + 0) 3 = .ref (p + 4) := by
  rcases hp with rfl | rfl | rfl
  · exact rf_29_3 h
  · exact rf_63_3 h
  · exact rf_81_3 h
theorem ru_r_3 {R : lm_R} {p : Nat} (h : lp_refs R) (hp : p = 29 ∨ p = 63 ∨ p = 81) : R p 3 = .ref (p + 4) := by
  rcases hp with rfl | rfl | rfl
  · exact rf_29_3 h
  · exact rf_63_3 h
  · exact rf_81_3 h
theorem ru_r0_4 {R : lm_R} {p : Nat} (h : lp_refs R) (hp : p = 29 ∨ p = 63 ∨ p = 81) : R (p + 0) 4 = .ref (p + 5) := by
  rcases hp with rfl | rfl | rfl
  · exact rf_29_4 h
  · exact rf_63_4 h
  · exact rf_81_4 h
theorem ru_r_4 {R : lm_R} {p : Nat} (h : lp_refs R) (hp : p = 29 ∨ p = 63 ∨ p = 81) : R p 4 = .ref (p + 5) := by
  rcases hp with rfl | rfl | rfl
  · exact rf_29_4 h
  · exact rf_63_4 h
  · exact rf_81_4 h
theorem ru_r0_5 {R : lm_R} {p : Nat} (h : lp_refs R) (hp : p = 29 ∨ p = 63 ∨ p = 81) : R (p + 0) 5 = .ref (p + 6) := by
  rcases hp with rfl | rfl | rfl
  · exact rf_29_5 h
  · exact rf_63_5 h
  · exact rf_81_5 h
theorem ru_r_5 {R : lm_R} {p : Nat} (h : lp_refs R) (hp : p = 29 ∨ p = 63 ∨ p = 81) : R p 5 = .ref (p + 6) := by
  rcases hp with rfl | rfl | rfl
  · exact rf_29_5 h
  · exact rf_63_5 h
  · exact rf_81_5 h
theorem kb_m94 : (Int8.ofInt (-94)).toInt32 = (-94) := by decide +kernel
theorem kb_m92 : (Int8.ofInt (-92)).toInt32 = (-92) := by decide +kernel
theorem kb_m63 : (Int8.ofInt (-63)).toInt32 = (-63) := by decide +kernel
theorem kb_m46 : (Int8.ofInt (-46)).toInt32 = (-46) := by decide +kernel
theorem kb_m45 : (Int8.ofInt (-45)).toInt32 = (-45) := by decide +kernel
theorem kb_m42 : (Int8.ofInt (-42)).toInt32 = (-42) := by decide +kernel
theorem kb_m41 : (Int8.ofInt (-41)).toInt32 = (-41) := by decide +kernel
theorem kb_m33 : (Int8.ofInt (-33)).toInt32 = (-33) := by decide +kernel
theorem kb_m10 : (Int8.ofInt (-10)).toInt32 = (-10) := by decide +kernel
theorem kb_m9 : (Int8.ofInt (-9)).toInt32 = (-9) := by decide +kernel
theorem kb_m4 : (Int8.ofInt (-4)).toInt32 = (-4) := by decide +kernel
theorem kb_m3 : (Int8.ofInt (-3)).toInt32 = (-3) := by decide +kernel
theorem kb_m2 : (Int8.ofInt (-2)).toInt32 = (-2) := by decide +kernel
theorem kb_6 : (Int8.ofInt 6).toInt32 = 6 := by decide +kernel
theorem kb_7 : (Int8.ofInt 7).toInt32 = 7 := by decide +kernel
theorem kb_8 : (Int8.ofInt 8).toInt32 = 8 := by decide +kernel
theorem kb_9 : (Int8.ofInt 9).toInt32 = 9 := by decide +kernel
theorem kb_10 : (Int8.ofInt 10).toInt32 = 10 := by decide +kernel
theorem kb_11 : (Int8.ofInt 11).toInt32 = 11 := by decide +kernel
theorem kb_12 : (Int8.ofInt 12).toInt32 = 12 := by decide +kernel
theorem kb_13 : (Int8.ofInt 13).toInt32 = 13 := by decide +kernel
theorem kb_14 : (Int8.ofInt 14).toInt32 = 14 := by decide +kernel
theorem kb_15 : (Int8.ofInt 15).toInt32 = 15 := by decide +kernel
theorem kb_16 : (Int8.ofInt 16).toInt32 = 16 := by decide +kernel
theorem kb_17 : (Int8.ofInt 17).toInt32 = 17 := by decide +kernel
theorem kb_18 : (Int8.ofInt 18).toInt32 = 18 := by decide +kernel
theorem kb_19 : (Int8.ofInt 19).toInt32 = 19 := by decide +kernel
theorem kb_20 : (Int8.ofInt 20).toInt32 = 20 := by decide +kernel
theorem kb_21 : (Int8.ofInt 21).toInt32 = 21 := by decide +kernel
theorem kb_22 : (Int8.ofInt 22).toInt32 = 22 := by decide +kernel
theorem kb_23 : (Int8.ofInt 23).toInt32 = 23 := by decide +kernel
theorem kb_24 : (Int8.ofInt 24).toInt32 = 24 := by decide +kernel
theorem kb_26 : (Int8.ofInt 26).toInt32 = 26 := by decide +kernel
theorem kb_32 : (Int8.ofInt 32).toInt32 = 32 := by decide +kernel
theorem kb_33 : (Int8.ofInt 33).toInt32 = 33 := by decide +kernel
theorem kb_34 : (Int8.ofInt 34).toInt32 = 34 := by decide +kernel
theorem kb_38 : (Int8.ofInt 38).toInt32 = 38 := by decide +kernel
theorem kb_40 : (Int8.ofInt 40).toInt32 = 40 := by decide +kernel
theorem kb_41 : (Int8.ofInt 41).toInt32 = 41 := by decide +kernel
theorem kb_43 : (Int8.ofInt 43).toInt32 = 43 := by decide +kernel
theorem kb_44 : (Int8.ofInt 44).toInt32 = 44 := by decide +kernel
theorem kb_45 : (Int8.ofInt 45).toInt32 = 45 := by decide +kernel
theorem kb_46 : (Int8.ofInt 46).toInt32 = 46 := by decide +kernel
theorem kb_48 : (Int8.ofInt 48).toInt32 = 48 := by decide +kernel
theorem kb_57 : (Int8.ofInt 57).toInt32 = 57 := by decide +kernel
theorem kb_58 : (Int8.ofInt 58).toInt32 = 58 := by decide +kernel
theorem kb_59 : (Int8.ofInt 59).toInt32 = 59 := by decide +kernel
theorem kb_60 : (Int8.ofInt 60).toInt32 = 60 := by decide +kernel
theorem kb_61 : (Int8.ofInt 61).toInt32 = 61 := by decide +kernel
theorem kb_62 : (Int8.ofInt 62).toInt32 = 62 := by decide +kernel
theorem kb_64 : (Int8.ofInt 64).toInt32 = 64 := by decide +kernel
theorem kb_80 : (Int8.ofInt 80).toInt32 = 80 := by decide +kernel
theorem kb_81 : (Int8.ofInt 81).toInt32 = 81 := by decide +kernel
theorem kb_91 : (Int8.ofInt 91).toInt32 = 91 := by decide +kernel
theorem kb_92 : (Int8.ofInt 92).toInt32 = 92 := by decide +kernel
theorem kb_93 : (Int8.ofInt 93).toInt32 = 93 := by decide +kernel
theorem kb_97 : (Int8.ofInt 97).toInt32 = 97 := by decide +kernel
theorem kb_100 : (Int8.ofInt 100).toInt32 = 100 := by decide +kernel
theorem kb_104 : (Int8.ofInt 104).toInt32 = 104 := by decide +kernel
theorem kb_122 : (Int8.ofInt 122).toInt32 = 122 := by decide +kernel
theorem kb_126 : (Int8.ofInt 126).toInt32 = 126 := by decide +kernel
theorem ki_m8 : Int32.ofInt (-8) = (-8) := by decide +kernel
theorem ki_m2 : Int32.ofInt (-2) = (-2) := by decide +kernel
theorem ki_m1 : Int32.ofInt (-1) = (-1) := by decide +kernel
theorem ki_0 : Int32.ofInt 0 = 0 := by decide +kernel
theorem ki_1 : Int32.ofInt 1 = 1 := by decide +kernel
theorem ki_2 : Int32.ofInt 2 = 2 := by decide +kernel
theorem ki_3 : Int32.ofInt 3 = 3 := by decide +kernel
theorem ki_4 : Int32.ofInt 4 = 4 := by decide +kernel
theorem ki_5 : Int32.ofInt 5 = 5 := by decide +kernel
theorem ks_160 : (Int16.ofInt 160).toInt32 = 160 := by decide +kernel
theorem ks_168 : (Int16.ofInt 168).toInt32 = 168 := by decide +kernel
theorem ks_240 : (Int16.ofInt 240).toInt32 = 240 := by decide +kernel
theorem ks_242 : (Int16.ofInt 242).toInt32 = 242 := by decide +kernel
theorem ks_255 : (Int16.ofInt 255).toInt32 = 255 := by decide +kernel
theorem ks_264 : (Int16.ofInt 264).toInt32 = 264 := by decide +kernel
theorem ks_300 : (Int16.ofInt 300).toInt32 = 300 := by decide +kernel
theorem ks_320 : (Int16.ofInt 320).toInt32 = 320 := by decide +kernel
theorem ks_500 : (Int16.ofInt 500).toInt32 = 500 := by decide +kernel
theorem ks_600 : (Int16.ofInt 600).toInt32 = 600 := by decide +kernel
theorem ks_625 : (Int16.ofInt 625).toInt32 = 625 := by decide +kernel
theorem ks_626 : (Int16.ofInt 626).toInt32 = 626 := by decide +kernel
theorem ks_1200 : (Int16.ofInt 1200).toInt32 = 1200 := by decide +kernel
theorem ks_1256 : (Int16.ofInt 1256).toInt32 = 1256 := by decide +kernel
theorem ks_2000 : (Int16.ofInt 2000).toInt32 = 2000 := by decide +kernel
theorem ks_2504 : (Int16.ofInt 2504).toInt32 = 2504 := by decide +kernel
theorem ks_3040 : (Int16.ofInt 3040).toInt32 = 3040 := by decide +kernel
theorem ks_4000 : (Int16.ofInt 4000).toInt32 = 4000 := by decide +kernel
theorem ks_6000 : (Int16.ofInt 6000).toInt32 = 6000 := by decide +kernel
theorem ks_12000 : (Int16.ofInt 12000).toInt32 = 12000 := by decide +kernel
theorem kl_0 : Int64.ofNat ((0 : Fin 2) : Nat) = 0 := by decide +kernel
theorem kl_1 : Int64.ofNat ((1 : Fin 2) : Nat) = 1 := by decide +kernel
theorem ml_0 : lm_ml 0 = 1 := by decide +kernel
theorem rt_0 : lm_rt 0 = 0 := by decide +kernel
theorem ml_1 : lm_ml 1 = 1 := by decide +kernel
theorem rt_1 : lm_rt 1 = 0 := by decide +kernel
theorem ml_2 : lm_ml 2 = 2 := by decide +kernel
theorem rt_2 : lm_rt 2 = 2 := by decide +kernel
theorem ml_3 : lm_ml 3 = 4 := by decide +kernel
theorem rt_3 : lm_rt 3 = 1 := by decide +kernel
theorem ml_4 : lm_ml 4 = 5 := by decide +kernel
theorem rt_4 : lm_rt 4 = 1 := by decide +kernel
theorem ml_5 : lm_ml 5 = 3 := by decide +kernel
theorem rt_5 : lm_rt 5 = 0 := by decide +kernel
theorem ml_6 : lm_ml 6 = 4 := by decide +kernel
theorem rt_6 : lm_rt 6 = 0 := by decide +kernel
theorem ml_7 : lm_ml 7 = 3 := by decide +kernel
theorem rt_7 : lm_rt 7 = 0 := by decide +kernel
theorem ml_8 : lm_ml 8 = 2 := by decide +kernel
theorem rt_8 : lm_rt 8 = 0 := by decide +kernel
theorem ml_9 : lm_ml 9 = 3 := by decide +kernel
theorem rt_9 : lm_rt 9 = 1 := by decide +kernel
theorem ml_10 : lm_ml 10 = 2 := by decide +kernel
theorem rt_10 : lm_rt 10 = 0 := by decide +kernel
theorem ml_11 : lm_ml 11 = 1 := by decide +kernel
theorem rt_11 : lm_rt 11 = 0 := by decide +kernel
theorem ml_12 : lm_ml 12 = 2 := by decide +kernel
theorem rt_12 : lm_rt 12 = 2 := by decide +kernel
theorem ml_13 : lm_ml 13 = 2 := by decide +kernel
theorem rt_13 : lm_rt 13 = 1 := by decide +kernel
theorem ml_14 : lm_ml 14 = 2 := by decide +kernel
theorem rt_14 : lm_rt 14 = 1 := by decide +kernel
theorem ml_15 : lm_ml 15 = 2 := by decide +kernel
theorem rt_15 : lm_rt 15 = 1 := by decide +kernel
theorem ml_16 : lm_ml 16 = 3 := by decide +kernel
theorem rt_16 : lm_rt 16 = 1 := by decide +kernel
theorem ml_17 : lm_ml 17 = 5 := by decide +kernel
theorem rt_17 : lm_rt 17 = 0 := by decide +kernel
theorem ml_18 : lm_ml 18 = 6 := by decide +kernel
theorem rt_18 : lm_rt 18 = 0 := by decide +kernel
theorem ml_19 : lm_ml 19 = 4 := by decide +kernel
theorem rt_19 : lm_rt 19 = 0 := by decide +kernel
theorem ml_20 : lm_ml 20 = 6 := by decide +kernel
theorem rt_20 : lm_rt 20 = 0 := by decide +kernel
theorem ml_21 : lm_ml 21 = 4 := by decide +kernel
theorem rt_21 : lm_rt 21 = 2 := by decide +kernel
theorem ml_22 : lm_ml 22 = 6 := by decide +kernel
theorem rt_22 : lm_rt 22 = 0 := by decide +kernel
theorem ml_23 : lm_ml 23 = 5 := by decide +kernel
theorem rt_23 : lm_rt 23 = 0 := by decide +kernel
theorem ml_24 : lm_ml 24 = 5 := by decide +kernel
theorem rt_24 : lm_rt 24 = 0 := by decide +kernel
theorem ml_25 : lm_ml 25 = 6 := by decide +kernel
theorem rt_25 : lm_rt 25 = 0 := by decide +kernel
theorem ml_26 : lm_ml 26 = 6 := by decide +kernel
theorem rt_26 : lm_rt 26 = 0 := by decide +kernel
theorem ml_27 : lm_ml 27 = 1 := by decide +kernel
theorem rt_27 : lm_rt 27 = 0 := by decide +kernel
theorem ml_28 : lm_ml 28 = 1 := by decide +kernel
theorem rt_28 : lm_rt 28 = 1 := by decide +kernel
theorem ml_29 : lm_ml 29 = 4 := by decide +kernel
theorem rt_29 : lm_rt 29 = 2 := by decide +kernel
theorem ml_30 : lm_ml 30 = 5 := by decide +kernel
theorem rt_30 : lm_rt 30 = 1 := by decide +kernel
theorem ml_31 : lm_ml 31 = 5 := by decide +kernel
theorem rt_31 : lm_rt 31 = 0 := by decide +kernel
theorem ml_32 : lm_ml 32 = 1 := by decide +kernel
theorem rt_32 : lm_rt 32 = 0 := by decide +kernel
theorem ml_33 : lm_ml 33 = 2 := by decide +kernel
theorem rt_33 : lm_rt 33 = 0 := by decide +kernel
theorem ml_34 : lm_ml 34 = 6 := by decide +kernel
theorem rt_34 : lm_rt 34 = 1 := by decide +kernel
theorem ml_35 : lm_ml 35 = 3 := by decide +kernel
theorem rt_35 : lm_rt 35 = 2 := by decide +kernel
theorem ml_36 : lm_ml 36 = 4 := by decide +kernel
theorem rt_36 : lm_rt 36 = 1 := by decide +kernel
theorem ml_37 : lm_ml 37 = 3 := by decide +kernel
theorem rt_37 : lm_rt 37 = 2 := by decide +kernel
theorem ml_38 : lm_ml 38 = 6 := by decide +kernel
theorem rt_38 : lm_rt 38 = 2 := by decide +kernel
theorem ml_39 : lm_ml 39 = 1 := by decide +kernel
theorem rt_39 : lm_rt 39 = 0 := by decide +kernel
theorem ml_40 : lm_ml 40 = 4 := by decide +kernel
theorem rt_40 : lm_rt 40 = 1 := by decide +kernel
theorem ml_41 : lm_ml 41 = 2 := by decide +kernel
theorem rt_41 : lm_rt 41 = 0 := by decide +kernel
theorem ml_42 : lm_ml 42 = 1 := by decide +kernel
theorem rt_42 : lm_rt 42 = 0 := by decide +kernel
theorem ml_43 : lm_ml 43 = 1 := by decide +kernel
theorem rt_43 : lm_rt 43 = 0 := by decide +kernel
theorem ml_44 : lm_ml 44 = 2 := by decide +kernel
theorem rt_44 : lm_rt 44 = 2 := by decide +kernel
theorem ml_45 : lm_ml 45 = 1 := by decide +kernel
theorem rt_45 : lm_rt 45 = 2 := by decide +kernel
theorem ml_46 : lm_ml 46 = 2 := by decide +kernel
theorem rt_46 : lm_rt 46 = 1 := by decide +kernel
theorem ml_47 : lm_ml 47 = 2 := by decide +kernel
theorem rt_47 : lm_rt 47 = 2 := by decide +kernel
theorem ml_48 : lm_ml 48 = 2 := by decide +kernel
theorem rt_48 : lm_rt 48 = 0 := by decide +kernel
theorem ml_49 : lm_ml 49 = 2 := by decide +kernel
theorem rt_49 : lm_rt 49 = 1 := by decide +kernel
theorem ml_50 : lm_ml 50 = 4 := by decide +kernel
theorem rt_50 : lm_rt 50 = 1 := by decide +kernel
theorem ml_51 : lm_ml 51 = 3 := by decide +kernel
theorem rt_51 : lm_rt 51 = 1 := by decide +kernel
theorem ml_52 : lm_ml 52 = 4 := by decide +kernel
theorem rt_52 : lm_rt 52 = 1 := by decide +kernel
theorem ml_53 : lm_ml 53 = 3 := by decide +kernel
theorem rt_53 : lm_rt 53 = 1 := by decide +kernel
theorem ml_54 : lm_ml 54 = 3 := by decide +kernel
theorem rt_54 : lm_rt 54 = 1 := by decide +kernel
theorem ml_55 : lm_ml 55 = 8 := by decide +kernel
theorem rt_55 : lm_rt 55 = 1 := by decide +kernel
theorem ml_56 : lm_ml 56 = 1 := by decide +kernel
theorem rt_56 : lm_rt 56 = 1 := by decide +kernel
theorem ml_57 : lm_ml 57 = 5 := by decide +kernel
theorem rt_57 : lm_rt 57 = 1 := by decide +kernel
theorem ml_58 : lm_ml 58 = 1 := by decide +kernel
theorem rt_58 : lm_rt 58 = 2 := by decide +kernel
theorem ml_59 : lm_ml 59 = 3 := by decide +kernel
theorem rt_59 : lm_rt 59 = 1 := by decide +kernel
theorem ml_60 : lm_ml 60 = 5 := by decide +kernel
theorem rt_60 : lm_rt 60 = 1 := by decide +kernel
theorem ml_61 : lm_ml 61 = 7 := by decide +kernel
theorem rt_61 : lm_rt 61 = 1 := by decide +kernel
theorem ml_62 : lm_ml 62 = 4 := by decide +kernel
theorem rt_62 : lm_rt 62 = 1 := by decide +kernel
theorem ml_63 : lm_ml 63 = 1 := by decide +kernel
theorem rt_63 : lm_rt 63 = 0 := by decide +kernel
theorem ml_64 : lm_ml 64 = 1 := by decide +kernel
theorem rt_64 : lm_rt 64 = 1 := by decide +kernel
theorem ml_65 : lm_ml 65 = 2 := by decide +kernel
theorem rt_65 : lm_rt 65 = 1 := by decide +kernel
theorem ml_66 : lm_ml 66 = 2 := by decide +kernel
theorem rt_66 : lm_rt 66 = 1 := by decide +kernel
theorem ml_67 : lm_ml 67 = 1 := by decide +kernel
theorem rt_67 : lm_rt 67 = 1 := by decide +kernel
theorem ml_68 : lm_ml 68 = 2 := by decide +kernel
theorem rt_68 : lm_rt 68 = 1 := by decide +kernel
theorem ml_69 : lm_ml 69 = 6 := by decide +kernel
theorem rt_69 : lm_rt 69 = 0 := by decide +kernel
theorem ml_70 : lm_ml 70 = 8 := by decide +kernel
theorem rt_70 : lm_rt 70 = 0 := by decide +kernel
theorem ml_71 : lm_ml 71 = 2 := by decide +kernel
theorem rt_71 : lm_rt 71 = 0 := by decide +kernel
theorem ml_72 : lm_ml 72 = 10 := by decide +kernel
theorem rt_72 : lm_rt 72 = 0 := by decide +kernel
theorem ml_73 : lm_ml 73 = 4 := by decide +kernel
theorem rt_73 : lm_rt 73 = 0 := by decide +kernel
theorem ml_74 : lm_ml 74 = 6 := by decide +kernel
theorem rt_74 : lm_rt 74 = 0 := by decide +kernel
theorem ml_75 : lm_ml 75 = 6 := by decide +kernel
theorem rt_75 : lm_rt 75 = 0 := by decide +kernel
theorem ml_76 : lm_ml 76 = 4 := by decide +kernel
theorem rt_76 : lm_rt 76 = 0 := by decide +kernel
theorem ml_77 : lm_ml 77 = 4 := by decide +kernel
theorem rt_77 : lm_rt 77 = 0 := by decide +kernel
theorem ml_78 : lm_ml 78 = 1 := by decide +kernel
theorem rt_78 : lm_rt 78 = 0 := by decide +kernel
theorem ml_79 : lm_ml 79 = 6 := by decide +kernel
theorem rt_79 : lm_rt 79 = 2 := by decide +kernel
theorem ml_80 : lm_ml 80 = 3 := by decide +kernel
theorem rt_80 : lm_rt 80 = 0 := by decide +kernel
theorem ml_81 : lm_ml 81 = 4 := by decide +kernel
theorem rt_81 : lm_rt 81 = 1 := by decide +kernel
theorem ml_82 : lm_ml 82 = 7 := by decide +kernel
theorem rt_82 : lm_rt 82 = 1 := by decide +kernel
theorem ml_83 : lm_ml 83 = 6 := by decide +kernel
theorem rt_83 : lm_rt 83 = 1 := by decide +kernel
theorem ml_84 : lm_ml 84 = 2 := by decide +kernel
theorem rt_84 : lm_rt 84 = 2 := by decide +kernel
theorem ml_85 : lm_ml 85 = 4 := by decide +kernel
theorem rt_85 : lm_rt 85 = 1 := by decide +kernel
theorem ml_86 : lm_ml 86 = 7 := by decide +kernel
theorem rt_86 : lm_rt 86 = 2 := by decide +kernel
theorem ml_87 : lm_ml 87 = 4 := by decide +kernel
theorem rt_87 : lm_rt 87 = 1 := by decide +kernel
theorem ml_88 : lm_ml 88 = 5 := by decide +kernel
theorem rt_88 : lm_rt 88 = 2 := by decide +kernel
theorem ml_89 : lm_ml 89 = 2 := by decide +kernel
theorem rt_89 : lm_rt 89 = 0 := by decide +kernel
theorem ml_90 : lm_ml 90 = 4 := by decide +kernel
theorem rt_90 : lm_rt 90 = 1 := by decide +kernel
theorem ml_91 : lm_ml 91 = 1 := by decide +kernel
theorem rt_91 : lm_rt 91 = 0 := by decide +kernel
theorem ml_92 : lm_ml 92 = 5 := by decide +kernel
theorem rt_92 : lm_rt 92 = 0 := by decide +kernel
theorem ml_93 : lm_ml 93 = 5 := by decide +kernel
theorem rt_93 : lm_rt 93 = 1 := by decide +kernel
theorem ml_94 : lm_ml 94 = 7 := by decide +kernel
theorem rt_94 : lm_rt 94 = 1 := by decide +kernel
theorem ml_95 : lm_ml 95 = 5 := by decide +kernel
theorem rt_95 : lm_rt 95 = 1 := by decide +kernel
theorem ml_96 : lm_ml 96 = 7 := by decide +kernel
theorem rt_96 : lm_rt 96 = 1 := by decide +kernel
theorem ml_97 : lm_ml 97 = 7 := by decide +kernel
theorem rt_97 : lm_rt 97 = 1 := by decide +kernel
theorem ml_98 : lm_ml 98 = 6 := by decide +kernel
theorem rt_98 : lm_rt 98 = 1 := by decide +kernel
theorem ml_99 : lm_ml 99 = 3 := by decide +kernel
theorem rt_99 : lm_rt 99 = 1 := by decide +kernel
theorem ml_100 : lm_ml 100 = 5 := by decide +kernel
theorem rt_100 : lm_rt 100 = 0 := by decide +kernel
theorem ml_101 : lm_ml 101 = 4 := by decide +kernel
theorem rt_101 : lm_rt 101 = 0 := by decide +kernel
theorem ml_102 : lm_ml 102 = 2 := by decide +kernel
theorem rt_102 : lm_rt 102 = 1 := by decide +kernel
theorem ml_103 : lm_ml 103 = 1 := by decide +kernel
theorem rt_103 : lm_rt 103 = 1 := by decide +kernel
theorem ml_104 : lm_ml 104 = 1 := by decide +kernel
theorem rt_104 : lm_rt 104 = 1 := by decide +kernel
theorem ml_105 : lm_ml 105 = 1 := by decide +kernel
theorem rt_105 : lm_rt 105 = 2 := by decide +kernel
theorem ml_106 : lm_ml 106 = 1 := by decide +kernel
theorem rt_106 : lm_rt 106 = 2 := by decide +kernel
theorem ml_107 : lm_ml 107 = 1 := by decide +kernel
theorem rt_107 : lm_rt 107 = 2 := by decide +kernel
theorem ml_108 : lm_ml 108 = 1 := by decide +kernel
theorem rt_108 : lm_rt 108 = 2 := by decide +kernel
theorem ml_109 : lm_ml 109 = 1 := by decide +kernel
theorem rt_109 : lm_rt 109 = 0 := by decide +kernel
theorem ml_110 : lm_ml 110 = 7 := by decide +kernel
theorem rt_110 : lm_rt 110 = 1 := by decide +kernel
theorem ml_111 : lm_ml 111 = 2 := by decide +kernel
theorem rt_111 : lm_rt 111 = 2 := by decide +kernel
theorem ml_112 : lm_ml 112 = 2 := by decide +kernel
theorem rt_112 : lm_rt 112 = 2 := by decide +kernel
theorem ml_113 : lm_ml 113 = 1 := by decide +kernel
theorem rt_113 : lm_rt 113 = 0 := by decide +kernel
theorem ml_114 : lm_ml 114 = 2 := by decide +kernel
theorem rt_114 : lm_rt 114 = 1 := by decide +kernel
theorem ml_115 : lm_ml 115 = 4 := by decide +kernel
theorem rt_115 : lm_rt 115 = 1 := by decide +kernel
theorem ml_116 : lm_ml 116 = 4 := by decide +kernel
theorem rt_116 : lm_rt 116 = 0 := by decide +kernel
theorem ml_117 : lm_ml 117 = 5 := by decide +kernel
theorem rt_117 : lm_rt 117 = 0 := by decide +kernel
theorem ml_118 : lm_ml 118 = 3 := by decide +kernel
theorem rt_118 : lm_rt 118 = 0 := by decide +kernel
theorem ml_119 : lm_ml 119 = 3 := by decide +kernel
theorem rt_119 : lm_rt 119 = 0 := by decide +kernel
theorem ml_120 : lm_ml 120 = 2 := by decide +kernel
theorem rt_120 : lm_rt 120 = 0 := by decide +kernel
theorem ml_121 : lm_ml 121 = 2 := by decide +kernel
theorem rt_121 : lm_rt 121 = 0 := by decide +kernel
theorem ml_122 : lm_ml 122 = 2 := by decide +kernel
theorem rt_122 : lm_rt 122 = 0 := by decide +kernel
theorem ml_123 : lm_ml 123 = 1 := by decide +kernel
theorem rt_123 : lm_rt 123 = 0 := by decide +kernel
theorem ml_124 : lm_ml 124 = 5 := by decide +kernel
theorem rt_124 : lm_rt 124 = 1 := by decide +kernel
theorem ml_125 : lm_ml 125 = 4 := by decide +kernel
theorem rt_125 : lm_rt 125 = 1 := by decide +kernel
theorem ml_126 : lm_ml 126 = 2 := by decide +kernel
theorem rt_126 : lm_rt 126 = 1 := by decide +kernel
theorem ml_127 : lm_ml 127 = 4 := by decide +kernel
theorem rt_127 : lm_rt 127 = 1 := by decide +kernel
theorem ml_128 : lm_ml 128 = 2 := by decide +kernel
theorem rt_128 : lm_rt 128 = 1 := by decide +kernel
theorem ml_129 : lm_ml 129 = 1 := by decide +kernel
theorem rt_129 : lm_rt 129 = 1 := by decide +kernel
theorem ml_130 : lm_ml 130 = 4 := by decide +kernel
theorem rt_130 : lm_rt 130 = 1 := by decide +kernel
theorem ml_131 : lm_ml 131 = 3 := by decide +kernel
theorem rt_131 : lm_rt 131 = 1 := by decide +kernel
theorem ml_132 : lm_ml 132 = 4 := by decide +kernel
theorem rt_132 : lm_rt 132 = 1 := by decide +kernel
theorem ml_133 : lm_ml 133 = 5 := by decide +kernel
theorem rt_133 : lm_rt 133 = 1 := by decide +kernel
theorem ml_134 : lm_ml 134 = 2 := by decide +kernel
theorem rt_134 : lm_rt 134 = 1 := by decide +kernel
theorem ml_135 : lm_ml 135 = 2 := by decide +kernel
theorem rt_135 : lm_rt 135 = 1 := by decide +kernel
theorem ml_136 : lm_ml 136 = 4 := by decide +kernel
theorem rt_136 : lm_rt 136 = 1 := by decide +kernel
theorem ml_137 : lm_ml 137 = 1 := by decide +kernel
theorem rt_137 : lm_rt 137 = 1 := by decide +kernel
theorem ml_138 : lm_ml 138 = 3 := by decide +kernel
theorem rt_138 : lm_rt 138 = 1 := by decide +kernel
theorem ml_139 : lm_ml 139 = 3 := by decide +kernel
theorem rt_139 : lm_rt 139 = 1 := by decide +kernel
theorem ml_140 : lm_ml 140 = 2 := by decide +kernel
theorem rt_140 : lm_rt 140 = 1 := by decide +kernel
theorem ml_141 : lm_ml 141 = 2 := by decide +kernel
theorem rt_141 : lm_rt 141 = 2 := by decide +kernel
theorem ml_142 : lm_ml 142 = 2 := by decide +kernel
theorem rt_142 : lm_rt 142 = 2 := by decide +kernel
theorem ml_143 : lm_ml 143 = 2 := by decide +kernel
theorem rt_143 : lm_rt 143 = 2 := by decide +kernel
theorem ml_144 : lm_ml 144 = 1 := by decide +kernel
theorem rt_144 : lm_rt 144 = 2 := by decide +kernel
theorem ml_145 : lm_ml 145 = 2 := by decide +kernel
theorem rt_145 : lm_rt 145 = 2 := by decide +kernel
theorem ml_146 : lm_ml 146 = 1 := by decide +kernel
theorem rt_146 : lm_rt 146 = 0 := by decide +kernel
theorem ml_147 : lm_ml 147 = 5 := by decide +kernel
theorem rt_147 : lm_rt 147 = 1 := by decide +kernel
theorem ml_148 : lm_ml 148 = 2 := by decide +kernel
theorem rt_148 : lm_rt 148 = 2 := by decide +kernel
theorem ml_149 : lm_ml 149 = 2 := by decide +kernel
theorem rt_149 : lm_rt 149 = 2 := by decide +kernel
theorem ml_150 : lm_ml 150 = 2 := by decide +kernel
theorem rt_150 : lm_rt 150 = 2 := by decide +kernel
theorem ml_151 : lm_ml 151 = 3 := by decide +kernel
theorem rt_151 : lm_rt 151 = 0 := by decide +kernel
theorem ml_152 : lm_ml 152 = 1 := by decide +kernel
theorem rt_152 : lm_rt 152 = 2 := by decide +kernel
theorem ml_153 : lm_ml 153 = 1 := by decide +kernel
theorem rt_153 : lm_rt 153 = 2 := by decide +kernel
theorem ml_154 : lm_ml 154 = 2 := by decide +kernel
theorem rt_154 : lm_rt 154 = 2 := by decide +kernel
theorem ml_155 : lm_ml 155 = 2 := by decide +kernel
theorem rt_155 : lm_rt 155 = 1 := by decide +kernel
theorem ml_156 : lm_ml 156 = 2 := by decide +kernel
theorem rt_156 : lm_rt 156 = 1 := by decide +kernel
theorem ml_157 : lm_ml 157 = 3 := by decide +kernel
theorem rt_157 : lm_rt 157 = 0 := by decide +kernel
theorem ml_158 : lm_ml 158 = 1 := by decide +kernel
theorem rt_158 : lm_rt 158 = 0 := by decide +kernel
theorem ml_159 : lm_ml 159 = 2 := by decide +kernel
theorem rt_159 : lm_rt 159 = 0 := by decide +kernel
theorem ml_160 : lm_ml 160 = 5 := by decide +kernel
theorem rt_160 : lm_rt 160 = 0 := by decide +kernel
theorem ml_161 : lm_ml 161 = 4 := by decide +kernel
theorem rt_161 : lm_rt 161 = 2 := by decide +kernel
theorem ml_162 : lm_ml 162 = 3 := by decide +kernel
theorem rt_162 : lm_rt 162 = 1 := by decide +kernel
theorem ml_163 : lm_ml 163 = 4 := by decide +kernel
theorem rt_163 : lm_rt 163 = 2 := by decide +kernel
theorem ml_164 : lm_ml 164 = 1 := by decide +kernel
theorem rt_164 : lm_rt 164 = 2 := by decide +kernel
theorem ml_165 : lm_ml 165 = 2 := by decide +kernel
theorem rt_165 : lm_rt 165 = 2 := by decide +kernel
theorem ml_166 : lm_ml 166 = 1 := by decide +kernel
theorem rt_166 : lm_rt 166 = 0 := by decide +kernel
theorem ml_167 : lm_ml 167 = 4 := by decide +kernel
theorem rt_167 : lm_rt 167 = 2 := by decide +kernel
theorem ml_168 : lm_ml 168 = 2 := by decide +kernel
theorem rt_168 : lm_rt 168 = 2 := by decide +kernel
theorem ml_169 : lm_ml 169 = 4 := by decide +kernel
theorem rt_169 : lm_rt 169 = 2 := by decide +kernel
theorem ml_170 : lm_ml 170 = 4 := by decide +kernel
theorem rt_170 : lm_rt 170 = 2 := by decide +kernel
theorem ml_171 : lm_ml 171 = 1 := by decide +kernel
theorem rt_171 : lm_rt 171 = 1 := by decide +kernel
theorem ml_172 : lm_ml 172 = 2 := by decide +kernel
theorem rt_172 : lm_rt 172 = 2 := by decide +kernel
theorem ml_173 : lm_ml 173 = 10 := by decide +kernel
theorem rt_173 : lm_rt 173 = 1 := by decide +kernel
theorem ml_174 : lm_ml 174 = 5 := by decide +kernel
theorem rt_174 : lm_rt 174 = 1 := by decide +kernel
theorem ml_175 : lm_ml 175 = 2 := by decide +kernel
theorem rt_175 : lm_rt 175 = 1 := by decide +kernel
theorem ml_176 : lm_ml 176 = 5 := by decide +kernel
theorem rt_176 : lm_rt 176 = 0 := by decide +kernel
theorem ml_177 : lm_ml 177 = 6 := by decide +kernel
theorem rt_177 : lm_rt 177 = 0 := by decide +kernel
theorem ml_178 : lm_ml 178 = 4 := by decide +kernel
theorem rt_178 : lm_rt 178 = 0 := by decide +kernel
theorem ml_179 : lm_ml 179 = 6 := by decide +kernel
theorem rt_179 : lm_rt 179 = 0 := by decide +kernel
theorem ml_180 : lm_ml 180 = 8 := by decide +kernel
theorem rt_180 : lm_rt 180 = 0 := by decide +kernel
theorem ml_181 : lm_ml 181 = 3 := by decide +kernel
theorem rt_181 : lm_rt 181 = 1 := by decide +kernel
theorem ml_182 : lm_ml 182 = 4 := by decide +kernel
theorem rt_182 : lm_rt 182 = 1 := by decide +kernel
theorem ml_183 : lm_ml 183 = 1 := by decide +kernel
theorem rt_183 : lm_rt 183 = 1 := by decide +kernel
theorem ml_184 : lm_ml 184 = 3 := by decide +kernel
theorem rt_184 : lm_rt 184 = 1 := by decide +kernel
theorem ml_185 : lm_ml 185 = 5 := by decide +kernel
theorem rt_185 : lm_rt 185 = 0 := by decide +kernel
theorem ml_186 : lm_ml 186 = 8 := by decide +kernel
theorem rt_186 : lm_rt 186 = 2 := by decide +kernel
theorem ml_187 : lm_ml 187 = 2 := by decide +kernel
theorem rt_187 : lm_rt 187 = 1 := by decide +kernel
theorem ml_188 : lm_ml 188 = 4 := by decide +kernel
theorem rt_188 : lm_rt 188 = 1 := by decide +kernel
theorem ml_189 : lm_ml 189 = 4 := by decide +kernel
theorem rt_189 : lm_rt 189 = 2 := by decide +kernel
theorem ml_190 : lm_ml 190 = 3 := by decide +kernel
theorem rt_190 : lm_rt 190 = 2 := by decide +kernel
theorem ml_191 : lm_ml 191 = 3 := by decide +kernel
theorem rt_191 : lm_rt 191 = 1 := by decide +kernel
theorem ml_192 : lm_ml 192 = 2 := by decide +kernel
theorem rt_192 : lm_rt 192 = 1 := by decide +kernel
theorem ml_193 : lm_ml 193 = 7 := by decide +kernel
theorem rt_193 : lm_rt 193 = 0 := by decide +kernel
theorem ml_194 : lm_ml 194 = 5 := by decide +kernel
theorem rt_194 : lm_rt 194 = 0 := by decide +kernel
theorem ml_195 : lm_ml 195 = 3 := by decide +kernel
theorem rt_195 : lm_rt 195 = 2 := by decide +kernel
theorem ml_196 : lm_ml 196 = 2 := by decide +kernel
theorem rt_196 : lm_rt 196 = 2 := by decide +kernel
theorem ml_197 : lm_ml 197 = 4 := by decide +kernel
theorem rt_197 : lm_rt 197 = 2 := by decide +kernel
theorem ml_198 : lm_ml 198 = 1 := by decide +kernel
theorem rt_198 : lm_rt 198 = 1 := by decide +kernel
theorem ml_199 : lm_ml 199 = 4 := by decide +kernel
theorem rt_199 : lm_rt 199 = 1 := by decide +kernel
theorem ml_200 : lm_ml 200 = 2 := by decide +kernel
theorem rt_200 : lm_rt 200 = 1 := by decide +kernel
theorem ml_201 : lm_ml 201 = 2 := by decide +kernel
theorem rt_201 : lm_rt 201 = 2 := by decide +kernel
theorem ml_202 : lm_ml 202 = 3 := by decide +kernel
theorem rt_202 : lm_rt 202 = 1 := by decide +kernel
theorem ml_203 : lm_ml 203 = 2 := by decide +kernel
theorem rt_203 : lm_rt 203 = 1 := by decide +kernel
theorem ml_204 : lm_ml 204 = 2 := by decide +kernel
theorem rt_204 : lm_rt 204 = 0 := by decide +kernel
theorem ml_205 : lm_ml 205 = 3 := by decide +kernel
theorem rt_205 : lm_rt 205 = 1 := by decide +kernel
theorem ml_206 : lm_ml 206 = 4 := by decide +kernel
theorem rt_206 : lm_rt 206 = 1 := by decide +kernel
theorem ml_207 : lm_ml 207 = 5 := by decide +kernel
theorem rt_207 : lm_rt 207 = 1 := by decide +kernel
theorem ml_208 : lm_ml 208 = 3 := by decide +kernel
theorem rt_208 : lm_rt 208 = 1 := by decide +kernel
theorem ml_209 : lm_ml 209 = 5 := by decide +kernel
theorem rt_209 : lm_rt 209 = 1 := by decide +kernel
theorem ml_210 : lm_ml 210 = 2 := by decide +kernel
theorem rt_210 : lm_rt 210 = 0 := by decide +kernel
theorem ml_211 : lm_ml 211 = 4 := by decide +kernel
theorem rt_211 : lm_rt 211 = 0 := by decide +kernel
theorem ml_212 : lm_ml 212 = 5 := by decide +kernel
theorem rt_212 : lm_rt 212 = 0 := by decide +kernel
theorem ml_213 : lm_ml 213 = 5 := by decide +kernel
theorem rt_213 : lm_rt 213 = 1 := by decide +kernel
theorem ml_214 : lm_ml 214 = 2 := by decide +kernel
theorem rt_214 : lm_rt 214 = 1 := by decide +kernel
theorem ml_215 : lm_ml 215 = 2 := by decide +kernel
theorem rt_215 : lm_rt 215 = 2 := by decide +kernel
theorem ml_216 : lm_ml 216 = 2 := by decide +kernel
theorem rt_216 : lm_rt 216 = 1 := by decide +kernel
theorem ml_217 : lm_ml 217 = 4 := by decide +kernel
theorem rt_217 : lm_rt 217 = 1 := by decide +kernel
theorem ml_218 : lm_ml 218 = 2 := by decide +kernel
theorem rt_218 : lm_rt 218 = 1 := by decide +kernel
theorem ml_219 : lm_ml 219 = 2 := by decide +kernel
theorem rt_219 : lm_rt 219 = 1 := by decide +kernel
theorem ml_220 : lm_ml 220 = 4 := by decide +kernel
theorem rt_220 : lm_rt 220 = 0 := by decide +kernel
theorem ml_221 : lm_ml 221 = 3 := by decide +kernel
theorem rt_221 : lm_rt 221 = 2 := by decide +kernel
theorem ml_222 : lm_ml 222 = 7 := by decide +kernel
theorem rt_222 : lm_rt 222 = 0 := by decide +kernel
theorem ml_223 : lm_ml 223 = 1 := by decide +kernel
theorem rt_223 : lm_rt 223 = 1 := by decide +kernel
theorem ml_224 : lm_ml 224 = 3 := by decide +kernel
theorem rt_224 : lm_rt 224 = 1 := by decide +kernel
theorem ml_225 : lm_ml 225 = 4 := by decide +kernel
theorem rt_225 : lm_rt 225 = 1 := by decide +kernel
theorem ml_226 : lm_ml 226 = 3 := by decide +kernel
theorem rt_226 : lm_rt 226 = 0 := by decide +kernel
theorem ml_227 : lm_ml 227 = 4 := by decide +kernel
theorem rt_227 : lm_rt 227 = 0 := by decide +kernel
theorem ml_228 : lm_ml 228 = 5 := by decide +kernel
theorem rt_228 : lm_rt 228 = 0 := by decide +kernel
theorem lm_rok_1 {x : Int32} : lm_rok 1 (some (.int x)) = true := rfl
theorem lm_rok_20 : lm_rok 2 (some (.int 0)) = true := rfl
theorem lm_rok_21 : lm_rok 2 (some (.int 1)) = true := rfl
theorem lm_rok_0 : lm_rok 0 none = true := rfl
/-- the ints that objects begin with -/
def lp_int0 : List (Nat × Nat × Int32) := [(0, 1, 0), (0, 4, 0), (2, 4, 0), (2, 5, 0), (2, 6, 0), (2, 8, 0), (2, 9, 0), (2, 10, 0), (3, 5, 0), (9, 12, 0), (22, 6, 0), (22, 7, 0), (22, 8, 11), (29, 6, 0), (29, 7, 0), (29, 8, 0), (36, 4, 0), (36, 5, 0), (36, 6, 0), (36, 8, 0), (36, 9, 0), (36, 10, 0), (37, 5, 0), (43, 12, 0), (56, 6, 0), (56, 7, 0), (56, 8, 11), (63, 6, 0), (63, 7, 0), (63, 8, 0), (70, 6, 0), (70, 7, 0), (77, 2, (-9)), (77, 3, 0), (77, 4, 0), (77, 5, 0), (80, 3, 0), (80, 4, 0), (81, 6, 0), (81, 7, 0), (81, 8, 0), (90, 1, 0), (90, 3, 0), (90, 5, 0), (90, 7, 0), (96, 1, 0), (96, 3, 0), (96, 4, 0), (96, 5, 0), (96, 6, 0), (96, 7, 0), (96, 9, 0), (96, 21, 0), (96, 27, 0), (96, 28, 0), (96, 31, 0), (96, 38, 0), (96, 39, 0), (96, 40, 0), (96, 41, 0), (96, 42, 0), (96, 43, 0), (96, 46, 0), (96, 47, 0), (96, 48, 0), (96, 49, 0), (96, 50, 0), (96, 51, 0), (96, 68, 0), (96, 75, 0), (96, 80, 0), (96, 82, 0), (96, 84, (-9)), (96, 85, 0), (96, 86, 0), (96, 88, 0), (96, 89, 0), (96, 90, 0), (96, 91, 0), (96, 92, 0), (96, 95, 0), (96, 98, 0), (96, 99, (-9))]
def lp_long0 : List (Nat × Nat × Int64) := [(23, 0, 1953658213), (23, 1, 439721161573), (23, 2, 7237492), (23, 3, 1751474532), (23, 4, 1952541036), (23, 5, 1853189228), (23, 6, 119182899770472), (23, 7, 6714228), (23, 8, 7564900), (23, 9, 26980), (23, 10, 1936224119), (57, 0, 1953658213), (57, 1, 439721161573), (57, 2, 7237492), (57, 3, 1751474532), (57, 4, 1952541036), (57, 5, 1853189228), (57, 6, 119182899770472), (57, 7, 6714228), (57, 8, 7564900), (57, 9, 26980), (57, 10, 1936224119), (140, 0, 1953658213), (140, 1, 439721161573), (140, 2, 7237492), (140, 3, 1751474532), (140, 4, 1952541036), (140, 5, 1853189228), (140, 6, 119182899770472), (140, 7, 6714228), (140, 8, 7564900), (140, 9, 26980), (140, 10, 1936224119)]
def lp_chk (M : lm_M) : Bool := M.1.1 == 162 && M.1.2.1 == 85709 && (List.range 162).all (fun o => decide (M.1.2.2 o = lp_tab.getD o (99, 0))) && lp_reft.all (fun q => decide (M.2.2.2 q.1 q.2.1 = .ref q.2.2)) && decide (M.2.2.2 0 2 = .ref 2) && decide (M.2.2.2 0 3 = .ref 36) && lp_int0.all (fun q => decide (M.2.1 q.1 q.2.1 = q.2.2)) && lp_long0.all (fun q => decide (M.2.2.1 q.1 q.2.1 = q.2.2)) && (List.range 168).all (fun r => decide (M.2.1 88 r = 1))
