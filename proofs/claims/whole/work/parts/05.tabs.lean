/-! every instruction of every method is as the tables have it -/
theorem tok_0 : okT' 0 = true := by decide +kernel
theorem tok_1 : okT' 1 = true := by decide +kernel
theorem tok_2 : okT' 2 = true := by decide +kernel
theorem tok_3 : okT' 3 = true := by decide +kernel
theorem tok_4 : okT' 4 = true := by decide +kernel
theorem tok_5 : okT' 5 = true := by decide +kernel
theorem tok_6 : okT' 6 = true := by decide +kernel
theorem tok_7 : okT' 7 = true := by decide +kernel
theorem tok_8 : okT' 8 = true := by decide +kernel
theorem tok_9 : okT' 9 = true := by decide +kernel
theorem tok_10 : okT' 10 = true := by decide +kernel
theorem tok_11 : okT' 11 = true := by decide +kernel
theorem tok_12 : okT' 12 = true := by decide +kernel
theorem tok_13 : okT' 13 = true := by decide +kernel
theorem tok_14 : okT' 14 = true := by decide +kernel
theorem tok_15 : okT' 15 = true := by decide +kernel
theorem tok_16 : okT' 16 = true := by decide +kernel
theorem tok_17 : okT' 17 = true := by decide +kernel
theorem tok_18 : okT' 18 = true := by decide +kernel
theorem tok_19 : okT' 19 = true := by decide +kernel
theorem tok_20 : okT' 20 = true := by decide +kernel
theorem tok_21 : okT' 21 = true := by decide +kernel
theorem tok_22 : okT' 22 = true := by decide +kernel
theorem tok_23 : okT' 23 = true := by decide +kernel
theorem tok_24 : okT' 24 = true := by decide +kernel
theorem tok_25 : okT' 25 = true := by decide +kernel
theorem tok_26 : okT' 26 = true := by decide +kernel
theorem tok_27 : okT' 27 = true := by decide +kernel
theorem tok_28 : okT' 28 = true := by decide +kernel
theorem tok_29 : okT' 29 = true := by decide +kernel
theorem tok_30 : okT' 30 = true := by decide +kernel
theorem tok_31 : okT' 31 = true := by decide +kernel
theorem tok_32 : okT' 32 = true := by decide +kernel
theorem tok_33 : okT' 33 = true := by decide +kernel
theorem tok_34 : okT' 34 = true := by decide +kernel
theorem tok_35 : okT' 35 = true := by decide +kernel
theorem tok_36 : okT' 36 = true := by decide +kernel
theorem tok_37 : okT' 37 = true := by decide +kernel
theorem tok_38 : okT' 38 = true := by decide +kernel
theorem tok_39 : okT' 39 = true := by decide +kernel
theorem tok_40 : okT' 40 = true := by decide +kernel
theorem tok_41 : okT' 41 = true := by decide +kernel
theorem tok_42 : okT' 42 = true := by decide +kernel
theorem tok_43 : okT' 43 = true := by decide +kernel
theorem tok_44 : okT' 44 = true := by decide +kernel
theorem tok_45 : okT' 45 = true := by decide +kernel
theorem tok_46 : okT' 46 = true := by decide +kernel
theorem tok_47 : okT' 47 = true := by decide +kernel
theorem tok_48 : okT' 48 = true := by decide +kernel
theorem tok_49 : okT' 49 = true := by decide +kernel
theorem tok_50 : okT' 50 = true := by decide +kernel
theorem tok_51 : okT' 51 = true := by decide +kernel
theorem tok_52 : okT' 52 = true := by decide +kernel
theorem tok_53 : okT' 53 = true := by decide +kernel
theorem tok_54 : okT' 54 = true := by decide +kernel
theorem tok_55 : okT' 55 = true := by decide +kernel
theorem tok_56 : okT' 56 = true := by decide +kernel
theorem tok_57 : okT' 57 = true := by decide +kernel
theorem tok_58 : okT' 58 = true := by decide +kernel
theorem tok_59 : okT' 59 = true := by decide +kernel
theorem tok_60 : okT' 60 = true := by decide +kernel
theorem tok_61 : okT' 61 = true := by decide +kernel
theorem tok_62 : okT' 62 = true := by decide +kernel
theorem tok_63 : okT' 63 = true := by decide +kernel
theorem tok_64 : okT' 64 = true := by decide +kernel
theorem tok_65 : okT' 65 = true := by decide +kernel
theorem tok_66 : okT' 66 = true := by decide +kernel
theorem tok_67 : okT' 67 = true := by decide +kernel
theorem tok_68 : okT' 68 = true := by decide +kernel
theorem tok_69 : okT' 69 = true := by decide +kernel
theorem tok_70 : okT' 70 = true := by decide +kernel
theorem tok_71 : okT' 71 = true := by decide +kernel
theorem tok_72 : okT' 72 = true := by decide +kernel
theorem tok_73 : okT' 73 = true := by decide +kernel
theorem tok_74 : okT' 74 = true := by decide +kernel
theorem tok_75 : okT' 75 = true := by decide +kernel
theorem tok_76 : okT' 76 = true := by decide +kernel
theorem tok_77 : okT' 77 = true := by decide +kernel
theorem tok_78 : okT' 78 = true := by decide +kernel
theorem tok_79 : okT' 79 = true := by decide +kernel
theorem tok_80 : okT' 80 = true := by decide +kernel
theorem tok_81 : okT' 81 = true := by decide +kernel
theorem tok_82 : okT' 82 = true := by decide +kernel
theorem tok_83 : okT' 83 = true := by decide +kernel
theorem tok_84 : okT' 84 = true := by decide +kernel
theorem tok_85 : okT' 85 = true := by decide +kernel
theorem tok_86 : okT' 86 = true := by decide +kernel
theorem tok_87 : okT' 87 = true := by decide +kernel
theorem tok_88 : okT' 88 = true := by decide +kernel
theorem tok_89 : okT' 89 = true := by decide +kernel
theorem tok_90 : okT' 90 = true := by decide +kernel
theorem tok_91 : okT' 91 = true := by decide +kernel
theorem tok_92 : okT' 92 = true := by decide +kernel
theorem tok_93 : okT' 93 = true := by decide +kernel
theorem tok_94 : okT' 94 = true := by decide +kernel
theorem tok_95 : okT' 95 = true := by decide +kernel
theorem tok_96 : okT' 96 = true := by decide +kernel
theorem tok_97 : okT' 97 = true := by decide +kernel
theorem tok_98 : okT' 98 = true := by decide +kernel
theorem tok_99 : okT' 99 = true := by decide +kernel
theorem tok_100 : okT' 100 = true := by decide +kernel
theorem tok_101 : okT' 101 = true := by decide +kernel
theorem tok_102 : okT' 102 = true := by decide +kernel
theorem tok_103 : okT' 103 = true := by decide +kernel
theorem tok_104 : okT' 104 = true := by decide +kernel
theorem tok_105 : okT' 105 = true := by decide +kernel
theorem tok_106 : okT' 106 = true := by decide +kernel
theorem tok_107 : okT' 107 = true := by decide +kernel
theorem tok_108 : okT' 108 = true := by decide +kernel
theorem tok_109 : okT' 109 = true := by decide +kernel
theorem tok_110 : okT' 110 = true := by decide +kernel
theorem tok_111 : okT' 111 = true := by decide +kernel
theorem tok_112 : okT' 112 = true := by decide +kernel
theorem tok_113 : okT' 113 = true := by decide +kernel
theorem tok_114 : okT' 114 = true := by decide +kernel
theorem tok_115 : okT' 115 = true := by decide +kernel
theorem tok_116 : okT' 116 = true := by decide +kernel
theorem tok_117 : okT' 117 = true := by decide +kernel
theorem tok_118 : okT' 118 = true := by decide +kernel
theorem tok_119 : okT' 119 = true := by decide +kernel
theorem tok_120 : okT' 120 = true := by decide +kernel
theorem tok_121 : okT' 121 = true := by decide +kernel
theorem tok_122 : okT' 122 = true := by decide +kernel
theorem tok_123 : okT' 123 = true := by decide +kernel
theorem tok_124 : okT' 124 = true := by decide +kernel
theorem tok_125 : okT' 125 = true := by decide +kernel
theorem tok_126 : okT' 126 = true := by decide +kernel
theorem tok_127 : okT' 127 = true := by decide +kernel
theorem tok_128 : okT' 128 = true := by decide +kernel
theorem tok_129 : okT' 129 = true := by decide +kernel
theorem tok_130 : okT' 130 = true := by decide +kernel
theorem tok_131 : okT' 131 = true := by decide +kernel
theorem tok_132 : okT' 132 = true := by decide +kernel
theorem tok_133 : okT' 133 = true := by decide +kernel
theorem tok_134 : okT' 134 = true := by decide +kernel
theorem tok_135 : okT' 135 = true := by decide +kernel
theorem tok_136 : okT' 136 = true := by decide +kernel
theorem tok_137 : okT' 137 = true := by decide +kernel
theorem tok_138 : okT' 138 = true := by decide +kernel
theorem tok_139 : okT' 139 = true := by decide +kernel
theorem tok_140 : okT' 140 = true := by decide +kernel
theorem tok_141 : okT' 141 = true := by decide +kernel
theorem tok_142 : okT' 142 = true := by decide +kernel
theorem tok_143 : okT' 143 = true := by decide +kernel
theorem tok_144 : okT' 144 = true := by decide +kernel
theorem tok_145 : okT' 145 = true := by decide +kernel
theorem tok_146 : okT' 146 = true := by decide +kernel
theorem tok_147 : okT' 147 = true := by decide +kernel
theorem tok_148 : okT' 148 = true := by decide +kernel
theorem tok_149 : okT' 149 = true := by decide +kernel
theorem tok_150 : okT' 150 = true := by decide +kernel
theorem tok_151 : okT' 151 = true := by decide +kernel
theorem tok_152 : okT' 152 = true := by decide +kernel
theorem tok_153 : okT' 153 = true := by decide +kernel
theorem tok_154 : okT' 154 = true := by decide +kernel
theorem tok_155 : okT' 155 = true := by decide +kernel
theorem tok_156 : okT' 156 = true := by decide +kernel
theorem tok_157 : okT' 157 = true := by decide +kernel
theorem tok_158 : okT' 158 = true := by decide +kernel
theorem tok_159 : okT' 159 = true := by decide +kernel
theorem tok_160 : okT' 160 = true := by decide +kernel
theorem tok_161 : okT' 161 = true := by decide +kernel
theorem tok_162 : okT' 162 = true := by decide +kernel
theorem tok_163 : okT' 163 = true := by decide +kernel
theorem tok_164 : okT' 164 = true := by decide +kernel
theorem tok_165 : okT' 165 = true := by decide +kernel
theorem tok_166 : okT' 166 = true := by decide +kernel
theorem tok_167 : okT' 167 = true := by decide +kernel
theorem tok_168 : okT' 168 = true := by decide +kernel
theorem tok_169 : okT' 169 = true := by decide +kernel
theorem tok_170 : okT' 170 = true := by decide +kernel
theorem tok_171 : okT' 171 = true := by decide +kernel
theorem tok_172 : okT' 172 = true := by decide +kernel
theorem tok_173 : okT' 173 = true := by decide +kernel
theorem tok_174 : okT' 174 = true := by decide +kernel
theorem tok_175 : okT' 175 = true := by decide +kernel
theorem tok_176 : okT' 176 = true := by decide +kernel
theorem tok_177 : okT' 177 = true := by decide +kernel
theorem tok_178 : okT' 178 = true := by decide +kernel
theorem tok_179 : okT' 179 = true := by decide +kernel
theorem tok_180 : okT' 180 = true := by decide +kernel
theorem tok_181 : okT' 181 = true := by decide +kernel
theorem tok_182 : okT' 182 = true := by decide +kernel
theorem tok_183 : okT' 183 = true := by decide +kernel
theorem tok_184 : okT' 184 = true := by decide +kernel
theorem tok_185 : okT' 185 = true := by decide +kernel
theorem tok_186 : okT' 186 = true := by decide +kernel
theorem tok_187 : okT' 187 = true := by decide +kernel
theorem tok_188 : okT' 188 = true := by decide +kernel
theorem tok_189 : okT' 189 = true := by decide +kernel
theorem tok_190 : okT' 190 = true := by decide +kernel
theorem tok_191 : okT' 191 = true := by decide +kernel
theorem tok_192 : okT' 192 = true := by decide +kernel
theorem tok_193 : okT' 193 = true := by decide +kernel
theorem tok_194 : okT' 194 = true := by decide +kernel
theorem tok_195 : okT' 195 = true := by decide +kernel
theorem tok_196 : okT' 196 = true := by decide +kernel
theorem tok_197 : okT' 197 = true := by decide +kernel
theorem tok_198 : okT' 198 = true := by decide +kernel
theorem tok_199 : okT' 199 = true := by decide +kernel
theorem tokL_0 : okTc 200 0 40 = true := by decide +kernel
theorem tokL_40 : okTc 200 40 40 = true := by decide +kernel
theorem tokL_80 : okTc 200 80 40 = true := by decide +kernel
theorem tokL_120 : okTc 200 120 40 = true := by decide +kernel
theorem tokL_160 : okTc 200 160 40 = true := by decide +kernel
theorem tokL_200 : okTc 200 200 40 = true := by decide +kernel
theorem tokL_240 : okTc 200 240 40 = true := by decide +kernel
theorem tokL_280 : okTc 200 280 40 = true := by decide +kernel
theorem tokL_320 : okTc 200 320 40 = true := by decide +kernel
theorem tokL_360 : okTc 200 360 40 = true := by decide +kernel
theorem tokL_400 : okTc 200 400 40 = true := by decide +kernel
theorem tokL_440 : okTc 200 440 40 = true := by decide +kernel
theorem tokL_480 : okTc 200 480 40 = true := by decide +kernel
theorem tokL_520 : okTc 200 520 40 = true := by decide +kernel
theorem tokL_560 : okTc 200 560 40 = true := by decide +kernel
theorem tokL_600 : okTc 200 600 40 = true := by decide +kernel
theorem tokL_640 : okTc 200 640 40 = true := by decide +kernel
theorem tokL_680 : okTc 200 680 40 = true := by decide +kernel
theorem tokL_720 : okTc 200 720 40 = true := by decide +kernel
theorem tokL_760 : okTc 200 760 40 = true := by decide +kernel
theorem tokL_800 : okTc 200 800 40 = true := by decide +kernel
theorem tokL_840 : okTc 200 840 40 = true := by decide +kernel
theorem tokL_880 : okTc 200 880 40 = true := by decide +kernel
theorem tokL_920 : okTc 200 920 40 = true := by decide +kernel
theorem tokL_960 : okTc 200 960 40 = true := by decide +kernel
theorem tokL_1000 : okTc 200 1000 40 = true := by decide +kernel
theorem tokL_1040 : okTc 200 1040 40 = true := by decide +kernel
