/-! The shapes of the cells, one by one; joins of roads. -/
theorem sh_0 : w_sh[0]? = some (0, 0, 0, [(0, 1), (0, 2), (0, 234), (1, 0), (1, 0)]) := by decide +kernel
theorem sh_1 : w_sh[1]? = some (3, 8, 3, []) := by decide +kernel
theorem sh_2 : w_sh[2]? = some (0, 6, 0, [(0, 3), (0, 198), (0, 201), (1, 0), (1, 0)]) := by decide +kernel
theorem sh_3 : w_sh[3]? = some (0, 2, 0, [(0, 4), (0, 30), (1, 0), (0, 33), (0, 36), (0, 39), (0, 42)]) := by decide +kernel
theorem sh_4 : w_sh[4]? = some (0, 4, 0, [(0, 5), (1, 0)]) := by decide +kernel
theorem sh_5 : w_sh[5]? = some (3, 6, 8, []) := by decide +kernel
theorem sh_6 : w_sh[6]? = some (0, 3, 0, [(2, 0), (1, 0), (1, 0), (0, 7), (1, 0), (0, 8)]) := by decide +kernel
theorem sh_7 : w_sh[7]? = some (2, 1, 3, []) := by decide +kernel
theorem sh_8 : w_sh[8]? = some (2, 1, 12, []) := by decide +kernel
theorem sh_9 : w_sh[9]? = some (0, 3, 0, [(2, 0), (1, 0), (1, 0), (0, 10), (1, 0), (0, 11)]) := by decide +kernel
theorem sh_10 : w_sh[10]? = some (2, 1, 3, []) := by decide +kernel
theorem sh_11 : w_sh[11]? = some (2, 1, 12, []) := by decide +kernel
theorem sh_12 : w_sh[12]? = some (0, 3, 0, [(2, 0), (1, 0), (1, 0), (0, 13), (1, 0), (0, 14)]) := by decide +kernel
theorem sh_13 : w_sh[13]? = some (2, 1, 3, []) := by decide +kernel
theorem sh_14 : w_sh[14]? = some (2, 1, 12, []) := by decide +kernel
theorem sh_15 : w_sh[15]? = some (0, 3, 0, [(2, 0), (1, 0), (1, 0), (0, 16), (1, 0), (0, 17)]) := by decide +kernel
theorem sh_16 : w_sh[16]? = some (2, 1, 3, []) := by decide +kernel
theorem sh_17 : w_sh[17]? = some (2, 1, 12, []) := by decide +kernel
theorem sh_18 : w_sh[18]? = some (0, 3, 0, [(2, 0), (1, 0), (1, 0), (0, 19), (1, 0), (0, 20)]) := by decide +kernel
theorem sh_19 : w_sh[19]? = some (2, 1, 3, []) := by decide +kernel
theorem sh_20 : w_sh[20]? = some (2, 1, 12, []) := by decide +kernel
theorem sh_21 : w_sh[21]? = some (0, 3, 0, [(2, 0), (1, 0), (1, 0), (0, 22), (1, 0), (0, 23)]) := by decide +kernel
theorem sh_22 : w_sh[22]? = some (2, 1, 3, []) := by decide +kernel
theorem sh_23 : w_sh[23]? = some (2, 1, 12, []) := by decide +kernel
theorem sh_24 : w_sh[24]? = some (0, 3, 0, [(2, 0), (1, 0), (1, 0), (0, 25), (1, 0), (0, 26)]) := by decide +kernel
theorem sh_25 : w_sh[25]? = some (2, 1, 3, []) := by decide +kernel
theorem sh_26 : w_sh[26]? = some (2, 1, 12, []) := by decide +kernel
theorem sh_27 : w_sh[27]? = some (0, 3, 0, [(2, 0), (1, 0), (1, 0), (0, 28), (1, 0), (0, 29)]) := by decide +kernel
theorem sh_28 : w_sh[28]? = some (2, 1, 3, []) := by decide +kernel
theorem sh_29 : w_sh[29]? = some (2, 1, 12, []) := by decide +kernel
theorem sh_30 : w_sh[30]? = some (0, 10, 0, [(0, 31), (0, 32), (1, 0)]) := by decide +kernel
theorem sh_31 : w_sh[31]? = some (2, 1, 100, []) := by decide +kernel
theorem sh_32 : w_sh[32]? = some (1, 0, 100, []) := by decide +kernel
theorem sh_33 : w_sh[33]? = some (0, 10, 0, [(0, 34), (0, 35), (1, 0)]) := by decide +kernel
theorem sh_34 : w_sh[34]? = some (2, 1, 1360, []) := by decide +kernel
theorem sh_35 : w_sh[35]? = some (1, 0, 1360, []) := by decide +kernel
theorem sh_36 : w_sh[36]? = some (0, 10, 0, [(0, 37), (0, 38), (1, 0)]) := by decide +kernel
theorem sh_37 : w_sh[37]? = some (2, 1, 1360, []) := by decide +kernel
theorem sh_38 : w_sh[38]? = some (1, 0, 1360, []) := by decide +kernel
theorem sh_39 : w_sh[39]? = some (0, 10, 0, [(0, 40), (0, 41), (1, 0)]) := by decide +kernel
theorem sh_40 : w_sh[40]? = some (2, 1, 480, []) := by decide +kernel
theorem sh_41 : w_sh[41]? = some (1, 0, 480, []) := by decide +kernel
theorem sh_42 : w_sh[42]? = some (3, 5, 31, []) := by decide +kernel
theorem sh_43 : w_sh[43]? = some (0, 1, 0, [(0, 44), (0, 45), (0, 46), (0, 47), (1, 0), (1, 0)]) := by decide +kernel
theorem sh_44 : w_sh[44]? = some (1, 0, 3, []) := by decide +kernel
theorem sh_45 : w_sh[45]? = some (1, 0, 3, []) := by decide +kernel
theorem sh_46 : w_sh[46]? = some (1, 0, 3, []) := by decide +kernel
theorem sh_47 : w_sh[47]? = some (1, 0, 3, []) := by decide +kernel
theorem sh_48 : w_sh[48]? = some (0, 1, 0, [(0, 49), (0, 50), (0, 51), (0, 52), (1, 0), (1, 0)]) := by decide +kernel
theorem sh_49 : w_sh[49]? = some (1, 0, 3, []) := by decide +kernel
theorem sh_50 : w_sh[50]? = some (1, 0, 3, []) := by decide +kernel
theorem sh_51 : w_sh[51]? = some (1, 0, 3, []) := by decide +kernel
theorem sh_52 : w_sh[52]? = some (1, 0, 3, []) := by decide +kernel
theorem sh_53 : w_sh[53]? = some (0, 1, 0, [(0, 54), (0, 55), (0, 56), (0, 57), (1, 0), (1, 0)]) := by decide +kernel
theorem sh_54 : w_sh[54]? = some (1, 0, 3, []) := by decide +kernel
theorem sh_55 : w_sh[55]? = some (1, 0, 3, []) := by decide +kernel
theorem sh_56 : w_sh[56]? = some (1, 0, 3, []) := by decide +kernel
theorem sh_57 : w_sh[57]? = some (1, 0, 3, []) := by decide +kernel
theorem sh_58 : w_sh[58]? = some (0, 1, 0, [(0, 59), (0, 60), (0, 61), (0, 62), (1, 0), (1, 0)]) := by decide +kernel
theorem sh_59 : w_sh[59]? = some (1, 0, 3, []) := by decide +kernel
theorem sh_60 : w_sh[60]? = some (1, 0, 3, []) := by decide +kernel
theorem sh_61 : w_sh[61]? = some (1, 0, 3, []) := by decide +kernel
theorem sh_62 : w_sh[62]? = some (1, 0, 3, []) := by decide +kernel
theorem sh_63 : w_sh[63]? = some (0, 1, 0, [(0, 64), (0, 65), (0, 66), (0, 67), (1, 0), (1, 0)]) := by decide +kernel
theorem sh_64 : w_sh[64]? = some (1, 0, 3, []) := by decide +kernel
theorem sh_65 : w_sh[65]? = some (1, 0, 3, []) := by decide +kernel
theorem sh_66 : w_sh[66]? = some (1, 0, 3, []) := by decide +kernel
theorem sh_67 : w_sh[67]? = some (1, 0, 3, []) := by decide +kernel
theorem sh_68 : w_sh[68]? = some (0, 1, 0, [(0, 69), (0, 70), (0, 71), (0, 72), (1, 0), (1, 0)]) := by decide +kernel
theorem sh_69 : w_sh[69]? = some (1, 0, 3, []) := by decide +kernel
theorem sh_70 : w_sh[70]? = some (1, 0, 3, []) := by decide +kernel
theorem sh_71 : w_sh[71]? = some (1, 0, 3, []) := by decide +kernel
theorem sh_72 : w_sh[72]? = some (1, 0, 3, []) := by decide +kernel
theorem sh_73 : w_sh[73]? = some (0, 1, 0, [(0, 74), (0, 75), (0, 76), (0, 77), (1, 0), (1, 0)]) := by decide +kernel
theorem sh_74 : w_sh[74]? = some (1, 0, 3, []) := by decide +kernel
theorem sh_75 : w_sh[75]? = some (1, 0, 3, []) := by decide +kernel
theorem sh_76 : w_sh[76]? = some (1, 0, 3, []) := by decide +kernel
theorem sh_77 : w_sh[77]? = some (1, 0, 3, []) := by decide +kernel
theorem sh_78 : w_sh[78]? = some (0, 1, 0, [(0, 79), (0, 80), (0, 81), (0, 82), (1, 0), (1, 0)]) := by decide +kernel
theorem sh_79 : w_sh[79]? = some (1, 0, 3, []) := by decide +kernel
theorem sh_80 : w_sh[80]? = some (1, 0, 3, []) := by decide +kernel
theorem sh_81 : w_sh[81]? = some (1, 0, 3, []) := by decide +kernel
theorem sh_82 : w_sh[82]? = some (1, 0, 3, []) := by decide +kernel
theorem sh_83 : w_sh[83]? = some (0, 1, 0, [(0, 84), (0, 85), (0, 86), (0, 87), (1, 0), (1, 0)]) := by decide +kernel
theorem sh_84 : w_sh[84]? = some (1, 0, 3, []) := by decide +kernel
theorem sh_85 : w_sh[85]? = some (1, 0, 3, []) := by decide +kernel
theorem sh_86 : w_sh[86]? = some (1, 0, 3, []) := by decide +kernel
theorem sh_87 : w_sh[87]? = some (1, 0, 3, []) := by decide +kernel
theorem sh_88 : w_sh[88]? = some (0, 1, 0, [(0, 89), (0, 90), (0, 91), (0, 92), (1, 0), (1, 0)]) := by decide +kernel
theorem sh_89 : w_sh[89]? = some (1, 0, 3, []) := by decide +kernel
theorem sh_90 : w_sh[90]? = some (1, 0, 3, []) := by decide +kernel
theorem sh_91 : w_sh[91]? = some (1, 0, 3, []) := by decide +kernel
theorem sh_92 : w_sh[92]? = some (1, 0, 3, []) := by decide +kernel
theorem sh_93 : w_sh[93]? = some (0, 1, 0, [(0, 94), (0, 95), (0, 96), (0, 97), (1, 0), (1, 0)]) := by decide +kernel
theorem sh_94 : w_sh[94]? = some (1, 0, 3, []) := by decide +kernel
theorem sh_95 : w_sh[95]? = some (1, 0, 3, []) := by decide +kernel
theorem sh_96 : w_sh[96]? = some (1, 0, 3, []) := by decide +kernel
theorem sh_97 : w_sh[97]? = some (1, 0, 3, []) := by decide +kernel
theorem sh_98 : w_sh[98]? = some (0, 1, 0, [(0, 99), (0, 100), (0, 101), (0, 102), (1, 0), (1, 0)]) := by decide +kernel
theorem sh_99 : w_sh[99]? = some (1, 0, 3, []) := by decide +kernel
theorem sh_100 : w_sh[100]? = some (1, 0, 3, []) := by decide +kernel
theorem sh_101 : w_sh[101]? = some (1, 0, 3, []) := by decide +kernel
theorem sh_102 : w_sh[102]? = some (1, 0, 3, []) := by decide +kernel
theorem sh_103 : w_sh[103]? = some (0, 1, 0, [(0, 104), (0, 105), (0, 106), (0, 107), (1, 0), (1, 0)]) := by decide +kernel
theorem sh_104 : w_sh[104]? = some (1, 0, 3, []) := by decide +kernel
theorem sh_105 : w_sh[105]? = some (1, 0, 3, []) := by decide +kernel
theorem sh_106 : w_sh[106]? = some (1, 0, 3, []) := by decide +kernel
theorem sh_107 : w_sh[107]? = some (1, 0, 3, []) := by decide +kernel
theorem sh_108 : w_sh[108]? = some (0, 1, 0, [(0, 109), (0, 110), (0, 111), (0, 112), (1, 0), (1, 0)]) := by decide +kernel
theorem sh_109 : w_sh[109]? = some (1, 0, 3, []) := by decide +kernel
theorem sh_110 : w_sh[110]? = some (1, 0, 3, []) := by decide +kernel
theorem sh_111 : w_sh[111]? = some (1, 0, 3, []) := by decide +kernel
theorem sh_112 : w_sh[112]? = some (1, 0, 3, []) := by decide +kernel
theorem sh_113 : w_sh[113]? = some (0, 1, 0, [(0, 114), (0, 115), (0, 116), (0, 117), (1, 0), (1, 0)]) := by decide +kernel
theorem sh_114 : w_sh[114]? = some (1, 0, 3, []) := by decide +kernel
theorem sh_115 : w_sh[115]? = some (1, 0, 3, []) := by decide +kernel
theorem sh_116 : w_sh[116]? = some (1, 0, 3, []) := by decide +kernel
theorem sh_117 : w_sh[117]? = some (1, 0, 3, []) := by decide +kernel
theorem sh_118 : w_sh[118]? = some (0, 1, 0, [(0, 119), (0, 120), (0, 121), (0, 122), (1, 0), (1, 0)]) := by decide +kernel
theorem sh_119 : w_sh[119]? = some (1, 0, 3, []) := by decide +kernel
theorem sh_120 : w_sh[120]? = some (1, 0, 3, []) := by decide +kernel
theorem sh_121 : w_sh[121]? = some (1, 0, 3, []) := by decide +kernel
theorem sh_122 : w_sh[122]? = some (1, 0, 3, []) := by decide +kernel
theorem sh_123 : w_sh[123]? = some (0, 1, 0, [(0, 124), (0, 125), (0, 126), (0, 127), (1, 0), (1, 0)]) := by decide +kernel
theorem sh_124 : w_sh[124]? = some (1, 0, 3, []) := by decide +kernel
theorem sh_125 : w_sh[125]? = some (1, 0, 3, []) := by decide +kernel
theorem sh_126 : w_sh[126]? = some (1, 0, 3, []) := by decide +kernel
theorem sh_127 : w_sh[127]? = some (1, 0, 3, []) := by decide +kernel
theorem sh_128 : w_sh[128]? = some (0, 1, 0, [(0, 129), (0, 130), (0, 131), (0, 132), (1, 0), (1, 0)]) := by decide +kernel
theorem sh_129 : w_sh[129]? = some (1, 0, 3, []) := by decide +kernel
theorem sh_130 : w_sh[130]? = some (1, 0, 3, []) := by decide +kernel
theorem sh_131 : w_sh[131]? = some (1, 0, 3, []) := by decide +kernel
theorem sh_132 : w_sh[132]? = some (1, 0, 3, []) := by decide +kernel
theorem sh_133 : w_sh[133]? = some (0, 1, 0, [(0, 134), (0, 135), (0, 136), (0, 137), (1, 0), (1, 0)]) := by decide +kernel
theorem sh_134 : w_sh[134]? = some (1, 0, 3, []) := by decide +kernel
theorem sh_135 : w_sh[135]? = some (1, 0, 3, []) := by decide +kernel
theorem sh_136 : w_sh[136]? = some (1, 0, 3, []) := by decide +kernel
theorem sh_137 : w_sh[137]? = some (1, 0, 3, []) := by decide +kernel
theorem sh_138 : w_sh[138]? = some (0, 1, 0, [(0, 139), (0, 140), (0, 141), (0, 142), (1, 0), (1, 0)]) := by decide +kernel
theorem sh_139 : w_sh[139]? = some (1, 0, 3, []) := by decide +kernel
theorem sh_140 : w_sh[140]? = some (1, 0, 3, []) := by decide +kernel
theorem sh_141 : w_sh[141]? = some (1, 0, 3, []) := by decide +kernel
theorem sh_142 : w_sh[142]? = some (1, 0, 3, []) := by decide +kernel
theorem sh_143 : w_sh[143]? = some (0, 1, 0, [(0, 144), (0, 145), (0, 146), (0, 147), (1, 0), (1, 0)]) := by decide +kernel
theorem sh_144 : w_sh[144]? = some (1, 0, 3, []) := by decide +kernel
theorem sh_145 : w_sh[145]? = some (1, 0, 3, []) := by decide +kernel
theorem sh_146 : w_sh[146]? = some (1, 0, 3, []) := by decide +kernel
theorem sh_147 : w_sh[147]? = some (1, 0, 3, []) := by decide +kernel
theorem sh_148 : w_sh[148]? = some (0, 1, 0, [(0, 149), (0, 150), (0, 151), (0, 152), (1, 0), (1, 0)]) := by decide +kernel
theorem sh_149 : w_sh[149]? = some (1, 0, 3, []) := by decide +kernel
theorem sh_150 : w_sh[150]? = some (1, 0, 3, []) := by decide +kernel
theorem sh_151 : w_sh[151]? = some (1, 0, 3, []) := by decide +kernel
theorem sh_152 : w_sh[152]? = some (1, 0, 3, []) := by decide +kernel
theorem sh_153 : w_sh[153]? = some (0, 1, 0, [(0, 154), (0, 155), (0, 156), (0, 157), (1, 0), (1, 0)]) := by decide +kernel
theorem sh_154 : w_sh[154]? = some (1, 0, 3, []) := by decide +kernel
theorem sh_155 : w_sh[155]? = some (1, 0, 3, []) := by decide +kernel
theorem sh_156 : w_sh[156]? = some (1, 0, 3, []) := by decide +kernel
theorem sh_157 : w_sh[157]? = some (1, 0, 3, []) := by decide +kernel
theorem sh_158 : w_sh[158]? = some (0, 1, 0, [(0, 159), (0, 160), (0, 161), (0, 162), (1, 0), (1, 0)]) := by decide +kernel
theorem sh_159 : w_sh[159]? = some (1, 0, 3, []) := by decide +kernel
theorem sh_160 : w_sh[160]? = some (1, 0, 3, []) := by decide +kernel
theorem sh_161 : w_sh[161]? = some (1, 0, 3, []) := by decide +kernel
theorem sh_162 : w_sh[162]? = some (1, 0, 3, []) := by decide +kernel
theorem sh_163 : w_sh[163]? = some (0, 1, 0, [(0, 164), (0, 165), (0, 166), (0, 167), (1, 0), (1, 0)]) := by decide +kernel
theorem sh_164 : w_sh[164]? = some (1, 0, 3, []) := by decide +kernel
theorem sh_165 : w_sh[165]? = some (1, 0, 3, []) := by decide +kernel
theorem sh_166 : w_sh[166]? = some (1, 0, 3, []) := by decide +kernel
theorem sh_167 : w_sh[167]? = some (1, 0, 3, []) := by decide +kernel
theorem sh_168 : w_sh[168]? = some (0, 1, 0, [(0, 169), (0, 170), (0, 171), (0, 172), (1, 0), (1, 0)]) := by decide +kernel
theorem sh_169 : w_sh[169]? = some (1, 0, 3, []) := by decide +kernel
theorem sh_170 : w_sh[170]? = some (1, 0, 3, []) := by decide +kernel
theorem sh_171 : w_sh[171]? = some (1, 0, 3, []) := by decide +kernel
theorem sh_172 : w_sh[172]? = some (1, 0, 3, []) := by decide +kernel
theorem sh_173 : w_sh[173]? = some (0, 1, 0, [(0, 174), (0, 175), (0, 176), (0, 177), (1, 0), (1, 0)]) := by decide +kernel
theorem sh_174 : w_sh[174]? = some (1, 0, 3, []) := by decide +kernel
theorem sh_175 : w_sh[175]? = some (1, 0, 3, []) := by decide +kernel
theorem sh_176 : w_sh[176]? = some (1, 0, 3, []) := by decide +kernel
theorem sh_177 : w_sh[177]? = some (1, 0, 3, []) := by decide +kernel
theorem sh_178 : w_sh[178]? = some (0, 1, 0, [(0, 179), (0, 180), (0, 181), (0, 182), (1, 0), (1, 0)]) := by decide +kernel
theorem sh_179 : w_sh[179]? = some (1, 0, 3, []) := by decide +kernel
theorem sh_180 : w_sh[180]? = some (1, 0, 3, []) := by decide +kernel
theorem sh_181 : w_sh[181]? = some (1, 0, 3, []) := by decide +kernel
theorem sh_182 : w_sh[182]? = some (1, 0, 3, []) := by decide +kernel
theorem sh_183 : w_sh[183]? = some (0, 1, 0, [(0, 184), (0, 185), (0, 186), (0, 187), (1, 0), (1, 0)]) := by decide +kernel
theorem sh_184 : w_sh[184]? = some (1, 0, 3, []) := by decide +kernel
theorem sh_185 : w_sh[185]? = some (1, 0, 3, []) := by decide +kernel
theorem sh_186 : w_sh[186]? = some (1, 0, 3, []) := by decide +kernel
theorem sh_187 : w_sh[187]? = some (1, 0, 3, []) := by decide +kernel
theorem sh_188 : w_sh[188]? = some (0, 1, 0, [(0, 189), (0, 190), (0, 191), (0, 192), (1, 0), (1, 0)]) := by decide +kernel
theorem sh_189 : w_sh[189]? = some (1, 0, 3, []) := by decide +kernel
theorem sh_190 : w_sh[190]? = some (1, 0, 3, []) := by decide +kernel
theorem sh_191 : w_sh[191]? = some (1, 0, 3, []) := by decide +kernel
theorem sh_192 : w_sh[192]? = some (1, 0, 3, []) := by decide +kernel
theorem sh_193 : w_sh[193]? = some (0, 1, 0, [(0, 194), (0, 195), (0, 196), (0, 197), (1, 0), (1, 0)]) := by decide +kernel
theorem sh_194 : w_sh[194]? = some (1, 0, 3, []) := by decide +kernel
theorem sh_195 : w_sh[195]? = some (1, 0, 3, []) := by decide +kernel
theorem sh_196 : w_sh[196]? = some (1, 0, 3, []) := by decide +kernel
theorem sh_197 : w_sh[197]? = some (1, 0, 3, []) := by decide +kernel
theorem sh_198 : w_sh[198]? = some (0, 7, 0, [(0, 199), (0, 200), (1, 0)]) := by decide +kernel
theorem sh_199 : w_sh[199]? = some (1, 2, 161, []) := by decide +kernel
theorem sh_200 : w_sh[200]? = some (1, 0, 161, []) := by decide +kernel
theorem sh_201 : w_sh[201]? = some (3, 7, 4, []) := by decide +kernel
theorem sh_202 : w_sh[202]? = some (0, 8, 0, [(1, 0), (1, 0), (0, 203), (0, 206), (0, 207), (0, 208), (0, 209), (1, 0), (1, 0), (1, 0), (1, 0), (1, 0)]) := by decide +kernel
theorem sh_203 : w_sh[203]? = some (0, 10, 0, [(0, 204), (0, 205), (1, 0)]) := by decide +kernel
theorem sh_204 : w_sh[204]? = some (2, 1, 160, []) := by decide +kernel
theorem sh_205 : w_sh[205]? = some (1, 0, 160, []) := by decide +kernel
theorem sh_206 : w_sh[206]? = some (1, 0, 160, []) := by decide +kernel
theorem sh_207 : w_sh[207]? = some (1, 3, 160, []) := by decide +kernel
theorem sh_208 : w_sh[208]? = some (1, 3, 18, []) := by decide +kernel
theorem sh_209 : w_sh[209]? = some (1, 3, 18, []) := by decide +kernel
theorem sh_210 : w_sh[210]? = some (0, 8, 0, [(1, 0), (1, 0), (0, 211), (0, 214), (0, 215), (0, 216), (0, 217), (1, 0), (1, 0), (1, 0), (1, 0), (1, 0)]) := by decide +kernel
theorem sh_211 : w_sh[211]? = some (0, 10, 0, [(0, 212), (0, 213), (1, 0)]) := by decide +kernel
theorem sh_212 : w_sh[212]? = some (2, 1, 160, []) := by decide +kernel
theorem sh_213 : w_sh[213]? = some (1, 0, 160, []) := by decide +kernel
theorem sh_214 : w_sh[214]? = some (1, 0, 160, []) := by decide +kernel
theorem sh_215 : w_sh[215]? = some (1, 3, 160, []) := by decide +kernel
theorem sh_216 : w_sh[216]? = some (1, 3, 18, []) := by decide +kernel
theorem sh_217 : w_sh[217]? = some (1, 3, 18, []) := by decide +kernel
theorem sh_218 : w_sh[218]? = some (0, 8, 0, [(1, 0), (1, 0), (0, 219), (0, 222), (0, 223), (0, 224), (0, 225), (1, 0), (1, 0), (1, 0), (1, 0), (1, 0)]) := by decide +kernel
theorem sh_219 : w_sh[219]? = some (0, 10, 0, [(0, 220), (0, 221), (1, 0)]) := by decide +kernel
theorem sh_220 : w_sh[220]? = some (2, 1, 160, []) := by decide +kernel
theorem sh_221 : w_sh[221]? = some (1, 0, 160, []) := by decide +kernel
theorem sh_222 : w_sh[222]? = some (1, 0, 160, []) := by decide +kernel
theorem sh_223 : w_sh[223]? = some (1, 3, 160, []) := by decide +kernel
theorem sh_224 : w_sh[224]? = some (1, 3, 18, []) := by decide +kernel
theorem sh_225 : w_sh[225]? = some (1, 3, 18, []) := by decide +kernel
theorem sh_226 : w_sh[226]? = some (0, 8, 0, [(1, 0), (1, 0), (0, 227), (0, 230), (0, 231), (0, 232), (0, 233), (1, 0), (1, 0), (1, 0), (1, 0), (1, 0)]) := by decide +kernel
theorem sh_227 : w_sh[227]? = some (0, 10, 0, [(0, 228), (0, 229), (1, 0)]) := by decide +kernel
theorem sh_228 : w_sh[228]? = some (2, 1, 160, []) := by decide +kernel
theorem sh_229 : w_sh[229]? = some (1, 0, 160, []) := by decide +kernel
theorem sh_230 : w_sh[230]? = some (1, 0, 160, []) := by decide +kernel
theorem sh_231 : w_sh[231]? = some (1, 3, 160, []) := by decide +kernel
theorem sh_232 : w_sh[232]? = some (1, 3, 18, []) := by decide +kernel
theorem sh_233 : w_sh[233]? = some (1, 3, 18, []) := by decide +kernel
theorem sh_234 : w_sh[234]? = some (0, 5, 0, [(0, 235), (0, 239), (0, 240), (1, 0), (1, 0), (0, 241), (0, 242), (1, 0)]) := by decide +kernel
theorem sh_235 : w_sh[235]? = some (0, 11, 0, [(0, 236), (0, 237), (0, 238), (1, 0)]) := by decide +kernel
theorem sh_236 : w_sh[236]? = some (1, 0, 201, []) := by decide +kernel
theorem sh_237 : w_sh[237]? = some (1, 0, 201, []) := by decide +kernel
theorem sh_238 : w_sh[238]? = some (1, 0, 201, []) := by decide +kernel
theorem sh_239 : w_sh[239]? = some (2, 1, 101, []) := by decide +kernel
theorem sh_240 : w_sh[240]? = some (1, 0, 101, []) := by decide +kernel
theorem sh_241 : w_sh[241]? = some (2, 1, 100, []) := by decide +kernel
theorem sh_242 : w_sh[242]? = some (1, 3, 100, []) := by decide +kernel
theorem sh_243 : w_sh[243]? = some (0, 9, 0, [(0, 244), (1, 0)]) := by decide +kernel
theorem sh_244 : w_sh[244]? = some (1, 2, 160, []) := by decide +kernel
theorem sh_245 : w_sh[245]? = some (0, 9, 0, [(0, 246), (1, 0)]) := by decide +kernel
theorem sh_246 : w_sh[246]? = some (1, 2, 160, []) := by decide +kernel
theorem sh_247 : w_sh[247]? = some (0, 9, 0, [(0, 248), (1, 0)]) := by decide +kernel
theorem sh_248 : w_sh[248]? = some (1, 2, 160, []) := by decide +kernel
theorem sh_249 : w_sh[249]? = some (0, 12, 0, [(0, 250), (0, 251), (1, 0), (0, 252), (0, 253), (1, 0), (0, 254), (0, 255), (0, 256), (0, 257), (0, 258), (0, 259), (1, 0), (1, 0), (0, 260), (0, 261), (1, 0), (1, 0), (0, 262), (0, 263), (0, 264), (0, 265), (0, 266), (1, 0), (0, 267), (0, 268), (1, 0), (0, 269), (0, 270), (1, 0), (0, 271), (0, 272), (1, 0), (0, 273), (0, 274), (1, 0), (0, 275), (0, 276), (0, 277), (0, 278), (0, 279), (0, 280), (0, 281), (0, 282), (0, 283), (0, 284), (1, 0), (0, 285), (0, 286), (1, 0), (1, 0), (0, 287), (0, 288), (0, 289), (0, 290), (0, 291), (1, 0), (0, 292), (0, 293), (0, 294), (0, 295), (1, 0), (0, 296), (0, 297), (0, 298), (0, 299), (0, 300), (1, 0), (0, 301), (0, 302), (0, 303), (0, 304)]) := by decide +kernel
theorem sh_250 : w_sh[250]? = some (1, 0, 480, []) := by decide +kernel
theorem sh_251 : w_sh[251]? = some (1, 0, 3, []) := by decide +kernel
theorem sh_252 : w_sh[252]? = some (1, 0, 162, []) := by decide +kernel
theorem sh_253 : w_sh[253]? = some (1, 0, 162, []) := by decide +kernel
theorem sh_254 : w_sh[254]? = some (2, 1, 644, []) := by decide +kernel
theorem sh_255 : w_sh[255]? = some (1, 0, 644, []) := by decide +kernel
theorem sh_256 : w_sh[256]? = some (1, 0, 644, []) := by decide +kernel
theorem sh_257 : w_sh[257]? = some (1, 0, 4, []) := by decide +kernel
theorem sh_258 : w_sh[258]? = some (1, 0, 4, []) := by decide +kernel
theorem sh_259 : w_sh[259]? = some (1, 0, 4, []) := by decide +kernel
theorem sh_260 : w_sh[260]? = some (1, 3, 80, []) := by decide +kernel
theorem sh_261 : w_sh[261]? = some (1, 3, 80, []) := by decide +kernel
theorem sh_262 : w_sh[262]? = some (2, 1, 8, []) := by decide +kernel
theorem sh_263 : w_sh[263]? = some (1, 0, 8, []) := by decide +kernel
theorem sh_264 : w_sh[264]? = some (2, 1, 24, []) := by decide +kernel
theorem sh_265 : w_sh[265]? = some (2, 1, 96, []) := by decide +kernel
theorem sh_266 : w_sh[266]? = some (1, 0, 8, []) := by decide +kernel
theorem sh_267 : w_sh[267]? = some (2, 1, 160, []) := by decide +kernel
theorem sh_268 : w_sh[268]? = some (1, 0, 160, []) := by decide +kernel
theorem sh_269 : w_sh[269]? = some (2, 1, 1361, []) := by decide +kernel
theorem sh_270 : w_sh[270]? = some (1, 0, 1361, []) := by decide +kernel
theorem sh_271 : w_sh[271]? = some (2, 1, 2561, []) := by decide +kernel
theorem sh_272 : w_sh[272]? = some (1, 0, 2561, []) := by decide +kernel
theorem sh_273 : w_sh[273]? = some (2, 1, 1201, []) := by decide +kernel
theorem sh_274 : w_sh[274]? = some (1, 0, 1201, []) := by decide +kernel
theorem sh_275 : w_sh[275]? = some (2, 1, 481, []) := by decide +kernel
theorem sh_276 : w_sh[276]? = some (1, 0, 481, []) := by decide +kernel
theorem sh_277 : w_sh[277]? = some (1, 0, 32, []) := by decide +kernel
theorem sh_278 : w_sh[278]? = some (1, 0, 32, []) := by decide +kernel
theorem sh_279 : w_sh[279]? = some (1, 0, 32, []) := by decide +kernel
theorem sh_280 : w_sh[280]? = some (1, 0, 32, []) := by decide +kernel
theorem sh_281 : w_sh[281]? = some (1, 0, 32, []) := by decide +kernel
theorem sh_282 : w_sh[282]? = some (1, 0, 32, []) := by decide +kernel
theorem sh_283 : w_sh[283]? = some (1, 0, 128, []) := by decide +kernel
theorem sh_284 : w_sh[284]? = some (1, 0, 128, []) := by decide +kernel
theorem sh_285 : w_sh[285]? = some (2, 1, 100, []) := by decide +kernel
theorem sh_286 : w_sh[286]? = some (1, 0, 100, []) := by decide +kernel
theorem sh_287 : w_sh[287]? = some (1, 0, 100, []) := by decide +kernel
theorem sh_288 : w_sh[288]? = some (1, 0, 101, []) := by decide +kernel
theorem sh_289 : w_sh[289]? = some (1, 0, 202, []) := by decide +kernel
theorem sh_290 : w_sh[290]? = some (1, 0, 202, []) := by decide +kernel
theorem sh_291 : w_sh[291]? = some (1, 0, 202, []) := by decide +kernel
theorem sh_292 : w_sh[292]? = some (2, 1, 100, []) := by decide +kernel
theorem sh_293 : w_sh[293]? = some (1, 0, 100, []) := by decide +kernel
theorem sh_294 : w_sh[294]? = some (1, 0, 100, []) := by decide +kernel
theorem sh_295 : w_sh[295]? = some (1, 3, 100, []) := by decide +kernel
theorem sh_296 : w_sh[296]? = some (1, 0, 300, []) := by decide +kernel
theorem sh_297 : w_sh[297]? = some (1, 0, 300, []) := by decide +kernel
theorem sh_298 : w_sh[298]? = some (1, 0, 300, []) := by decide +kernel
theorem sh_299 : w_sh[299]? = some (1, 0, 300, []) := by decide +kernel
theorem sh_300 : w_sh[300]? = some (1, 0, 300, []) := by decide +kernel
theorem sh_301 : w_sh[301]? = some (1, 0, 8, []) := by decide +kernel
theorem sh_302 : w_sh[302]? = some (1, 0, 8, []) := by decide +kernel
theorem sh_303 : w_sh[303]? = some (1, 0, 8, []) := by decide +kernel
theorem sh_304 : w_sh[304]? = some (1, 0, 8, []) := by decide +kernel
theorem fa_of {n : Nat} (f g : Nat → Option (Nat × Nat × Nat × List (Nat × Nat))) (h : (List.range n).all (fun l => decide (f l = g l)) = true) {l : Nat} (hl : l < n) : f l = g l := of_decide_eq_true (List.all_eq_true.mp h l (List.mem_range.mpr hl))
theorem sh_src {l : Nat} (h : l < 4) : w_sh[202 + 8 * l]? = some (0, 8, 0, [(1, 0), (1, 0), (0, 203 + 8 * l), (0, 206 + 8 * l), (0, 207 + 8 * l), (0, 208 + 8 * l), (0, 209 + 8 * l), (1, 0), (1, 0), (1, 0), (1, 0), (1, 0)]) := fa_of (fun l => w_sh[202 + 8 * l]?) (fun l => some (0, 8, 0, [(1, 0), (1, 0), (0, 203 + 8 * l), (0, 206 + 8 * l), (0, 207 + 8 * l), (0, 208 + 8 * l), (0, 209 + 8 * l), (1, 0), (1, 0), (1, 0), (1, 0), (1, 0)])) (by decide +kernel) h
def w_row (a n : Nat) : Prop := w_sh[a]? = some (0, 10, 0, [(0, a + 1), (0, a + 2), (1, 0)]) ∧ w_sh[a + 1]? = some (2, 1, n, []) ∧ w_sh[a + 2]? = some (1, 0, n, [])
set_option maxRecDepth 4000 in
theorem sh_srow {l : Nat} (h : l < 4) : w_sh[203 + 8 * l]? = some (0, 10, 0, [(0, 204 + 8 * l), (0, 205 + 8 * l), (1, 0)]) ∧ w_sh[204 + 8 * l]? = some (2, 1, 160, []) ∧ w_sh[205 + 8 * l]? = some (1, 0, 160, []) := by
  match l, h with
  | 0, _ => exact ⟨rfl, rfl, rfl⟩
  | 1, _ => exact ⟨rfl, rfl, rfl⟩
  | 2, _ => exact ⟨rfl, rfl, rfl⟩
  | 3, _ => exact ⟨rfl, rfl, rfl⟩
theorem row_src {l : Nat} (h : l < 4) : w_row (203 + 8 * l) 160 := by
  have e1 : 203 + 8 * l + 1 = 204 + 8 * l := by omega
  have e2 : 203 + 8 * l + 2 = 205 + 8 * l := by omega
  unfold w_row
  rw [e1, e2]
  exact sh_srow h
theorem sh_src4 {l : Nat} (h : l < 4) : w_sh[206 + 8 * l]? = some (1, 0, 160, []) := fa_of (fun l => w_sh[206 + 8 * l]?) (fun l => some (1, 0, 160, [])) (by decide +kernel) h
theorem sh_src5 {l : Nat} (h : l < 4) : w_sh[207 + 8 * l]? = some (1, 3, 160, []) := fa_of (fun l => w_sh[207 + 8 * l]?) (fun l => some (1, 3, 160, [])) (by decide +kernel) h
theorem sh_src6 {l : Nat} (h : l < 4) : w_sh[208 + 8 * l]? = some (1, 3, 18, []) := fa_of (fun l => w_sh[208 + 8 * l]?) (fun l => some (1, 3, 18, [])) (by decide +kernel) h
theorem sh_src7 {l : Nat} (h : l < 4) : w_sh[209 + 8 * l]? = some (1, 3, 18, []) := fa_of (fun l => w_sh[209 + 8 * l]?) (fun l => some (1, 3, 18, [])) (by decide +kernel) h
theorem sh_mac {i : Nat} (h : i < 8) : w_sh[6 + 3 * i]? = some (0, 3, 0, [(2, 0), (1, 0), (1, 0), (0, 7 + 3 * i), (1, 0), (0, 8 + 3 * i)]) := fa_of (fun i => w_sh[6 + 3 * i]?) (fun i => some (0, 3, 0, [(2, 0), (1, 0), (1, 0), (0, 7 + 3 * i), (1, 0), (0, 8 + 3 * i)])) (by decide +kernel) h
theorem sh_mac1 {i : Nat} (h : i < 8) : w_sh[7 + 3 * i]? = some (2, 1, 3, []) := fa_of (fun i => w_sh[7 + 3 * i]?) (fun i => some (2, 1, 3, [])) (by decide +kernel) h
theorem sh_mac2 {i : Nat} (h : i < 8) : w_sh[8 + 3 * i]? = some (2, 1, 12, []) := fa_of (fun i => w_sh[8 + 3 * i]?) (fun i => some (2, 1, 12, [])) (by decide +kernel) h
theorem sh_arg {q : Nat} (h : q < 31) : w_sh[43 + 5 * q]? = some (0, 1, 0, [(0, 44 + 5 * q), (0, 45 + 5 * q), (0, 46 + 5 * q), (0, 47 + 5 * q), (1, 0), (1, 0)]) := fa_of (fun q => w_sh[43 + 5 * q]?) (fun q => some (0, 1, 0, [(0, 44 + 5 * q), (0, 45 + 5 * q), (0, 46 + 5 * q), (0, 47 + 5 * q), (1, 0), (1, 0)])) (by decide +kernel) h
theorem sh_arg1 {q : Nat} (h : q < 31) : w_sh[44 + 5 * q]? = some (1, 0, 3, []) := fa_of (fun q => w_sh[44 + 5 * q]?) (fun q => some (1, 0, 3, [])) (by decide +kernel) h
theorem sh_arg2 {q : Nat} (h : q < 31) : w_sh[45 + 5 * q]? = some (1, 0, 3, []) := fa_of (fun q => w_sh[45 + 5 * q]?) (fun q => some (1, 0, 3, [])) (by decide +kernel) h
theorem sh_arg3 {q : Nat} (h : q < 31) : w_sh[46 + 5 * q]? = some (1, 0, 3, []) := fa_of (fun q => w_sh[46 + 5 * q]?) (fun q => some (1, 0, 3, [])) (by decide +kernel) h
theorem sh_arg4 {q : Nat} (h : q < 31) : w_sh[47 + 5 * q]? = some (1, 0, 3, []) := fa_of (fun q => w_sh[47 + 5 * q]?) (fun q => some (1, 0, 3, [])) (by decide +kernel) h
theorem sh_txt {f : Nat} (h : f < 3) : w_sh[243 + 2 * f]? = some (0, 9, 0, [(0, 244 + 2 * f), (1, 0)]) := fa_of (fun f => w_sh[243 + 2 * f]?) (fun f => some (0, 9, 0, [(0, 244 + 2 * f), (1, 0)])) (by decide +kernel) h
theorem sh_txt1 {f : Nat} (h : f < 3) : w_sh[244 + 2 * f]? = some (1, 2, 160, []) := fa_of (fun f => w_sh[244 + 2 * f]?) (fun f => some (1, 2, 160, [])) (by decide +kernel) h
theorem row_30 : w_row 30 100 := ⟨rfl, rfl, rfl⟩
theorem row_33 : w_row 33 1360 := ⟨rfl, rfl, rfl⟩
theorem row_36 : w_row 36 1360 := ⟨rfl, rfl, rfl⟩
theorem row_39 : w_row 39 480 := ⟨rfl, rfl, rfl⟩
theorem w_br {A B G : Prop} (P : Prop) (g : (P → A) → (¬ P → B) → G) (a : P → A) (b : ¬ P → B) : G := g a b
theorem w_jn {A G : Prop} (g : A → G) (a : A) : G := g a
theorem w_jri {sc : x_S} {d k pc : Nat} {lv : x_L} {st : List Value} {S : w_S} {Q : Option Value → w_S → Prop} {a b : Int} (h : a = b) (t : w_T sc d k pc lv (.int (iZ a) :: st) S Q) : w_T sc d k pc lv (.int (iZ b) :: st) S Q := h ▸ t
theorem w_jrl {sc : x_S} {d k pc : Nat} {lv : x_L} {st : List Value} {S : w_S} {Q : Option Value → w_S → Prop} {a b : Int64} (h : a = b) (t : w_T sc d k pc lv (.long a :: st) S Q) : w_T sc d k pc lv (.long b :: st) S Q := h ▸ t
theorem q_i {S : w_S} {a b : Int} (h : a = b) : some (Value.int (iZ a)) = some (Value.int (iZ b)) ∧ S = S := by rw [h]; exact ⟨rfl, rfl⟩
theorem q_b {S : w_S} {a b : Bool} (h : a = b) : some (Value.int (iZ (zB a))) = some (Value.int (iZ (zB b))) ∧ S = S := by rw [h]; exact ⟨rfl, rfl⟩
theorem q_1 {S : w_S} {b : Bool} (h : b = true) : some (Value.int (iZ 1)) = some (Value.int (iZ (zB b))) ∧ S = S := by rw [h]; exact ⟨rfl, rfl⟩
theorem q_0 {S : w_S} {b : Bool} (h : b = false) : some (Value.int (iZ 0)) = some (Value.int (iZ (zB b))) ∧ S = S := by rw [h]; exact ⟨rfl, rfl⟩
theorem q_l {S : w_S} {a b : Int64} (h : a = b) : some (Value.long a) = some (Value.long b) ∧ S = S := by rw [h]; exact ⟨rfl, rfl⟩
