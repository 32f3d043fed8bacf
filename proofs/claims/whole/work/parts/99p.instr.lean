/-! the instructions of the law's method, one by one -/
theorem y13 : k_L_law_[13]? = some (.iload 4, 23, 2, 0, 0, 0) := by decide +kernel
theorem y14 : k_L_law_[14]? = some (.aload_n 0, 25, 1, 0, 0, 0) := by decide +kernel
theorem y15 : k_L_law_[15]? = some (.arraylength, 26, 1, 0, 0, 0) := by decide +kernel
theorem y16 : k_L_law_[16]? = some (.bipush 6, 27, 2, 0, 0, 0) := by decide +kernel
theorem y17 : k_L_law_[17]? = some (.isub, 29, 1, 0, 0, 0) := by decide +kernel
theorem y18 : k_L_law_[18]? = some (.if_icmp .gt 2867, 30, 3, 1669, 0, 0) := by decide +kernel
theorem y19 : k_L_law_[19]? = some (.aload_n 0, 33, 1, 0, 0, 0) := by decide +kernel
theorem y20 : k_L_law_[20]? = some (.iload 4, 34, 2, 0, 0, 0) := by decide +kernel
theorem y21 : k_L_law_[21]? = some (.iaload, 36, 1, 0, 0, 0) := by decide +kernel
theorem y22 : k_L_law_[22]? = some (.bipush 63, 37, 2, 0, 0, 0) := by decide +kernel
theorem y23 : k_L_law_[23]? = some (.iand, 39, 1, 0, 0, 0) := by decide +kernel
theorem y24 : k_L_law_[24]? = some (.tableswitch 2851 0 59 #[256, 329, 354, 398, 442, 455, 523, 579, 659, 715, 783, 851, 907, 963, 1019, 1032, 1045, 1058, 1071, 1127, 1140, 1153, 1209, 1265, 1333, 1346, 1359, 1372, 1428, 1472, 1528, 1584, 1640, 1708, 1764, 1832, 1888, 1901, 1957, 2037, 2093, 2106, 2174, 2242, 2255, 2268, 2281, 2337, 2350, 2363, 2376, 2444, 2528, 2612, 2696, 2764, 2789, 2802, 2813, 2826], 40, 256, 7, 0, 0) := by decide +kernel
theorem y25 : k_L_law_[25]? = some (.aload_n 1, 296, 1, 0, 0, 0) := by decide +kernel
theorem y26 : k_L_law_[26]? = some (.aload_n 0, 297, 1, 0, 0, 0) := by decide +kernel
theorem y27 : k_L_law_[27]? = some (.iload 4, 298, 2, 0, 0, 0) := by decide +kernel
theorem y28 : k_L_law_[28]? = some (.iconst 1, 300, 1, 0, 0, 0) := by decide +kernel
theorem y29 : k_L_law_[29]? = some (.iadd, 301, 1, 0, 0, 0) := by decide +kernel
theorem y30 : k_L_law_[30]? = some (.iaload, 302, 1, 0, 0, 0) := by decide +kernel
theorem y31 : k_L_law_[31]? = some (.aload_n 0, 303, 1, 0, 0, 0) := by decide +kernel
theorem y32 : k_L_law_[32]? = some (.iload 4, 304, 2, 0, 0, 0) := by decide +kernel
theorem y33 : k_L_law_[33]? = some (.iconst 2, 306, 1, 0, 0, 0) := by decide +kernel
theorem y34 : k_L_law_[34]? = some (.iadd, 307, 1, 0, 0, 0) := by decide +kernel
theorem y35 : k_L_law_[35]? = some (.iaload, 308, 1, 0, 0, 0) := by decide +kernel
theorem y36 : k_L_law_[36]? = some (.aload_n 0, 309, 1, 0, 0, 0) := by decide +kernel
theorem y37 : k_L_law_[37]? = some (.iload 4, 310, 2, 0, 0, 0) := by decide +kernel
theorem y38 : k_L_law_[38]? = some (.iconst 3, 312, 1, 0, 0, 0) := by decide +kernel
theorem y39 : k_L_law_[39]? = some (.iadd, 313, 1, 0, 0, 0) := by decide +kernel
theorem y40 : k_L_law_[40]? = some (.iaload, 314, 1, 0, 0, 0) := by decide +kernel
theorem y41 : k_L_law_[41]? = some (.aload_n 0, 315, 1, 0, 0, 0) := by decide +kernel
theorem y42 : k_L_law_[42]? = some (.iload 4, 316, 2, 0, 0, 0) := by decide +kernel
theorem y43 : k_L_law_[43]? = some (.iconst 4, 318, 1, 0, 0, 0) := by decide +kernel
theorem y44 : k_L_law_[44]? = some (.iadd, 319, 1, 0, 0, 0) := by decide +kernel
theorem y45 : k_L_law_[45]? = some (.iaload, 320, 1, 0, 0, 0) := by decide +kernel
theorem y46 : k_L_law_[46]? = some (.aload_n 0, 321, 1, 0, 0, 0) := by decide +kernel
theorem y47 : k_L_law_[47]? = some (.iload 4, 322, 2, 0, 0, 0) := by decide +kernel
theorem y48 : k_L_law_[48]? = some (.iconst 5, 324, 1, 0, 0, 0) := by decide +kernel
theorem y49 : k_L_law_[49]? = some (.iadd, 325, 1, 0, 0, 0) := by decide +kernel
theorem y50 : k_L_law_[50]? = some (.iaload, 326, 1, 0, 0, 0) := by decide +kernel
theorem y51 : k_L_law_[51]? = some (.invokevirtual 133, 327, 3, 105, 0, 451) := by decide +kernel
theorem y52 : k_L_law_[52]? = some (.aload_n 2, 330, 1, 0, 0, 0) := by decide +kernel
theorem y53 : k_L_law_[53]? = some (.aload_n 0, 331, 1, 0, 0, 0) := by decide +kernel
theorem y54 : k_L_law_[54]? = some (.iload 4, 332, 2, 0, 0, 0) := by decide +kernel
theorem y55 : k_L_law_[55]? = some (.iconst 1, 334, 1, 0, 0, 0) := by decide +kernel
theorem y56 : k_L_law_[56]? = some (.iadd, 335, 1, 0, 0, 0) := by decide +kernel
theorem y57 : k_L_law_[57]? = some (.iaload, 336, 1, 0, 0, 0) := by decide +kernel
theorem y58 : k_L_law_[58]? = some (.aload_n 0, 337, 1, 0, 0, 0) := by decide +kernel
theorem y59 : k_L_law_[59]? = some (.iload 4, 338, 2, 0, 0, 0) := by decide +kernel
theorem y60 : k_L_law_[60]? = some (.iconst 2, 340, 1, 0, 0, 0) := by decide +kernel
theorem y61 : k_L_law_[61]? = some (.iadd, 341, 1, 0, 0, 0) := by decide +kernel
theorem y62 : k_L_law_[62]? = some (.iaload, 342, 1, 0, 0, 0) := by decide +kernel
theorem y63 : k_L_law_[63]? = some (.aload_n 0, 343, 1, 0, 0, 0) := by decide +kernel
theorem y64 : k_L_law_[64]? = some (.iload 4, 344, 2, 0, 0, 0) := by decide +kernel
theorem y65 : k_L_law_[65]? = some (.iconst 3, 346, 1, 0, 0, 0) := by decide +kernel
theorem y66 : k_L_law_[66]? = some (.iadd, 347, 1, 0, 0, 0) := by decide +kernel
theorem y67 : k_L_law_[67]? = some (.iaload, 348, 1, 0, 0, 0) := by decide +kernel
theorem y68 : k_L_law_[68]? = some (.aload_n 0, 349, 1, 0, 0, 0) := by decide +kernel
theorem y69 : k_L_law_[69]? = some (.iload 4, 350, 2, 0, 0, 0) := by decide +kernel
theorem y70 : k_L_law_[70]? = some (.iconst 4, 352, 1, 0, 0, 0) := by decide +kernel
theorem y71 : k_L_law_[71]? = some (.iadd, 353, 1, 0, 0, 0) := by decide +kernel
theorem y72 : k_L_law_[72]? = some (.iaload, 354, 1, 0, 0, 0) := by decide +kernel
theorem y73 : k_L_law_[73]? = some (.aload_n 0, 355, 1, 0, 0, 0) := by decide +kernel
theorem y74 : k_L_law_[74]? = some (.iload 4, 356, 2, 0, 0, 0) := by decide +kernel
theorem y75 : k_L_law_[75]? = some (.iconst 5, 358, 1, 0, 0, 0) := by decide +kernel
theorem y76 : k_L_law_[76]? = some (.iadd, 359, 1, 0, 0, 0) := by decide +kernel
theorem y77 : k_L_law_[77]? = some (.iaload, 360, 1, 0, 0, 0) := by decide +kernel
theorem y78 : k_L_law_[78]? = some (.invokevirtual 137, 361, 3, 215, 0, 1603) := by decide +kernel
theorem y79 : k_L_law_[79]? = some (.if_icmp .eq 2527, 364, 3, 1667, 0, 0) := by decide +kernel
theorem y80 : k_L_law_[80]? = some (.iconst 0, 367, 1, 0, 0, 0) := by decide +kernel
theorem y81 : k_L_law_[81]? = some (.ireturn, 368, 1, 0, 0, 0) := by decide +kernel
theorem y82 : k_L_law_[82]? = some (.aload_n 1, 369, 1, 0, 0, 0) := by decide +kernel
theorem y83 : k_L_law_[83]? = some (.aload_n 0, 370, 1, 0, 0, 0) := by decide +kernel
theorem y84 : k_L_law_[84]? = some (.iload 4, 371, 2, 0, 0, 0) := by decide +kernel
theorem y85 : k_L_law_[85]? = some (.iconst 1, 373, 1, 0, 0, 0) := by decide +kernel
theorem y86 : k_L_law_[86]? = some (.iadd, 374, 1, 0, 0, 0) := by decide +kernel
theorem y87 : k_L_law_[87]? = some (.iaload, 375, 1, 0, 0, 0) := by decide +kernel
theorem y88 : k_L_law_[88]? = some (.invokevirtual 138, 376, 3, 106, 0, 463) := by decide +kernel
theorem y89 : k_L_law_[89]? = some (.aload_n 2, 379, 1, 0, 0, 0) := by decide +kernel
theorem y90 : k_L_law_[90]? = some (.aload_n 0, 380, 1, 0, 0, 0) := by decide +kernel
theorem y91 : k_L_law_[91]? = some (.iload 4, 381, 2, 0, 0, 0) := by decide +kernel
theorem y92 : k_L_law_[92]? = some (.iconst 1, 383, 1, 0, 0, 0) := by decide +kernel
theorem y93 : k_L_law_[93]? = some (.iadd, 384, 1, 0, 0, 0) := by decide +kernel
theorem y94 : k_L_law_[94]? = some (.iaload, 385, 1, 0, 0, 0) := by decide +kernel
theorem y95 : k_L_law_[95]? = some (.invokevirtual 142, 386, 3, 216, 0, 1607) := by decide +kernel
theorem y96 : k_L_law_[96]? = some (.if_icmp .eq 2502, 389, 3, 1667, 0, 0) := by decide +kernel
theorem y97 : k_L_law_[97]? = some (.iconst 0, 392, 1, 0, 0, 0) := by decide +kernel
theorem y98 : k_L_law_[98]? = some (.ireturn, 393, 1, 0, 0, 0) := by decide +kernel
theorem y99 : k_L_law_[99]? = some (.aload_n 1, 394, 1, 0, 0, 0) := by decide +kernel
theorem y100 : k_L_law_[100]? = some (.aload_n 3, 395, 1, 0, 0, 0) := by decide +kernel
theorem y101 : k_L_law_[101]? = some (.invokestatic 143, 396, 3, 337, 0, 756) := by decide +kernel
theorem y102 : k_L_law_[102]? = some (.istore 5, 399, 2, 0, 0, 0) := by decide +kernel
theorem y103 : k_L_law_[103]? = some (.aload_n 2, 401, 1, 0, 0, 0) := by decide +kernel
theorem y104 : k_L_law_[104]? = some (.invokevirtual 148, 402, 3, 244, 0, 1615) := by decide +kernel
theorem y105 : k_L_law_[105]? = some (.istore 6, 405, 2, 0, 0, 0) := by decide +kernel
theorem y106 : k_L_law_[106]? = some (.aload_n 2, 407, 1, 0, 0, 0) := by decide +kernel
theorem y107 : k_L_law_[107]? = some (.invokevirtual 149, 408, 3, 180, 0, 1499) := by decide +kernel
theorem y108 : k_L_law_[108]? = some (.iload 5, 411, 2, 0, 0, 0) := by decide +kernel
theorem y109 : k_L_law_[109]? = some (.if_icmp .eq 5, 413, 3, 112, 0, 0) := by decide +kernel
theorem y110 : k_L_law_[110]? = some (.iconst 0, 416, 1, 0, 0, 0) := by decide +kernel
theorem y111 : k_L_law_[111]? = some (.ireturn, 417, 1, 0, 0, 0) := by decide +kernel
theorem y112 : k_L_law_[112]? = some (.iload 5, 418, 2, 0, 0, 0) := by decide +kernel
theorem y113 : k_L_law_[113]? = some (.ifCond .ne 15, 420, 3, 123, 0, 0) := by decide +kernel
theorem y114 : k_L_law_[114]? = some (.aload_n 3, 423, 1, 0, 0, 0) := by decide +kernel
theorem y115 : k_L_law_[115]? = some (.iconst 0, 424, 1, 0, 0, 0) := by decide +kernel
theorem y116 : k_L_law_[116]? = some (.laload, 425, 1, 0, 0, 0) := by decide +kernel
theorem y117 : k_L_law_[117]? = some (.iload 6, 426, 2, 0, 0, 0) := by decide +kernel
theorem y118 : k_L_law_[118]? = some (.i2l, 428, 1, 0, 0, 0) := by decide +kernel
theorem y119 : k_L_law_[119]? = some (.lcmp, 429, 1, 0, 0, 0) := by decide +kernel
theorem y120 : k_L_law_[120]? = some (.ifCond .eq 5, 430, 3, 123, 0, 0) := by decide +kernel
theorem y121 : k_L_law_[121]? = some (.iconst 0, 433, 1, 0, 0, 0) := by decide +kernel
theorem y122 : k_L_law_[122]? = some (.ireturn, 434, 1, 0, 0, 0) := by decide +kernel
theorem y123 : k_L_law_[123]? = some (.goto 2456, 435, 3, 1667, 0, 0) := by decide +kernel
theorem y124 : k_L_law_[124]? = some (.aload_n 1, 438, 1, 0, 0, 0) := by decide +kernel
theorem y125 : k_L_law_[125]? = some (.aload_n 3, 439, 1, 0, 0, 0) := by decide +kernel
theorem y126 : k_L_law_[126]? = some (.invokestatic 152, 440, 3, 338, 0, 993) := by decide +kernel
theorem y127 : k_L_law_[127]? = some (.istore 5, 443, 2, 0, 0, 0) := by decide +kernel
theorem y128 : k_L_law_[128]? = some (.aload_n 2, 445, 1, 0, 0, 0) := by decide +kernel
theorem y129 : k_L_law_[129]? = some (.invokevirtual 154, 446, 3, 245, 0, 1806) := by decide +kernel
theorem y130 : k_L_law_[130]? = some (.istore 6, 449, 2, 0, 0, 0) := by decide +kernel
theorem y131 : k_L_law_[131]? = some (.aload_n 2, 451, 1, 0, 0, 0) := by decide +kernel
theorem y132 : k_L_law_[132]? = some (.invokevirtual 149, 452, 3, 180, 0, 1499) := by decide +kernel
theorem y133 : k_L_law_[133]? = some (.iload 5, 455, 2, 0, 0, 0) := by decide +kernel
theorem y134 : k_L_law_[134]? = some (.if_icmp .eq 5, 457, 3, 137, 0, 0) := by decide +kernel
theorem y135 : k_L_law_[135]? = some (.iconst 0, 460, 1, 0, 0, 0) := by decide +kernel
theorem y136 : k_L_law_[136]? = some (.ireturn, 461, 1, 0, 0, 0) := by decide +kernel
theorem y137 : k_L_law_[137]? = some (.iload 5, 462, 2, 0, 0, 0) := by decide +kernel
theorem y138 : k_L_law_[138]? = some (.ifCond .ne 15, 464, 3, 148, 0, 0) := by decide +kernel
theorem y139 : k_L_law_[139]? = some (.aload_n 3, 467, 1, 0, 0, 0) := by decide +kernel
theorem y140 : k_L_law_[140]? = some (.iconst 0, 468, 1, 0, 0, 0) := by decide +kernel
theorem y141 : k_L_law_[141]? = some (.laload, 469, 1, 0, 0, 0) := by decide +kernel
theorem y142 : k_L_law_[142]? = some (.iload 6, 470, 2, 0, 0, 0) := by decide +kernel
theorem y143 : k_L_law_[143]? = some (.i2l, 472, 1, 0, 0, 0) := by decide +kernel
theorem y144 : k_L_law_[144]? = some (.lcmp, 473, 1, 0, 0, 0) := by decide +kernel
theorem y145 : k_L_law_[145]? = some (.ifCond .eq 5, 474, 3, 148, 0, 0) := by decide +kernel
theorem y146 : k_L_law_[146]? = some (.iconst 0, 477, 1, 0, 0, 0) := by decide +kernel
theorem y147 : k_L_law_[147]? = some (.ireturn, 478, 1, 0, 0, 0) := by decide +kernel
theorem y148 : k_L_law_[148]? = some (.goto 2412, 479, 3, 1667, 0, 0) := by decide +kernel
theorem y149 : k_L_law_[149]? = some (.aload_n 1, 482, 1, 0, 0, 0) := by decide +kernel
theorem y150 : k_L_law_[150]? = some (.invokevirtual 155, 483, 3, 109, 0, 467) := by decide +kernel
theorem y151 : k_L_law_[151]? = some (.aload_n 2, 486, 1, 0, 0, 0) := by decide +kernel
theorem y152 : k_L_law_[152]? = some (.invokevirtual 158, 487, 3, 225, 0, 1611) := by decide +kernel
theorem y153 : k_L_law_[153]? = some (.if_icmp .eq 2401, 490, 3, 1667, 0, 0) := by decide +kernel
theorem y154 : k_L_law_[154]? = some (.iconst 0, 493, 1, 0, 0, 0) := by decide +kernel
theorem y155 : k_L_law_[155]? = some (.ireturn, 494, 1, 0, 0, 0) := by decide +kernel
theorem y156 : k_L_law_[156]? = some (.aload_n 1, 495, 1, 0, 0, 0) := by decide +kernel
theorem y157 : k_L_law_[157]? = some (.aload_n 0, 496, 1, 0, 0, 0) := by decide +kernel
theorem y158 : k_L_law_[158]? = some (.iload 4, 497, 2, 0, 0, 0) := by decide +kernel
theorem y159 : k_L_law_[159]? = some (.iconst 1, 499, 1, 0, 0, 0) := by decide +kernel
theorem y160 : k_L_law_[160]? = some (.iadd, 500, 1, 0, 0, 0) := by decide +kernel
theorem y161 : k_L_law_[161]? = some (.iaload, 501, 1, 0, 0, 0) := by decide +kernel
theorem y162 : k_L_law_[162]? = some (.aload_n 0, 502, 1, 0, 0, 0) := by decide +kernel
theorem y163 : k_L_law_[163]? = some (.iload 4, 503, 2, 0, 0, 0) := by decide +kernel
theorem y164 : k_L_law_[164]? = some (.iconst 2, 505, 1, 0, 0, 0) := by decide +kernel
theorem y165 : k_L_law_[165]? = some (.iadd, 506, 1, 0, 0, 0) := by decide +kernel
theorem y166 : k_L_law_[166]? = some (.iaload, 507, 1, 0, 0, 0) := by decide +kernel
theorem y167 : k_L_law_[167]? = some (.aload_n 3, 508, 1, 0, 0, 0) := by decide +kernel
theorem y168 : k_L_law_[168]? = some (.invokestatic 159, 509, 3, 339, 0, 1057) := by decide +kernel
theorem y169 : k_L_law_[169]? = some (.istore 5, 512, 2, 0, 0, 0) := by decide +kernel
theorem y170 : k_L_law_[170]? = some (.aload_n 2, 514, 1, 0, 0, 0) := by decide +kernel
theorem y171 : k_L_law_[171]? = some (.aload_n 0, 515, 1, 0, 0, 0) := by decide +kernel
theorem y172 : k_L_law_[172]? = some (.iload 4, 516, 2, 0, 0, 0) := by decide +kernel
theorem y173 : k_L_law_[173]? = some (.iconst 1, 518, 1, 0, 0, 0) := by decide +kernel
theorem y174 : k_L_law_[174]? = some (.iadd, 519, 1, 0, 0, 0) := by decide +kernel
theorem y175 : k_L_law_[175]? = some (.iaload, 520, 1, 0, 0, 0) := by decide +kernel
theorem y176 : k_L_law_[176]? = some (.aload_n 0, 521, 1, 0, 0, 0) := by decide +kernel
theorem y177 : k_L_law_[177]? = some (.iload 4, 522, 2, 0, 0, 0) := by decide +kernel
theorem y178 : k_L_law_[178]? = some (.iconst 2, 524, 1, 0, 0, 0) := by decide +kernel
theorem y179 : k_L_law_[179]? = some (.iadd, 525, 1, 0, 0, 0) := by decide +kernel
theorem y180 : k_L_law_[180]? = some (.iaload, 526, 1, 0, 0, 0) := by decide +kernel
theorem y181 : k_L_law_[181]? = some (.invokevirtual 162, 527, 3, 253, 0, 1810) := by decide +kernel
theorem y182 : k_L_law_[182]? = some (.istore 6, 530, 2, 0, 0, 0) := by decide +kernel
theorem y183 : k_L_law_[183]? = some (.aload_n 2, 532, 1, 0, 0, 0) := by decide +kernel
theorem y184 : k_L_law_[184]? = some (.invokevirtual 149, 533, 3, 180, 0, 1499) := by decide +kernel
theorem y185 : k_L_law_[185]? = some (.iload 5, 536, 2, 0, 0, 0) := by decide +kernel
theorem y186 : k_L_law_[186]? = some (.if_icmp .eq 5, 538, 3, 189, 0, 0) := by decide +kernel
theorem y187 : k_L_law_[187]? = some (.iconst 0, 541, 1, 0, 0, 0) := by decide +kernel
theorem y188 : k_L_law_[188]? = some (.ireturn, 542, 1, 0, 0, 0) := by decide +kernel
theorem y189 : k_L_law_[189]? = some (.iload 5, 543, 2, 0, 0, 0) := by decide +kernel
theorem y190 : k_L_law_[190]? = some (.ifCond .ne 15, 545, 3, 200, 0, 0) := by decide +kernel
theorem y191 : k_L_law_[191]? = some (.aload_n 3, 548, 1, 0, 0, 0) := by decide +kernel
theorem y192 : k_L_law_[192]? = some (.iconst 0, 549, 1, 0, 0, 0) := by decide +kernel
theorem y193 : k_L_law_[193]? = some (.laload, 550, 1, 0, 0, 0) := by decide +kernel
theorem y194 : k_L_law_[194]? = some (.iload 6, 551, 2, 0, 0, 0) := by decide +kernel
theorem y195 : k_L_law_[195]? = some (.i2l, 553, 1, 0, 0, 0) := by decide +kernel
theorem y196 : k_L_law_[196]? = some (.lcmp, 554, 1, 0, 0, 0) := by decide +kernel
theorem y197 : k_L_law_[197]? = some (.ifCond .eq 5, 555, 3, 200, 0, 0) := by decide +kernel
theorem y198 : k_L_law_[198]? = some (.iconst 0, 558, 1, 0, 0, 0) := by decide +kernel
theorem y199 : k_L_law_[199]? = some (.ireturn, 559, 1, 0, 0, 0) := by decide +kernel
theorem y200 : k_L_law_[200]? = some (.goto 2331, 560, 3, 1667, 0, 0) := by decide +kernel
theorem y201 : k_L_law_[201]? = some (.aload_n 1, 563, 1, 0, 0, 0) := by decide +kernel
theorem y202 : k_L_law_[202]? = some (.aload_n 0, 564, 1, 0, 0, 0) := by decide +kernel
theorem y203 : k_L_law_[203]? = some (.iload 4, 565, 2, 0, 0, 0) := by decide +kernel
theorem y204 : k_L_law_[204]? = some (.iconst 1, 567, 1, 0, 0, 0) := by decide +kernel
theorem y205 : k_L_law_[205]? = some (.iadd, 568, 1, 0, 0, 0) := by decide +kernel
theorem y206 : k_L_law_[206]? = some (.iaload, 569, 1, 0, 0, 0) := by decide +kernel
theorem y207 : k_L_law_[207]? = some (.aload_n 3, 570, 1, 0, 0, 0) := by decide +kernel
theorem y208 : k_L_law_[208]? = some (.invokestatic 163, 571, 3, 340, 0, 1108) := by decide +kernel
theorem y209 : k_L_law_[209]? = some (.istore 5, 574, 2, 0, 0, 0) := by decide +kernel
theorem y210 : k_L_law_[210]? = some (.aload_n 2, 576, 1, 0, 0, 0) := by decide +kernel
theorem y211 : k_L_law_[211]? = some (.aload_n 0, 577, 1, 0, 0, 0) := by decide +kernel
theorem y212 : k_L_law_[212]? = some (.iload 4, 578, 2, 0, 0, 0) := by decide +kernel
theorem y213 : k_L_law_[213]? = some (.iconst 1, 580, 1, 0, 0, 0) := by decide +kernel
theorem y214 : k_L_law_[214]? = some (.iadd, 581, 1, 0, 0, 0) := by decide +kernel
theorem y215 : k_L_law_[215]? = some (.iaload, 582, 1, 0, 0, 0) := by decide +kernel
theorem y216 : k_L_law_[216]? = some (.invokevirtual 166, 583, 3, 257, 0, 1858) := by decide +kernel
theorem y217 : k_L_law_[217]? = some (.istore 6, 586, 2, 0, 0, 0) := by decide +kernel
theorem y218 : k_L_law_[218]? = some (.aload_n 2, 588, 1, 0, 0, 0) := by decide +kernel
theorem y219 : k_L_law_[219]? = some (.invokevirtual 149, 589, 3, 180, 0, 1499) := by decide +kernel
theorem y220 : k_L_law_[220]? = some (.iload 5, 592, 2, 0, 0, 0) := by decide +kernel
theorem y221 : k_L_law_[221]? = some (.if_icmp .eq 5, 594, 3, 224, 0, 0) := by decide +kernel
theorem y222 : k_L_law_[222]? = some (.iconst 0, 597, 1, 0, 0, 0) := by decide +kernel
theorem y223 : k_L_law_[223]? = some (.ireturn, 598, 1, 0, 0, 0) := by decide +kernel
theorem y224 : k_L_law_[224]? = some (.iload 5, 599, 2, 0, 0, 0) := by decide +kernel
theorem y225 : k_L_law_[225]? = some (.ifCond .ne 15, 601, 3, 235, 0, 0) := by decide +kernel
theorem y226 : k_L_law_[226]? = some (.aload_n 3, 604, 1, 0, 0, 0) := by decide +kernel
theorem y227 : k_L_law_[227]? = some (.iconst 0, 605, 1, 0, 0, 0) := by decide +kernel
theorem y228 : k_L_law_[228]? = some (.laload, 606, 1, 0, 0, 0) := by decide +kernel
theorem y229 : k_L_law_[229]? = some (.iload 6, 607, 2, 0, 0, 0) := by decide +kernel
theorem y230 : k_L_law_[230]? = some (.i2l, 609, 1, 0, 0, 0) := by decide +kernel
theorem y231 : k_L_law_[231]? = some (.lcmp, 610, 1, 0, 0, 0) := by decide +kernel
theorem y232 : k_L_law_[232]? = some (.ifCond .eq 5, 611, 3, 235, 0, 0) := by decide +kernel
theorem y233 : k_L_law_[233]? = some (.iconst 0, 614, 1, 0, 0, 0) := by decide +kernel
theorem y234 : k_L_law_[234]? = some (.ireturn, 615, 1, 0, 0, 0) := by decide +kernel
theorem y235 : k_L_law_[235]? = some (.goto 2275, 616, 3, 1667, 0, 0) := by decide +kernel
theorem y236 : k_L_law_[236]? = some (.aload_n 1, 619, 1, 0, 0, 0) := by decide +kernel
theorem y237 : k_L_law_[237]? = some (.aload_n 0, 620, 1, 0, 0, 0) := by decide +kernel
theorem y238 : k_L_law_[238]? = some (.iload 4, 621, 2, 0, 0, 0) := by decide +kernel
theorem y239 : k_L_law_[239]? = some (.iconst 1, 623, 1, 0, 0, 0) := by decide +kernel
theorem y240 : k_L_law_[240]? = some (.iadd, 624, 1, 0, 0, 0) := by decide +kernel
theorem y241 : k_L_law_[241]? = some (.iaload, 625, 1, 0, 0, 0) := by decide +kernel
theorem y242 : k_L_law_[242]? = some (.aload_n 0, 626, 1, 0, 0, 0) := by decide +kernel
theorem y243 : k_L_law_[243]? = some (.iload 4, 627, 2, 0, 0, 0) := by decide +kernel
theorem y244 : k_L_law_[244]? = some (.iconst 2, 629, 1, 0, 0, 0) := by decide +kernel
theorem y245 : k_L_law_[245]? = some (.iadd, 630, 1, 0, 0, 0) := by decide +kernel
theorem y246 : k_L_law_[246]? = some (.iaload, 631, 1, 0, 0, 0) := by decide +kernel
theorem y247 : k_L_law_[247]? = some (.aload_n 0, 632, 1, 0, 0, 0) := by decide +kernel
theorem y248 : k_L_law_[248]? = some (.iload 4, 633, 2, 0, 0, 0) := by decide +kernel
theorem y249 : k_L_law_[249]? = some (.iconst 3, 635, 1, 0, 0, 0) := by decide +kernel
theorem y250 : k_L_law_[250]? = some (.iadd, 636, 1, 0, 0, 0) := by decide +kernel
theorem y251 : k_L_law_[251]? = some (.iaload, 637, 1, 0, 0, 0) := by decide +kernel
theorem y252 : k_L_law_[252]? = some (.aload_n 3, 638, 1, 0, 0, 0) := by decide +kernel
theorem y253 : k_L_law_[253]? = some (.invokestatic 167, 639, 3, 341, 0, 1124) := by decide +kernel
theorem y254 : k_L_law_[254]? = some (.istore 5, 642, 2, 0, 0, 0) := by decide +kernel
theorem y255 : k_L_law_[255]? = some (.aload_n 2, 644, 1, 0, 0, 0) := by decide +kernel
theorem y256 : k_L_law_[256]? = some (.aload_n 0, 645, 1, 0, 0, 0) := by decide +kernel
theorem y257 : k_L_law_[257]? = some (.iload 4, 646, 2, 0, 0, 0) := by decide +kernel
theorem y258 : k_L_law_[258]? = some (.iconst 1, 648, 1, 0, 0, 0) := by decide +kernel
theorem y259 : k_L_law_[259]? = some (.iadd, 649, 1, 0, 0, 0) := by decide +kernel
theorem y260 : k_L_law_[260]? = some (.iaload, 650, 1, 0, 0, 0) := by decide +kernel
theorem y261 : k_L_law_[261]? = some (.aload_n 0, 651, 1, 0, 0, 0) := by decide +kernel
theorem y262 : k_L_law_[262]? = some (.iload 4, 652, 2, 0, 0, 0) := by decide +kernel
theorem y263 : k_L_law_[263]? = some (.iconst 2, 654, 1, 0, 0, 0) := by decide +kernel
theorem y264 : k_L_law_[264]? = some (.iadd, 655, 1, 0, 0, 0) := by decide +kernel
theorem y265 : k_L_law_[265]? = some (.iaload, 656, 1, 0, 0, 0) := by decide +kernel
theorem y266 : k_L_law_[266]? = some (.aload_n 0, 657, 1, 0, 0, 0) := by decide +kernel
theorem y267 : k_L_law_[267]? = some (.iload 4, 658, 2, 0, 0, 0) := by decide +kernel
theorem y268 : k_L_law_[268]? = some (.iconst 3, 660, 1, 0, 0, 0) := by decide +kernel
theorem y269 : k_L_law_[269]? = some (.iadd, 661, 1, 0, 0, 0) := by decide +kernel
theorem y270 : k_L_law_[270]? = some (.iaload, 662, 1, 0, 0, 0) := by decide +kernel
theorem y271 : k_L_law_[271]? = some (.invokevirtual 170, 663, 3, 260, 0, 1904) := by decide +kernel
theorem y272 : k_L_law_[272]? = some (.istore 6, 666, 2, 0, 0, 0) := by decide +kernel
theorem y273 : k_L_law_[273]? = some (.aload_n 2, 668, 1, 0, 0, 0) := by decide +kernel
theorem y274 : k_L_law_[274]? = some (.invokevirtual 149, 669, 3, 180, 0, 1499) := by decide +kernel
theorem y275 : k_L_law_[275]? = some (.iload 5, 672, 2, 0, 0, 0) := by decide +kernel
theorem y276 : k_L_law_[276]? = some (.if_icmp .eq 5, 674, 3, 279, 0, 0) := by decide +kernel
theorem y277 : k_L_law_[277]? = some (.iconst 0, 677, 1, 0, 0, 0) := by decide +kernel
theorem y278 : k_L_law_[278]? = some (.ireturn, 678, 1, 0, 0, 0) := by decide +kernel
theorem y279 : k_L_law_[279]? = some (.iload 5, 679, 2, 0, 0, 0) := by decide +kernel
theorem y280 : k_L_law_[280]? = some (.ifCond .ne 15, 681, 3, 290, 0, 0) := by decide +kernel
theorem y281 : k_L_law_[281]? = some (.aload_n 3, 684, 1, 0, 0, 0) := by decide +kernel
theorem y282 : k_L_law_[282]? = some (.iconst 0, 685, 1, 0, 0, 0) := by decide +kernel
theorem y283 : k_L_law_[283]? = some (.laload, 686, 1, 0, 0, 0) := by decide +kernel
theorem y284 : k_L_law_[284]? = some (.iload 6, 687, 2, 0, 0, 0) := by decide +kernel
theorem y285 : k_L_law_[285]? = some (.i2l, 689, 1, 0, 0, 0) := by decide +kernel
theorem y286 : k_L_law_[286]? = some (.lcmp, 690, 1, 0, 0, 0) := by decide +kernel
theorem y287 : k_L_law_[287]? = some (.ifCond .eq 5, 691, 3, 290, 0, 0) := by decide +kernel
theorem y288 : k_L_law_[288]? = some (.iconst 0, 694, 1, 0, 0, 0) := by decide +kernel
theorem y289 : k_L_law_[289]? = some (.ireturn, 695, 1, 0, 0, 0) := by decide +kernel
theorem y290 : k_L_law_[290]? = some (.goto 2195, 696, 3, 1667, 0, 0) := by decide +kernel
theorem y291 : k_L_law_[291]? = some (.aload_n 1, 699, 1, 0, 0, 0) := by decide +kernel
theorem y292 : k_L_law_[292]? = some (.aload_n 0, 700, 1, 0, 0, 0) := by decide +kernel
theorem y293 : k_L_law_[293]? = some (.iload 4, 701, 2, 0, 0, 0) := by decide +kernel
theorem y294 : k_L_law_[294]? = some (.iconst 1, 703, 1, 0, 0, 0) := by decide +kernel
theorem y295 : k_L_law_[295]? = some (.iadd, 704, 1, 0, 0, 0) := by decide +kernel
theorem y296 : k_L_law_[296]? = some (.iaload, 705, 1, 0, 0, 0) := by decide +kernel
theorem y297 : k_L_law_[297]? = some (.aload_n 3, 706, 1, 0, 0, 0) := by decide +kernel
theorem y298 : k_L_law_[298]? = some (.invokestatic 171, 707, 3, 342, 0, 1167) := by decide +kernel
theorem y299 : k_L_law_[299]? = some (.istore 5, 710, 2, 0, 0, 0) := by decide +kernel
theorem y300 : k_L_law_[300]? = some (.aload_n 2, 712, 1, 0, 0, 0) := by decide +kernel
theorem y301 : k_L_law_[301]? = some (.aload_n 0, 713, 1, 0, 0, 0) := by decide +kernel
theorem y302 : k_L_law_[302]? = some (.iload 4, 714, 2, 0, 0, 0) := by decide +kernel
theorem y303 : k_L_law_[303]? = some (.iconst 1, 716, 1, 0, 0, 0) := by decide +kernel
theorem y304 : k_L_law_[304]? = some (.iadd, 717, 1, 0, 0, 0) := by decide +kernel
theorem y305 : k_L_law_[305]? = some (.iaload, 718, 1, 0, 0, 0) := by decide +kernel
theorem y306 : k_L_law_[306]? = some (.invokevirtual 173, 719, 3, 261, 0, 1928) := by decide +kernel
theorem y307 : k_L_law_[307]? = some (.istore 6, 722, 2, 0, 0, 0) := by decide +kernel
theorem y308 : k_L_law_[308]? = some (.aload_n 2, 724, 1, 0, 0, 0) := by decide +kernel
theorem y309 : k_L_law_[309]? = some (.invokevirtual 149, 725, 3, 180, 0, 1499) := by decide +kernel
theorem y310 : k_L_law_[310]? = some (.iload 5, 728, 2, 0, 0, 0) := by decide +kernel
theorem y311 : k_L_law_[311]? = some (.if_icmp .eq 5, 730, 3, 314, 0, 0) := by decide +kernel
theorem y312 : k_L_law_[312]? = some (.iconst 0, 733, 1, 0, 0, 0) := by decide +kernel
theorem y313 : k_L_law_[313]? = some (.ireturn, 734, 1, 0, 0, 0) := by decide +kernel
theorem y314 : k_L_law_[314]? = some (.iload 5, 735, 2, 0, 0, 0) := by decide +kernel
theorem y315 : k_L_law_[315]? = some (.ifCond .ne 15, 737, 3, 325, 0, 0) := by decide +kernel
theorem y316 : k_L_law_[316]? = some (.aload_n 3, 740, 1, 0, 0, 0) := by decide +kernel
theorem y317 : k_L_law_[317]? = some (.iconst 0, 741, 1, 0, 0, 0) := by decide +kernel
theorem y318 : k_L_law_[318]? = some (.laload, 742, 1, 0, 0, 0) := by decide +kernel
theorem y319 : k_L_law_[319]? = some (.iload 6, 743, 2, 0, 0, 0) := by decide +kernel
theorem y320 : k_L_law_[320]? = some (.i2l, 745, 1, 0, 0, 0) := by decide +kernel
theorem y321 : k_L_law_[321]? = some (.lcmp, 746, 1, 0, 0, 0) := by decide +kernel
theorem y322 : k_L_law_[322]? = some (.ifCond .eq 5, 747, 3, 325, 0, 0) := by decide +kernel
theorem y323 : k_L_law_[323]? = some (.iconst 0, 750, 1, 0, 0, 0) := by decide +kernel
theorem y324 : k_L_law_[324]? = some (.ireturn, 751, 1, 0, 0, 0) := by decide +kernel
theorem y325 : k_L_law_[325]? = some (.goto 2139, 752, 3, 1667, 0, 0) := by decide +kernel
theorem y326 : k_L_law_[326]? = some (.aload_n 1, 755, 1, 0, 0, 0) := by decide +kernel
theorem y327 : k_L_law_[327]? = some (.aload_n 0, 756, 1, 0, 0, 0) := by decide +kernel
theorem y328 : k_L_law_[328]? = some (.iload 4, 757, 2, 0, 0, 0) := by decide +kernel
theorem y329 : k_L_law_[329]? = some (.iconst 1, 759, 1, 0, 0, 0) := by decide +kernel
theorem y330 : k_L_law_[330]? = some (.iadd, 760, 1, 0, 0, 0) := by decide +kernel
theorem y331 : k_L_law_[331]? = some (.iaload, 761, 1, 0, 0, 0) := by decide +kernel
theorem y332 : k_L_law_[332]? = some (.aload_n 0, 762, 1, 0, 0, 0) := by decide +kernel
theorem y333 : k_L_law_[333]? = some (.iload 4, 763, 2, 0, 0, 0) := by decide +kernel
theorem y334 : k_L_law_[334]? = some (.iconst 2, 765, 1, 0, 0, 0) := by decide +kernel
theorem y335 : k_L_law_[335]? = some (.iadd, 766, 1, 0, 0, 0) := by decide +kernel
theorem y336 : k_L_law_[336]? = some (.iaload, 767, 1, 0, 0, 0) := by decide +kernel
theorem y337 : k_L_law_[337]? = some (.aload_n 3, 768, 1, 0, 0, 0) := by decide +kernel
theorem y338 : k_L_law_[338]? = some (.invokestatic 174, 769, 3, 343, 0, 1178) := by decide +kernel
theorem y339 : k_L_law_[339]? = some (.istore 5, 772, 2, 0, 0, 0) := by decide +kernel
theorem y340 : k_L_law_[340]? = some (.aload_n 2, 774, 1, 0, 0, 0) := by decide +kernel
theorem y341 : k_L_law_[341]? = some (.aload_n 0, 775, 1, 0, 0, 0) := by decide +kernel
theorem y342 : k_L_law_[342]? = some (.iload 4, 776, 2, 0, 0, 0) := by decide +kernel
theorem y343 : k_L_law_[343]? = some (.iconst 1, 778, 1, 0, 0, 0) := by decide +kernel
theorem y344 : k_L_law_[344]? = some (.iadd, 779, 1, 0, 0, 0) := by decide +kernel
theorem y345 : k_L_law_[345]? = some (.iaload, 780, 1, 0, 0, 0) := by decide +kernel
theorem y346 : k_L_law_[346]? = some (.aload_n 0, 781, 1, 0, 0, 0) := by decide +kernel
theorem y347 : k_L_law_[347]? = some (.iload 4, 782, 2, 0, 0, 0) := by decide +kernel
theorem y348 : k_L_law_[348]? = some (.iconst 2, 784, 1, 0, 0, 0) := by decide +kernel
theorem y349 : k_L_law_[349]? = some (.iadd, 785, 1, 0, 0, 0) := by decide +kernel
theorem y350 : k_L_law_[350]? = some (.iaload, 786, 1, 0, 0, 0) := by decide +kernel
theorem y351 : k_L_law_[351]? = some (.invokevirtual 176, 787, 3, 263, 0, 1932) := by decide +kernel
theorem y352 : k_L_law_[352]? = some (.istore 6, 790, 2, 0, 0, 0) := by decide +kernel
theorem y353 : k_L_law_[353]? = some (.aload_n 2, 792, 1, 0, 0, 0) := by decide +kernel
theorem y354 : k_L_law_[354]? = some (.invokevirtual 149, 793, 3, 180, 0, 1499) := by decide +kernel
theorem y355 : k_L_law_[355]? = some (.iload 5, 796, 2, 0, 0, 0) := by decide +kernel
theorem y356 : k_L_law_[356]? = some (.if_icmp .eq 5, 798, 3, 359, 0, 0) := by decide +kernel
theorem y357 : k_L_law_[357]? = some (.iconst 0, 801, 1, 0, 0, 0) := by decide +kernel
theorem y358 : k_L_law_[358]? = some (.ireturn, 802, 1, 0, 0, 0) := by decide +kernel
theorem y359 : k_L_law_[359]? = some (.iload 5, 803, 2, 0, 0, 0) := by decide +kernel
theorem y360 : k_L_law_[360]? = some (.ifCond .ne 15, 805, 3, 370, 0, 0) := by decide +kernel
theorem y361 : k_L_law_[361]? = some (.aload_n 3, 808, 1, 0, 0, 0) := by decide +kernel
theorem y362 : k_L_law_[362]? = some (.iconst 0, 809, 1, 0, 0, 0) := by decide +kernel
theorem y363 : k_L_law_[363]? = some (.laload, 810, 1, 0, 0, 0) := by decide +kernel
theorem y364 : k_L_law_[364]? = some (.iload 6, 811, 2, 0, 0, 0) := by decide +kernel
theorem y365 : k_L_law_[365]? = some (.i2l, 813, 1, 0, 0, 0) := by decide +kernel
theorem y366 : k_L_law_[366]? = some (.lcmp, 814, 1, 0, 0, 0) := by decide +kernel
theorem y367 : k_L_law_[367]? = some (.ifCond .eq 5, 815, 3, 370, 0, 0) := by decide +kernel
theorem y368 : k_L_law_[368]? = some (.iconst 0, 818, 1, 0, 0, 0) := by decide +kernel
theorem y369 : k_L_law_[369]? = some (.ireturn, 819, 1, 0, 0, 0) := by decide +kernel
theorem y370 : k_L_law_[370]? = some (.goto 2071, 820, 3, 1667, 0, 0) := by decide +kernel
theorem y371 : k_L_law_[371]? = some (.aload_n 1, 823, 1, 0, 0, 0) := by decide +kernel
theorem y372 : k_L_law_[372]? = some (.aload_n 0, 824, 1, 0, 0, 0) := by decide +kernel
theorem y373 : k_L_law_[373]? = some (.iload 4, 825, 2, 0, 0, 0) := by decide +kernel
theorem y374 : k_L_law_[374]? = some (.iconst 1, 827, 1, 0, 0, 0) := by decide +kernel
theorem y375 : k_L_law_[375]? = some (.iadd, 828, 1, 0, 0, 0) := by decide +kernel
theorem y376 : k_L_law_[376]? = some (.iaload, 829, 1, 0, 0, 0) := by decide +kernel
theorem y377 : k_L_law_[377]? = some (.aload_n 0, 830, 1, 0, 0, 0) := by decide +kernel
theorem y378 : k_L_law_[378]? = some (.iload 4, 831, 2, 0, 0, 0) := by decide +kernel
theorem y379 : k_L_law_[379]? = some (.iconst 2, 833, 1, 0, 0, 0) := by decide +kernel
theorem y380 : k_L_law_[380]? = some (.iadd, 834, 1, 0, 0, 0) := by decide +kernel
theorem y381 : k_L_law_[381]? = some (.iaload, 835, 1, 0, 0, 0) := by decide +kernel
theorem y382 : k_L_law_[382]? = some (.aload_n 3, 836, 1, 0, 0, 0) := by decide +kernel
theorem y383 : k_L_law_[383]? = some (.invokestatic 177, 837, 3, 344, 0, 1194) := by decide +kernel
theorem y384 : k_L_law_[384]? = some (.istore 5, 840, 2, 0, 0, 0) := by decide +kernel
theorem y385 : k_L_law_[385]? = some (.aload_n 2, 842, 1, 0, 0, 0) := by decide +kernel
theorem y386 : k_L_law_[386]? = some (.aload_n 0, 843, 1, 0, 0, 0) := by decide +kernel
theorem y387 : k_L_law_[387]? = some (.iload 4, 844, 2, 0, 0, 0) := by decide +kernel
theorem y388 : k_L_law_[388]? = some (.iconst 1, 846, 1, 0, 0, 0) := by decide +kernel
theorem y389 : k_L_law_[389]? = some (.iadd, 847, 1, 0, 0, 0) := by decide +kernel
theorem y390 : k_L_law_[390]? = some (.iaload, 848, 1, 0, 0, 0) := by decide +kernel
theorem y391 : k_L_law_[391]? = some (.aload_n 0, 849, 1, 0, 0, 0) := by decide +kernel
theorem y392 : k_L_law_[392]? = some (.iload 4, 850, 2, 0, 0, 0) := by decide +kernel
theorem y393 : k_L_law_[393]? = some (.iconst 2, 852, 1, 0, 0, 0) := by decide +kernel
theorem y394 : k_L_law_[394]? = some (.iadd, 853, 1, 0, 0, 0) := by decide +kernel
theorem y395 : k_L_law_[395]? = some (.iaload, 854, 1, 0, 0, 0) := by decide +kernel
theorem y396 : k_L_law_[396]? = some (.invokevirtual 179, 855, 3, 264, 0, 1940) := by decide +kernel
theorem y397 : k_L_law_[397]? = some (.istore 6, 858, 2, 0, 0, 0) := by decide +kernel
theorem y398 : k_L_law_[398]? = some (.aload_n 2, 860, 1, 0, 0, 0) := by decide +kernel
theorem y399 : k_L_law_[399]? = some (.invokevirtual 149, 861, 3, 180, 0, 1499) := by decide +kernel
theorem y400 : k_L_law_[400]? = some (.iload 5, 864, 2, 0, 0, 0) := by decide +kernel
theorem y401 : k_L_law_[401]? = some (.if_icmp .eq 5, 866, 3, 404, 0, 0) := by decide +kernel
theorem y402 : k_L_law_[402]? = some (.iconst 0, 869, 1, 0, 0, 0) := by decide +kernel
theorem y403 : k_L_law_[403]? = some (.ireturn, 870, 1, 0, 0, 0) := by decide +kernel
theorem y404 : k_L_law_[404]? = some (.iload 5, 871, 2, 0, 0, 0) := by decide +kernel
theorem y405 : k_L_law_[405]? = some (.ifCond .ne 15, 873, 3, 415, 0, 0) := by decide +kernel
theorem y406 : k_L_law_[406]? = some (.aload_n 3, 876, 1, 0, 0, 0) := by decide +kernel
theorem y407 : k_L_law_[407]? = some (.iconst 0, 877, 1, 0, 0, 0) := by decide +kernel
theorem y408 : k_L_law_[408]? = some (.laload, 878, 1, 0, 0, 0) := by decide +kernel
theorem y409 : k_L_law_[409]? = some (.iload 6, 879, 2, 0, 0, 0) := by decide +kernel
theorem y410 : k_L_law_[410]? = some (.i2l, 881, 1, 0, 0, 0) := by decide +kernel
theorem y411 : k_L_law_[411]? = some (.lcmp, 882, 1, 0, 0, 0) := by decide +kernel
theorem y412 : k_L_law_[412]? = some (.ifCond .eq 5, 883, 3, 415, 0, 0) := by decide +kernel
theorem y413 : k_L_law_[413]? = some (.iconst 0, 886, 1, 0, 0, 0) := by decide +kernel
theorem y414 : k_L_law_[414]? = some (.ireturn, 887, 1, 0, 0, 0) := by decide +kernel
theorem y415 : k_L_law_[415]? = some (.goto 2003, 888, 3, 1667, 0, 0) := by decide +kernel
theorem y416 : k_L_law_[416]? = some (.aload_n 1, 891, 1, 0, 0, 0) := by decide +kernel
theorem y417 : k_L_law_[417]? = some (.aload_n 0, 892, 1, 0, 0, 0) := by decide +kernel
theorem y418 : k_L_law_[418]? = some (.iload 4, 893, 2, 0, 0, 0) := by decide +kernel
theorem y419 : k_L_law_[419]? = some (.iconst 1, 895, 1, 0, 0, 0) := by decide +kernel
theorem y420 : k_L_law_[420]? = some (.iadd, 896, 1, 0, 0, 0) := by decide +kernel
theorem y421 : k_L_law_[421]? = some (.iaload, 897, 1, 0, 0, 0) := by decide +kernel
theorem y422 : k_L_law_[422]? = some (.aload_n 3, 898, 1, 0, 0, 0) := by decide +kernel
theorem y423 : k_L_law_[423]? = some (.invokestatic 180, 899, 3, 345, 0, 1201) := by decide +kernel
theorem y424 : k_L_law_[424]? = some (.istore 5, 902, 2, 0, 0, 0) := by decide +kernel
theorem y425 : k_L_law_[425]? = some (.aload_n 2, 904, 1, 0, 0, 0) := by decide +kernel
theorem y426 : k_L_law_[426]? = some (.aload_n 0, 905, 1, 0, 0, 0) := by decide +kernel
theorem y427 : k_L_law_[427]? = some (.iload 4, 906, 2, 0, 0, 0) := by decide +kernel
theorem y428 : k_L_law_[428]? = some (.iconst 1, 908, 1, 0, 0, 0) := by decide +kernel
theorem y429 : k_L_law_[429]? = some (.iadd, 909, 1, 0, 0, 0) := by decide +kernel
theorem y430 : k_L_law_[430]? = some (.iaload, 910, 1, 0, 0, 0) := by decide +kernel
theorem y431 : k_L_law_[431]? = some (.invokevirtual 182, 911, 3, 265, 0, 1944) := by decide +kernel
theorem y432 : k_L_law_[432]? = some (.istore 6, 914, 2, 0, 0, 0) := by decide +kernel
theorem y433 : k_L_law_[433]? = some (.aload_n 2, 916, 1, 0, 0, 0) := by decide +kernel
theorem y434 : k_L_law_[434]? = some (.invokevirtual 149, 917, 3, 180, 0, 1499) := by decide +kernel
theorem y435 : k_L_law_[435]? = some (.iload 5, 920, 2, 0, 0, 0) := by decide +kernel
theorem y436 : k_L_law_[436]? = some (.if_icmp .eq 5, 922, 3, 439, 0, 0) := by decide +kernel
theorem y437 : k_L_law_[437]? = some (.iconst 0, 925, 1, 0, 0, 0) := by decide +kernel
theorem y438 : k_L_law_[438]? = some (.ireturn, 926, 1, 0, 0, 0) := by decide +kernel
theorem y439 : k_L_law_[439]? = some (.iload 5, 927, 2, 0, 0, 0) := by decide +kernel
theorem y440 : k_L_law_[440]? = some (.ifCond .ne 15, 929, 3, 450, 0, 0) := by decide +kernel
theorem y441 : k_L_law_[441]? = some (.aload_n 3, 932, 1, 0, 0, 0) := by decide +kernel
theorem y442 : k_L_law_[442]? = some (.iconst 0, 933, 1, 0, 0, 0) := by decide +kernel
theorem y443 : k_L_law_[443]? = some (.laload, 934, 1, 0, 0, 0) := by decide +kernel
theorem y444 : k_L_law_[444]? = some (.iload 6, 935, 2, 0, 0, 0) := by decide +kernel
theorem y445 : k_L_law_[445]? = some (.i2l, 937, 1, 0, 0, 0) := by decide +kernel
theorem y446 : k_L_law_[446]? = some (.lcmp, 938, 1, 0, 0, 0) := by decide +kernel
theorem y447 : k_L_law_[447]? = some (.ifCond .eq 5, 939, 3, 450, 0, 0) := by decide +kernel
theorem y448 : k_L_law_[448]? = some (.iconst 0, 942, 1, 0, 0, 0) := by decide +kernel
theorem y449 : k_L_law_[449]? = some (.ireturn, 943, 1, 0, 0, 0) := by decide +kernel
theorem y450 : k_L_law_[450]? = some (.goto 1947, 944, 3, 1667, 0, 0) := by decide +kernel
theorem y451 : k_L_law_[451]? = some (.aload_n 1, 947, 1, 0, 0, 0) := by decide +kernel
theorem y452 : k_L_law_[452]? = some (.aload_n 0, 948, 1, 0, 0, 0) := by decide +kernel
theorem y453 : k_L_law_[453]? = some (.iload 4, 949, 2, 0, 0, 0) := by decide +kernel
theorem y454 : k_L_law_[454]? = some (.iconst 1, 951, 1, 0, 0, 0) := by decide +kernel
theorem y455 : k_L_law_[455]? = some (.iadd, 952, 1, 0, 0, 0) := by decide +kernel
theorem y456 : k_L_law_[456]? = some (.iaload, 953, 1, 0, 0, 0) := by decide +kernel
theorem y457 : k_L_law_[457]? = some (.aload_n 3, 954, 1, 0, 0, 0) := by decide +kernel
theorem y458 : k_L_law_[458]? = some (.invokestatic 183, 955, 3, 346, 0, 1208) := by decide +kernel
theorem y459 : k_L_law_[459]? = some (.istore 5, 958, 2, 0, 0, 0) := by decide +kernel
theorem y460 : k_L_law_[460]? = some (.aload_n 2, 960, 1, 0, 0, 0) := by decide +kernel
theorem y461 : k_L_law_[461]? = some (.aload_n 0, 961, 1, 0, 0, 0) := by decide +kernel
theorem y462 : k_L_law_[462]? = some (.iload 4, 962, 2, 0, 0, 0) := by decide +kernel
theorem y463 : k_L_law_[463]? = some (.iconst 1, 964, 1, 0, 0, 0) := by decide +kernel
theorem y464 : k_L_law_[464]? = some (.iadd, 965, 1, 0, 0, 0) := by decide +kernel
theorem y465 : k_L_law_[465]? = some (.iaload, 966, 1, 0, 0, 0) := by decide +kernel
theorem y466 : k_L_law_[466]? = some (.invokevirtual 185, 967, 3, 266, 0, 1948) := by decide +kernel
theorem y467 : k_L_law_[467]? = some (.istore 6, 970, 2, 0, 0, 0) := by decide +kernel
theorem y468 : k_L_law_[468]? = some (.aload_n 2, 972, 1, 0, 0, 0) := by decide +kernel
theorem y469 : k_L_law_[469]? = some (.invokevirtual 149, 973, 3, 180, 0, 1499) := by decide +kernel
theorem y470 : k_L_law_[470]? = some (.iload 5, 976, 2, 0, 0, 0) := by decide +kernel
theorem y471 : k_L_law_[471]? = some (.if_icmp .eq 5, 978, 3, 474, 0, 0) := by decide +kernel
theorem y472 : k_L_law_[472]? = some (.iconst 0, 981, 1, 0, 0, 0) := by decide +kernel
theorem y473 : k_L_law_[473]? = some (.ireturn, 982, 1, 0, 0, 0) := by decide +kernel
theorem y474 : k_L_law_[474]? = some (.iload 5, 983, 2, 0, 0, 0) := by decide +kernel
theorem y475 : k_L_law_[475]? = some (.ifCond .ne 15, 985, 3, 485, 0, 0) := by decide +kernel
theorem y476 : k_L_law_[476]? = some (.aload_n 3, 988, 1, 0, 0, 0) := by decide +kernel
theorem y477 : k_L_law_[477]? = some (.iconst 0, 989, 1, 0, 0, 0) := by decide +kernel
theorem y478 : k_L_law_[478]? = some (.laload, 990, 1, 0, 0, 0) := by decide +kernel
theorem y479 : k_L_law_[479]? = some (.iload 6, 991, 2, 0, 0, 0) := by decide +kernel
theorem y480 : k_L_law_[480]? = some (.i2l, 993, 1, 0, 0, 0) := by decide +kernel
theorem y481 : k_L_law_[481]? = some (.lcmp, 994, 1, 0, 0, 0) := by decide +kernel
theorem y482 : k_L_law_[482]? = some (.ifCond .eq 5, 995, 3, 485, 0, 0) := by decide +kernel
theorem y483 : k_L_law_[483]? = some (.iconst 0, 998, 1, 0, 0, 0) := by decide +kernel
theorem y484 : k_L_law_[484]? = some (.ireturn, 999, 1, 0, 0, 0) := by decide +kernel
theorem y485 : k_L_law_[485]? = some (.goto 1891, 1000, 3, 1667, 0, 0) := by decide +kernel
theorem y486 : k_L_law_[486]? = some (.aload_n 1, 1003, 1, 0, 0, 0) := by decide +kernel
theorem y487 : k_L_law_[487]? = some (.aload_n 0, 1004, 1, 0, 0, 0) := by decide +kernel
theorem y488 : k_L_law_[488]? = some (.iload 4, 1005, 2, 0, 0, 0) := by decide +kernel
theorem y489 : k_L_law_[489]? = some (.iconst 1, 1007, 1, 0, 0, 0) := by decide +kernel
theorem y490 : k_L_law_[490]? = some (.iadd, 1008, 1, 0, 0, 0) := by decide +kernel
theorem y491 : k_L_law_[491]? = some (.iaload, 1009, 1, 0, 0, 0) := by decide +kernel
theorem y492 : k_L_law_[492]? = some (.aload_n 3, 1010, 1, 0, 0, 0) := by decide +kernel
theorem y493 : k_L_law_[493]? = some (.invokestatic 186, 1011, 3, 347, 0, 1215) := by decide +kernel
theorem y494 : k_L_law_[494]? = some (.istore 5, 1014, 2, 0, 0, 0) := by decide +kernel
theorem y495 : k_L_law_[495]? = some (.aload_n 2, 1016, 1, 0, 0, 0) := by decide +kernel
theorem y496 : k_L_law_[496]? = some (.aload_n 0, 1017, 1, 0, 0, 0) := by decide +kernel
theorem y497 : k_L_law_[497]? = some (.iload 4, 1018, 2, 0, 0, 0) := by decide +kernel
theorem y498 : k_L_law_[498]? = some (.iconst 1, 1020, 1, 0, 0, 0) := by decide +kernel
theorem y499 : k_L_law_[499]? = some (.iadd, 1021, 1, 0, 0, 0) := by decide +kernel
theorem y500 : k_L_law_[500]? = some (.iaload, 1022, 1, 0, 0, 0) := by decide +kernel
theorem y501 : k_L_law_[501]? = some (.invokevirtual 188, 1023, 3, 267, 0, 1952) := by decide +kernel
theorem y502 : k_L_law_[502]? = some (.istore 6, 1026, 2, 0, 0, 0) := by decide +kernel
theorem y503 : k_L_law_[503]? = some (.aload_n 2, 1028, 1, 0, 0, 0) := by decide +kernel
theorem y504 : k_L_law_[504]? = some (.invokevirtual 149, 1029, 3, 180, 0, 1499) := by decide +kernel
theorem y505 : k_L_law_[505]? = some (.iload 5, 1032, 2, 0, 0, 0) := by decide +kernel
theorem y506 : k_L_law_[506]? = some (.if_icmp .eq 5, 1034, 3, 509, 0, 0) := by decide +kernel
theorem y507 : k_L_law_[507]? = some (.iconst 0, 1037, 1, 0, 0, 0) := by decide +kernel
theorem y508 : k_L_law_[508]? = some (.ireturn, 1038, 1, 0, 0, 0) := by decide +kernel
theorem y509 : k_L_law_[509]? = some (.iload 5, 1039, 2, 0, 0, 0) := by decide +kernel
theorem y510 : k_L_law_[510]? = some (.ifCond .ne 15, 1041, 3, 520, 0, 0) := by decide +kernel
theorem y511 : k_L_law_[511]? = some (.aload_n 3, 1044, 1, 0, 0, 0) := by decide +kernel
theorem y512 : k_L_law_[512]? = some (.iconst 0, 1045, 1, 0, 0, 0) := by decide +kernel
theorem y513 : k_L_law_[513]? = some (.laload, 1046, 1, 0, 0, 0) := by decide +kernel
theorem y514 : k_L_law_[514]? = some (.iload 6, 1047, 2, 0, 0, 0) := by decide +kernel
theorem y515 : k_L_law_[515]? = some (.i2l, 1049, 1, 0, 0, 0) := by decide +kernel
theorem y516 : k_L_law_[516]? = some (.lcmp, 1050, 1, 0, 0, 0) := by decide +kernel
theorem y517 : k_L_law_[517]? = some (.ifCond .eq 5, 1051, 3, 520, 0, 0) := by decide +kernel
theorem y518 : k_L_law_[518]? = some (.iconst 0, 1054, 1, 0, 0, 0) := by decide +kernel
theorem y519 : k_L_law_[519]? = some (.ireturn, 1055, 1, 0, 0, 0) := by decide +kernel
theorem y520 : k_L_law_[520]? = some (.goto 1835, 1056, 3, 1667, 0, 0) := by decide +kernel
theorem y521 : k_L_law_[521]? = some (.aload_n 1, 1059, 1, 0, 0, 0) := by decide +kernel
theorem y522 : k_L_law_[522]? = some (.invokevirtual 189, 1060, 3, 121, 0, 471) := by decide +kernel
theorem y523 : k_L_law_[523]? = some (.aload_n 2, 1063, 1, 0, 0, 0) := by decide +kernel
theorem y524 : k_L_law_[524]? = some (.invokevirtual 192, 1064, 3, 268, 0, 1956) := by decide +kernel
theorem y525 : k_L_law_[525]? = some (.if_icmp .eq 1824, 1067, 3, 1667, 0, 0) := by decide +kernel
theorem y526 : k_L_law_[526]? = some (.iconst 0, 1070, 1, 0, 0, 0) := by decide +kernel
theorem y527 : k_L_law_[527]? = some (.ireturn, 1071, 1, 0, 0, 0) := by decide +kernel
theorem y528 : k_L_law_[528]? = some (.aload_n 1, 1072, 1, 0, 0, 0) := by decide +kernel
theorem y529 : k_L_law_[529]? = some (.invokevirtual 193, 1073, 3, 122, 0, 478) := by decide +kernel
theorem y530 : k_L_law_[530]? = some (.aload_n 2, 1076, 1, 0, 0, 0) := by decide +kernel
theorem y531 : k_L_law_[531]? = some (.invokevirtual 196, 1077, 3, 269, 0, 1960) := by decide +kernel
theorem y532 : k_L_law_[532]? = some (.if_icmp .eq 1811, 1080, 3, 1667, 0, 0) := by decide +kernel
theorem y533 : k_L_law_[533]? = some (.iconst 0, 1083, 1, 0, 0, 0) := by decide +kernel
theorem y534 : k_L_law_[534]? = some (.ireturn, 1084, 1, 0, 0, 0) := by decide +kernel
theorem y535 : k_L_law_[535]? = some (.aload_n 1, 1085, 1, 0, 0, 0) := by decide +kernel
theorem y536 : k_L_law_[536]? = some (.invokevirtual 197, 1086, 3, 123, 0, 490) := by decide +kernel
theorem y537 : k_L_law_[537]? = some (.aload_n 2, 1089, 1, 0, 0, 0) := by decide +kernel
theorem y538 : k_L_law_[538]? = some (.invokevirtual 200, 1090, 3, 270, 0, 1964) := by decide +kernel
theorem y539 : k_L_law_[539]? = some (.if_icmp .eq 1798, 1093, 3, 1667, 0, 0) := by decide +kernel
theorem y540 : k_L_law_[540]? = some (.iconst 0, 1096, 1, 0, 0, 0) := by decide +kernel
theorem y541 : k_L_law_[541]? = some (.ireturn, 1097, 1, 0, 0, 0) := by decide +kernel
theorem y542 : k_L_law_[542]? = some (.aload_n 1, 1098, 1, 0, 0, 0) := by decide +kernel
theorem y543 : k_L_law_[543]? = some (.invokevirtual 201, 1099, 3, 124, 0, 498) := by decide +kernel
theorem y544 : k_L_law_[544]? = some (.aload_n 2, 1102, 1, 0, 0, 0) := by decide +kernel
theorem y545 : k_L_law_[545]? = some (.invokevirtual 204, 1103, 3, 271, 0, 1968) := by decide +kernel
theorem y546 : k_L_law_[546]? = some (.if_icmp .eq 1785, 1106, 3, 1667, 0, 0) := by decide +kernel
theorem y547 : k_L_law_[547]? = some (.iconst 0, 1109, 1, 0, 0, 0) := by decide +kernel
theorem y548 : k_L_law_[548]? = some (.ireturn, 1110, 1, 0, 0, 0) := by decide +kernel
theorem y549 : k_L_law_[549]? = some (.aload_n 1, 1111, 1, 0, 0, 0) := by decide +kernel
theorem y550 : k_L_law_[550]? = some (.aload_n 0, 1112, 1, 0, 0, 0) := by decide +kernel
theorem y551 : k_L_law_[551]? = some (.iload 4, 1113, 2, 0, 0, 0) := by decide +kernel
theorem y552 : k_L_law_[552]? = some (.iconst 1, 1115, 1, 0, 0, 0) := by decide +kernel
theorem y553 : k_L_law_[553]? = some (.iadd, 1116, 1, 0, 0, 0) := by decide +kernel
theorem y554 : k_L_law_[554]? = some (.iaload, 1117, 1, 0, 0, 0) := by decide +kernel
theorem y555 : k_L_law_[555]? = some (.aload_n 3, 1118, 1, 0, 0, 0) := by decide +kernel
theorem y556 : k_L_law_[556]? = some (.invokestatic 205, 1119, 3, 348, 0, 1222) := by decide +kernel
theorem y557 : k_L_law_[557]? = some (.istore 5, 1122, 2, 0, 0, 0) := by decide +kernel
theorem y558 : k_L_law_[558]? = some (.aload_n 2, 1124, 1, 0, 0, 0) := by decide +kernel
theorem y559 : k_L_law_[559]? = some (.aload_n 0, 1125, 1, 0, 0, 0) := by decide +kernel
theorem y560 : k_L_law_[560]? = some (.iload 4, 1126, 2, 0, 0, 0) := by decide +kernel
theorem y561 : k_L_law_[561]? = some (.iconst 1, 1128, 1, 0, 0, 0) := by decide +kernel
theorem y562 : k_L_law_[562]? = some (.iadd, 1129, 1, 0, 0, 0) := by decide +kernel
theorem y563 : k_L_law_[563]? = some (.iaload, 1130, 1, 0, 0, 0) := by decide +kernel
theorem y564 : k_L_law_[564]? = some (.invokevirtual 207, 1131, 3, 273, 0, 1973) := by decide +kernel
theorem y565 : k_L_law_[565]? = some (.istore 6, 1134, 2, 0, 0, 0) := by decide +kernel
theorem y566 : k_L_law_[566]? = some (.aload_n 2, 1136, 1, 0, 0, 0) := by decide +kernel
theorem y567 : k_L_law_[567]? = some (.invokevirtual 149, 1137, 3, 180, 0, 1499) := by decide +kernel
theorem y568 : k_L_law_[568]? = some (.iload 5, 1140, 2, 0, 0, 0) := by decide +kernel
theorem y569 : k_L_law_[569]? = some (.if_icmp .eq 5, 1142, 3, 572, 0, 0) := by decide +kernel
theorem y570 : k_L_law_[570]? = some (.iconst 0, 1145, 1, 0, 0, 0) := by decide +kernel
theorem y571 : k_L_law_[571]? = some (.ireturn, 1146, 1, 0, 0, 0) := by decide +kernel
theorem y572 : k_L_law_[572]? = some (.iload 5, 1147, 2, 0, 0, 0) := by decide +kernel
theorem y573 : k_L_law_[573]? = some (.ifCond .ne 15, 1149, 3, 583, 0, 0) := by decide +kernel
theorem y574 : k_L_law_[574]? = some (.aload_n 3, 1152, 1, 0, 0, 0) := by decide +kernel
theorem y575 : k_L_law_[575]? = some (.iconst 0, 1153, 1, 0, 0, 0) := by decide +kernel
theorem y576 : k_L_law_[576]? = some (.laload, 1154, 1, 0, 0, 0) := by decide +kernel
theorem y577 : k_L_law_[577]? = some (.iload 6, 1155, 2, 0, 0, 0) := by decide +kernel
theorem y578 : k_L_law_[578]? = some (.i2l, 1157, 1, 0, 0, 0) := by decide +kernel
theorem y579 : k_L_law_[579]? = some (.lcmp, 1158, 1, 0, 0, 0) := by decide +kernel
theorem y580 : k_L_law_[580]? = some (.ifCond .eq 5, 1159, 3, 583, 0, 0) := by decide +kernel
theorem y581 : k_L_law_[581]? = some (.iconst 0, 1162, 1, 0, 0, 0) := by decide +kernel
theorem y582 : k_L_law_[582]? = some (.ireturn, 1163, 1, 0, 0, 0) := by decide +kernel
theorem y583 : k_L_law_[583]? = some (.goto 1727, 1164, 3, 1667, 0, 0) := by decide +kernel
theorem y584 : k_L_law_[584]? = some (.aload_n 1, 1167, 1, 0, 0, 0) := by decide +kernel
theorem y585 : k_L_law_[585]? = some (.invokevirtual 208, 1168, 3, 126, 0, 510) := by decide +kernel
theorem y586 : k_L_law_[586]? = some (.aload_n 2, 1171, 1, 0, 0, 0) := by decide +kernel
theorem y587 : k_L_law_[587]? = some (.invokevirtual 211, 1172, 3, 275, 0, 1981) := by decide +kernel
theorem y588 : k_L_law_[588]? = some (.if_icmp .eq 1716, 1175, 3, 1667, 0, 0) := by decide +kernel
theorem y589 : k_L_law_[589]? = some (.iconst 0, 1178, 1, 0, 0, 0) := by decide +kernel
theorem y590 : k_L_law_[590]? = some (.ireturn, 1179, 1, 0, 0, 0) := by decide +kernel
theorem y591 : k_L_law_[591]? = some (.aload_n 1, 1180, 1, 0, 0, 0) := by decide +kernel
theorem y592 : k_L_law_[592]? = some (.invokevirtual 212, 1181, 3, 127, 0, 540) := by decide +kernel
theorem y593 : k_L_law_[593]? = some (.aload_n 2, 1184, 1, 0, 0, 0) := by decide +kernel
theorem y594 : k_L_law_[594]? = some (.invokevirtual 215, 1185, 3, 276, 0, 1989) := by decide +kernel
theorem y595 : k_L_law_[595]? = some (.if_icmp .eq 1703, 1188, 3, 1667, 0, 0) := by decide +kernel
theorem y596 : k_L_law_[596]? = some (.iconst 0, 1191, 1, 0, 0, 0) := by decide +kernel
theorem y597 : k_L_law_[597]? = some (.ireturn, 1192, 1, 0, 0, 0) := by decide +kernel
theorem y598 : k_L_law_[598]? = some (.aload_n 1, 1193, 1, 0, 0, 0) := by decide +kernel
theorem y599 : k_L_law_[599]? = some (.aload_n 0, 1194, 1, 0, 0, 0) := by decide +kernel
theorem y600 : k_L_law_[600]? = some (.iload 4, 1195, 2, 0, 0, 0) := by decide +kernel
theorem y601 : k_L_law_[601]? = some (.iconst 1, 1197, 1, 0, 0, 0) := by decide +kernel
theorem y602 : k_L_law_[602]? = some (.iadd, 1198, 1, 0, 0, 0) := by decide +kernel
theorem y603 : k_L_law_[603]? = some (.iaload, 1199, 1, 0, 0, 0) := by decide +kernel
theorem y604 : k_L_law_[604]? = some (.aload_n 3, 1200, 1, 0, 0, 0) := by decide +kernel
theorem y605 : k_L_law_[605]? = some (.invokestatic 216, 1201, 3, 349, 0, 1229) := by decide +kernel
theorem y606 : k_L_law_[606]? = some (.istore 5, 1204, 2, 0, 0, 0) := by decide +kernel
theorem y607 : k_L_law_[607]? = some (.aload_n 2, 1206, 1, 0, 0, 0) := by decide +kernel
theorem y608 : k_L_law_[608]? = some (.aload_n 0, 1207, 1, 0, 0, 0) := by decide +kernel
theorem y609 : k_L_law_[609]? = some (.iload 4, 1208, 2, 0, 0, 0) := by decide +kernel
theorem y610 : k_L_law_[610]? = some (.iconst 1, 1210, 1, 0, 0, 0) := by decide +kernel
theorem y611 : k_L_law_[611]? = some (.iadd, 1211, 1, 0, 0, 0) := by decide +kernel
theorem y612 : k_L_law_[612]? = some (.iaload, 1212, 1, 0, 0, 0) := by decide +kernel
theorem y613 : k_L_law_[613]? = some (.invokevirtual 218, 1213, 3, 279, 0, 1993) := by decide +kernel
theorem y614 : k_L_law_[614]? = some (.istore 6, 1216, 2, 0, 0, 0) := by decide +kernel
theorem y615 : k_L_law_[615]? = some (.aload_n 2, 1218, 1, 0, 0, 0) := by decide +kernel
theorem y616 : k_L_law_[616]? = some (.invokevirtual 149, 1219, 3, 180, 0, 1499) := by decide +kernel
theorem y617 : k_L_law_[617]? = some (.iload 5, 1222, 2, 0, 0, 0) := by decide +kernel
theorem y618 : k_L_law_[618]? = some (.if_icmp .eq 5, 1224, 3, 621, 0, 0) := by decide +kernel
theorem y619 : k_L_law_[619]? = some (.iconst 0, 1227, 1, 0, 0, 0) := by decide +kernel
theorem y620 : k_L_law_[620]? = some (.ireturn, 1228, 1, 0, 0, 0) := by decide +kernel
theorem y621 : k_L_law_[621]? = some (.iload 5, 1229, 2, 0, 0, 0) := by decide +kernel
theorem y622 : k_L_law_[622]? = some (.ifCond .ne 15, 1231, 3, 632, 0, 0) := by decide +kernel
theorem y623 : k_L_law_[623]? = some (.aload_n 3, 1234, 1, 0, 0, 0) := by decide +kernel
theorem y624 : k_L_law_[624]? = some (.iconst 0, 1235, 1, 0, 0, 0) := by decide +kernel
theorem y625 : k_L_law_[625]? = some (.laload, 1236, 1, 0, 0, 0) := by decide +kernel
theorem y626 : k_L_law_[626]? = some (.iload 6, 1237, 2, 0, 0, 0) := by decide +kernel
theorem y627 : k_L_law_[627]? = some (.i2l, 1239, 1, 0, 0, 0) := by decide +kernel
theorem y628 : k_L_law_[628]? = some (.lcmp, 1240, 1, 0, 0, 0) := by decide +kernel
theorem y629 : k_L_law_[629]? = some (.ifCond .eq 5, 1241, 3, 632, 0, 0) := by decide +kernel
theorem y630 : k_L_law_[630]? = some (.iconst 0, 1244, 1, 0, 0, 0) := by decide +kernel
theorem y631 : k_L_law_[631]? = some (.ireturn, 1245, 1, 0, 0, 0) := by decide +kernel
theorem y632 : k_L_law_[632]? = some (.goto 1645, 1246, 3, 1667, 0, 0) := by decide +kernel
theorem y633 : k_L_law_[633]? = some (.aload_n 1, 1249, 1, 0, 0, 0) := by decide +kernel
theorem y634 : k_L_law_[634]? = some (.aload_n 0, 1250, 1, 0, 0, 0) := by decide +kernel
theorem y635 : k_L_law_[635]? = some (.iload 4, 1251, 2, 0, 0, 0) := by decide +kernel
theorem y636 : k_L_law_[636]? = some (.iconst 1, 1253, 1, 0, 0, 0) := by decide +kernel
theorem y637 : k_L_law_[637]? = some (.iadd, 1254, 1, 0, 0, 0) := by decide +kernel
theorem y638 : k_L_law_[638]? = some (.iaload, 1255, 1, 0, 0, 0) := by decide +kernel
theorem y639 : k_L_law_[639]? = some (.aload_n 3, 1256, 1, 0, 0, 0) := by decide +kernel
theorem y640 : k_L_law_[640]? = some (.invokestatic 219, 1257, 3, 350, 0, 1236) := by decide +kernel
theorem y641 : k_L_law_[641]? = some (.istore 5, 1260, 2, 0, 0, 0) := by decide +kernel
theorem y642 : k_L_law_[642]? = some (.aload_n 2, 1262, 1, 0, 0, 0) := by decide +kernel
theorem y643 : k_L_law_[643]? = some (.aload_n 0, 1263, 1, 0, 0, 0) := by decide +kernel
theorem y644 : k_L_law_[644]? = some (.iload 4, 1264, 2, 0, 0, 0) := by decide +kernel
theorem y645 : k_L_law_[645]? = some (.iconst 1, 1266, 1, 0, 0, 0) := by decide +kernel
theorem y646 : k_L_law_[646]? = some (.iadd, 1267, 1, 0, 0, 0) := by decide +kernel
theorem y647 : k_L_law_[647]? = some (.iaload, 1268, 1, 0, 0, 0) := by decide +kernel
theorem y648 : k_L_law_[648]? = some (.invokevirtual 221, 1269, 3, 280, 0, 2005) := by decide +kernel
theorem y649 : k_L_law_[649]? = some (.istore 6, 1272, 2, 0, 0, 0) := by decide +kernel
theorem y650 : k_L_law_[650]? = some (.aload_n 2, 1274, 1, 0, 0, 0) := by decide +kernel
theorem y651 : k_L_law_[651]? = some (.invokevirtual 149, 1275, 3, 180, 0, 1499) := by decide +kernel
theorem y652 : k_L_law_[652]? = some (.iload 5, 1278, 2, 0, 0, 0) := by decide +kernel
theorem y653 : k_L_law_[653]? = some (.if_icmp .eq 5, 1280, 3, 656, 0, 0) := by decide +kernel
theorem y654 : k_L_law_[654]? = some (.iconst 0, 1283, 1, 0, 0, 0) := by decide +kernel
theorem y655 : k_L_law_[655]? = some (.ireturn, 1284, 1, 0, 0, 0) := by decide +kernel
theorem y656 : k_L_law_[656]? = some (.iload 5, 1285, 2, 0, 0, 0) := by decide +kernel
theorem y657 : k_L_law_[657]? = some (.ifCond .ne 15, 1287, 3, 667, 0, 0) := by decide +kernel
theorem y658 : k_L_law_[658]? = some (.aload_n 3, 1290, 1, 0, 0, 0) := by decide +kernel
theorem y659 : k_L_law_[659]? = some (.iconst 0, 1291, 1, 0, 0, 0) := by decide +kernel
theorem y660 : k_L_law_[660]? = some (.laload, 1292, 1, 0, 0, 0) := by decide +kernel
theorem y661 : k_L_law_[661]? = some (.iload 6, 1293, 2, 0, 0, 0) := by decide +kernel
theorem y662 : k_L_law_[662]? = some (.i2l, 1295, 1, 0, 0, 0) := by decide +kernel
theorem y663 : k_L_law_[663]? = some (.lcmp, 1296, 1, 0, 0, 0) := by decide +kernel
theorem y664 : k_L_law_[664]? = some (.ifCond .eq 5, 1297, 3, 667, 0, 0) := by decide +kernel
theorem y665 : k_L_law_[665]? = some (.iconst 0, 1300, 1, 0, 0, 0) := by decide +kernel
theorem y666 : k_L_law_[666]? = some (.ireturn, 1301, 1, 0, 0, 0) := by decide +kernel
theorem y667 : k_L_law_[667]? = some (.goto 1589, 1302, 3, 1667, 0, 0) := by decide +kernel
theorem y668 : k_L_law_[668]? = some (.aload_n 1, 1305, 1, 0, 0, 0) := by decide +kernel
theorem y669 : k_L_law_[669]? = some (.aload_n 0, 1306, 1, 0, 0, 0) := by decide +kernel
theorem y670 : k_L_law_[670]? = some (.iload 4, 1307, 2, 0, 0, 0) := by decide +kernel
theorem y671 : k_L_law_[671]? = some (.iconst 1, 1309, 1, 0, 0, 0) := by decide +kernel
theorem y672 : k_L_law_[672]? = some (.iadd, 1310, 1, 0, 0, 0) := by decide +kernel
theorem y673 : k_L_law_[673]? = some (.iaload, 1311, 1, 0, 0, 0) := by decide +kernel
theorem y674 : k_L_law_[674]? = some (.aload_n 0, 1312, 1, 0, 0, 0) := by decide +kernel
theorem y675 : k_L_law_[675]? = some (.iload 4, 1313, 2, 0, 0, 0) := by decide +kernel
theorem y676 : k_L_law_[676]? = some (.iconst 2, 1315, 1, 0, 0, 0) := by decide +kernel
theorem y677 : k_L_law_[677]? = some (.iadd, 1316, 1, 0, 0, 0) := by decide +kernel
theorem y678 : k_L_law_[678]? = some (.iaload, 1317, 1, 0, 0, 0) := by decide +kernel
theorem y679 : k_L_law_[679]? = some (.aload_n 3, 1318, 1, 0, 0, 0) := by decide +kernel
theorem y680 : k_L_law_[680]? = some (.invokestatic 222, 1319, 3, 351, 0, 1243) := by decide +kernel
theorem y681 : k_L_law_[681]? = some (.istore 5, 1322, 2, 0, 0, 0) := by decide +kernel
theorem y682 : k_L_law_[682]? = some (.aload_n 2, 1324, 1, 0, 0, 0) := by decide +kernel
theorem y683 : k_L_law_[683]? = some (.aload_n 0, 1325, 1, 0, 0, 0) := by decide +kernel
theorem y684 : k_L_law_[684]? = some (.iload 4, 1326, 2, 0, 0, 0) := by decide +kernel
theorem y685 : k_L_law_[685]? = some (.iconst 1, 1328, 1, 0, 0, 0) := by decide +kernel
theorem y686 : k_L_law_[686]? = some (.iadd, 1329, 1, 0, 0, 0) := by decide +kernel
theorem y687 : k_L_law_[687]? = some (.iaload, 1330, 1, 0, 0, 0) := by decide +kernel
theorem y688 : k_L_law_[688]? = some (.aload_n 0, 1331, 1, 0, 0, 0) := by decide +kernel
theorem y689 : k_L_law_[689]? = some (.iload 4, 1332, 2, 0, 0, 0) := by decide +kernel
theorem y690 : k_L_law_[690]? = some (.iconst 2, 1334, 1, 0, 0, 0) := by decide +kernel
theorem y691 : k_L_law_[691]? = some (.iadd, 1335, 1, 0, 0, 0) := by decide +kernel
theorem y692 : k_L_law_[692]? = some (.iaload, 1336, 1, 0, 0, 0) := by decide +kernel
theorem y693 : k_L_law_[693]? = some (.invokevirtual 224, 1337, 3, 281, 0, 2009) := by decide +kernel
theorem y694 : k_L_law_[694]? = some (.istore 6, 1340, 2, 0, 0, 0) := by decide +kernel
theorem y695 : k_L_law_[695]? = some (.aload_n 2, 1342, 1, 0, 0, 0) := by decide +kernel
theorem y696 : k_L_law_[696]? = some (.invokevirtual 149, 1343, 3, 180, 0, 1499) := by decide +kernel
theorem y697 : k_L_law_[697]? = some (.iload 5, 1346, 2, 0, 0, 0) := by decide +kernel
theorem y698 : k_L_law_[698]? = some (.if_icmp .eq 5, 1348, 3, 701, 0, 0) := by decide +kernel
theorem y699 : k_L_law_[699]? = some (.iconst 0, 1351, 1, 0, 0, 0) := by decide +kernel
theorem y700 : k_L_law_[700]? = some (.ireturn, 1352, 1, 0, 0, 0) := by decide +kernel
theorem y701 : k_L_law_[701]? = some (.iload 5, 1353, 2, 0, 0, 0) := by decide +kernel
theorem y702 : k_L_law_[702]? = some (.ifCond .ne 15, 1355, 3, 712, 0, 0) := by decide +kernel
theorem y703 : k_L_law_[703]? = some (.aload_n 3, 1358, 1, 0, 0, 0) := by decide +kernel
theorem y704 : k_L_law_[704]? = some (.iconst 0, 1359, 1, 0, 0, 0) := by decide +kernel
theorem y705 : k_L_law_[705]? = some (.laload, 1360, 1, 0, 0, 0) := by decide +kernel
theorem y706 : k_L_law_[706]? = some (.iload 6, 1361, 2, 0, 0, 0) := by decide +kernel
theorem y707 : k_L_law_[707]? = some (.i2l, 1363, 1, 0, 0, 0) := by decide +kernel
theorem y708 : k_L_law_[708]? = some (.lcmp, 1364, 1, 0, 0, 0) := by decide +kernel
theorem y709 : k_L_law_[709]? = some (.ifCond .eq 5, 1365, 3, 712, 0, 0) := by decide +kernel
theorem y710 : k_L_law_[710]? = some (.iconst 0, 1368, 1, 0, 0, 0) := by decide +kernel
theorem y711 : k_L_law_[711]? = some (.ireturn, 1369, 1, 0, 0, 0) := by decide +kernel
theorem y712 : k_L_law_[712]? = some (.goto 1521, 1370, 3, 1667, 0, 0) := by decide +kernel
theorem y713 : k_L_law_[713]? = some (.aload_n 1, 1373, 1, 0, 0, 0) := by decide +kernel
theorem y714 : k_L_law_[714]? = some (.invokevirtual 225, 1374, 3, 132, 0, 544) := by decide +kernel
theorem y715 : k_L_law_[715]? = some (.aload_n 2, 1377, 1, 0, 0, 0) := by decide +kernel
theorem y716 : k_L_law_[716]? = some (.invokevirtual 228, 1378, 3, 282, 0, 2013) := by decide +kernel
theorem y717 : k_L_law_[717]? = some (.if_icmp .eq 1510, 1381, 3, 1667, 0, 0) := by decide +kernel
theorem y718 : k_L_law_[718]? = some (.iconst 0, 1384, 1, 0, 0, 0) := by decide +kernel
theorem y719 : k_L_law_[719]? = some (.ireturn, 1385, 1, 0, 0, 0) := by decide +kernel
theorem y720 : k_L_law_[720]? = some (.aload_n 1, 1386, 1, 0, 0, 0) := by decide +kernel
theorem y721 : k_L_law_[721]? = some (.invokevirtual 229, 1387, 3, 133, 0, 585) := by decide +kernel
theorem y722 : k_L_law_[722]? = some (.aload_n 2, 1390, 1, 0, 0, 0) := by decide +kernel
theorem y723 : k_L_law_[723]? = some (.invokevirtual 232, 1391, 3, 283, 0, 2017) := by decide +kernel
theorem y724 : k_L_law_[724]? = some (.if_icmp .eq 1497, 1394, 3, 1667, 0, 0) := by decide +kernel
theorem y725 : k_L_law_[725]? = some (.iconst 0, 1397, 1, 0, 0, 0) := by decide +kernel
theorem y726 : k_L_law_[726]? = some (.ireturn, 1398, 1, 0, 0, 0) := by decide +kernel
theorem y727 : k_L_law_[727]? = some (.aload_n 1, 1399, 1, 0, 0, 0) := by decide +kernel
theorem y728 : k_L_law_[728]? = some (.invokevirtual 233, 1400, 3, 134, 0, 592) := by decide +kernel
theorem y729 : k_L_law_[729]? = some (.aload_n 2, 1403, 1, 0, 0, 0) := by decide +kernel
theorem y730 : k_L_law_[730]? = some (.invokevirtual 236, 1404, 3, 285, 0, 2025) := by decide +kernel
theorem y731 : k_L_law_[731]? = some (.if_icmp .eq 1484, 1407, 3, 1667, 0, 0) := by decide +kernel
theorem y732 : k_L_law_[732]? = some (.iconst 0, 1410, 1, 0, 0, 0) := by decide +kernel
theorem y733 : k_L_law_[733]? = some (.ireturn, 1411, 1, 0, 0, 0) := by decide +kernel
theorem y734 : k_L_law_[734]? = some (.aload_n 1, 1412, 1, 0, 0, 0) := by decide +kernel
theorem y735 : k_L_law_[735]? = some (.aload_n 0, 1413, 1, 0, 0, 0) := by decide +kernel
theorem y736 : k_L_law_[736]? = some (.iload 4, 1414, 2, 0, 0, 0) := by decide +kernel
theorem y737 : k_L_law_[737]? = some (.iconst 1, 1416, 1, 0, 0, 0) := by decide +kernel
theorem y738 : k_L_law_[738]? = some (.iadd, 1417, 1, 0, 0, 0) := by decide +kernel
theorem y739 : k_L_law_[739]? = some (.iaload, 1418, 1, 0, 0, 0) := by decide +kernel
theorem y740 : k_L_law_[740]? = some (.aload_n 3, 1419, 1, 0, 0, 0) := by decide +kernel
theorem y741 : k_L_law_[741]? = some (.invokestatic 237, 1420, 3, 352, 0, 1250) := by decide +kernel
theorem y742 : k_L_law_[742]? = some (.istore 5, 1423, 2, 0, 0, 0) := by decide +kernel
theorem y743 : k_L_law_[743]? = some (.aload_n 2, 1425, 1, 0, 0, 0) := by decide +kernel
theorem y744 : k_L_law_[744]? = some (.aload_n 0, 1426, 1, 0, 0, 0) := by decide +kernel
theorem y745 : k_L_law_[745]? = some (.iload 4, 1427, 2, 0, 0, 0) := by decide +kernel
theorem y746 : k_L_law_[746]? = some (.iconst 1, 1429, 1, 0, 0, 0) := by decide +kernel
theorem y747 : k_L_law_[747]? = some (.iadd, 1430, 1, 0, 0, 0) := by decide +kernel
theorem y748 : k_L_law_[748]? = some (.iaload, 1431, 1, 0, 0, 0) := by decide +kernel
theorem y749 : k_L_law_[749]? = some (.invokevirtual 239, 1432, 3, 289, 0, 2033) := by decide +kernel
theorem y750 : k_L_law_[750]? = some (.istore 6, 1435, 2, 0, 0, 0) := by decide +kernel
theorem y751 : k_L_law_[751]? = some (.aload_n 2, 1437, 1, 0, 0, 0) := by decide +kernel
theorem y752 : k_L_law_[752]? = some (.invokevirtual 149, 1438, 3, 180, 0, 1499) := by decide +kernel
theorem y753 : k_L_law_[753]? = some (.iload 5, 1441, 2, 0, 0, 0) := by decide +kernel
theorem y754 : k_L_law_[754]? = some (.if_icmp .eq 5, 1443, 3, 757, 0, 0) := by decide +kernel
theorem y755 : k_L_law_[755]? = some (.iconst 0, 1446, 1, 0, 0, 0) := by decide +kernel
theorem y756 : k_L_law_[756]? = some (.ireturn, 1447, 1, 0, 0, 0) := by decide +kernel
theorem y757 : k_L_law_[757]? = some (.iload 5, 1448, 2, 0, 0, 0) := by decide +kernel
theorem y758 : k_L_law_[758]? = some (.ifCond .ne 15, 1450, 3, 768, 0, 0) := by decide +kernel
theorem y759 : k_L_law_[759]? = some (.aload_n 3, 1453, 1, 0, 0, 0) := by decide +kernel
theorem y760 : k_L_law_[760]? = some (.iconst 0, 1454, 1, 0, 0, 0) := by decide +kernel
theorem y761 : k_L_law_[761]? = some (.laload, 1455, 1, 0, 0, 0) := by decide +kernel
theorem y762 : k_L_law_[762]? = some (.iload 6, 1456, 2, 0, 0, 0) := by decide +kernel
theorem y763 : k_L_law_[763]? = some (.i2l, 1458, 1, 0, 0, 0) := by decide +kernel
theorem y764 : k_L_law_[764]? = some (.lcmp, 1459, 1, 0, 0, 0) := by decide +kernel
theorem y765 : k_L_law_[765]? = some (.ifCond .eq 5, 1460, 3, 768, 0, 0) := by decide +kernel
theorem y766 : k_L_law_[766]? = some (.iconst 0, 1463, 1, 0, 0, 0) := by decide +kernel
theorem y767 : k_L_law_[767]? = some (.ireturn, 1464, 1, 0, 0, 0) := by decide +kernel
theorem y768 : k_L_law_[768]? = some (.goto 1426, 1465, 3, 1667, 0, 0) := by decide +kernel
theorem y769 : k_L_law_[769]? = some (.aload_n 1, 1468, 1, 0, 0, 0) := by decide +kernel
theorem y770 : k_L_law_[770]? = some (.aload_n 3, 1469, 1, 0, 0, 0) := by decide +kernel
theorem y771 : k_L_law_[771]? = some (.invokestatic 240, 1470, 3, 353, 0, 1289) := by decide +kernel
theorem y772 : k_L_law_[772]? = some (.istore 5, 1473, 2, 0, 0, 0) := by decide +kernel
theorem y773 : k_L_law_[773]? = some (.aload_n 2, 1475, 1, 0, 0, 0) := by decide +kernel
theorem y774 : k_L_law_[774]? = some (.invokevirtual 242, 1476, 3, 290, 0, 2049) := by decide +kernel
theorem y775 : k_L_law_[775]? = some (.istore 6, 1479, 2, 0, 0, 0) := by decide +kernel
theorem y776 : k_L_law_[776]? = some (.aload_n 2, 1481, 1, 0, 0, 0) := by decide +kernel
theorem y777 : k_L_law_[777]? = some (.invokevirtual 149, 1482, 3, 180, 0, 1499) := by decide +kernel
theorem y778 : k_L_law_[778]? = some (.iload 5, 1485, 2, 0, 0, 0) := by decide +kernel
theorem y779 : k_L_law_[779]? = some (.if_icmp .eq 5, 1487, 3, 782, 0, 0) := by decide +kernel
theorem y780 : k_L_law_[780]? = some (.iconst 0, 1490, 1, 0, 0, 0) := by decide +kernel
theorem y781 : k_L_law_[781]? = some (.ireturn, 1491, 1, 0, 0, 0) := by decide +kernel
theorem y782 : k_L_law_[782]? = some (.iload 5, 1492, 2, 0, 0, 0) := by decide +kernel
theorem y783 : k_L_law_[783]? = some (.ifCond .ne 15, 1494, 3, 793, 0, 0) := by decide +kernel
theorem y784 : k_L_law_[784]? = some (.aload_n 3, 1497, 1, 0, 0, 0) := by decide +kernel
theorem y785 : k_L_law_[785]? = some (.iconst 0, 1498, 1, 0, 0, 0) := by decide +kernel
theorem y786 : k_L_law_[786]? = some (.laload, 1499, 1, 0, 0, 0) := by decide +kernel
theorem y787 : k_L_law_[787]? = some (.iload 6, 1500, 2, 0, 0, 0) := by decide +kernel
theorem y788 : k_L_law_[788]? = some (.i2l, 1502, 1, 0, 0, 0) := by decide +kernel
theorem y789 : k_L_law_[789]? = some (.lcmp, 1503, 1, 0, 0, 0) := by decide +kernel
theorem y790 : k_L_law_[790]? = some (.ifCond .eq 5, 1504, 3, 793, 0, 0) := by decide +kernel
theorem y791 : k_L_law_[791]? = some (.iconst 0, 1507, 1, 0, 0, 0) := by decide +kernel
theorem y792 : k_L_law_[792]? = some (.ireturn, 1508, 1, 0, 0, 0) := by decide +kernel
theorem y793 : k_L_law_[793]? = some (.goto 1382, 1509, 3, 1667, 0, 0) := by decide +kernel
theorem y794 : k_L_law_[794]? = some (.aload_n 1, 1512, 1, 0, 0, 0) := by decide +kernel
theorem y795 : k_L_law_[795]? = some (.aload_n 0, 1513, 1, 0, 0, 0) := by decide +kernel
theorem y796 : k_L_law_[796]? = some (.iload 4, 1514, 2, 0, 0, 0) := by decide +kernel
theorem y797 : k_L_law_[797]? = some (.iconst 1, 1516, 1, 0, 0, 0) := by decide +kernel
theorem y798 : k_L_law_[798]? = some (.iadd, 1517, 1, 0, 0, 0) := by decide +kernel
theorem y799 : k_L_law_[799]? = some (.iaload, 1518, 1, 0, 0, 0) := by decide +kernel
theorem y800 : k_L_law_[800]? = some (.aload_n 3, 1519, 1, 0, 0, 0) := by decide +kernel
theorem y801 : k_L_law_[801]? = some (.invokestatic 243, 1520, 3, 354, 0, 1300) := by decide +kernel
theorem y802 : k_L_law_[802]? = some (.istore 5, 1523, 2, 0, 0, 0) := by decide +kernel
theorem y803 : k_L_law_[803]? = some (.aload_n 2, 1525, 1, 0, 0, 0) := by decide +kernel
theorem y804 : k_L_law_[804]? = some (.aload_n 0, 1526, 1, 0, 0, 0) := by decide +kernel
theorem y805 : k_L_law_[805]? = some (.iload 4, 1527, 2, 0, 0, 0) := by decide +kernel
theorem y806 : k_L_law_[806]? = some (.iconst 1, 1529, 1, 0, 0, 0) := by decide +kernel
theorem y807 : k_L_law_[807]? = some (.iadd, 1530, 1, 0, 0, 0) := by decide +kernel
theorem y808 : k_L_law_[808]? = some (.iaload, 1531, 1, 0, 0, 0) := by decide +kernel
theorem y809 : k_L_law_[809]? = some (.invokevirtual 245, 1532, 3, 296, 0, 2053) := by decide +kernel
theorem y810 : k_L_law_[810]? = some (.istore 6, 1535, 2, 0, 0, 0) := by decide +kernel
theorem y811 : k_L_law_[811]? = some (.aload_n 2, 1537, 1, 0, 0, 0) := by decide +kernel
theorem y812 : k_L_law_[812]? = some (.invokevirtual 149, 1538, 3, 180, 0, 1499) := by decide +kernel
theorem y813 : k_L_law_[813]? = some (.iload 5, 1541, 2, 0, 0, 0) := by decide +kernel
theorem y814 : k_L_law_[814]? = some (.if_icmp .eq 5, 1543, 3, 817, 0, 0) := by decide +kernel
theorem y815 : k_L_law_[815]? = some (.iconst 0, 1546, 1, 0, 0, 0) := by decide +kernel
theorem y816 : k_L_law_[816]? = some (.ireturn, 1547, 1, 0, 0, 0) := by decide +kernel
theorem y817 : k_L_law_[817]? = some (.iload 5, 1548, 2, 0, 0, 0) := by decide +kernel
theorem y818 : k_L_law_[818]? = some (.ifCond .ne 15, 1550, 3, 828, 0, 0) := by decide +kernel
theorem y819 : k_L_law_[819]? = some (.aload_n 3, 1553, 1, 0, 0, 0) := by decide +kernel
theorem y820 : k_L_law_[820]? = some (.iconst 0, 1554, 1, 0, 0, 0) := by decide +kernel
theorem y821 : k_L_law_[821]? = some (.laload, 1555, 1, 0, 0, 0) := by decide +kernel
theorem y822 : k_L_law_[822]? = some (.iload 6, 1556, 2, 0, 0, 0) := by decide +kernel
theorem y823 : k_L_law_[823]? = some (.i2l, 1558, 1, 0, 0, 0) := by decide +kernel
theorem y824 : k_L_law_[824]? = some (.lcmp, 1559, 1, 0, 0, 0) := by decide +kernel
theorem y825 : k_L_law_[825]? = some (.ifCond .eq 5, 1560, 3, 828, 0, 0) := by decide +kernel
theorem y826 : k_L_law_[826]? = some (.iconst 0, 1563, 1, 0, 0, 0) := by decide +kernel
theorem y827 : k_L_law_[827]? = some (.ireturn, 1564, 1, 0, 0, 0) := by decide +kernel
theorem y828 : k_L_law_[828]? = some (.goto 1326, 1565, 3, 1667, 0, 0) := by decide +kernel
theorem y829 : k_L_law_[829]? = some (.aload_n 1, 1568, 1, 0, 0, 0) := by decide +kernel
theorem y830 : k_L_law_[830]? = some (.aload_n 0, 1569, 1, 0, 0, 0) := by decide +kernel
theorem y831 : k_L_law_[831]? = some (.iload 4, 1570, 2, 0, 0, 0) := by decide +kernel
theorem y832 : k_L_law_[832]? = some (.iconst 1, 1572, 1, 0, 0, 0) := by decide +kernel
theorem y833 : k_L_law_[833]? = some (.iadd, 1573, 1, 0, 0, 0) := by decide +kernel
theorem y834 : k_L_law_[834]? = some (.iaload, 1574, 1, 0, 0, 0) := by decide +kernel
theorem y835 : k_L_law_[835]? = some (.aload_n 3, 1575, 1, 0, 0, 0) := by decide +kernel
theorem y836 : k_L_law_[836]? = some (.invokestatic 246, 1576, 3, 355, 0, 1324) := by decide +kernel
theorem y837 : k_L_law_[837]? = some (.istore 5, 1579, 2, 0, 0, 0) := by decide +kernel
theorem y838 : k_L_law_[838]? = some (.aload_n 2, 1581, 1, 0, 0, 0) := by decide +kernel
theorem y839 : k_L_law_[839]? = some (.aload_n 0, 1582, 1, 0, 0, 0) := by decide +kernel
theorem y840 : k_L_law_[840]? = some (.iload 4, 1583, 2, 0, 0, 0) := by decide +kernel
theorem y841 : k_L_law_[841]? = some (.iconst 1, 1585, 1, 0, 0, 0) := by decide +kernel
theorem y842 : k_L_law_[842]? = some (.iadd, 1586, 1, 0, 0, 0) := by decide +kernel
theorem y843 : k_L_law_[843]? = some (.iaload, 1587, 1, 0, 0, 0) := by decide +kernel
theorem y844 : k_L_law_[844]? = some (.invokevirtual 248, 1588, 3, 297, 0, 2081) := by decide +kernel
theorem y845 : k_L_law_[845]? = some (.istore 6, 1591, 2, 0, 0, 0) := by decide +kernel
theorem y846 : k_L_law_[846]? = some (.aload_n 2, 1593, 1, 0, 0, 0) := by decide +kernel
theorem y847 : k_L_law_[847]? = some (.invokevirtual 149, 1594, 3, 180, 0, 1499) := by decide +kernel
theorem y848 : k_L_law_[848]? = some (.iload 5, 1597, 2, 0, 0, 0) := by decide +kernel
theorem y849 : k_L_law_[849]? = some (.if_icmp .eq 5, 1599, 3, 852, 0, 0) := by decide +kernel
theorem y850 : k_L_law_[850]? = some (.iconst 0, 1602, 1, 0, 0, 0) := by decide +kernel
theorem y851 : k_L_law_[851]? = some (.ireturn, 1603, 1, 0, 0, 0) := by decide +kernel
theorem y852 : k_L_law_[852]? = some (.iload 5, 1604, 2, 0, 0, 0) := by decide +kernel
theorem y853 : k_L_law_[853]? = some (.ifCond .ne 15, 1606, 3, 863, 0, 0) := by decide +kernel
theorem y854 : k_L_law_[854]? = some (.aload_n 3, 1609, 1, 0, 0, 0) := by decide +kernel
theorem y855 : k_L_law_[855]? = some (.iconst 0, 1610, 1, 0, 0, 0) := by decide +kernel
theorem y856 : k_L_law_[856]? = some (.laload, 1611, 1, 0, 0, 0) := by decide +kernel
theorem y857 : k_L_law_[857]? = some (.iload 6, 1612, 2, 0, 0, 0) := by decide +kernel
theorem y858 : k_L_law_[858]? = some (.i2l, 1614, 1, 0, 0, 0) := by decide +kernel
theorem y859 : k_L_law_[859]? = some (.lcmp, 1615, 1, 0, 0, 0) := by decide +kernel
theorem y860 : k_L_law_[860]? = some (.ifCond .eq 5, 1616, 3, 863, 0, 0) := by decide +kernel
theorem y861 : k_L_law_[861]? = some (.iconst 0, 1619, 1, 0, 0, 0) := by decide +kernel
theorem y862 : k_L_law_[862]? = some (.ireturn, 1620, 1, 0, 0, 0) := by decide +kernel
theorem y863 : k_L_law_[863]? = some (.goto 1270, 1621, 3, 1667, 0, 0) := by decide +kernel
theorem y864 : k_L_law_[864]? = some (.aload_n 1, 1624, 1, 0, 0, 0) := by decide +kernel
theorem y865 : k_L_law_[865]? = some (.aload_n 0, 1625, 1, 0, 0, 0) := by decide +kernel
theorem y866 : k_L_law_[866]? = some (.iload 4, 1626, 2, 0, 0, 0) := by decide +kernel
theorem y867 : k_L_law_[867]? = some (.iconst 1, 1628, 1, 0, 0, 0) := by decide +kernel
theorem y868 : k_L_law_[868]? = some (.iadd, 1629, 1, 0, 0, 0) := by decide +kernel
theorem y869 : k_L_law_[869]? = some (.iaload, 1630, 1, 0, 0, 0) := by decide +kernel
theorem y870 : k_L_law_[870]? = some (.aload_n 3, 1631, 1, 0, 0, 0) := by decide +kernel
theorem y871 : k_L_law_[871]? = some (.invokestatic 249, 1632, 3, 356, 0, 1335) := by decide +kernel
theorem y872 : k_L_law_[872]? = some (.istore 5, 1635, 2, 0, 0, 0) := by decide +kernel
theorem y873 : k_L_law_[873]? = some (.aload_n 2, 1637, 1, 0, 0, 0) := by decide +kernel
theorem y874 : k_L_law_[874]? = some (.aload_n 0, 1638, 1, 0, 0, 0) := by decide +kernel
theorem y875 : k_L_law_[875]? = some (.iload 4, 1639, 2, 0, 0, 0) := by decide +kernel
theorem y876 : k_L_law_[876]? = some (.iconst 1, 1641, 1, 0, 0, 0) := by decide +kernel
theorem y877 : k_L_law_[877]? = some (.iadd, 1642, 1, 0, 0, 0) := by decide +kernel
theorem y878 : k_L_law_[878]? = some (.iaload, 1643, 1, 0, 0, 0) := by decide +kernel
theorem y879 : k_L_law_[879]? = some (.invokevirtual 251, 1644, 3, 298, 0, 2085) := by decide +kernel
theorem y880 : k_L_law_[880]? = some (.istore 6, 1647, 2, 0, 0, 0) := by decide +kernel
theorem y881 : k_L_law_[881]? = some (.aload_n 2, 1649, 1, 0, 0, 0) := by decide +kernel
theorem y882 : k_L_law_[882]? = some (.invokevirtual 149, 1650, 3, 180, 0, 1499) := by decide +kernel
theorem y883 : k_L_law_[883]? = some (.iload 5, 1653, 2, 0, 0, 0) := by decide +kernel
theorem y884 : k_L_law_[884]? = some (.if_icmp .eq 5, 1655, 3, 887, 0, 0) := by decide +kernel
theorem y885 : k_L_law_[885]? = some (.iconst 0, 1658, 1, 0, 0, 0) := by decide +kernel
theorem y886 : k_L_law_[886]? = some (.ireturn, 1659, 1, 0, 0, 0) := by decide +kernel
theorem y887 : k_L_law_[887]? = some (.iload 5, 1660, 2, 0, 0, 0) := by decide +kernel
theorem y888 : k_L_law_[888]? = some (.ifCond .ne 15, 1662, 3, 898, 0, 0) := by decide +kernel
theorem y889 : k_L_law_[889]? = some (.aload_n 3, 1665, 1, 0, 0, 0) := by decide +kernel
theorem y890 : k_L_law_[890]? = some (.iconst 0, 1666, 1, 0, 0, 0) := by decide +kernel
theorem y891 : k_L_law_[891]? = some (.laload, 1667, 1, 0, 0, 0) := by decide +kernel
theorem y892 : k_L_law_[892]? = some (.iload 6, 1668, 2, 0, 0, 0) := by decide +kernel
theorem y893 : k_L_law_[893]? = some (.i2l, 1670, 1, 0, 0, 0) := by decide +kernel
theorem y894 : k_L_law_[894]? = some (.lcmp, 1671, 1, 0, 0, 0) := by decide +kernel
theorem y895 : k_L_law_[895]? = some (.ifCond .eq 5, 1672, 3, 898, 0, 0) := by decide +kernel
theorem y896 : k_L_law_[896]? = some (.iconst 0, 1675, 1, 0, 0, 0) := by decide +kernel
theorem y897 : k_L_law_[897]? = some (.ireturn, 1676, 1, 0, 0, 0) := by decide +kernel
theorem y898 : k_L_law_[898]? = some (.goto 1214, 1677, 3, 1667, 0, 0) := by decide +kernel
theorem y899 : k_L_law_[899]? = some (.aload_n 1, 1680, 1, 0, 0, 0) := by decide +kernel
theorem y900 : k_L_law_[900]? = some (.aload_n 0, 1681, 1, 0, 0, 0) := by decide +kernel
theorem y901 : k_L_law_[901]? = some (.iload 4, 1682, 2, 0, 0, 0) := by decide +kernel
theorem y902 : k_L_law_[902]? = some (.iconst 1, 1684, 1, 0, 0, 0) := by decide +kernel
theorem y903 : k_L_law_[903]? = some (.iadd, 1685, 1, 0, 0, 0) := by decide +kernel
theorem y904 : k_L_law_[904]? = some (.iaload, 1686, 1, 0, 0, 0) := by decide +kernel
theorem y905 : k_L_law_[905]? = some (.aload_n 0, 1687, 1, 0, 0, 0) := by decide +kernel
theorem y906 : k_L_law_[906]? = some (.iload 4, 1688, 2, 0, 0, 0) := by decide +kernel
theorem y907 : k_L_law_[907]? = some (.iconst 2, 1690, 1, 0, 0, 0) := by decide +kernel
theorem y908 : k_L_law_[908]? = some (.iadd, 1691, 1, 0, 0, 0) := by decide +kernel
theorem y909 : k_L_law_[909]? = some (.iaload, 1692, 1, 0, 0, 0) := by decide +kernel
theorem y910 : k_L_law_[910]? = some (.aload_n 3, 1693, 1, 0, 0, 0) := by decide +kernel
theorem y911 : k_L_law_[911]? = some (.invokestatic 252, 1694, 3, 357, 0, 1346) := by decide +kernel
theorem y912 : k_L_law_[912]? = some (.istore 5, 1697, 2, 0, 0, 0) := by decide +kernel
theorem y913 : k_L_law_[913]? = some (.aload_n 2, 1699, 1, 0, 0, 0) := by decide +kernel
theorem y914 : k_L_law_[914]? = some (.aload_n 0, 1700, 1, 0, 0, 0) := by decide +kernel
theorem y915 : k_L_law_[915]? = some (.iload 4, 1701, 2, 0, 0, 0) := by decide +kernel
theorem y916 : k_L_law_[916]? = some (.iconst 1, 1703, 1, 0, 0, 0) := by decide +kernel
theorem y917 : k_L_law_[917]? = some (.iadd, 1704, 1, 0, 0, 0) := by decide +kernel
theorem y918 : k_L_law_[918]? = some (.iaload, 1705, 1, 0, 0, 0) := by decide +kernel
theorem y919 : k_L_law_[919]? = some (.aload_n 0, 1706, 1, 0, 0, 0) := by decide +kernel
theorem y920 : k_L_law_[920]? = some (.iload 4, 1707, 2, 0, 0, 0) := by decide +kernel
theorem y921 : k_L_law_[921]? = some (.iconst 2, 1709, 1, 0, 0, 0) := by decide +kernel
theorem y922 : k_L_law_[922]? = some (.iadd, 1710, 1, 0, 0, 0) := by decide +kernel
theorem y923 : k_L_law_[923]? = some (.iaload, 1711, 1, 0, 0, 0) := by decide +kernel
theorem y924 : k_L_law_[924]? = some (.invokevirtual 254, 1712, 3, 299, 0, 2089) := by decide +kernel
theorem y925 : k_L_law_[925]? = some (.istore 6, 1715, 2, 0, 0, 0) := by decide +kernel
theorem y926 : k_L_law_[926]? = some (.aload_n 2, 1717, 1, 0, 0, 0) := by decide +kernel
theorem y927 : k_L_law_[927]? = some (.invokevirtual 149, 1718, 3, 180, 0, 1499) := by decide +kernel
theorem y928 : k_L_law_[928]? = some (.iload 5, 1721, 2, 0, 0, 0) := by decide +kernel
theorem y929 : k_L_law_[929]? = some (.if_icmp .eq 5, 1723, 3, 932, 0, 0) := by decide +kernel
theorem y930 : k_L_law_[930]? = some (.iconst 0, 1726, 1, 0, 0, 0) := by decide +kernel
theorem y931 : k_L_law_[931]? = some (.ireturn, 1727, 1, 0, 0, 0) := by decide +kernel
theorem y932 : k_L_law_[932]? = some (.iload 5, 1728, 2, 0, 0, 0) := by decide +kernel
theorem y933 : k_L_law_[933]? = some (.ifCond .ne 15, 1730, 3, 943, 0, 0) := by decide +kernel
theorem y934 : k_L_law_[934]? = some (.aload_n 3, 1733, 1, 0, 0, 0) := by decide +kernel
theorem y935 : k_L_law_[935]? = some (.iconst 0, 1734, 1, 0, 0, 0) := by decide +kernel
theorem y936 : k_L_law_[936]? = some (.laload, 1735, 1, 0, 0, 0) := by decide +kernel
theorem y937 : k_L_law_[937]? = some (.iload 6, 1736, 2, 0, 0, 0) := by decide +kernel
theorem y938 : k_L_law_[938]? = some (.i2l, 1738, 1, 0, 0, 0) := by decide +kernel
theorem y939 : k_L_law_[939]? = some (.lcmp, 1739, 1, 0, 0, 0) := by decide +kernel
theorem y940 : k_L_law_[940]? = some (.ifCond .eq 5, 1740, 3, 943, 0, 0) := by decide +kernel
theorem y941 : k_L_law_[941]? = some (.iconst 0, 1743, 1, 0, 0, 0) := by decide +kernel
theorem y942 : k_L_law_[942]? = some (.ireturn, 1744, 1, 0, 0, 0) := by decide +kernel
theorem y943 : k_L_law_[943]? = some (.goto 1146, 1745, 3, 1667, 0, 0) := by decide +kernel
theorem y944 : k_L_law_[944]? = some (.aload_n 1, 1748, 1, 0, 0, 0) := by decide +kernel
theorem y945 : k_L_law_[945]? = some (.aload_n 0, 1749, 1, 0, 0, 0) := by decide +kernel
theorem y946 : k_L_law_[946]? = some (.iload 4, 1750, 2, 0, 0, 0) := by decide +kernel
theorem y947 : k_L_law_[947]? = some (.iconst 1, 1752, 1, 0, 0, 0) := by decide +kernel
theorem y948 : k_L_law_[948]? = some (.iadd, 1753, 1, 0, 0, 0) := by decide +kernel
theorem y949 : k_L_law_[949]? = some (.iaload, 1754, 1, 0, 0, 0) := by decide +kernel
theorem y950 : k_L_law_[950]? = some (.aload_n 3, 1755, 1, 0, 0, 0) := by decide +kernel
theorem y951 : k_L_law_[951]? = some (.invokestatic 255, 1756, 3, 358, 0, 1353) := by decide +kernel
theorem y952 : k_L_law_[952]? = some (.istore 5, 1759, 2, 0, 0, 0) := by decide +kernel
theorem y953 : k_L_law_[953]? = some (.aload_n 2, 1761, 1, 0, 0, 0) := by decide +kernel
theorem y954 : k_L_law_[954]? = some (.aload_n 0, 1762, 1, 0, 0, 0) := by decide +kernel
theorem y955 : k_L_law_[955]? = some (.iload 4, 1763, 2, 0, 0, 0) := by decide +kernel
theorem y956 : k_L_law_[956]? = some (.iconst 1, 1765, 1, 0, 0, 0) := by decide +kernel
theorem y957 : k_L_law_[957]? = some (.iadd, 1766, 1, 0, 0, 0) := by decide +kernel
theorem y958 : k_L_law_[958]? = some (.iaload, 1767, 1, 0, 0, 0) := by decide +kernel
theorem y959 : k_L_law_[959]? = some (.invokevirtual 257, 1768, 3, 301, 0, 2093) := by decide +kernel
theorem y960 : k_L_law_[960]? = some (.istore 6, 1771, 2, 0, 0, 0) := by decide +kernel
theorem y961 : k_L_law_[961]? = some (.aload_n 2, 1773, 1, 0, 0, 0) := by decide +kernel
theorem y962 : k_L_law_[962]? = some (.invokevirtual 149, 1774, 3, 180, 0, 1499) := by decide +kernel
theorem y963 : k_L_law_[963]? = some (.iload 5, 1777, 2, 0, 0, 0) := by decide +kernel
theorem y964 : k_L_law_[964]? = some (.if_icmp .eq 5, 1779, 3, 967, 0, 0) := by decide +kernel
theorem y965 : k_L_law_[965]? = some (.iconst 0, 1782, 1, 0, 0, 0) := by decide +kernel
theorem y966 : k_L_law_[966]? = some (.ireturn, 1783, 1, 0, 0, 0) := by decide +kernel
theorem y967 : k_L_law_[967]? = some (.iload 5, 1784, 2, 0, 0, 0) := by decide +kernel
theorem y968 : k_L_law_[968]? = some (.ifCond .ne 15, 1786, 3, 978, 0, 0) := by decide +kernel
theorem y969 : k_L_law_[969]? = some (.aload_n 3, 1789, 1, 0, 0, 0) := by decide +kernel
theorem y970 : k_L_law_[970]? = some (.iconst 0, 1790, 1, 0, 0, 0) := by decide +kernel
theorem y971 : k_L_law_[971]? = some (.laload, 1791, 1, 0, 0, 0) := by decide +kernel
theorem y972 : k_L_law_[972]? = some (.iload 6, 1792, 2, 0, 0, 0) := by decide +kernel
theorem y973 : k_L_law_[973]? = some (.i2l, 1794, 1, 0, 0, 0) := by decide +kernel
theorem y974 : k_L_law_[974]? = some (.lcmp, 1795, 1, 0, 0, 0) := by decide +kernel
theorem y975 : k_L_law_[975]? = some (.ifCond .eq 5, 1796, 3, 978, 0, 0) := by decide +kernel
theorem y976 : k_L_law_[976]? = some (.iconst 0, 1799, 1, 0, 0, 0) := by decide +kernel
theorem y977 : k_L_law_[977]? = some (.ireturn, 1800, 1, 0, 0, 0) := by decide +kernel
theorem y978 : k_L_law_[978]? = some (.goto 1090, 1801, 3, 1667, 0, 0) := by decide +kernel
theorem y979 : k_L_law_[979]? = some (.aload_n 1, 1804, 1, 0, 0, 0) := by decide +kernel
theorem y980 : k_L_law_[980]? = some (.aload_n 0, 1805, 1, 0, 0, 0) := by decide +kernel
theorem y981 : k_L_law_[981]? = some (.iload 4, 1806, 2, 0, 0, 0) := by decide +kernel
theorem y982 : k_L_law_[982]? = some (.iconst 1, 1808, 1, 0, 0, 0) := by decide +kernel
theorem y983 : k_L_law_[983]? = some (.iadd, 1809, 1, 0, 0, 0) := by decide +kernel
theorem y984 : k_L_law_[984]? = some (.iaload, 1810, 1, 0, 0, 0) := by decide +kernel
theorem y985 : k_L_law_[985]? = some (.aload_n 0, 1811, 1, 0, 0, 0) := by decide +kernel
theorem y986 : k_L_law_[986]? = some (.iload 4, 1812, 2, 0, 0, 0) := by decide +kernel
theorem y987 : k_L_law_[987]? = some (.iconst 2, 1814, 1, 0, 0, 0) := by decide +kernel
theorem y988 : k_L_law_[988]? = some (.iadd, 1815, 1, 0, 0, 0) := by decide +kernel
theorem y989 : k_L_law_[989]? = some (.iaload, 1816, 1, 0, 0, 0) := by decide +kernel
theorem y990 : k_L_law_[990]? = some (.aload_n 3, 1817, 1, 0, 0, 0) := by decide +kernel
theorem y991 : k_L_law_[991]? = some (.invokestatic 258, 1818, 3, 359, 0, 1370) := by decide +kernel
theorem y992 : k_L_law_[992]? = some (.istore 5, 1821, 2, 0, 0, 0) := by decide +kernel
theorem y993 : k_L_law_[993]? = some (.aload_n 2, 1823, 1, 0, 0, 0) := by decide +kernel
theorem y994 : k_L_law_[994]? = some (.aload_n 0, 1824, 1, 0, 0, 0) := by decide +kernel
theorem y995 : k_L_law_[995]? = some (.iload 4, 1825, 2, 0, 0, 0) := by decide +kernel
theorem y996 : k_L_law_[996]? = some (.iconst 1, 1827, 1, 0, 0, 0) := by decide +kernel
theorem y997 : k_L_law_[997]? = some (.iadd, 1828, 1, 0, 0, 0) := by decide +kernel
theorem y998 : k_L_law_[998]? = some (.iaload, 1829, 1, 0, 0, 0) := by decide +kernel
theorem y999 : k_L_law_[999]? = some (.aload_n 0, 1830, 1, 0, 0, 0) := by decide +kernel
theorem y1000 : k_L_law_[1000]? = some (.iload 4, 1831, 2, 0, 0, 0) := by decide +kernel
theorem y1001 : k_L_law_[1001]? = some (.iconst 2, 1833, 1, 0, 0, 0) := by decide +kernel
theorem y1002 : k_L_law_[1002]? = some (.iadd, 1834, 1, 0, 0, 0) := by decide +kernel
theorem y1003 : k_L_law_[1003]? = some (.iaload, 1835, 1, 0, 0, 0) := by decide +kernel
theorem y1004 : k_L_law_[1004]? = some (.invokevirtual 260, 1836, 3, 305, 0, 2101) := by decide +kernel
theorem y1005 : k_L_law_[1005]? = some (.istore 6, 1839, 2, 0, 0, 0) := by decide +kernel
theorem y1006 : k_L_law_[1006]? = some (.aload_n 2, 1841, 1, 0, 0, 0) := by decide +kernel
theorem y1007 : k_L_law_[1007]? = some (.invokevirtual 149, 1842, 3, 180, 0, 1499) := by decide +kernel
theorem y1008 : k_L_law_[1008]? = some (.iload 5, 1845, 2, 0, 0, 0) := by decide +kernel
theorem y1009 : k_L_law_[1009]? = some (.if_icmp .eq 5, 1847, 3, 1012, 0, 0) := by decide +kernel
theorem y1010 : k_L_law_[1010]? = some (.iconst 0, 1850, 1, 0, 0, 0) := by decide +kernel
theorem y1011 : k_L_law_[1011]? = some (.ireturn, 1851, 1, 0, 0, 0) := by decide +kernel
theorem y1012 : k_L_law_[1012]? = some (.iload 5, 1852, 2, 0, 0, 0) := by decide +kernel
theorem y1013 : k_L_law_[1013]? = some (.ifCond .ne 15, 1854, 3, 1023, 0, 0) := by decide +kernel
theorem y1014 : k_L_law_[1014]? = some (.aload_n 3, 1857, 1, 0, 0, 0) := by decide +kernel
theorem y1015 : k_L_law_[1015]? = some (.iconst 0, 1858, 1, 0, 0, 0) := by decide +kernel
theorem y1016 : k_L_law_[1016]? = some (.laload, 1859, 1, 0, 0, 0) := by decide +kernel
theorem y1017 : k_L_law_[1017]? = some (.iload 6, 1860, 2, 0, 0, 0) := by decide +kernel
theorem y1018 : k_L_law_[1018]? = some (.i2l, 1862, 1, 0, 0, 0) := by decide +kernel
theorem y1019 : k_L_law_[1019]? = some (.lcmp, 1863, 1, 0, 0, 0) := by decide +kernel
theorem y1020 : k_L_law_[1020]? = some (.ifCond .eq 5, 1864, 3, 1023, 0, 0) := by decide +kernel
theorem y1021 : k_L_law_[1021]? = some (.iconst 0, 1867, 1, 0, 0, 0) := by decide +kernel
theorem y1022 : k_L_law_[1022]? = some (.ireturn, 1868, 1, 0, 0, 0) := by decide +kernel
theorem y1023 : k_L_law_[1023]? = some (.goto 1022, 1869, 3, 1667, 0, 0) := by decide +kernel
theorem y1024 : k_L_law_[1024]? = some (.aload_n 1, 1872, 1, 0, 0, 0) := by decide +kernel
theorem y1025 : k_L_law_[1025]? = some (.aload_n 0, 1873, 1, 0, 0, 0) := by decide +kernel
theorem y1026 : k_L_law_[1026]? = some (.iload 4, 1874, 2, 0, 0, 0) := by decide +kernel
theorem y1027 : k_L_law_[1027]? = some (.iconst 1, 1876, 1, 0, 0, 0) := by decide +kernel
theorem y1028 : k_L_law_[1028]? = some (.iadd, 1877, 1, 0, 0, 0) := by decide +kernel
theorem y1029 : k_L_law_[1029]? = some (.iaload, 1878, 1, 0, 0, 0) := by decide +kernel
theorem y1030 : k_L_law_[1030]? = some (.aload_n 3, 1879, 1, 0, 0, 0) := by decide +kernel
theorem y1031 : k_L_law_[1031]? = some (.invokestatic 261, 1880, 3, 360, 0, 1377) := by decide +kernel
theorem y1032 : k_L_law_[1032]? = some (.istore 5, 1883, 2, 0, 0, 0) := by decide +kernel
theorem y1033 : k_L_law_[1033]? = some (.aload_n 2, 1885, 1, 0, 0, 0) := by decide +kernel
theorem y1034 : k_L_law_[1034]? = some (.aload_n 0, 1886, 1, 0, 0, 0) := by decide +kernel
theorem y1035 : k_L_law_[1035]? = some (.iload 4, 1887, 2, 0, 0, 0) := by decide +kernel
theorem y1036 : k_L_law_[1036]? = some (.iconst 1, 1889, 1, 0, 0, 0) := by decide +kernel
theorem y1037 : k_L_law_[1037]? = some (.iadd, 1890, 1, 0, 0, 0) := by decide +kernel
theorem y1038 : k_L_law_[1038]? = some (.iaload, 1891, 1, 0, 0, 0) := by decide +kernel
theorem y1039 : k_L_law_[1039]? = some (.invokevirtual 263, 1892, 3, 307, 0, 2113) := by decide +kernel
theorem y1040 : k_L_law_[1040]? = some (.istore 6, 1895, 2, 0, 0, 0) := by decide +kernel
theorem y1041 : k_L_law_[1041]? = some (.aload_n 2, 1897, 1, 0, 0, 0) := by decide +kernel
theorem y1042 : k_L_law_[1042]? = some (.invokevirtual 149, 1898, 3, 180, 0, 1499) := by decide +kernel
theorem y1043 : k_L_law_[1043]? = some (.iload 5, 1901, 2, 0, 0, 0) := by decide +kernel
theorem y1044 : k_L_law_[1044]? = some (.if_icmp .eq 5, 1903, 3, 1047, 0, 0) := by decide +kernel
theorem y1045 : k_L_law_[1045]? = some (.iconst 0, 1906, 1, 0, 0, 0) := by decide +kernel
theorem y1046 : k_L_law_[1046]? = some (.ireturn, 1907, 1, 0, 0, 0) := by decide +kernel
theorem y1047 : k_L_law_[1047]? = some (.iload 5, 1908, 2, 0, 0, 0) := by decide +kernel
theorem y1048 : k_L_law_[1048]? = some (.ifCond .ne 15, 1910, 3, 1058, 0, 0) := by decide +kernel
theorem y1049 : k_L_law_[1049]? = some (.aload_n 3, 1913, 1, 0, 0, 0) := by decide +kernel
theorem y1050 : k_L_law_[1050]? = some (.iconst 0, 1914, 1, 0, 0, 0) := by decide +kernel
theorem y1051 : k_L_law_[1051]? = some (.laload, 1915, 1, 0, 0, 0) := by decide +kernel
theorem y1052 : k_L_law_[1052]? = some (.iload 6, 1916, 2, 0, 0, 0) := by decide +kernel
theorem y1053 : k_L_law_[1053]? = some (.i2l, 1918, 1, 0, 0, 0) := by decide +kernel
theorem y1054 : k_L_law_[1054]? = some (.lcmp, 1919, 1, 0, 0, 0) := by decide +kernel
theorem y1055 : k_L_law_[1055]? = some (.ifCond .eq 5, 1920, 3, 1058, 0, 0) := by decide +kernel
theorem y1056 : k_L_law_[1056]? = some (.iconst 0, 1923, 1, 0, 0, 0) := by decide +kernel
theorem y1057 : k_L_law_[1057]? = some (.ireturn, 1924, 1, 0, 0, 0) := by decide +kernel
theorem y1058 : k_L_law_[1058]? = some (.goto 966, 1925, 3, 1667, 0, 0) := by decide +kernel
theorem y1059 : k_L_law_[1059]? = some (.aload_n 1, 1928, 1, 0, 0, 0) := by decide +kernel
theorem y1060 : k_L_law_[1060]? = some (.invokevirtual 264, 1929, 3, 144, 0, 597) := by decide +kernel
theorem y1061 : k_L_law_[1061]? = some (.aload_n 2, 1932, 1, 0, 0, 0) := by decide +kernel
theorem y1062 : k_L_law_[1062]? = some (.invokevirtual 267, 1933, 3, 308, 0, 2121) := by decide +kernel
theorem y1063 : k_L_law_[1063]? = some (.if_icmp .eq 955, 1936, 3, 1667, 0, 0) := by decide +kernel
theorem y1064 : k_L_law_[1064]? = some (.iconst 0, 1939, 1, 0, 0, 0) := by decide +kernel
theorem y1065 : k_L_law_[1065]? = some (.ireturn, 1940, 1, 0, 0, 0) := by decide +kernel
theorem y1066 : k_L_law_[1066]? = some (.aload_n 1, 1941, 1, 0, 0, 0) := by decide +kernel
theorem y1067 : k_L_law_[1067]? = some (.aload_n 0, 1942, 1, 0, 0, 0) := by decide +kernel
theorem y1068 : k_L_law_[1068]? = some (.iload 4, 1943, 2, 0, 0, 0) := by decide +kernel
theorem y1069 : k_L_law_[1069]? = some (.iconst 1, 1945, 1, 0, 0, 0) := by decide +kernel
theorem y1070 : k_L_law_[1070]? = some (.iadd, 1946, 1, 0, 0, 0) := by decide +kernel
theorem y1071 : k_L_law_[1071]? = some (.iaload, 1947, 1, 0, 0, 0) := by decide +kernel
theorem y1072 : k_L_law_[1072]? = some (.aload_n 3, 1948, 1, 0, 0, 0) := by decide +kernel
theorem y1073 : k_L_law_[1073]? = some (.invokestatic 268, 1949, 3, 361, 0, 1384) := by decide +kernel
theorem y1074 : k_L_law_[1074]? = some (.istore 5, 1952, 2, 0, 0, 0) := by decide +kernel
theorem y1075 : k_L_law_[1075]? = some (.aload_n 2, 1954, 1, 0, 0, 0) := by decide +kernel
theorem y1076 : k_L_law_[1076]? = some (.aload_n 0, 1955, 1, 0, 0, 0) := by decide +kernel
theorem y1077 : k_L_law_[1077]? = some (.iload 4, 1956, 2, 0, 0, 0) := by decide +kernel
theorem y1078 : k_L_law_[1078]? = some (.iconst 1, 1958, 1, 0, 0, 0) := by decide +kernel
theorem y1079 : k_L_law_[1079]? = some (.iadd, 1959, 1, 0, 0, 0) := by decide +kernel
theorem y1080 : k_L_law_[1080]? = some (.iaload, 1960, 1, 0, 0, 0) := by decide +kernel
theorem y1081 : k_L_law_[1081]? = some (.invokevirtual 270, 1961, 3, 310, 0, 2125) := by decide +kernel
theorem y1082 : k_L_law_[1082]? = some (.istore 6, 1964, 2, 0, 0, 0) := by decide +kernel
theorem y1083 : k_L_law_[1083]? = some (.aload_n 2, 1966, 1, 0, 0, 0) := by decide +kernel
theorem y1084 : k_L_law_[1084]? = some (.invokevirtual 149, 1967, 3, 180, 0, 1499) := by decide +kernel
theorem y1085 : k_L_law_[1085]? = some (.iload 5, 1970, 2, 0, 0, 0) := by decide +kernel
theorem y1086 : k_L_law_[1086]? = some (.if_icmp .eq 5, 1972, 3, 1089, 0, 0) := by decide +kernel
theorem y1087 : k_L_law_[1087]? = some (.iconst 0, 1975, 1, 0, 0, 0) := by decide +kernel
theorem y1088 : k_L_law_[1088]? = some (.ireturn, 1976, 1, 0, 0, 0) := by decide +kernel
theorem y1089 : k_L_law_[1089]? = some (.iload 5, 1977, 2, 0, 0, 0) := by decide +kernel
theorem y1090 : k_L_law_[1090]? = some (.ifCond .ne 15, 1979, 3, 1100, 0, 0) := by decide +kernel
theorem y1091 : k_L_law_[1091]? = some (.aload_n 3, 1982, 1, 0, 0, 0) := by decide +kernel
theorem y1092 : k_L_law_[1092]? = some (.iconst 0, 1983, 1, 0, 0, 0) := by decide +kernel
theorem y1093 : k_L_law_[1093]? = some (.laload, 1984, 1, 0, 0, 0) := by decide +kernel
theorem y1094 : k_L_law_[1094]? = some (.iload 6, 1985, 2, 0, 0, 0) := by decide +kernel
theorem y1095 : k_L_law_[1095]? = some (.i2l, 1987, 1, 0, 0, 0) := by decide +kernel
theorem y1096 : k_L_law_[1096]? = some (.lcmp, 1988, 1, 0, 0, 0) := by decide +kernel
theorem y1097 : k_L_law_[1097]? = some (.ifCond .eq 5, 1989, 3, 1100, 0, 0) := by decide +kernel
theorem y1098 : k_L_law_[1098]? = some (.iconst 0, 1992, 1, 0, 0, 0) := by decide +kernel
theorem y1099 : k_L_law_[1099]? = some (.ireturn, 1993, 1, 0, 0, 0) := by decide +kernel
theorem y1100 : k_L_law_[1100]? = some (.goto 897, 1994, 3, 1667, 0, 0) := by decide +kernel
theorem y1101 : k_L_law_[1101]? = some (.aload_n 1, 1997, 1, 0, 0, 0) := by decide +kernel
theorem y1102 : k_L_law_[1102]? = some (.aload_n 0, 1998, 1, 0, 0, 0) := by decide +kernel
theorem y1103 : k_L_law_[1103]? = some (.iload 4, 1999, 2, 0, 0, 0) := by decide +kernel
theorem y1104 : k_L_law_[1104]? = some (.iconst 1, 2001, 1, 0, 0, 0) := by decide +kernel
theorem y1105 : k_L_law_[1105]? = some (.iadd, 2002, 1, 0, 0, 0) := by decide +kernel
theorem y1106 : k_L_law_[1106]? = some (.iaload, 2003, 1, 0, 0, 0) := by decide +kernel
theorem y1107 : k_L_law_[1107]? = some (.aload_n 0, 2004, 1, 0, 0, 0) := by decide +kernel
theorem y1108 : k_L_law_[1108]? = some (.iload 4, 2005, 2, 0, 0, 0) := by decide +kernel
theorem y1109 : k_L_law_[1109]? = some (.iconst 2, 2007, 1, 0, 0, 0) := by decide +kernel
theorem y1110 : k_L_law_[1110]? = some (.iadd, 2008, 1, 0, 0, 0) := by decide +kernel
theorem y1111 : k_L_law_[1111]? = some (.iaload, 2009, 1, 0, 0, 0) := by decide +kernel
theorem y1112 : k_L_law_[1112]? = some (.aload_n 0, 2010, 1, 0, 0, 0) := by decide +kernel
theorem y1113 : k_L_law_[1113]? = some (.iload 4, 2011, 2, 0, 0, 0) := by decide +kernel
theorem y1114 : k_L_law_[1114]? = some (.iconst 3, 2013, 1, 0, 0, 0) := by decide +kernel
theorem y1115 : k_L_law_[1115]? = some (.iadd, 2014, 1, 0, 0, 0) := by decide +kernel
theorem y1116 : k_L_law_[1116]? = some (.iaload, 2015, 1, 0, 0, 0) := by decide +kernel
theorem y1117 : k_L_law_[1117]? = some (.aload_n 3, 2016, 1, 0, 0, 0) := by decide +kernel
theorem y1118 : k_L_law_[1118]? = some (.invokestatic 271, 2017, 3, 362, 0, 1394) := by decide +kernel
theorem y1119 : k_L_law_[1119]? = some (.istore 5, 2020, 2, 0, 0, 0) := by decide +kernel
theorem y1120 : k_L_law_[1120]? = some (.aload_n 2, 2022, 1, 0, 0, 0) := by decide +kernel
theorem y1121 : k_L_law_[1121]? = some (.aload_n 0, 2023, 1, 0, 0, 0) := by decide +kernel
theorem y1122 : k_L_law_[1122]? = some (.iload 4, 2024, 2, 0, 0, 0) := by decide +kernel
theorem y1123 : k_L_law_[1123]? = some (.iconst 1, 2026, 1, 0, 0, 0) := by decide +kernel
theorem y1124 : k_L_law_[1124]? = some (.iadd, 2027, 1, 0, 0, 0) := by decide +kernel
theorem y1125 : k_L_law_[1125]? = some (.iaload, 2028, 1, 0, 0, 0) := by decide +kernel
theorem y1126 : k_L_law_[1126]? = some (.aload_n 0, 2029, 1, 0, 0, 0) := by decide +kernel
theorem y1127 : k_L_law_[1127]? = some (.iload 4, 2030, 2, 0, 0, 0) := by decide +kernel
theorem y1128 : k_L_law_[1128]? = some (.iconst 2, 2032, 1, 0, 0, 0) := by decide +kernel
theorem y1129 : k_L_law_[1129]? = some (.iadd, 2033, 1, 0, 0, 0) := by decide +kernel
theorem y1130 : k_L_law_[1130]? = some (.iaload, 2034, 1, 0, 0, 0) := by decide +kernel
theorem y1131 : k_L_law_[1131]? = some (.aload_n 0, 2035, 1, 0, 0, 0) := by decide +kernel
theorem y1132 : k_L_law_[1132]? = some (.iload 4, 2036, 2, 0, 0, 0) := by decide +kernel
theorem y1133 : k_L_law_[1133]? = some (.iconst 3, 2038, 1, 0, 0, 0) := by decide +kernel
theorem y1134 : k_L_law_[1134]? = some (.iadd, 2039, 1, 0, 0, 0) := by decide +kernel
theorem y1135 : k_L_law_[1135]? = some (.iaload, 2040, 1, 0, 0, 0) := by decide +kernel
theorem y1136 : k_L_law_[1136]? = some (.invokevirtual 273, 2041, 3, 314, 0, 2137) := by decide +kernel
theorem y1137 : k_L_law_[1137]? = some (.istore 6, 2044, 2, 0, 0, 0) := by decide +kernel
theorem y1138 : k_L_law_[1138]? = some (.aload_n 2, 2046, 1, 0, 0, 0) := by decide +kernel
theorem y1139 : k_L_law_[1139]? = some (.invokevirtual 149, 2047, 3, 180, 0, 1499) := by decide +kernel
theorem y1140 : k_L_law_[1140]? = some (.iload 5, 2050, 2, 0, 0, 0) := by decide +kernel
theorem y1141 : k_L_law_[1141]? = some (.if_icmp .eq 5, 2052, 3, 1144, 0, 0) := by decide +kernel
theorem y1142 : k_L_law_[1142]? = some (.iconst 0, 2055, 1, 0, 0, 0) := by decide +kernel
theorem y1143 : k_L_law_[1143]? = some (.ireturn, 2056, 1, 0, 0, 0) := by decide +kernel
theorem y1144 : k_L_law_[1144]? = some (.iload 5, 2057, 2, 0, 0, 0) := by decide +kernel
theorem y1145 : k_L_law_[1145]? = some (.ifCond .ne 15, 2059, 3, 1155, 0, 0) := by decide +kernel
theorem y1146 : k_L_law_[1146]? = some (.aload_n 3, 2062, 1, 0, 0, 0) := by decide +kernel
theorem y1147 : k_L_law_[1147]? = some (.iconst 0, 2063, 1, 0, 0, 0) := by decide +kernel
theorem y1148 : k_L_law_[1148]? = some (.laload, 2064, 1, 0, 0, 0) := by decide +kernel
theorem y1149 : k_L_law_[1149]? = some (.iload 6, 2065, 2, 0, 0, 0) := by decide +kernel
theorem y1150 : k_L_law_[1150]? = some (.i2l, 2067, 1, 0, 0, 0) := by decide +kernel
theorem y1151 : k_L_law_[1151]? = some (.lcmp, 2068, 1, 0, 0, 0) := by decide +kernel
theorem y1152 : k_L_law_[1152]? = some (.ifCond .eq 5, 2069, 3, 1155, 0, 0) := by decide +kernel
theorem y1153 : k_L_law_[1153]? = some (.iconst 0, 2072, 1, 0, 0, 0) := by decide +kernel
theorem y1154 : k_L_law_[1154]? = some (.ireturn, 2073, 1, 0, 0, 0) := by decide +kernel
theorem y1155 : k_L_law_[1155]? = some (.goto 817, 2074, 3, 1667, 0, 0) := by decide +kernel
theorem y1156 : k_L_law_[1156]? = some (.aload_n 1, 2077, 1, 0, 0, 0) := by decide +kernel
theorem y1157 : k_L_law_[1157]? = some (.aload_n 0, 2078, 1, 0, 0, 0) := by decide +kernel
theorem y1158 : k_L_law_[1158]? = some (.iload 4, 2079, 2, 0, 0, 0) := by decide +kernel
theorem y1159 : k_L_law_[1159]? = some (.iconst 1, 2081, 1, 0, 0, 0) := by decide +kernel
theorem y1160 : k_L_law_[1160]? = some (.iadd, 2082, 1, 0, 0, 0) := by decide +kernel
theorem y1161 : k_L_law_[1161]? = some (.iaload, 2083, 1, 0, 0, 0) := by decide +kernel
theorem y1162 : k_L_law_[1162]? = some (.aload_n 3, 2084, 1, 0, 0, 0) := by decide +kernel
theorem y1163 : k_L_law_[1163]? = some (.invokestatic 274, 2085, 3, 363, 0, 1409) := by decide +kernel
theorem y1164 : k_L_law_[1164]? = some (.istore 5, 2088, 2, 0, 0, 0) := by decide +kernel
theorem y1165 : k_L_law_[1165]? = some (.aload_n 2, 2090, 1, 0, 0, 0) := by decide +kernel
theorem y1166 : k_L_law_[1166]? = some (.aload_n 0, 2091, 1, 0, 0, 0) := by decide +kernel
theorem y1167 : k_L_law_[1167]? = some (.iload 4, 2092, 2, 0, 0, 0) := by decide +kernel
theorem y1168 : k_L_law_[1168]? = some (.iconst 1, 2094, 1, 0, 0, 0) := by decide +kernel
theorem y1169 : k_L_law_[1169]? = some (.iadd, 2095, 1, 0, 0, 0) := by decide +kernel
theorem y1170 : k_L_law_[1170]? = some (.iaload, 2096, 1, 0, 0, 0) := by decide +kernel
theorem y1171 : k_L_law_[1171]? = some (.invokevirtual 276, 2097, 3, 315, 0, 2153) := by decide +kernel
theorem y1172 : k_L_law_[1172]? = some (.istore 6, 2100, 2, 0, 0, 0) := by decide +kernel
theorem y1173 : k_L_law_[1173]? = some (.aload_n 2, 2102, 1, 0, 0, 0) := by decide +kernel
theorem y1174 : k_L_law_[1174]? = some (.invokevirtual 149, 2103, 3, 180, 0, 1499) := by decide +kernel
theorem y1175 : k_L_law_[1175]? = some (.iload 5, 2106, 2, 0, 0, 0) := by decide +kernel
theorem y1176 : k_L_law_[1176]? = some (.if_icmp .eq 5, 2108, 3, 1179, 0, 0) := by decide +kernel
theorem y1177 : k_L_law_[1177]? = some (.iconst 0, 2111, 1, 0, 0, 0) := by decide +kernel
theorem y1178 : k_L_law_[1178]? = some (.ireturn, 2112, 1, 0, 0, 0) := by decide +kernel
theorem y1179 : k_L_law_[1179]? = some (.iload 5, 2113, 2, 0, 0, 0) := by decide +kernel
theorem y1180 : k_L_law_[1180]? = some (.ifCond .ne 15, 2115, 3, 1190, 0, 0) := by decide +kernel
theorem y1181 : k_L_law_[1181]? = some (.aload_n 3, 2118, 1, 0, 0, 0) := by decide +kernel
theorem y1182 : k_L_law_[1182]? = some (.iconst 0, 2119, 1, 0, 0, 0) := by decide +kernel
theorem y1183 : k_L_law_[1183]? = some (.laload, 2120, 1, 0, 0, 0) := by decide +kernel
theorem y1184 : k_L_law_[1184]? = some (.iload 6, 2121, 2, 0, 0, 0) := by decide +kernel
theorem y1185 : k_L_law_[1185]? = some (.i2l, 2123, 1, 0, 0, 0) := by decide +kernel
theorem y1186 : k_L_law_[1186]? = some (.lcmp, 2124, 1, 0, 0, 0) := by decide +kernel
theorem y1187 : k_L_law_[1187]? = some (.ifCond .eq 5, 2125, 3, 1190, 0, 0) := by decide +kernel
theorem y1188 : k_L_law_[1188]? = some (.iconst 0, 2128, 1, 0, 0, 0) := by decide +kernel
theorem y1189 : k_L_law_[1189]? = some (.ireturn, 2129, 1, 0, 0, 0) := by decide +kernel
theorem y1190 : k_L_law_[1190]? = some (.goto 761, 2130, 3, 1667, 0, 0) := by decide +kernel
theorem y1191 : k_L_law_[1191]? = some (.aload_n 1, 2133, 1, 0, 0, 0) := by decide +kernel
theorem y1192 : k_L_law_[1192]? = some (.invokevirtual 277, 2134, 3, 148, 0, 611) := by decide +kernel
theorem y1193 : k_L_law_[1193]? = some (.aload_n 2, 2137, 1, 0, 0, 0) := by decide +kernel
theorem y1194 : k_L_law_[1194]? = some (.invokevirtual 280, 2138, 3, 316, 0, 2157) := by decide +kernel
theorem y1195 : k_L_law_[1195]? = some (.if_icmp .eq 750, 2141, 3, 1667, 0, 0) := by decide +kernel
theorem y1196 : k_L_law_[1196]? = some (.iconst 0, 2144, 1, 0, 0, 0) := by decide +kernel
theorem y1197 : k_L_law_[1197]? = some (.ireturn, 2145, 1, 0, 0, 0) := by decide +kernel
theorem y1198 : k_L_law_[1198]? = some (.aload_n 1, 2146, 1, 0, 0, 0) := by decide +kernel
theorem y1199 : k_L_law_[1199]? = some (.aload_n 0, 2147, 1, 0, 0, 0) := by decide +kernel
theorem y1200 : k_L_law_[1200]? = some (.iload 4, 2148, 2, 0, 0, 0) := by decide +kernel
theorem y1201 : k_L_law_[1201]? = some (.iconst 1, 2150, 1, 0, 0, 0) := by decide +kernel
theorem y1202 : k_L_law_[1202]? = some (.iadd, 2151, 1, 0, 0, 0) := by decide +kernel
theorem y1203 : k_L_law_[1203]? = some (.iaload, 2152, 1, 0, 0, 0) := by decide +kernel
theorem y1204 : k_L_law_[1204]? = some (.aload_n 0, 2153, 1, 0, 0, 0) := by decide +kernel
theorem y1205 : k_L_law_[1205]? = some (.iload 4, 2154, 2, 0, 0, 0) := by decide +kernel
theorem y1206 : k_L_law_[1206]? = some (.iconst 2, 2156, 1, 0, 0, 0) := by decide +kernel
theorem y1207 : k_L_law_[1207]? = some (.iadd, 2157, 1, 0, 0, 0) := by decide +kernel
theorem y1208 : k_L_law_[1208]? = some (.iaload, 2158, 1, 0, 0, 0) := by decide +kernel
theorem y1209 : k_L_law_[1209]? = some (.aload_n 3, 2159, 1, 0, 0, 0) := by decide +kernel
theorem y1210 : k_L_law_[1210]? = some (.invokestatic 281, 2160, 3, 364, 0, 1416) := by decide +kernel
theorem y1211 : k_L_law_[1211]? = some (.istore 5, 2163, 2, 0, 0, 0) := by decide +kernel
theorem y1212 : k_L_law_[1212]? = some (.aload_n 2, 2165, 1, 0, 0, 0) := by decide +kernel
theorem y1213 : k_L_law_[1213]? = some (.aload_n 0, 2166, 1, 0, 0, 0) := by decide +kernel
theorem y1214 : k_L_law_[1214]? = some (.iload 4, 2167, 2, 0, 0, 0) := by decide +kernel
theorem y1215 : k_L_law_[1215]? = some (.iconst 1, 2169, 1, 0, 0, 0) := by decide +kernel
theorem y1216 : k_L_law_[1216]? = some (.iadd, 2170, 1, 0, 0, 0) := by decide +kernel
theorem y1217 : k_L_law_[1217]? = some (.iaload, 2171, 1, 0, 0, 0) := by decide +kernel
theorem y1218 : k_L_law_[1218]? = some (.aload_n 0, 2172, 1, 0, 0, 0) := by decide +kernel
theorem y1219 : k_L_law_[1219]? = some (.iload 4, 2173, 2, 0, 0, 0) := by decide +kernel
theorem y1220 : k_L_law_[1220]? = some (.iconst 2, 2175, 1, 0, 0, 0) := by decide +kernel
theorem y1221 : k_L_law_[1221]? = some (.iadd, 2176, 1, 0, 0, 0) := by decide +kernel
theorem y1222 : k_L_law_[1222]? = some (.iaload, 2177, 1, 0, 0, 0) := by decide +kernel
theorem y1223 : k_L_law_[1223]? = some (.invokevirtual 283, 2178, 3, 319, 0, 2161) := by decide +kernel
theorem y1224 : k_L_law_[1224]? = some (.istore 6, 2181, 2, 0, 0, 0) := by decide +kernel
theorem y1225 : k_L_law_[1225]? = some (.aload_n 2, 2183, 1, 0, 0, 0) := by decide +kernel
theorem y1226 : k_L_law_[1226]? = some (.invokevirtual 149, 2184, 3, 180, 0, 1499) := by decide +kernel
theorem y1227 : k_L_law_[1227]? = some (.iload 5, 2187, 2, 0, 0, 0) := by decide +kernel
theorem y1228 : k_L_law_[1228]? = some (.if_icmp .eq 5, 2189, 3, 1231, 0, 0) := by decide +kernel
theorem y1229 : k_L_law_[1229]? = some (.iconst 0, 2192, 1, 0, 0, 0) := by decide +kernel
theorem y1230 : k_L_law_[1230]? = some (.ireturn, 2193, 1, 0, 0, 0) := by decide +kernel
theorem y1231 : k_L_law_[1231]? = some (.iload 5, 2194, 2, 0, 0, 0) := by decide +kernel
theorem y1232 : k_L_law_[1232]? = some (.ifCond .ne 15, 2196, 3, 1242, 0, 0) := by decide +kernel
theorem y1233 : k_L_law_[1233]? = some (.aload_n 3, 2199, 1, 0, 0, 0) := by decide +kernel
theorem y1234 : k_L_law_[1234]? = some (.iconst 0, 2200, 1, 0, 0, 0) := by decide +kernel
theorem y1235 : k_L_law_[1235]? = some (.laload, 2201, 1, 0, 0, 0) := by decide +kernel
theorem y1236 : k_L_law_[1236]? = some (.iload 6, 2202, 2, 0, 0, 0) := by decide +kernel
theorem y1237 : k_L_law_[1237]? = some (.i2l, 2204, 1, 0, 0, 0) := by decide +kernel
theorem y1238 : k_L_law_[1238]? = some (.lcmp, 2205, 1, 0, 0, 0) := by decide +kernel
theorem y1239 : k_L_law_[1239]? = some (.ifCond .eq 5, 2206, 3, 1242, 0, 0) := by decide +kernel
theorem y1240 : k_L_law_[1240]? = some (.iconst 0, 2209, 1, 0, 0, 0) := by decide +kernel
theorem y1241 : k_L_law_[1241]? = some (.ireturn, 2210, 1, 0, 0, 0) := by decide +kernel
theorem y1242 : k_L_law_[1242]? = some (.goto 680, 2211, 3, 1667, 0, 0) := by decide +kernel
theorem y1243 : k_L_law_[1243]? = some (.aload_n 1, 2214, 1, 0, 0, 0) := by decide +kernel
theorem y1244 : k_L_law_[1244]? = some (.aload_n 0, 2215, 1, 0, 0, 0) := by decide +kernel
theorem y1245 : k_L_law_[1245]? = some (.iload 4, 2216, 2, 0, 0, 0) := by decide +kernel
theorem y1246 : k_L_law_[1246]? = some (.iconst 1, 2218, 1, 0, 0, 0) := by decide +kernel
theorem y1247 : k_L_law_[1247]? = some (.iadd, 2219, 1, 0, 0, 0) := by decide +kernel
theorem y1248 : k_L_law_[1248]? = some (.iaload, 2220, 1, 0, 0, 0) := by decide +kernel
theorem y1249 : k_L_law_[1249]? = some (.aload_n 0, 2221, 1, 0, 0, 0) := by decide +kernel
theorem y1250 : k_L_law_[1250]? = some (.iload 4, 2222, 2, 0, 0, 0) := by decide +kernel
theorem y1251 : k_L_law_[1251]? = some (.iconst 2, 2224, 1, 0, 0, 0) := by decide +kernel
theorem y1252 : k_L_law_[1252]? = some (.iadd, 2225, 1, 0, 0, 0) := by decide +kernel
theorem y1253 : k_L_law_[1253]? = some (.iaload, 2226, 1, 0, 0, 0) := by decide +kernel
theorem y1254 : k_L_law_[1254]? = some (.aload_n 3, 2227, 1, 0, 0, 0) := by decide +kernel
theorem y1255 : k_L_law_[1255]? = some (.invokestatic 284, 2228, 3, 365, 0, 1430) := by decide +kernel
theorem y1256 : k_L_law_[1256]? = some (.istore 5, 2231, 2, 0, 0, 0) := by decide +kernel
theorem y1257 : k_L_law_[1257]? = some (.aload_n 2, 2233, 1, 0, 0, 0) := by decide +kernel
theorem y1258 : k_L_law_[1258]? = some (.aload_n 0, 2234, 1, 0, 0, 0) := by decide +kernel
theorem y1259 : k_L_law_[1259]? = some (.iload 4, 2235, 2, 0, 0, 0) := by decide +kernel
theorem y1260 : k_L_law_[1260]? = some (.iconst 1, 2237, 1, 0, 0, 0) := by decide +kernel
theorem y1261 : k_L_law_[1261]? = some (.iadd, 2238, 1, 0, 0, 0) := by decide +kernel
theorem y1262 : k_L_law_[1262]? = some (.iaload, 2239, 1, 0, 0, 0) := by decide +kernel
theorem y1263 : k_L_law_[1263]? = some (.aload_n 0, 2240, 1, 0, 0, 0) := by decide +kernel
theorem y1264 : k_L_law_[1264]? = some (.iload 4, 2241, 2, 0, 0, 0) := by decide +kernel
theorem y1265 : k_L_law_[1265]? = some (.iconst 2, 2243, 1, 0, 0, 0) := by decide +kernel
theorem y1266 : k_L_law_[1266]? = some (.iadd, 2244, 1, 0, 0, 0) := by decide +kernel
theorem y1267 : k_L_law_[1267]? = some (.iaload, 2245, 1, 0, 0, 0) := by decide +kernel
theorem y1268 : k_L_law_[1268]? = some (.invokevirtual 286, 2246, 3, 320, 0, 2171) := by decide +kernel
theorem y1269 : k_L_law_[1269]? = some (.istore 6, 2249, 2, 0, 0, 0) := by decide +kernel
theorem y1270 : k_L_law_[1270]? = some (.aload_n 2, 2251, 1, 0, 0, 0) := by decide +kernel
theorem y1271 : k_L_law_[1271]? = some (.invokevirtual 149, 2252, 3, 180, 0, 1499) := by decide +kernel
theorem y1272 : k_L_law_[1272]? = some (.iload 5, 2255, 2, 0, 0, 0) := by decide +kernel
theorem y1273 : k_L_law_[1273]? = some (.if_icmp .eq 5, 2257, 3, 1276, 0, 0) := by decide +kernel
theorem y1274 : k_L_law_[1274]? = some (.iconst 0, 2260, 1, 0, 0, 0) := by decide +kernel
theorem y1275 : k_L_law_[1275]? = some (.ireturn, 2261, 1, 0, 0, 0) := by decide +kernel
theorem y1276 : k_L_law_[1276]? = some (.iload 5, 2262, 2, 0, 0, 0) := by decide +kernel
theorem y1277 : k_L_law_[1277]? = some (.ifCond .ne 15, 2264, 3, 1287, 0, 0) := by decide +kernel
theorem y1278 : k_L_law_[1278]? = some (.aload_n 3, 2267, 1, 0, 0, 0) := by decide +kernel
theorem y1279 : k_L_law_[1279]? = some (.iconst 0, 2268, 1, 0, 0, 0) := by decide +kernel
theorem y1280 : k_L_law_[1280]? = some (.laload, 2269, 1, 0, 0, 0) := by decide +kernel
theorem y1281 : k_L_law_[1281]? = some (.iload 6, 2270, 2, 0, 0, 0) := by decide +kernel
theorem y1282 : k_L_law_[1282]? = some (.i2l, 2272, 1, 0, 0, 0) := by decide +kernel
theorem y1283 : k_L_law_[1283]? = some (.lcmp, 2273, 1, 0, 0, 0) := by decide +kernel
theorem y1284 : k_L_law_[1284]? = some (.ifCond .eq 5, 2274, 3, 1287, 0, 0) := by decide +kernel
theorem y1285 : k_L_law_[1285]? = some (.iconst 0, 2277, 1, 0, 0, 0) := by decide +kernel
theorem y1286 : k_L_law_[1286]? = some (.ireturn, 2278, 1, 0, 0, 0) := by decide +kernel
theorem y1287 : k_L_law_[1287]? = some (.goto 612, 2279, 3, 1667, 0, 0) := by decide +kernel
theorem y1288 : k_L_law_[1288]? = some (.aload_n 1, 2282, 1, 0, 0, 0) := by decide +kernel
theorem y1289 : k_L_law_[1289]? = some (.invokevirtual 287, 2283, 3, 153, 0, 644) := by decide +kernel
theorem y1290 : k_L_law_[1290]? = some (.aload_n 2, 2286, 1, 0, 0, 0) := by decide +kernel
theorem y1291 : k_L_law_[1291]? = some (.invokevirtual 290, 2287, 3, 321, 0, 2175) := by decide +kernel
theorem y1292 : k_L_law_[1292]? = some (.if_icmp .eq 601, 2290, 3, 1667, 0, 0) := by decide +kernel
theorem y1293 : k_L_law_[1293]? = some (.iconst 0, 2293, 1, 0, 0, 0) := by decide +kernel
theorem y1294 : k_L_law_[1294]? = some (.ireturn, 2294, 1, 0, 0, 0) := by decide +kernel
theorem y1295 : k_L_law_[1295]? = some (.aload_n 1, 2295, 1, 0, 0, 0) := by decide +kernel
theorem y1296 : k_L_law_[1296]? = some (.invokevirtual 291, 2296, 3, 154, 0, 648) := by decide +kernel
theorem y1297 : k_L_law_[1297]? = some (.aload_n 2, 2299, 1, 0, 0, 0) := by decide +kernel
theorem y1298 : k_L_law_[1298]? = some (.invokevirtual 294, 2300, 3, 322, 0, 2179) := by decide +kernel
theorem y1299 : k_L_law_[1299]? = some (.if_icmp .eq 588, 2303, 3, 1667, 0, 0) := by decide +kernel
theorem y1300 : k_L_law_[1300]? = some (.iconst 0, 2306, 1, 0, 0, 0) := by decide +kernel
theorem y1301 : k_L_law_[1301]? = some (.ireturn, 2307, 1, 0, 0, 0) := by decide +kernel
theorem y1302 : k_L_law_[1302]? = some (.aload_n 1, 2308, 1, 0, 0, 0) := by decide +kernel
theorem y1303 : k_L_law_[1303]? = some (.invokevirtual 295, 2309, 3, 155, 0, 652) := by decide +kernel
theorem y1304 : k_L_law_[1304]? = some (.aload_n 2, 2312, 1, 0, 0, 0) := by decide +kernel
theorem y1305 : k_L_law_[1305]? = some (.invokevirtual 298, 2313, 3, 323, 0, 2183) := by decide +kernel
theorem y1306 : k_L_law_[1306]? = some (.if_icmp .eq 575, 2316, 3, 1667, 0, 0) := by decide +kernel
theorem y1307 : k_L_law_[1307]? = some (.iconst 0, 2319, 1, 0, 0, 0) := by decide +kernel
theorem y1308 : k_L_law_[1308]? = some (.ireturn, 2320, 1, 0, 0, 0) := by decide +kernel
theorem y1309 : k_L_law_[1309]? = some (.aload_n 1, 2321, 1, 0, 0, 0) := by decide +kernel
theorem y1310 : k_L_law_[1310]? = some (.aload_n 0, 2322, 1, 0, 0, 0) := by decide +kernel
theorem y1311 : k_L_law_[1311]? = some (.iload 4, 2323, 2, 0, 0, 0) := by decide +kernel
theorem y1312 : k_L_law_[1312]? = some (.iconst 1, 2325, 1, 0, 0, 0) := by decide +kernel
theorem y1313 : k_L_law_[1313]? = some (.iadd, 2326, 1, 0, 0, 0) := by decide +kernel
theorem y1314 : k_L_law_[1314]? = some (.iaload, 2327, 1, 0, 0, 0) := by decide +kernel
theorem y1315 : k_L_law_[1315]? = some (.aload_n 3, 2328, 1, 0, 0, 0) := by decide +kernel
theorem y1316 : k_L_law_[1316]? = some (.invokestatic 299, 2329, 3, 366, 0, 1438) := by decide +kernel
theorem y1317 : k_L_law_[1317]? = some (.istore 5, 2332, 2, 0, 0, 0) := by decide +kernel
theorem y1318 : k_L_law_[1318]? = some (.aload_n 2, 2334, 1, 0, 0, 0) := by decide +kernel
theorem y1319 : k_L_law_[1319]? = some (.aload_n 0, 2335, 1, 0, 0, 0) := by decide +kernel
theorem y1320 : k_L_law_[1320]? = some (.iload 4, 2336, 2, 0, 0, 0) := by decide +kernel
theorem y1321 : k_L_law_[1321]? = some (.iconst 1, 2338, 1, 0, 0, 0) := by decide +kernel
theorem y1322 : k_L_law_[1322]? = some (.iadd, 2339, 1, 0, 0, 0) := by decide +kernel
theorem y1323 : k_L_law_[1323]? = some (.iaload, 2340, 1, 0, 0, 0) := by decide +kernel
theorem y1324 : k_L_law_[1324]? = some (.invokevirtual 301, 2341, 3, 324, 0, 2187) := by decide +kernel
theorem y1325 : k_L_law_[1325]? = some (.istore 6, 2344, 2, 0, 0, 0) := by decide +kernel
theorem y1326 : k_L_law_[1326]? = some (.aload_n 2, 2346, 1, 0, 0, 0) := by decide +kernel
theorem y1327 : k_L_law_[1327]? = some (.invokevirtual 149, 2347, 3, 180, 0, 1499) := by decide +kernel
theorem y1328 : k_L_law_[1328]? = some (.iload 5, 2350, 2, 0, 0, 0) := by decide +kernel
theorem y1329 : k_L_law_[1329]? = some (.if_icmp .eq 5, 2352, 3, 1332, 0, 0) := by decide +kernel
theorem y1330 : k_L_law_[1330]? = some (.iconst 0, 2355, 1, 0, 0, 0) := by decide +kernel
theorem y1331 : k_L_law_[1331]? = some (.ireturn, 2356, 1, 0, 0, 0) := by decide +kernel
theorem y1332 : k_L_law_[1332]? = some (.iload 5, 2357, 2, 0, 0, 0) := by decide +kernel
theorem y1333 : k_L_law_[1333]? = some (.ifCond .ne 15, 2359, 3, 1343, 0, 0) := by decide +kernel
theorem y1334 : k_L_law_[1334]? = some (.aload_n 3, 2362, 1, 0, 0, 0) := by decide +kernel
theorem y1335 : k_L_law_[1335]? = some (.iconst 0, 2363, 1, 0, 0, 0) := by decide +kernel
theorem y1336 : k_L_law_[1336]? = some (.laload, 2364, 1, 0, 0, 0) := by decide +kernel
theorem y1337 : k_L_law_[1337]? = some (.iload 6, 2365, 2, 0, 0, 0) := by decide +kernel
theorem y1338 : k_L_law_[1338]? = some (.i2l, 2367, 1, 0, 0, 0) := by decide +kernel
theorem y1339 : k_L_law_[1339]? = some (.lcmp, 2368, 1, 0, 0, 0) := by decide +kernel
theorem y1340 : k_L_law_[1340]? = some (.ifCond .eq 5, 2369, 3, 1343, 0, 0) := by decide +kernel
theorem y1341 : k_L_law_[1341]? = some (.iconst 0, 2372, 1, 0, 0, 0) := by decide +kernel
theorem y1342 : k_L_law_[1342]? = some (.ireturn, 2373, 1, 0, 0, 0) := by decide +kernel
theorem y1343 : k_L_law_[1343]? = some (.goto 517, 2374, 3, 1667, 0, 0) := by decide +kernel
theorem y1344 : k_L_law_[1344]? = some (.aload_n 1, 2377, 1, 0, 0, 0) := by decide +kernel
theorem y1345 : k_L_law_[1345]? = some (.invokevirtual 302, 2378, 3, 157, 0, 656) := by decide +kernel
theorem y1346 : k_L_law_[1346]? = some (.aload_n 2, 2381, 1, 0, 0, 0) := by decide +kernel
theorem y1347 : k_L_law_[1347]? = some (.invokevirtual 305, 2382, 3, 325, 0, 2191) := by decide +kernel
theorem y1348 : k_L_law_[1348]? = some (.if_icmp .eq 506, 2385, 3, 1667, 0, 0) := by decide +kernel
theorem y1349 : k_L_law_[1349]? = some (.iconst 0, 2388, 1, 0, 0, 0) := by decide +kernel
theorem y1350 : k_L_law_[1350]? = some (.ireturn, 2389, 1, 0, 0, 0) := by decide +kernel
theorem y1351 : k_L_law_[1351]? = some (.aload_n 1, 2390, 1, 0, 0, 0) := by decide +kernel
theorem y1352 : k_L_law_[1352]? = some (.invokevirtual 306, 2391, 3, 158, 0, 660) := by decide +kernel
theorem y1353 : k_L_law_[1353]? = some (.aload_n 2, 2394, 1, 0, 0, 0) := by decide +kernel
theorem y1354 : k_L_law_[1354]? = some (.invokevirtual 309, 2395, 3, 326, 0, 2195) := by decide +kernel
theorem y1355 : k_L_law_[1355]? = some (.if_icmp .eq 493, 2398, 3, 1667, 0, 0) := by decide +kernel
theorem y1356 : k_L_law_[1356]? = some (.iconst 0, 2401, 1, 0, 0, 0) := by decide +kernel
theorem y1357 : k_L_law_[1357]? = some (.ireturn, 2402, 1, 0, 0, 0) := by decide +kernel
theorem y1358 : k_L_law_[1358]? = some (.aload_n 1, 2403, 1, 0, 0, 0) := by decide +kernel
theorem y1359 : k_L_law_[1359]? = some (.invokevirtual 310, 2404, 3, 159, 0, 664) := by decide +kernel
theorem y1360 : k_L_law_[1360]? = some (.aload_n 2, 2407, 1, 0, 0, 0) := by decide +kernel
theorem y1361 : k_L_law_[1361]? = some (.invokevirtual 313, 2408, 3, 328, 0, 2199) := by decide +kernel
theorem y1362 : k_L_law_[1362]? = some (.if_icmp .eq 480, 2411, 3, 1667, 0, 0) := by decide +kernel
theorem y1363 : k_L_law_[1363]? = some (.iconst 0, 2414, 1, 0, 0, 0) := by decide +kernel
theorem y1364 : k_L_law_[1364]? = some (.ireturn, 2415, 1, 0, 0, 0) := by decide +kernel
theorem y1365 : k_L_law_[1365]? = some (.aload_n 1, 2416, 1, 0, 0, 0) := by decide +kernel
theorem y1366 : k_L_law_[1366]? = some (.aload_n 0, 2417, 1, 0, 0, 0) := by decide +kernel
theorem y1367 : k_L_law_[1367]? = some (.iload 4, 2418, 2, 0, 0, 0) := by decide +kernel
theorem y1368 : k_L_law_[1368]? = some (.iconst 1, 2420, 1, 0, 0, 0) := by decide +kernel
theorem y1369 : k_L_law_[1369]? = some (.iadd, 2421, 1, 0, 0, 0) := by decide +kernel
theorem y1370 : k_L_law_[1370]? = some (.iaload, 2422, 1, 0, 0, 0) := by decide +kernel
theorem y1371 : k_L_law_[1371]? = some (.aload_n 0, 2423, 1, 0, 0, 0) := by decide +kernel
theorem y1372 : k_L_law_[1372]? = some (.iload 4, 2424, 2, 0, 0, 0) := by decide +kernel
theorem y1373 : k_L_law_[1373]? = some (.iconst 2, 2426, 1, 0, 0, 0) := by decide +kernel
theorem y1374 : k_L_law_[1374]? = some (.iadd, 2427, 1, 0, 0, 0) := by decide +kernel
theorem y1375 : k_L_law_[1375]? = some (.iaload, 2428, 1, 0, 0, 0) := by decide +kernel
theorem y1376 : k_L_law_[1376]? = some (.aload_n 3, 2429, 1, 0, 0, 0) := by decide +kernel
theorem y1377 : k_L_law_[1377]? = some (.invokestatic 314, 2430, 3, 367, 0, 1445) := by decide +kernel
theorem y1378 : k_L_law_[1378]? = some (.istore 5, 2433, 2, 0, 0, 0) := by decide +kernel
theorem y1379 : k_L_law_[1379]? = some (.aload_n 2, 2435, 1, 0, 0, 0) := by decide +kernel
theorem y1380 : k_L_law_[1380]? = some (.aload_n 0, 2436, 1, 0, 0, 0) := by decide +kernel
theorem y1381 : k_L_law_[1381]? = some (.iload 4, 2437, 2, 0, 0, 0) := by decide +kernel
theorem y1382 : k_L_law_[1382]? = some (.iconst 1, 2439, 1, 0, 0, 0) := by decide +kernel
theorem y1383 : k_L_law_[1383]? = some (.iadd, 2440, 1, 0, 0, 0) := by decide +kernel
theorem y1384 : k_L_law_[1384]? = some (.iaload, 2441, 1, 0, 0, 0) := by decide +kernel
theorem y1385 : k_L_law_[1385]? = some (.aload_n 0, 2442, 1, 0, 0, 0) := by decide +kernel
theorem y1386 : k_L_law_[1386]? = some (.iload 4, 2443, 2, 0, 0, 0) := by decide +kernel
theorem y1387 : k_L_law_[1387]? = some (.iconst 2, 2445, 1, 0, 0, 0) := by decide +kernel
theorem y1388 : k_L_law_[1388]? = some (.iadd, 2446, 1, 0, 0, 0) := by decide +kernel
theorem y1389 : k_L_law_[1389]? = some (.iaload, 2447, 1, 0, 0, 0) := by decide +kernel
theorem y1390 : k_L_law_[1390]? = some (.invokevirtual 316, 2448, 3, 329, 0, 2203) := by decide +kernel
theorem y1391 : k_L_law_[1391]? = some (.istore 6, 2451, 2, 0, 0, 0) := by decide +kernel
theorem y1392 : k_L_law_[1392]? = some (.aload_n 2, 2453, 1, 0, 0, 0) := by decide +kernel
theorem y1393 : k_L_law_[1393]? = some (.invokevirtual 149, 2454, 3, 180, 0, 1499) := by decide +kernel
theorem y1394 : k_L_law_[1394]? = some (.iload 5, 2457, 2, 0, 0, 0) := by decide +kernel
theorem y1395 : k_L_law_[1395]? = some (.if_icmp .eq 5, 2459, 3, 1398, 0, 0) := by decide +kernel
theorem y1396 : k_L_law_[1396]? = some (.iconst 0, 2462, 1, 0, 0, 0) := by decide +kernel
theorem y1397 : k_L_law_[1397]? = some (.ireturn, 2463, 1, 0, 0, 0) := by decide +kernel
theorem y1398 : k_L_law_[1398]? = some (.iload 5, 2464, 2, 0, 0, 0) := by decide +kernel
theorem y1399 : k_L_law_[1399]? = some (.ifCond .ne 15, 2466, 3, 1409, 0, 0) := by decide +kernel
theorem y1400 : k_L_law_[1400]? = some (.aload_n 3, 2469, 1, 0, 0, 0) := by decide +kernel
theorem y1401 : k_L_law_[1401]? = some (.iconst 0, 2470, 1, 0, 0, 0) := by decide +kernel
theorem y1402 : k_L_law_[1402]? = some (.laload, 2471, 1, 0, 0, 0) := by decide +kernel
theorem y1403 : k_L_law_[1403]? = some (.iload 6, 2472, 2, 0, 0, 0) := by decide +kernel
theorem y1404 : k_L_law_[1404]? = some (.i2l, 2474, 1, 0, 0, 0) := by decide +kernel
theorem y1405 : k_L_law_[1405]? = some (.lcmp, 2475, 1, 0, 0, 0) := by decide +kernel
theorem y1406 : k_L_law_[1406]? = some (.ifCond .eq 5, 2476, 3, 1409, 0, 0) := by decide +kernel
theorem y1407 : k_L_law_[1407]? = some (.iconst 0, 2479, 1, 0, 0, 0) := by decide +kernel
theorem y1408 : k_L_law_[1408]? = some (.ireturn, 2480, 1, 0, 0, 0) := by decide +kernel
theorem y1409 : k_L_law_[1409]? = some (.goto 410, 2481, 3, 1667, 0, 0) := by decide +kernel
theorem y1410 : k_L_law_[1410]? = some (.aload_n 1, 2484, 1, 0, 0, 0) := by decide +kernel
theorem y1411 : k_L_law_[1411]? = some (.aload_n 0, 2485, 1, 0, 0, 0) := by decide +kernel
theorem y1412 : k_L_law_[1412]? = some (.iload 4, 2486, 2, 0, 0, 0) := by decide +kernel
theorem y1413 : k_L_law_[1413]? = some (.iconst 1, 2488, 1, 0, 0, 0) := by decide +kernel
theorem y1414 : k_L_law_[1414]? = some (.iadd, 2489, 1, 0, 0, 0) := by decide +kernel
theorem y1415 : k_L_law_[1415]? = some (.iaload, 2490, 1, 0, 0, 0) := by decide +kernel
theorem y1416 : k_L_law_[1416]? = some (.aload_n 0, 2491, 1, 0, 0, 0) := by decide +kernel
theorem y1417 : k_L_law_[1417]? = some (.iload 4, 2492, 2, 0, 0, 0) := by decide +kernel
theorem y1418 : k_L_law_[1418]? = some (.iconst 2, 2494, 1, 0, 0, 0) := by decide +kernel
theorem y1419 : k_L_law_[1419]? = some (.iadd, 2495, 1, 0, 0, 0) := by decide +kernel
theorem y1420 : k_L_law_[1420]? = some (.iaload, 2496, 1, 0, 0, 0) := by decide +kernel
theorem y1421 : k_L_law_[1421]? = some (.ifCond .eq 7, 2497, 3, 1424, 0, 0) := by decide +kernel
theorem y1422 : k_L_law_[1422]? = some (.iconst 1, 2500, 1, 0, 0, 0) := by decide +kernel
theorem y1423 : k_L_law_[1423]? = some (.goto 4, 2501, 3, 1425, 0, 0) := by decide +kernel
theorem y1424 : k_L_law_[1424]? = some (.iconst 0, 2504, 1, 0, 0, 0) := by decide +kernel
theorem y1425 : k_L_law_[1425]? = some (.aload_n 3, 2505, 1, 0, 0, 0) := by decide +kernel
theorem y1426 : k_L_law_[1426]? = some (.invokestatic 317, 2506, 3, 368, 0, 1455) := by decide +kernel
theorem y1427 : k_L_law_[1427]? = some (.istore 5, 2509, 2, 0, 0, 0) := by decide +kernel
theorem y1428 : k_L_law_[1428]? = some (.aload_n 2, 2511, 1, 0, 0, 0) := by decide +kernel
theorem y1429 : k_L_law_[1429]? = some (.aload_n 0, 2512, 1, 0, 0, 0) := by decide +kernel
theorem y1430 : k_L_law_[1430]? = some (.iload 4, 2513, 2, 0, 0, 0) := by decide +kernel
theorem y1431 : k_L_law_[1431]? = some (.iconst 1, 2515, 1, 0, 0, 0) := by decide +kernel
theorem y1432 : k_L_law_[1432]? = some (.iadd, 2516, 1, 0, 0, 0) := by decide +kernel
theorem y1433 : k_L_law_[1433]? = some (.iaload, 2517, 1, 0, 0, 0) := by decide +kernel
theorem y1434 : k_L_law_[1434]? = some (.aload_n 0, 2518, 1, 0, 0, 0) := by decide +kernel
theorem y1435 : k_L_law_[1435]? = some (.iload 4, 2519, 2, 0, 0, 0) := by decide +kernel
theorem y1436 : k_L_law_[1436]? = some (.iconst 2, 2521, 1, 0, 0, 0) := by decide +kernel
theorem y1437 : k_L_law_[1437]? = some (.iadd, 2522, 1, 0, 0, 0) := by decide +kernel
theorem y1438 : k_L_law_[1438]? = some (.iaload, 2523, 1, 0, 0, 0) := by decide +kernel
theorem y1439 : k_L_law_[1439]? = some (.ifCond .eq 7, 2524, 3, 1442, 0, 0) := by decide +kernel
theorem y1440 : k_L_law_[1440]? = some (.iconst 1, 2527, 1, 0, 0, 0) := by decide +kernel
theorem y1441 : k_L_law_[1441]? = some (.goto 4, 2528, 3, 1443, 0, 0) := by decide +kernel
theorem y1442 : k_L_law_[1442]? = some (.iconst 0, 2531, 1, 0, 0, 0) := by decide +kernel
theorem y1443 : k_L_law_[1443]? = some (.invokevirtual 320, 2532, 3, 330, 0, 2210) := by decide +kernel
theorem y1444 : k_L_law_[1444]? = some (.istore 6, 2535, 2, 0, 0, 0) := by decide +kernel
theorem y1445 : k_L_law_[1445]? = some (.aload_n 2, 2537, 1, 0, 0, 0) := by decide +kernel
theorem y1446 : k_L_law_[1446]? = some (.invokevirtual 149, 2538, 3, 180, 0, 1499) := by decide +kernel
theorem y1447 : k_L_law_[1447]? = some (.iload 5, 2541, 2, 0, 0, 0) := by decide +kernel
theorem y1448 : k_L_law_[1448]? = some (.if_icmp .eq 5, 2543, 3, 1451, 0, 0) := by decide +kernel
theorem y1449 : k_L_law_[1449]? = some (.iconst 0, 2546, 1, 0, 0, 0) := by decide +kernel
theorem y1450 : k_L_law_[1450]? = some (.ireturn, 2547, 1, 0, 0, 0) := by decide +kernel
theorem y1451 : k_L_law_[1451]? = some (.iload 5, 2548, 2, 0, 0, 0) := by decide +kernel
theorem y1452 : k_L_law_[1452]? = some (.ifCond .ne 15, 2550, 3, 1462, 0, 0) := by decide +kernel
theorem y1453 : k_L_law_[1453]? = some (.aload_n 3, 2553, 1, 0, 0, 0) := by decide +kernel
theorem y1454 : k_L_law_[1454]? = some (.iconst 0, 2554, 1, 0, 0, 0) := by decide +kernel
theorem y1455 : k_L_law_[1455]? = some (.laload, 2555, 1, 0, 0, 0) := by decide +kernel
theorem y1456 : k_L_law_[1456]? = some (.iload 6, 2556, 2, 0, 0, 0) := by decide +kernel
theorem y1457 : k_L_law_[1457]? = some (.i2l, 2558, 1, 0, 0, 0) := by decide +kernel
theorem y1458 : k_L_law_[1458]? = some (.lcmp, 2559, 1, 0, 0, 0) := by decide +kernel
theorem y1459 : k_L_law_[1459]? = some (.ifCond .eq 5, 2560, 3, 1462, 0, 0) := by decide +kernel
theorem y1460 : k_L_law_[1460]? = some (.iconst 0, 2563, 1, 0, 0, 0) := by decide +kernel
theorem y1461 : k_L_law_[1461]? = some (.ireturn, 2564, 1, 0, 0, 0) := by decide +kernel
theorem y1462 : k_L_law_[1462]? = some (.goto 326, 2565, 3, 1667, 0, 0) := by decide +kernel
theorem y1463 : k_L_law_[1463]? = some (.aload_n 1, 2568, 1, 0, 0, 0) := by decide +kernel
theorem y1464 : k_L_law_[1464]? = some (.aload_n 0, 2569, 1, 0, 0, 0) := by decide +kernel
theorem y1465 : k_L_law_[1465]? = some (.iload 4, 2570, 2, 0, 0, 0) := by decide +kernel
theorem y1466 : k_L_law_[1466]? = some (.iconst 1, 2572, 1, 0, 0, 0) := by decide +kernel
theorem y1467 : k_L_law_[1467]? = some (.iadd, 2573, 1, 0, 0, 0) := by decide +kernel
theorem y1468 : k_L_law_[1468]? = some (.iaload, 2574, 1, 0, 0, 0) := by decide +kernel
theorem y1469 : k_L_law_[1469]? = some (.aload_n 0, 2575, 1, 0, 0, 0) := by decide +kernel
theorem y1470 : k_L_law_[1470]? = some (.iload 4, 2576, 2, 0, 0, 0) := by decide +kernel
theorem y1471 : k_L_law_[1471]? = some (.iconst 2, 2578, 1, 0, 0, 0) := by decide +kernel
theorem y1472 : k_L_law_[1472]? = some (.iadd, 2579, 1, 0, 0, 0) := by decide +kernel
theorem y1473 : k_L_law_[1473]? = some (.iaload, 2580, 1, 0, 0, 0) := by decide +kernel
theorem y1474 : k_L_law_[1474]? = some (.ifCond .eq 7, 2581, 3, 1477, 0, 0) := by decide +kernel
theorem y1475 : k_L_law_[1475]? = some (.iconst 1, 2584, 1, 0, 0, 0) := by decide +kernel
theorem y1476 : k_L_law_[1476]? = some (.goto 4, 2585, 3, 1478, 0, 0) := by decide +kernel
theorem y1477 : k_L_law_[1477]? = some (.iconst 0, 2588, 1, 0, 0, 0) := by decide +kernel
theorem y1478 : k_L_law_[1478]? = some (.aload_n 3, 2589, 1, 0, 0, 0) := by decide +kernel
theorem y1479 : k_L_law_[1479]? = some (.invokestatic 321, 2590, 3, 369, 0, 1462) := by decide +kernel
theorem y1480 : k_L_law_[1480]? = some (.istore 5, 2593, 2, 0, 0, 0) := by decide +kernel
theorem y1481 : k_L_law_[1481]? = some (.aload_n 2, 2595, 1, 0, 0, 0) := by decide +kernel
theorem y1482 : k_L_law_[1482]? = some (.aload_n 0, 2596, 1, 0, 0, 0) := by decide +kernel
theorem y1483 : k_L_law_[1483]? = some (.iload 4, 2597, 2, 0, 0, 0) := by decide +kernel
theorem y1484 : k_L_law_[1484]? = some (.iconst 1, 2599, 1, 0, 0, 0) := by decide +kernel
theorem y1485 : k_L_law_[1485]? = some (.iadd, 2600, 1, 0, 0, 0) := by decide +kernel
theorem y1486 : k_L_law_[1486]? = some (.iaload, 2601, 1, 0, 0, 0) := by decide +kernel
theorem y1487 : k_L_law_[1487]? = some (.aload_n 0, 2602, 1, 0, 0, 0) := by decide +kernel
theorem y1488 : k_L_law_[1488]? = some (.iload 4, 2603, 2, 0, 0, 0) := by decide +kernel
theorem y1489 : k_L_law_[1489]? = some (.iconst 2, 2605, 1, 0, 0, 0) := by decide +kernel
theorem y1490 : k_L_law_[1490]? = some (.iadd, 2606, 1, 0, 0, 0) := by decide +kernel
theorem y1491 : k_L_law_[1491]? = some (.iaload, 2607, 1, 0, 0, 0) := by decide +kernel
theorem y1492 : k_L_law_[1492]? = some (.ifCond .eq 7, 2608, 3, 1495, 0, 0) := by decide +kernel
theorem y1493 : k_L_law_[1493]? = some (.iconst 1, 2611, 1, 0, 0, 0) := by decide +kernel
theorem y1494 : k_L_law_[1494]? = some (.goto 4, 2612, 3, 1496, 0, 0) := by decide +kernel
theorem y1495 : k_L_law_[1495]? = some (.iconst 0, 2615, 1, 0, 0, 0) := by decide +kernel
theorem y1496 : k_L_law_[1496]? = some (.invokevirtual 323, 2616, 3, 331, 0, 2214) := by decide +kernel
theorem y1497 : k_L_law_[1497]? = some (.istore 6, 2619, 2, 0, 0, 0) := by decide +kernel
theorem y1498 : k_L_law_[1498]? = some (.aload_n 2, 2621, 1, 0, 0, 0) := by decide +kernel
theorem y1499 : k_L_law_[1499]? = some (.invokevirtual 149, 2622, 3, 180, 0, 1499) := by decide +kernel
theorem y1500 : k_L_law_[1500]? = some (.iload 5, 2625, 2, 0, 0, 0) := by decide +kernel
theorem y1501 : k_L_law_[1501]? = some (.if_icmp .eq 5, 2627, 3, 1504, 0, 0) := by decide +kernel
theorem y1502 : k_L_law_[1502]? = some (.iconst 0, 2630, 1, 0, 0, 0) := by decide +kernel
theorem y1503 : k_L_law_[1503]? = some (.ireturn, 2631, 1, 0, 0, 0) := by decide +kernel
theorem y1504 : k_L_law_[1504]? = some (.iload 5, 2632, 2, 0, 0, 0) := by decide +kernel
theorem y1505 : k_L_law_[1505]? = some (.ifCond .ne 15, 2634, 3, 1515, 0, 0) := by decide +kernel
theorem y1506 : k_L_law_[1506]? = some (.aload_n 3, 2637, 1, 0, 0, 0) := by decide +kernel
theorem y1507 : k_L_law_[1507]? = some (.iconst 0, 2638, 1, 0, 0, 0) := by decide +kernel
theorem y1508 : k_L_law_[1508]? = some (.laload, 2639, 1, 0, 0, 0) := by decide +kernel
theorem y1509 : k_L_law_[1509]? = some (.iload 6, 2640, 2, 0, 0, 0) := by decide +kernel
theorem y1510 : k_L_law_[1510]? = some (.i2l, 2642, 1, 0, 0, 0) := by decide +kernel
theorem y1511 : k_L_law_[1511]? = some (.lcmp, 2643, 1, 0, 0, 0) := by decide +kernel
theorem y1512 : k_L_law_[1512]? = some (.ifCond .eq 5, 2644, 3, 1515, 0, 0) := by decide +kernel
theorem y1513 : k_L_law_[1513]? = some (.iconst 0, 2647, 1, 0, 0, 0) := by decide +kernel
theorem y1514 : k_L_law_[1514]? = some (.ireturn, 2648, 1, 0, 0, 0) := by decide +kernel
theorem y1515 : k_L_law_[1515]? = some (.goto 242, 2649, 3, 1667, 0, 0) := by decide +kernel
theorem y1516 : k_L_law_[1516]? = some (.aload_n 1, 2652, 1, 0, 0, 0) := by decide +kernel
theorem y1517 : k_L_law_[1517]? = some (.aload_n 0, 2653, 1, 0, 0, 0) := by decide +kernel
theorem y1518 : k_L_law_[1518]? = some (.iload 4, 2654, 2, 0, 0, 0) := by decide +kernel
theorem y1519 : k_L_law_[1519]? = some (.iconst 1, 2656, 1, 0, 0, 0) := by decide +kernel
theorem y1520 : k_L_law_[1520]? = some (.iadd, 2657, 1, 0, 0, 0) := by decide +kernel
theorem y1521 : k_L_law_[1521]? = some (.iaload, 2658, 1, 0, 0, 0) := by decide +kernel
theorem y1522 : k_L_law_[1522]? = some (.aload_n 0, 2659, 1, 0, 0, 0) := by decide +kernel
theorem y1523 : k_L_law_[1523]? = some (.iload 4, 2660, 2, 0, 0, 0) := by decide +kernel
theorem y1524 : k_L_law_[1524]? = some (.iconst 2, 2662, 1, 0, 0, 0) := by decide +kernel
theorem y1525 : k_L_law_[1525]? = some (.iadd, 2663, 1, 0, 0, 0) := by decide +kernel
theorem y1526 : k_L_law_[1526]? = some (.iaload, 2664, 1, 0, 0, 0) := by decide +kernel
theorem y1527 : k_L_law_[1527]? = some (.ifCond .eq 7, 2665, 3, 1530, 0, 0) := by decide +kernel
theorem y1528 : k_L_law_[1528]? = some (.iconst 1, 2668, 1, 0, 0, 0) := by decide +kernel
theorem y1529 : k_L_law_[1529]? = some (.goto 4, 2669, 3, 1531, 0, 0) := by decide +kernel
theorem y1530 : k_L_law_[1530]? = some (.iconst 0, 2672, 1, 0, 0, 0) := by decide +kernel
theorem y1531 : k_L_law_[1531]? = some (.aload_n 3, 2673, 1, 0, 0, 0) := by decide +kernel
theorem y1532 : k_L_law_[1532]? = some (.invokestatic 324, 2674, 3, 370, 0, 1469) := by decide +kernel
theorem y1533 : k_L_law_[1533]? = some (.istore 5, 2677, 2, 0, 0, 0) := by decide +kernel
theorem y1534 : k_L_law_[1534]? = some (.aload_n 2, 2679, 1, 0, 0, 0) := by decide +kernel
theorem y1535 : k_L_law_[1535]? = some (.aload_n 0, 2680, 1, 0, 0, 0) := by decide +kernel
theorem y1536 : k_L_law_[1536]? = some (.iload 4, 2681, 2, 0, 0, 0) := by decide +kernel
theorem y1537 : k_L_law_[1537]? = some (.iconst 1, 2683, 1, 0, 0, 0) := by decide +kernel
theorem y1538 : k_L_law_[1538]? = some (.iadd, 2684, 1, 0, 0, 0) := by decide +kernel
theorem y1539 : k_L_law_[1539]? = some (.iaload, 2685, 1, 0, 0, 0) := by decide +kernel
theorem y1540 : k_L_law_[1540]? = some (.aload_n 0, 2686, 1, 0, 0, 0) := by decide +kernel
theorem y1541 : k_L_law_[1541]? = some (.iload 4, 2687, 2, 0, 0, 0) := by decide +kernel
theorem y1542 : k_L_law_[1542]? = some (.iconst 2, 2689, 1, 0, 0, 0) := by decide +kernel
theorem y1543 : k_L_law_[1543]? = some (.iadd, 2690, 1, 0, 0, 0) := by decide +kernel
theorem y1544 : k_L_law_[1544]? = some (.iaload, 2691, 1, 0, 0, 0) := by decide +kernel
theorem y1545 : k_L_law_[1545]? = some (.ifCond .eq 7, 2692, 3, 1548, 0, 0) := by decide +kernel
theorem y1546 : k_L_law_[1546]? = some (.iconst 1, 2695, 1, 0, 0, 0) := by decide +kernel
theorem y1547 : k_L_law_[1547]? = some (.goto 4, 2696, 3, 1549, 0, 0) := by decide +kernel
theorem y1548 : k_L_law_[1548]? = some (.iconst 0, 2699, 1, 0, 0, 0) := by decide +kernel
theorem y1549 : k_L_law_[1549]? = some (.invokevirtual 326, 2700, 3, 333, 0, 2218) := by decide +kernel
theorem y1550 : k_L_law_[1550]? = some (.istore 6, 2703, 2, 0, 0, 0) := by decide +kernel
theorem y1551 : k_L_law_[1551]? = some (.aload_n 2, 2705, 1, 0, 0, 0) := by decide +kernel
theorem y1552 : k_L_law_[1552]? = some (.invokevirtual 149, 2706, 3, 180, 0, 1499) := by decide +kernel
theorem y1553 : k_L_law_[1553]? = some (.iload 5, 2709, 2, 0, 0, 0) := by decide +kernel
theorem y1554 : k_L_law_[1554]? = some (.if_icmp .eq 5, 2711, 3, 1557, 0, 0) := by decide +kernel
theorem y1555 : k_L_law_[1555]? = some (.iconst 0, 2714, 1, 0, 0, 0) := by decide +kernel
theorem y1556 : k_L_law_[1556]? = some (.ireturn, 2715, 1, 0, 0, 0) := by decide +kernel
theorem y1557 : k_L_law_[1557]? = some (.iload 5, 2716, 2, 0, 0, 0) := by decide +kernel
theorem y1558 : k_L_law_[1558]? = some (.ifCond .ne 15, 2718, 3, 1568, 0, 0) := by decide +kernel
theorem y1559 : k_L_law_[1559]? = some (.aload_n 3, 2721, 1, 0, 0, 0) := by decide +kernel
theorem y1560 : k_L_law_[1560]? = some (.iconst 0, 2722, 1, 0, 0, 0) := by decide +kernel
theorem y1561 : k_L_law_[1561]? = some (.laload, 2723, 1, 0, 0, 0) := by decide +kernel
theorem y1562 : k_L_law_[1562]? = some (.iload 6, 2724, 2, 0, 0, 0) := by decide +kernel
theorem y1563 : k_L_law_[1563]? = some (.i2l, 2726, 1, 0, 0, 0) := by decide +kernel
theorem y1564 : k_L_law_[1564]? = some (.lcmp, 2727, 1, 0, 0, 0) := by decide +kernel
theorem y1565 : k_L_law_[1565]? = some (.ifCond .eq 5, 2728, 3, 1568, 0, 0) := by decide +kernel
theorem y1566 : k_L_law_[1566]? = some (.iconst 0, 2731, 1, 0, 0, 0) := by decide +kernel
theorem y1567 : k_L_law_[1567]? = some (.ireturn, 2732, 1, 0, 0, 0) := by decide +kernel
theorem y1568 : k_L_law_[1568]? = some (.goto 158, 2733, 3, 1667, 0, 0) := by decide +kernel
theorem y1569 : k_L_law_[1569]? = some (.aload_n 1, 2736, 1, 0, 0, 0) := by decide +kernel
theorem y1570 : k_L_law_[1570]? = some (.aload_n 0, 2737, 1, 0, 0, 0) := by decide +kernel
theorem y1571 : k_L_law_[1571]? = some (.iload 4, 2738, 2, 0, 0, 0) := by decide +kernel
theorem y1572 : k_L_law_[1572]? = some (.iconst 1, 2740, 1, 0, 0, 0) := by decide +kernel
theorem y1573 : k_L_law_[1573]? = some (.iadd, 2741, 1, 0, 0, 0) := by decide +kernel
theorem y1574 : k_L_law_[1574]? = some (.iaload, 2742, 1, 0, 0, 0) := by decide +kernel
theorem y1575 : k_L_law_[1575]? = some (.aload_n 0, 2743, 1, 0, 0, 0) := by decide +kernel
theorem y1576 : k_L_law_[1576]? = some (.iload 4, 2744, 2, 0, 0, 0) := by decide +kernel
theorem y1577 : k_L_law_[1577]? = some (.iconst 2, 2746, 1, 0, 0, 0) := by decide +kernel
theorem y1578 : k_L_law_[1578]? = some (.iadd, 2747, 1, 0, 0, 0) := by decide +kernel
theorem y1579 : k_L_law_[1579]? = some (.iaload, 2748, 1, 0, 0, 0) := by decide +kernel
theorem y1580 : k_L_law_[1580]? = some (.aload_n 3, 2749, 1, 0, 0, 0) := by decide +kernel
theorem y1581 : k_L_law_[1581]? = some (.invokestatic 327, 2750, 3, 371, 0, 1491) := by decide +kernel
theorem y1582 : k_L_law_[1582]? = some (.istore 5, 2753, 2, 0, 0, 0) := by decide +kernel
theorem y1583 : k_L_law_[1583]? = some (.aload_n 2, 2755, 1, 0, 0, 0) := by decide +kernel
theorem y1584 : k_L_law_[1584]? = some (.aload_n 0, 2756, 1, 0, 0, 0) := by decide +kernel
theorem y1585 : k_L_law_[1585]? = some (.iload 4, 2757, 2, 0, 0, 0) := by decide +kernel
theorem y1586 : k_L_law_[1586]? = some (.iconst 1, 2759, 1, 0, 0, 0) := by decide +kernel
theorem y1587 : k_L_law_[1587]? = some (.iadd, 2760, 1, 0, 0, 0) := by decide +kernel
theorem y1588 : k_L_law_[1588]? = some (.iaload, 2761, 1, 0, 0, 0) := by decide +kernel
theorem y1589 : k_L_law_[1589]? = some (.aload_n 0, 2762, 1, 0, 0, 0) := by decide +kernel
theorem y1590 : k_L_law_[1590]? = some (.iload 4, 2763, 2, 0, 0, 0) := by decide +kernel
theorem y1591 : k_L_law_[1591]? = some (.iconst 2, 2765, 1, 0, 0, 0) := by decide +kernel
theorem y1592 : k_L_law_[1592]? = some (.iadd, 2766, 1, 0, 0, 0) := by decide +kernel
theorem y1593 : k_L_law_[1593]? = some (.iaload, 2767, 1, 0, 0, 0) := by decide +kernel
theorem y1594 : k_L_law_[1594]? = some (.invokevirtual 329, 2768, 3, 334, 0, 2226) := by decide +kernel
theorem y1595 : k_L_law_[1595]? = some (.istore 6, 2771, 2, 0, 0, 0) := by decide +kernel
theorem y1596 : k_L_law_[1596]? = some (.aload_n 2, 2773, 1, 0, 0, 0) := by decide +kernel
theorem y1597 : k_L_law_[1597]? = some (.invokevirtual 149, 2774, 3, 180, 0, 1499) := by decide +kernel
theorem y1598 : k_L_law_[1598]? = some (.iload 5, 2777, 2, 0, 0, 0) := by decide +kernel
theorem y1599 : k_L_law_[1599]? = some (.if_icmp .eq 5, 2779, 3, 1602, 0, 0) := by decide +kernel
theorem y1600 : k_L_law_[1600]? = some (.iconst 0, 2782, 1, 0, 0, 0) := by decide +kernel
theorem y1601 : k_L_law_[1601]? = some (.ireturn, 2783, 1, 0, 0, 0) := by decide +kernel
theorem y1602 : k_L_law_[1602]? = some (.iload 5, 2784, 2, 0, 0, 0) := by decide +kernel
theorem y1603 : k_L_law_[1603]? = some (.ifCond .ne 15, 2786, 3, 1613, 0, 0) := by decide +kernel
theorem y1604 : k_L_law_[1604]? = some (.aload_n 3, 2789, 1, 0, 0, 0) := by decide +kernel
theorem y1605 : k_L_law_[1605]? = some (.iconst 0, 2790, 1, 0, 0, 0) := by decide +kernel
theorem y1606 : k_L_law_[1606]? = some (.laload, 2791, 1, 0, 0, 0) := by decide +kernel
theorem y1607 : k_L_law_[1607]? = some (.iload 6, 2792, 2, 0, 0, 0) := by decide +kernel
theorem y1608 : k_L_law_[1608]? = some (.i2l, 2794, 1, 0, 0, 0) := by decide +kernel
theorem y1609 : k_L_law_[1609]? = some (.lcmp, 2795, 1, 0, 0, 0) := by decide +kernel
theorem y1610 : k_L_law_[1610]? = some (.ifCond .eq 5, 2796, 3, 1613, 0, 0) := by decide +kernel
theorem y1611 : k_L_law_[1611]? = some (.iconst 0, 2799, 1, 0, 0, 0) := by decide +kernel
theorem y1612 : k_L_law_[1612]? = some (.ireturn, 2800, 1, 0, 0, 0) := by decide +kernel
theorem y1613 : k_L_law_[1613]? = some (.goto 90, 2801, 3, 1667, 0, 0) := by decide +kernel
theorem y1614 : k_L_law_[1614]? = some (.aload_n 1, 2804, 1, 0, 0, 0) := by decide +kernel
theorem y1615 : k_L_law_[1615]? = some (.aload_n 0, 2805, 1, 0, 0, 0) := by decide +kernel
theorem y1616 : k_L_law_[1616]? = some (.iload 4, 2806, 2, 0, 0, 0) := by decide +kernel
theorem y1617 : k_L_law_[1617]? = some (.iconst 1, 2808, 1, 0, 0, 0) := by decide +kernel
theorem y1618 : k_L_law_[1618]? = some (.iadd, 2809, 1, 0, 0, 0) := by decide +kernel
theorem y1619 : k_L_law_[1619]? = some (.iaload, 2810, 1, 0, 0, 0) := by decide +kernel
theorem y1620 : k_L_law_[1620]? = some (.invokevirtual 330, 2811, 3, 165, 0, 714) := by decide +kernel
theorem y1621 : k_L_law_[1621]? = some (.aload_n 2, 2814, 1, 0, 0, 0) := by decide +kernel
theorem y1622 : k_L_law_[1622]? = some (.aload_n 0, 2815, 1, 0, 0, 0) := by decide +kernel
theorem y1623 : k_L_law_[1623]? = some (.iload 4, 2816, 2, 0, 0, 0) := by decide +kernel
theorem y1624 : k_L_law_[1624]? = some (.iconst 1, 2818, 1, 0, 0, 0) := by decide +kernel
theorem y1625 : k_L_law_[1625]? = some (.iadd, 2819, 1, 0, 0, 0) := by decide +kernel
theorem y1626 : k_L_law_[1626]? = some (.iaload, 2820, 1, 0, 0, 0) := by decide +kernel
theorem y1627 : k_L_law_[1627]? = some (.invokevirtual 333, 2821, 3, 335, 0, 2230) := by decide +kernel
theorem y1628 : k_L_law_[1628]? = some (.if_icmp .eq 67, 2824, 3, 1667, 0, 0) := by decide +kernel
theorem y1629 : k_L_law_[1629]? = some (.iconst 0, 2827, 1, 0, 0, 0) := by decide +kernel
theorem y1630 : k_L_law_[1630]? = some (.ireturn, 2828, 1, 0, 0, 0) := by decide +kernel
theorem y1631 : k_L_law_[1631]? = some (.aload_n 1, 2829, 1, 0, 0, 0) := by decide +kernel
theorem y1632 : k_L_law_[1632]? = some (.invokevirtual 334, 2830, 3, 166, 0, 718) := by decide +kernel
theorem y1633 : k_L_law_[1633]? = some (.aload_n 2, 2833, 1, 0, 0, 0) := by decide +kernel
theorem y1634 : k_L_law_[1634]? = some (.invokevirtual 338, 2834, 3, 187, 0, 1599) := by decide +kernel
theorem y1635 : k_L_law_[1635]? = some (.if_icmp .eq 54, 2837, 3, 1667, 0, 0) := by decide +kernel
theorem y1636 : k_L_law_[1636]? = some (.iconst 0, 2840, 1, 0, 0, 0) := by decide +kernel
theorem y1637 : k_L_law_[1637]? = some (.ireturn, 2841, 1, 0, 0, 0) := by decide +kernel
theorem y1638 : k_L_law_[1638]? = some (.aload_n 1, 2842, 1, 0, 0, 0) := by decide +kernel
theorem y1639 : k_L_law_[1639]? = some (.invokevirtual 339, 2843, 3, 167, 0, 727) := by decide +kernel
theorem y1640 : k_L_law_[1640]? = some (.aload_n 2, 2846, 1, 0, 0, 0) := by decide +kernel
theorem y1641 : k_L_law_[1641]? = some (.invokevirtual 342, 2847, 3, 184, 0, 1591) := by decide +kernel
theorem y1642 : k_L_law_[1642]? = some (.goto 41, 2850, 3, 1667, 0, 0) := by decide +kernel
theorem y1643 : k_L_law_[1643]? = some (.aload_n 1, 2853, 1, 0, 0, 0) := by decide +kernel
theorem y1644 : k_L_law_[1644]? = some (.invokevirtual 343, 2854, 3, 168, 0, 736) := by decide +kernel
theorem y1645 : k_L_law_[1645]? = some (.aload_n 2, 2857, 1, 0, 0, 0) := by decide +kernel
theorem y1646 : k_L_law_[1646]? = some (.invokevirtual 346, 2858, 3, 185, 0, 1595) := by decide +kernel
theorem y1647 : k_L_law_[1647]? = some (.if_icmp .eq 30, 2861, 3, 1667, 0, 0) := by decide +kernel
theorem y1648 : k_L_law_[1648]? = some (.iconst 0, 2864, 1, 0, 0, 0) := by decide +kernel
theorem y1649 : k_L_law_[1649]? = some (.ireturn, 2865, 1, 0, 0, 0) := by decide +kernel
theorem y1650 : k_L_law_[1650]? = some (.aload_n 1, 2866, 1, 0, 0, 0) := by decide +kernel
theorem y1651 : k_L_law_[1651]? = some (.aload_n 0, 2867, 1, 0, 0, 0) := by decide +kernel
theorem y1652 : k_L_law_[1652]? = some (.iload 4, 2868, 2, 0, 0, 0) := by decide +kernel
theorem y1653 : k_L_law_[1653]? = some (.iconst 1, 2870, 1, 0, 0, 0) := by decide +kernel
theorem y1654 : k_L_law_[1654]? = some (.iadd, 2871, 1, 0, 0, 0) := by decide +kernel
theorem y1655 : k_L_law_[1655]? = some (.iaload, 2872, 1, 0, 0, 0) := by decide +kernel
theorem y1656 : k_L_law_[1656]? = some (.invokevirtual 347, 2873, 3, 169, 0, 744) := by decide +kernel
theorem y1657 : k_L_law_[1657]? = some (.aload_n 2, 2876, 1, 0, 0, 0) := by decide +kernel
theorem y1658 : k_L_law_[1658]? = some (.aload_n 0, 2877, 1, 0, 0, 0) := by decide +kernel
theorem y1659 : k_L_law_[1659]? = some (.iload 4, 2878, 2, 0, 0, 0) := by decide +kernel
theorem y1660 : k_L_law_[1660]? = some (.iconst 1, 2880, 1, 0, 0, 0) := by decide +kernel
theorem y1661 : k_L_law_[1661]? = some (.iadd, 2881, 1, 0, 0, 0) := by decide +kernel
theorem y1662 : k_L_law_[1662]? = some (.iaload, 2882, 1, 0, 0, 0) := by decide +kernel
theorem y1663 : k_L_law_[1663]? = some (.invokevirtual 350, 2883, 3, 336, 0, 2234) := by decide +kernel
theorem y1664 : k_L_law_[1664]? = some (.if_icmp .eq 5, 2886, 3, 1667, 0, 0) := by decide +kernel
theorem y1665 : k_L_law_[1665]? = some (.iconst 0, 2889, 1, 0, 0, 0) := by decide +kernel
theorem y1666 : k_L_law_[1666]? = some (.ireturn, 2890, 1, 0, 0, 0) := by decide +kernel
theorem y1667 : k_L_law_[1667]? = some (.iinc 4 6, 2891, 3, 0, 0, 0) := by decide +kernel
theorem y1668 : k_L_law_[1668]? = some (.goto (-2871), 2894, 3, 13, 0, 0) := by decide +kernel
theorem y1669 : k_L_law_[1669]? = some (.iconst 1, 2897, 1, 0, 0, 0) := by decide +kernel
theorem y1670 : k_L_law_[1670]? = some (.ireturn, 2898, 1, 0, 0, 0) := by decide +kernel
