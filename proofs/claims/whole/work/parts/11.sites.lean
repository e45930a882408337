theorem fs_X0_15 : FS RX0 15 0 2 := ⟨_, rfl, by decide, tb2 121 rfl rfl, rfl⟩
theorem fs_X0_18 : FS RX0 18 0 3 := ⟨_, rfl, by decide, tb2 125 rfl rfl, rfl⟩
theorem fs_X0_21 : FS RX0 21 0 4 := ⟨_, rfl, by decide, tb2 127 rfl rfl, rfl⟩
theorem fs_X0_24 : FS RX0 24 0 0 := ⟨_, rfl, by decide, tb2 112 rfl rfl, rfl⟩
theorem fs_X0_28 : FS RX0 28 6 0 := ⟨_, rfl, by decide, tb2 63 rfl rfl, rfl⟩
theorem fs_X0_34 : FS RX0 34 6 1 := ⟨_, rfl, by decide, tb2 67 rfl rfl, rfl⟩
theorem fs_X0_37 : FS RX0 37 0 5 := ⟨_, rfl, by decide, tb2 130 rfl rfl, rfl⟩
theorem fs_X0_40 : FS RX0 40 0 8 := ⟨_, rfl, by decide, tb2 138 rfl rfl, rfl⟩
theorem fs_X0_55 : FS RX0 55 0 7 := ⟨_, rfl, by decide, tb2 134 rfl rfl, rfl⟩
theorem fs_X0_79 : FS RX0 79 0 6 := ⟨_, rfl, by decide, tb2 132 rfl rfl, rfl⟩
theorem fs_X0_9 : FS RX0 9 0 1 := ⟨_, rfl, by decide, tb2 116 rfl rfl, rfl⟩
theorem fs_X10_13 : FS RX10 13 10 1 := ⟨_, rfl, by decide, tb1 70 rfl rfl, rfl⟩
theorem fs_X10_9 : FS RX10 9 10 0 := ⟨_, rfl, by decide, tb1 68 rfl rfl, rfl⟩
theorem fs_X11_10 : FS RX11 10 11 0 := ⟨_, rfl, by decide, tb1 212 rfl rfl, rfl⟩
theorem fs_X11_100 : FS RX11 100 6 1 := ⟨_, rfl, by decide, tb2 69 rfl rfl, rfl⟩
theorem fs_X11_103 : FS RX11 103 6 5 := ⟨_, rfl, by decide, tb2 82 rfl rfl, rfl⟩
theorem fs_X11_106 : FS RX11 106 6 6 := ⟨_, rfl, by decide, tb2 84 rfl rfl, rfl⟩
theorem fs_X11_113 : FS RX11 113 0 0 := ⟨_, rfl, by decide, tb2 115 rfl rfl, rfl⟩
theorem fs_X11_119 : FS RX11 119 0 1 := ⟨_, rfl, by decide, tb2 120 rfl rfl, rfl⟩
theorem fs_X11_122 : FS RX11 122 0 2 := ⟨_, rfl, by decide, tb2 124 rfl rfl, rfl⟩
theorem fs_X11_125 : FS RX11 125 0 5 := ⟨_, rfl, by decide, tb2 131 rfl rfl, rfl⟩
theorem fs_X11_146 : FS RX11 146 8 0 := ⟨_, rfl, by decide, tb1 85 rfl rfl, rfl⟩
theorem fs_X11_160 : FS RX11 160 7 2 := ⟨_, rfl, by decide, tb1 200 rfl rfl, rfl⟩
theorem fs_X11_167 : FS RX11 167 7 0 := ⟨_, rfl, by decide, tb1 196 rfl rfl, rfl⟩
theorem fs_X11_179 : FS RX11 179 0 7 := ⟨_, rfl, by decide, tb2 137 rfl rfl, rfl⟩
theorem fs_X11_18 : FS RX11 18 11 1 := ⟨_, rfl, by decide, tb1 213 rfl rfl, rfl⟩
theorem fs_X11_224 : FS RX11 224 1 2 := ⟨_, rfl, by decide, tb3 127 rfl rfl, rfl⟩
theorem fs_X11_230 : FS RX11 230 1 3 := ⟨_, rfl, by decide, tb3 130 rfl rfl, rfl⟩
theorem fs_X11_233 : FS RX11 233 6 3 := ⟨_, rfl, by decide, tb2 76 rfl rfl, rfl⟩
theorem fs_X11_24 : FS RX11 24 11 2 := ⟨_, rfl, by decide, tb1 214 rfl rfl, rfl⟩
theorem fs_X11_247 : FS RX11 247 3 0 := ⟨_, rfl, by decide, tb1 111 rfl rfl, rfl⟩
theorem fs_X11_250 : FS RX11 250 3 1 := ⟨_, rfl, by decide, tb1 113 rfl rfl, rfl⟩
theorem fs_X11_252 : FS RX11 252 3 2 := ⟨_, rfl, by decide, tb1 115 rfl rfl, rfl⟩
theorem fs_X11_272 : FS RX11 272 6 2 := ⟨_, rfl, by decide, tb2 73 rfl rfl, rfl⟩
theorem fs_X11_282 : FS RX11 282 0 6 := ⟨_, rfl, by decide, tb2 133 rfl rfl, rfl⟩
theorem fs_X11_285 : FS RX11 285 0 3 := ⟨_, rfl, by decide, tb2 126 rfl rfl, rfl⟩
theorem fs_X11_30 : FS RX11 30 11 3 := ⟨_, rfl, by decide, tb1 215 rfl rfl, rfl⟩
theorem fs_X11_302 : FS RX11 302 6 4 := ⟨_, rfl, by decide, tb2 79 rfl rfl, rfl⟩
theorem fs_X11_310 : FS RX11 310 4 0 := ⟨_, rfl, by decide, tb1 171 rfl rfl, rfl⟩
theorem fs_X11_311 : FS RX11 311 4 1 := ⟨_, rfl, by decide, tb1 173 rfl rfl, rfl⟩
theorem fs_X11_314 : FS RX11 314 4 3 := ⟨_, rfl, by decide, tb1 177 rfl rfl, rfl⟩
theorem fs_X11_317 : FS RX11 317 4 2 := ⟨_, rfl, by decide, tb1 175 rfl rfl, rfl⟩
theorem fs_X11_326 : FS RX11 326 11 10 := ⟨_, rfl, by decide, tb1 222 rfl rfl, rfl⟩
theorem fs_X11_332 : FS RX11 332 10 1 := ⟨_, rfl, by decide, tb1 71 rfl rfl, rfl⟩
theorem fs_X11_339 : FS RX11 339 2 1 := ⟨_, rfl, by decide, tb4 181 rfl rfl, rfl⟩
theorem fs_X11_357 : FS RX11 357 10 0 := ⟨_, rfl, by decide, tb1 69 rfl rfl, rfl⟩
theorem fs_X11_37 : FS RX11 37 11 4 := ⟨_, rfl, by decide, tb1 216 rfl rfl, rfl⟩
theorem fs_X11_389 : FS RX11 389 7 1 := ⟨_, rfl, by decide, tb1 198 rfl rfl, rfl⟩
theorem fs_X11_44 : FS RX11 44 11 5 := ⟨_, rfl, by decide, tb1 217 rfl rfl, rfl⟩
theorem fs_X11_51 : FS RX11 51 11 6 := ⟨_, rfl, by decide, tb1 218 rfl rfl, rfl⟩
theorem fs_X11_58 : FS RX11 58 11 7 := ⟨_, rfl, by decide, tb1 219 rfl rfl, rfl⟩
theorem fs_X11_62 : FS RX11 62 11 8 := ⟨_, rfl, by decide, tb1 220 rfl rfl, rfl⟩
theorem fs_X11_71 : FS RX11 71 9 2 := ⟨_, rfl, by decide, tb1 34 rfl rfl, rfl⟩
theorem fs_X11_75 : FS RX11 75 11 9 := ⟨_, rfl, by decide, tb1 221 rfl rfl, rfl⟩
theorem fs_X11_82 : FS RX11 82 9 3 := ⟨_, rfl, by decide, tb1 36 rfl rfl, rfl⟩
theorem fs_X11_97 : FS RX11 97 6 0 := ⟨_, rfl, by decide, tb2 65 rfl rfl, rfl⟩
theorem fs_X12_111 : FS RX12 111 12 19 := ⟨_, rfl, by decide, tb5 87 rfl rfl, rfl⟩
theorem fs_X12_114 : FS RX12 114 12 28 := ⟨_, rfl, by decide, tb5 96 rfl rfl, rfl⟩
theorem fs_X12_13 : FS RX12 13 12 2 := ⟨_, rfl, by decide, tb5 70 rfl rfl, rfl⟩
theorem fs_X12_16 : FS RX12 16 12 3 := ⟨_, rfl, by decide, tb5 71 rfl rfl, rfl⟩
theorem fs_X12_19 : FS RX12 19 12 4 := ⟨_, rfl, by decide, tb5 72 rfl rfl, rfl⟩
theorem fs_X12_22 : FS RX12 22 12 5 := ⟨_, rfl, by decide, tb5 73 rfl rfl, rfl⟩
theorem fs_X12_25 : FS RX12 25 12 6 := ⟨_, rfl, by decide, tb5 74 rfl rfl, rfl⟩
theorem fs_X12_265 : FS RX12 265 12 33 := ⟨_, rfl, by decide, tb5 101 rfl rfl, rfl⟩
theorem fs_X12_272 : FS RX12 272 12 34 := ⟨_, rfl, by decide, tb5 102 rfl rfl, rfl⟩
theorem fs_X12_275 : FS RX12 275 12 35 := ⟨_, rfl, by decide, tb5 103 rfl rfl, rfl⟩
theorem fs_X12_28 : FS RX12 28 12 7 := ⟨_, rfl, by decide, tb5 75 rfl rfl, rfl⟩
theorem fs_X12_290 : FS RX12 290 12 38 := ⟨_, rfl, by decide, tb5 106 rfl rfl, rfl⟩
theorem fs_X12_294 : FS RX12 294 12 39 := ⟨_, rfl, by decide, tb5 107 rfl rfl, rfl⟩
theorem fs_X12_297 : FS RX12 297 12 40 := ⟨_, rfl, by decide, tb5 108 rfl rfl, rfl⟩
theorem fs_X12_302 : FS RX12 302 12 36 := ⟨_, rfl, by decide, tb5 104 rfl rfl, rfl⟩
theorem fs_X12_305 : FS RX12 305 12 37 := ⟨_, rfl, by decide, tb5 105 rfl rfl, rfl⟩
theorem fs_X12_32 : FS RX12 32 12 8 := ⟨_, rfl, by decide, tb5 76 rfl rfl, rfl⟩
theorem fs_X12_321 : FS RX12 321 12 43 := ⟨_, rfl, by decide, tb5 111 rfl rfl, rfl⟩
theorem fs_X12_327 : FS RX12 327 12 41 := ⟨_, rfl, by decide, tb5 109 rfl rfl, rfl⟩
theorem fs_X12_330 : FS RX12 330 12 42 := ⟨_, rfl, by decide, tb5 110 rfl rfl, rfl⟩
theorem fs_X12_339 : FS RX12 339 12 23 := ⟨_, rfl, by decide, tb5 91 rfl rfl, rfl⟩
theorem fs_X12_342 : FS RX12 342 12 20 := ⟨_, rfl, by decide, tb5 88 rfl rfl, rfl⟩
theorem fs_X12_35 : FS RX12 35 12 9 := ⟨_, rfl, by decide, tb5 77 rfl rfl, rfl⟩
theorem fs_X12_38 : FS RX12 38 12 10 := ⟨_, rfl, by decide, tb5 78 rfl rfl, rfl⟩
theorem fs_X12_41 : FS RX12 41 12 11 := ⟨_, rfl, by decide, tb5 79 rfl rfl, rfl⟩
theorem fs_X12_44 : FS RX12 44 12 12 := ⟨_, rfl, by decide, tb5 80 rfl rfl, rfl⟩
theorem fs_X12_47 : FS RX12 47 12 13 := ⟨_, rfl, by decide, tb5 81 rfl rfl, rfl⟩
theorem fs_X12_50 : FS RX12 50 12 14 := ⟨_, rfl, by decide, tb5 82 rfl rfl, rfl⟩
theorem fs_X12_53 : FS RX12 53 12 15 := ⟨_, rfl, by decide, tb5 83 rfl rfl, rfl⟩
theorem fs_X12_56 : FS RX12 56 12 16 := ⟨_, rfl, by decide, tb5 84 rfl rfl, rfl⟩
theorem fs_X12_59 : FS RX12 59 12 17 := ⟨_, rfl, by decide, tb5 85 rfl rfl, rfl⟩
theorem fs_X12_62 : FS RX12 62 12 18 := ⟨_, rfl, by decide, tb5 86 rfl rfl, rfl⟩
theorem fs_X12_65 : FS RX12 65 12 21 := ⟨_, rfl, by decide, tb5 89 rfl rfl, rfl⟩
theorem fs_X12_68 : FS RX12 68 12 22 := ⟨_, rfl, by decide, tb5 90 rfl rfl, rfl⟩
theorem fs_X12_7 : FS RX12 7 12 1 := ⟨_, rfl, by decide, tb5 69 rfl rfl, rfl⟩
theorem fs_X12_71 : FS RX12 71 12 24 := ⟨_, rfl, by decide, tb5 92 rfl rfl, rfl⟩
theorem fs_X12_74 : FS RX12 74 12 25 := ⟨_, rfl, by decide, tb5 93 rfl rfl, rfl⟩
theorem fs_X12_77 : FS RX12 77 12 26 := ⟨_, rfl, by decide, tb5 94 rfl rfl, rfl⟩
theorem fs_X12_80 : FS RX12 80 12 27 := ⟨_, rfl, by decide, tb5 95 rfl rfl, rfl⟩
theorem fs_X12_84 : FS RX12 84 12 29 := ⟨_, rfl, by decide, tb5 97 rfl rfl, rfl⟩
theorem fs_X12_87 : FS RX12 87 12 30 := ⟨_, rfl, by decide, tb5 98 rfl rfl, rfl⟩
theorem fs_X12_90 : FS RX12 90 12 31 := ⟨_, rfl, by decide, tb5 99 rfl rfl, rfl⟩
theorem fs_X12_93 : FS RX12 93 12 32 := ⟨_, rfl, by decide, tb5 100 rfl rfl, rfl⟩
theorem fs_X12_96 : FS RX12 96 12 44 := ⟨_, rfl, by decide, tb5 112 rfl rfl, rfl⟩
theorem fs_X12_99 : FS RX12 99 12 0 := ⟨_, rfl, by decide, tb5 68 rfl rfl, rfl⟩
theorem fs_X1_13 : FS RX1 13 1 1 := ⟨_, rfl, by decide, tb3 123 rfl rfl, rfl⟩
theorem fs_X1_16 : FS RX1 16 1 2 := ⟨_, rfl, by decide, tb3 125 rfl rfl, rfl⟩
theorem fs_X1_19 : FS RX1 19 1 3 := ⟨_, rfl, by decide, tb3 128 rfl rfl, rfl⟩
theorem fs_X1_22 : FS RX1 22 1 4 := ⟨_, rfl, by decide, tb3 131 rfl rfl, rfl⟩
theorem fs_X1_7 : FS RX1 7 1 0 := ⟨_, rfl, by decide, tb3 121 rfl rfl, rfl⟩
theorem fs_X2_13 : FS RX2 13 2 1 := ⟨_, rfl, by decide, tb4 180 rfl rfl, rfl⟩
theorem fs_X2_16 : FS RX2 16 2 2 := ⟨_, rfl, by decide, tb4 182 rfl rfl, rfl⟩
theorem fs_X2_7 : FS RX2 7 2 0 := ⟨_, rfl, by decide, tb4 179 rfl rfl, rfl⟩
theorem fs_X3_103 : FS RX3 103 6 6 := ⟨_, rfl, by decide, tb2 85 rfl rfl, rfl⟩
theorem fs_X3_106 : FS RX3 106 6 3 := ⟨_, rfl, by decide, tb2 75 rfl rfl, rfl⟩
theorem fs_X3_11 : FS RX3 11 3 3 := ⟨_, rfl, by decide, tb1 116 rfl rfl, rfl⟩
theorem fs_X3_110 : FS RX3 110 1 2 := ⟨_, rfl, by decide, tb3 126 rfl rfl, rfl⟩
theorem fs_X3_118 : FS RX3 118 1 3 := ⟨_, rfl, by decide, tb3 129 rfl rfl, rfl⟩
theorem fs_X3_142 : FS RX3 142 8 0 := ⟨_, rfl, by decide, tb1 86 rfl rfl, rfl⟩
theorem fs_X3_148 : FS RX3 148 3 1 := ⟨_, rfl, by decide, tb1 112 rfl rfl, rfl⟩
theorem fs_X3_153 : FS RX3 153 3 2 := ⟨_, rfl, by decide, tb1 114 rfl rfl, rfl⟩
theorem fs_X3_163 : FS RX3 163 1 1 := ⟨_, rfl, by decide, tb3 124 rfl rfl, rfl⟩
theorem fs_X3_167 : FS RX3 167 1 0 := ⟨_, rfl, by decide, tb3 122 rfl rfl, rfl⟩
theorem fs_X3_170 : FS RX3 170 1 4 := ⟨_, rfl, by decide, tb3 132 rfl rfl, rfl⟩
theorem fs_X3_176 : FS RX3 176 0 4 := ⟨_, rfl, by decide, tb2 128 rfl rfl, rfl⟩
theorem fs_X3_19 : FS RX3 19 3 4 := ⟨_, rfl, by decide, tb1 117 rfl rfl, rfl⟩
theorem fs_X3_23 : FS RX3 23 3 5 := ⟨_, rfl, by decide, tb1 118 rfl rfl, rfl⟩
theorem fs_X3_27 : FS RX3 27 3 6 := ⟨_, rfl, by decide, tb1 119 rfl rfl, rfl⟩
theorem fs_X3_30 : FS RX3 30 3 7 := ⟨_, rfl, by decide, tb1 120 rfl rfl, rfl⟩
theorem fs_X3_33 : FS RX3 33 3 8 := ⟨_, rfl, by decide, tb1 121 rfl rfl, rfl⟩
theorem fs_X3_36 : FS RX3 36 3 9 := ⟨_, rfl, by decide, tb1 122 rfl rfl, rfl⟩
theorem fs_X3_40 : FS RX3 40 3 15 := ⟨_, rfl, by decide, tb1 128 rfl rfl, rfl⟩
theorem fs_X3_52 : FS RX3 52 3 13 := ⟨_, rfl, by decide, tb1 126 rfl rfl, rfl⟩
theorem fs_X3_59 : FS RX3 59 3 14 := ⟨_, rfl, by decide, tb1 127 rfl rfl, rfl⟩
theorem fs_X3_62 : FS RX3 62 3 10 := ⟨_, rfl, by decide, tb1 123 rfl rfl, rfl⟩
theorem fs_X3_66 : FS RX3 66 3 11 := ⟨_, rfl, by decide, tb1 124 rfl rfl, rfl⟩
theorem fs_X3_69 : FS RX3 69 3 0 := ⟨_, rfl, by decide, tb1 110 rfl rfl, rfl⟩
theorem fs_X3_85 : FS RX3 85 3 12 := ⟨_, rfl, by decide, tb1 125 rfl rfl, rfl⟩
theorem fs_X3_88 : FS RX3 88 6 5 := ⟨_, rfl, by decide, tb2 83 rfl rfl, rfl⟩
theorem fs_X3_91 : FS RX3 91 6 2 := ⟨_, rfl, by decide, tb2 72 rfl rfl, rfl⟩
theorem fs_X3_94 : FS RX3 94 0 7 := ⟨_, rfl, by decide, tb2 136 rfl rfl, rfl⟩
theorem fs_X4_18 : FS RX4 18 4 4 := ⟨_, rfl, by decide, tb1 178 rfl rfl, rfl⟩
theorem fs_X4_22 : FS RX4 22 4 3 := ⟨_, rfl, by decide, tb1 176 rfl rfl, rfl⟩
theorem fs_X4_30 : FS RX4 30 0 0 := ⟨_, rfl, by decide, tb2 113 rfl rfl, rfl⟩
theorem fs_X4_36 : FS RX4 36 6 4 := ⟨_, rfl, by decide, tb2 78 rfl rfl, rfl⟩
theorem fs_X4_45 : FS RX4 45 4 1 := ⟨_, rfl, by decide, tb1 172 rfl rfl, rfl⟩
theorem fs_X4_66 : FS RX4 66 4 2 := ⟨_, rfl, by decide, tb1 174 rfl rfl, rfl⟩
theorem fs_X4_69 : FS RX4 69 8 0 := ⟨_, rfl, by decide, tb1 84 rfl rfl, rfl⟩
theorem fs_X4_9 : FS RX4 9 4 0 := ⟨_, rfl, by decide, tb1 170 rfl rfl, rfl⟩
theorem fs_X5_15 : FS RX5 15 6 2 := ⟨_, rfl, by decide, tb2 71 rfl rfl, rfl⟩
theorem fs_X5_19 : FS RX5 19 0 5 := ⟨_, rfl, by decide, tb2 129 rfl rfl, rfl⟩
theorem fs_X5_24 : FS RX5 24 0 1 := ⟨_, rfl, by decide, tb2 117 rfl rfl, rfl⟩
theorem fs_X5_28 : FS RX5 28 0 2 := ⟨_, rfl, by decide, tb2 122 rfl rfl, rfl⟩
theorem fs_X5_31 : FS RX5 31 5 0 := ⟨_, rfl, by decide, tb4 44 rfl rfl, rfl⟩
theorem fs_X5_37 : FS RX5 37 5 1 := ⟨_, rfl, by decide, tb4 45 rfl rfl, rfl⟩
theorem fs_X5_40 : FS RX5 40 5 2 := ⟨_, rfl, by decide, tb4 46 rfl rfl, rfl⟩
theorem fs_X5_43 : FS RX5 43 5 3 := ⟨_, rfl, by decide, tb4 47 rfl rfl, rfl⟩
theorem fs_X5_46 : FS RX5 46 5 4 := ⟨_, rfl, by decide, tb4 48 rfl rfl, rfl⟩
theorem fs_X5_9 : FS RX5 9 6 5 := ⟨_, rfl, by decide, tb2 80 rfl rfl, rfl⟩
theorem fs_X6_11 : FS RX6 11 6 2 := ⟨_, rfl, by decide, tb2 70 rfl rfl, rfl⟩
theorem fs_X6_19 : FS RX6 19 6 3 := ⟨_, rfl, by decide, tb2 74 rfl rfl, rfl⟩
theorem fs_X6_23 : FS RX6 23 6 4 := ⟨_, rfl, by decide, tb2 77 rfl rfl, rfl⟩
theorem fs_X6_27 : FS RX6 27 6 0 := ⟨_, rfl, by decide, tb2 62 rfl rfl, rfl⟩
theorem fs_X6_31 : FS RX6 31 6 1 := ⟨_, rfl, by decide, tb2 66 rfl rfl, rfl⟩
theorem fs_X6_34 : FS RX6 34 6 5 := ⟨_, rfl, by decide, tb2 81 rfl rfl, rfl⟩
theorem fs_X6_46 : FS RX6 46 0 7 := ⟨_, rfl, by decide, tb2 135 rfl rfl, rfl⟩
theorem fs_X6_57 : FS RX6 57 0 1 := ⟨_, rfl, by decide, tb2 119 rfl rfl, rfl⟩
theorem fs_X6_70 : FS RX6 70 6 6 := ⟨_, rfl, by decide, tb2 86 rfl rfl, rfl⟩
theorem fs_X7_13 : FS RX7 13 7 2 := ⟨_, rfl, by decide, tb1 199 rfl rfl, rfl⟩
theorem fs_X7_17 : FS RX7 17 7 1 := ⟨_, rfl, by decide, tb1 197 rfl rfl, rfl⟩
theorem fs_X7_21 : FS RX7 21 7 3 := ⟨_, rfl, by decide, tb1 201 rfl rfl, rfl⟩
theorem fs_X7_9 : FS RX7 9 7 0 := ⟨_, rfl, by decide, tb1 195 rfl rfl, rfl⟩
theorem fs_X8_15 : FS RX8 15 8 1 := ⟨_, rfl, by decide, tb1 87 rfl rfl, rfl⟩
theorem fs_X8_18 : FS RX8 18 8 2 := ⟨_, rfl, by decide, tb1 88 rfl rfl, rfl⟩
theorem fs_X8_21 : FS RX8 21 0 1 := ⟨_, rfl, by decide, tb2 118 rfl rfl, rfl⟩
theorem fs_X8_32 : FS RX8 32 0 2 := ⟨_, rfl, by decide, tb2 123 rfl rfl, rfl⟩
theorem fs_X8_35 : FS RX8 35 0 0 := ⟨_, rfl, by decide, tb2 114 rfl rfl, rfl⟩
theorem fs_X8_39 : FS RX8 39 6 0 := ⟨_, rfl, by decide, tb2 64 rfl rfl, rfl⟩
theorem fs_X8_45 : FS RX8 45 6 1 := ⟨_, rfl, by decide, tb2 68 rfl rfl, rfl⟩
theorem fs_X8_48 : FS RX8 48 8 3 := ⟨_, rfl, by decide, tb1 89 rfl rfl, rfl⟩
theorem fs_X8_9 : FS RX8 9 8 0 := ⟨_, rfl, by decide, tb1 83 rfl rfl, rfl⟩
theorem fs_X9_11 : FS RX9 11 9 0 := ⟨_, rfl, by decide, tb1 31 rfl rfl, rfl⟩
theorem fs_X9_15 : FS RX9 15 9 1 := ⟨_, rfl, by decide, tb1 32 rfl rfl, rfl⟩
theorem fs_X9_18 : FS RX9 18 9 2 := ⟨_, rfl, by decide, tb1 33 rfl rfl, rfl⟩
theorem fs_X9_22 : FS RX9 22 9 3 := ⟨_, rfl, by decide, tb1 35 rfl rfl, rfl⟩
theorem fs_X9_25 : FS RX9 25 9 6 := ⟨_, rfl, by decide, tb1 39 rfl rfl, rfl⟩
theorem fs_X9_47 : FS RX9 47 9 4 := ⟨_, rfl, by decide, tb1 37 rfl rfl, rfl⟩
theorem fs_X9_50 : FS RX9 50 9 5 := ⟨_, rfl, by decide, tb1 38 rfl rfl, rfl⟩
theorem ac_X11_383 (mi : MI) (hm : mi.1.cls = RX11) : cpw mi 383 := by
  unfold cpw
  rw [hm]
  exact ⟨tb5 36 rfl rfl, tb2 221 rfl rfl, tb2 220 rfl rfl, tb1 12 rfl rfl⟩
theorem ac_X4_70 (mi : MI) (hm : mi.1.cls = RX4) : cpw mi 70 := by
  unfold cpw
  rw [hm]
  exact ⟨tb4 150 rfl rfl, tb2 221 rfl rfl, tb2 220 rfl rfl, tb1 12 rfl rfl⟩
theorem ac_X8_26 (mi : MI) (hm : mi.1.cls = RX8) : cpw mi 26 := by
  unfold cpw
  rw [hm]
  exact ⟨tb2 219 rfl rfl, tb2 221 rfl rfl, tb2 220 rfl rfl, tb1 12 rfl rfl⟩
theorem an_X11_16 : Cond.classLink RX11 16 RX6 ∈ gtb := tb1 56 rfl rfl
theorem an_X11_22 : Cond.classLink RX11 22 RX2 ∈ gtb := tb1 58 rfl rfl
theorem an_X11_28 : Cond.classLink RX11 28 RX7 ∈ gtb := tb1 60 rfl rfl
theorem an_X3_17 : Cond.classLink RX3 17 RX0 ∈ gtb := tb1 107 rfl rfl
theorem an_X3_9 : Cond.classLink RX3 9 RX8 ∈ gtb := tb1 105 rfl rfl
theorem an_X6_17 : Cond.classLink RX6 17 RX1 ∈ gtb := tb2 60 rfl rfl
theorem an_X6_9 : Cond.classLink RX6 9 RX0 ∈ gtb := tb2 59 rfl rfl
theorem bi_m100 : (Int8.ofInt (-100)).toInt32 = iv (-100) := by decide
theorem bi_m11 : (Int8.ofInt (-11)).toInt32 = iv (-11) := by decide
theorem bi_m12 : (Int8.ofInt (-12)).toInt32 = iv (-12) := by decide
theorem bi_m13 : (Int8.ofInt (-13)).toInt32 = iv (-13) := by decide
theorem bi_m14 : (Int8.ofInt (-14)).toInt32 = iv (-14) := by decide
theorem bi_m2 : (Int8.ofInt (-2)).toInt32 = iv (-2) := by decide
theorem bi_m3 : (Int8.ofInt (-3)).toInt32 = iv (-3) := by decide
theorem bi_m4 : (Int8.ofInt (-4)).toInt32 = iv (-4) := by decide
theorem bi_m5 : (Int8.ofInt (-5)).toInt32 = iv (-5) := by decide
theorem bi_m99 : (Int8.ofInt (-99)).toInt32 = iv (-99) := by decide
theorem bi_10 : (Int8.ofInt 10).toInt32 = iv 10 := by decide
theorem bi_100 : (Int8.ofInt 100).toInt32 = iv 100 := by decide
theorem bi_103 : (Int8.ofInt 103).toInt32 = iv 103 := by decide
theorem bi_11 : (Int8.ofInt 11).toInt32 = iv 11 := by decide
theorem bi_12 : (Int8.ofInt 12).toInt32 = iv 12 := by decide
theorem bi_13 : (Int8.ofInt 13).toInt32 = iv 13 := by decide
theorem bi_16 : (Int8.ofInt 16).toInt32 = iv 16 := by decide
theorem bi_20 : (Int8.ofInt 20).toInt32 = iv 20 := by decide
theorem bi_24 : (Int8.ofInt 24).toInt32 = iv 24 := by decide
theorem bi_30 : (Int8.ofInt 30).toInt32 = iv 30 := by decide
theorem bi_31 : (Int8.ofInt 31).toInt32 = iv 31 := by decide
theorem bi_32 : (Int8.ofInt 32).toInt32 = iv 32 := by decide
theorem bi_40 : (Int8.ofInt 40).toInt32 = iv 40 := by decide
theorem bi_44 : (Int8.ofInt 44).toInt32 = iv 44 := by decide
theorem bi_47 : (Int8.ofInt 47).toInt32 = iv 47 := by decide
theorem bi_48 : (Int8.ofInt 48).toInt32 = iv 48 := by decide
theorem bi_50 : (Int8.ofInt 50).toInt32 = iv 50 := by decide
theorem bi_51 : (Int8.ofInt 51).toInt32 = iv 51 := by decide
theorem bi_52 : (Int8.ofInt 52).toInt32 = iv 52 := by decide
theorem bi_57 : (Int8.ofInt 57).toInt32 = iv 57 := by decide
theorem bi_59 : (Int8.ofInt 59).toInt32 = iv 59 := by decide
theorem bi_6 : (Int8.ofInt 6).toInt32 = iv 6 := by decide
theorem bi_60 : (Int8.ofInt 60).toInt32 = iv 60 := by decide
theorem bi_63 : (Int8.ofInt 63).toInt32 = iv 63 := by decide
theorem bi_7 : (Int8.ofInt 7).toInt32 = iv 7 := by decide
theorem bi_70 : (Int8.ofInt 70).toInt32 = iv 70 := by decide
theorem bi_71 : (Int8.ofInt 71).toInt32 = iv 71 := by decide
theorem bi_8 : (Int8.ofInt 8).toInt32 = iv 8 := by decide
theorem bi_84 : (Int8.ofInt 84).toInt32 = iv 84 := by decide
theorem bi_9 : (Int8.ofInt 9).toInt32 = iv 9 := by decide
theorem bi_99 : (Int8.ofInt 99).toInt32 = iv 99 := by decide
theorem ct_J6_264 : Cond.constant RJ6 264 (iv 65536) ∈ gtb := tb3 203 rfl rfl
theorem ct_J6_265 : Cond.constant RJ6 265 (iv 1431655765) ∈ gtb := tb4 15 rfl rfl
theorem ct_J6_266 : Cond.constant RJ6 266 (iv 858993459) ∈ gtb := tb4 16 rfl rfl
theorem ct_J6_267 : Cond.constant RJ6 267 (iv 252645135) ∈ gtb := tb4 17 rfl rfl
theorem ct_X11_202 : Cond.constant RX11 202 (iv (-2000000000)) ∈ gtb := tb3 68 rfl rfl
theorem ct_X12_227 : Cond.constant RX12 227 (iv (-2000000000)) ∈ gtb := tb6 122 rfl rfl
theorem ct_X3_155 : Cond.constant RX3 155 (iv (-2147483648)) ∈ gtb := tb3 220 rfl rfl
theorem ct_X3_58 : Cond.constant RX3 58 (iv 2147483647) ∈ gtb := tb4 7 rfl rfl
theorem ct_X5_53 : Cond.constant RX5 53 (iv (-2000000000)) ∈ gtb := tb4 72 rfl rfl
theorem ct_L_36 : Cond.constantLong RL 36 (jv 4294967295) ∈ gtb := tb7 143 rfl rfl
theorem ct_X0_77 : Cond.constantLong RX0 77 (jv 1000) ∈ gtb := tb4 92 rfl rfl
theorem ct_X11_128 : Cond.constantLong RX11 128 (jv (-1)) ∈ gtb := tb2 178 rfl rfl
theorem ct_X11_134 : Cond.constantLong RX11 134 (jv 1000000000000) ∈ gtb := tb2 199 rfl rfl
theorem ct_X11_136 : Cond.constantLong RX11 136 (jv (-4)) ∈ gtb := tb2 200 rfl rfl
theorem ct_X11_149 : Cond.constantLong RX11 149 (jv 6364136223846793005) ∈ gtb := tb3 3 rfl rfl
theorem ct_X11_151 : Cond.constantLong RX11 151 (jv 1442695040888963407) ∈ gtb := tb3 4 rfl rfl
theorem ct_X11_305 : Cond.constantLong RX11 305 (jv 20000) ∈ gtb := tb4 136 rfl rfl
theorem ct_X11_324 : Cond.constantLong RX11 324 (jv 1000) ∈ gtb := tb4 169 rfl rfl
theorem ct_X11_378 : Cond.constantLong RX11 378 (jv (-9223372036854775808)) ∈ gtb := tb5 31 rfl rfl
theorem ct_X12_149 : Cond.constantLong RX12 149 (jv 2) ∈ gtb := tb6 46 rfl rfl
theorem ct_X12_168 : Cond.constantLong RX12 168 (jv (-1)) ∈ gtb := tb6 28 rfl rfl
theorem ct_X12_174 : Cond.constantLong RX12 174 (jv 1000000000000) ∈ gtb := tb6 47 rfl rfl
theorem ct_X12_176 : Cond.constantLong RX12 176 (jv (-4)) ∈ gtb := tb6 48 rfl rfl
theorem ct_X12_197 : Cond.constantLong RX12 197 (jv 6364136223846793005) ∈ gtb := tb6 80 rfl rfl
theorem ct_X12_199 : Cond.constantLong RX12 199 (jv 1442695040888963407) ∈ gtb := tb6 81 rfl rfl
theorem ct_X12_243 : Cond.constantLong RX12 243 (jv 20000) ∈ gtb := tb6 175 rfl rfl
theorem ct_X12_248 : Cond.constantLong RX12 248 (jv 20001) ∈ gtb := tb6 180 rfl rfl
theorem ct_X12_300 : Cond.constantLong RX12 300 (jv 1000) ∈ gtb := tb6 236 rfl rfl
theorem ct_X12_314 : Cond.constantLong RX12 314 (jv 1000000) ∈ gtb := tb7 9 rfl rfl
theorem ct_X12_316 : Cond.constantLong RX12 316 (jv 1000000000) ∈ gtb := tb7 10 rfl rfl
theorem ct_X12_372 : Cond.constantLong RX12 372 (jv (-9223372036854775808)) ∈ gtb := tb7 121 rfl rfl
theorem ct_X12_374 : Cond.constantLong RX12 374 (jv 99) ∈ gtb := tb7 138 rfl rfl
theorem ct_X6_84 : Cond.constantLong RX6 84 (jv 20000) ∈ gtb := tb3 170 rfl rfl
theorem ct_X8_96 : Cond.constantLong RX8 96 (jv 2) ∈ gtb := tb2 195 rfl rfl
theorem gs_X2_24 : Cond.fieldLink RX2 24 "VotedFor$Knowing" "ABOVE" "[I" ∈ gtb := tb4 210 rfl rfl
theorem lc_0 : Int64.ofNat ((0 : Fin 2) : Nat) = jv 0 := by decide
theorem lc_1 : Int64.ofNat ((1 : Fin 2) : Nat) = jv 1 := by decide
theorem nw_L_10 : Cond.classLink RL 10 RX12 ∈ gtb ∧ Cond.instantiable RX12 45 ∈ gtb ∧ Cond.initialized RX12 ∈ gtb := ⟨tb5 62 rfl rfl, tb5 63 rfl rfl, tb1 8 rfl rfl⟩
theorem nw_L_7 : Cond.classLink RL 7 RX11 ∈ gtb ∧ Cond.instantiable RX11 11 ∈ gtb ∧ Cond.initialized RX11 ∈ gtb := ⟨tb1 17 rfl rfl, tb1 18 rfl rfl, tb1 1 rfl rfl⟩
theorem nw_X11_219 : Cond.classLink RX11 219 RX1 ∈ gtb ∧ Cond.instantiable RX1 5 ∈ gtb ∧ Cond.initialized RX1 ∈ gtb := ⟨tb3 115 rfl rfl, tb3 116 rfl rfl, tb1 13 rfl rfl⟩
theorem nw_X11_22 : Cond.classLink RX11 22 RX2 ∈ gtb ∧ Cond.instantiable RX2 3 ∈ gtb ∧ Cond.initialized RX2 ∈ gtb := ⟨tb1 58 rfl rfl, tb4 174 rfl rfl, tb1 16 rfl rfl⟩
theorem nw_X11_261 : Cond.classLink RX11 261 RX5 ∈ gtb ∧ Cond.instantiable RX5 5 ∈ gtb ∧ Cond.initialized RX5 ∈ gtb := ⟨tb4 38 rfl rfl, tb4 39 rfl rfl, tb1 15 rfl rfl⟩
theorem nw_X11_28 : Cond.classLink RX11 28 RX7 ∈ gtb ∧ Cond.instantiable RX7 4 ∈ gtb ∧ Cond.initialized RX7 ∈ gtb := ⟨tb1 60 rfl rfl, tb1 190 rfl rfl, tb1 7 rfl rfl⟩
theorem nw_X11_34 : Cond.classLink RX11 34 RX10 ∈ gtb ∧ Cond.instantiable RX10 2 ∈ gtb ∧ Cond.initialized RX10 ∈ gtb := ⟨tb1 62 rfl rfl, tb1 63 rfl rfl, tb1 3 rfl rfl⟩
theorem nw_X11_41 : Cond.classLink RX11 41 RX8 ∈ gtb ∧ Cond.instantiable RX8 4 ∈ gtb ∧ Cond.initialized RX8 ∈ gtb := ⟨tb1 77 rfl rfl, tb1 78 rfl rfl, tb1 4 rfl rfl⟩
theorem nw_X11_48 : Cond.classLink RX11 48 RX3 ∈ gtb ∧ Cond.instantiable RX3 16 ∈ gtb ∧ Cond.initialized RX3 ∈ gtb := ⟨tb1 99 rfl rfl, tb1 100 rfl rfl, tb1 5 rfl rfl⟩
theorem nw_X11_55 : Cond.classLink RX11 55 RX4 ∈ gtb ∧ Cond.instantiable RX4 5 ∈ gtb ∧ Cond.initialized RX4 ∈ gtb := ⟨tb1 162 rfl rfl, tb1 163 rfl rfl, tb1 6 rfl rfl⟩
theorem nw_X11_7 : Cond.classLink RX11 7 RX9 ∈ gtb ∧ Cond.instantiable RX9 7 ∈ gtb ∧ Cond.initialized RX9 ∈ gtb := ⟨tb1 25 rfl rfl, tb1 26 rfl rfl, tb1 2 rfl rfl⟩
theorem nw_X3_9 : Cond.classLink RX3 9 RX8 ∈ gtb ∧ Cond.instantiable RX8 4 ∈ gtb ∧ Cond.initialized RX8 ∈ gtb := ⟨tb1 105 rfl rfl, tb1 78 rfl rfl, tb1 4 rfl rfl⟩
theorem nw_X4_15 : Cond.classLink RX4 15 RX8 ∈ gtb ∧ Cond.instantiable RX8 4 ∈ gtb ∧ Cond.initialized RX8 ∈ gtb := ⟨tb1 168 rfl rfl, tb1 78 rfl rfl, tb1 4 rfl rfl⟩
theorem nw_X6_9 : Cond.classLink RX6 9 RX0 ∈ gtb ∧ Cond.instantiable RX0 9 ∈ gtb ∧ Cond.initialized RX0 ∈ gtb := ⟨tb2 59 rfl rfl, tb2 107 rfl rfl, tb1 10 rfl rfl⟩
theorem nw_X9_57 : Cond.classLink RX9 57 RX6 ∈ gtb ∧ Cond.instantiable RX6 7 ∈ gtb ∧ Cond.initialized RX6 ∈ gtb := ⟨tb2 53 rfl rfl, tb2 54 rfl rfl, tb1 9 rfl rfl⟩
theorem oi_X0_3 : Cond.methodLink RX0 3 Lib.objectInit ∈ gtb ∧ Cond.instanceMethod Lib.objectInit ∈ gtb ∧ Cond.code Lib.objectInit ⟨#[0xb1]⟩ 1 none ∈ gtb := ⟨tb2 111 rfl rfl, tb1 23 rfl rfl, tb1 24 rfl rfl⟩
theorem oi_X10_1 : Cond.methodLink RX10 1 Lib.objectInit ∈ gtb ∧ Cond.instanceMethod Lib.objectInit ∈ gtb ∧ Cond.code Lib.objectInit ⟨#[0xb1]⟩ 1 none ∈ gtb := ⟨tb1 67 rfl rfl, tb1 23 rfl rfl, tb1 24 rfl rfl⟩
theorem oi_X11_1 : Cond.methodLink RX11 1 Lib.objectInit ∈ gtb ∧ Cond.instanceMethod Lib.objectInit ∈ gtb ∧ Cond.code Lib.objectInit ⟨#[0xb1]⟩ 1 none ∈ gtb := ⟨tb1 22 rfl rfl, tb1 23 rfl rfl, tb1 24 rfl rfl⟩
theorem oi_X12_1 : Cond.methodLink RX12 1 Lib.objectInit ∈ gtb ∧ Cond.instanceMethod Lib.objectInit ∈ gtb ∧ Cond.code Lib.objectInit ⟨#[0xb1]⟩ 1 none ∈ gtb := ⟨tb5 67 rfl rfl, tb1 23 rfl rfl, tb1 24 rfl rfl⟩
theorem oi_X1_1 : Cond.methodLink RX1 1 Lib.objectInit ∈ gtb ∧ Cond.instanceMethod Lib.objectInit ∈ gtb ∧ Cond.code Lib.objectInit ⟨#[0xb1]⟩ 1 none ∈ gtb := ⟨tb3 120 rfl rfl, tb1 23 rfl rfl, tb1 24 rfl rfl⟩
theorem oi_X2_1 : Cond.methodLink RX2 1 Lib.objectInit ∈ gtb ∧ Cond.instanceMethod Lib.objectInit ∈ gtb ∧ Cond.code Lib.objectInit ⟨#[0xb1]⟩ 1 none ∈ gtb := ⟨tb4 178 rfl rfl, tb1 23 rfl rfl, tb1 24 rfl rfl⟩
theorem oi_X3_3 : Cond.methodLink RX3 3 Lib.objectInit ∈ gtb ∧ Cond.instanceMethod Lib.objectInit ∈ gtb ∧ Cond.code Lib.objectInit ⟨#[0xb1]⟩ 1 none ∈ gtb := ⟨tb1 104 rfl rfl, tb1 23 rfl rfl, tb1 24 rfl rfl⟩
theorem oi_X4_3 : Cond.methodLink RX4 3 Lib.objectInit ∈ gtb ∧ Cond.instanceMethod Lib.objectInit ∈ gtb ∧ Cond.code Lib.objectInit ⟨#[0xb1]⟩ 1 none ∈ gtb := ⟨tb1 167 rfl rfl, tb1 23 rfl rfl, tb1 24 rfl rfl⟩
theorem oi_X5_3 : Cond.methodLink RX5 3 Lib.objectInit ∈ gtb ∧ Cond.instanceMethod Lib.objectInit ∈ gtb ∧ Cond.code Lib.objectInit ⟨#[0xb1]⟩ 1 none ∈ gtb := ⟨tb4 43 rfl rfl, tb1 23 rfl rfl, tb1 24 rfl rfl⟩
theorem oi_X6_3 : Cond.methodLink RX6 3 Lib.objectInit ∈ gtb ∧ Cond.instanceMethod Lib.objectInit ∈ gtb ∧ Cond.code Lib.objectInit ⟨#[0xb1]⟩ 1 none ∈ gtb := ⟨tb2 58 rfl rfl, tb1 23 rfl rfl, tb1 24 rfl rfl⟩
theorem oi_X7_1 : Cond.methodLink RX7 1 Lib.objectInit ∈ gtb ∧ Cond.instanceMethod Lib.objectInit ∈ gtb ∧ Cond.code Lib.objectInit ⟨#[0xb1]⟩ 1 none ∈ gtb := ⟨tb1 194 rfl rfl, tb1 23 rfl rfl, tb1 24 rfl rfl⟩
theorem oi_X8_3 : Cond.methodLink RX8 3 Lib.objectInit ∈ gtb ∧ Cond.instanceMethod Lib.objectInit ∈ gtb ∧ Cond.code Lib.objectInit ⟨#[0xb1]⟩ 1 none ∈ gtb := ⟨tb1 82 rfl rfl, tb1 23 rfl rfl, tb1 24 rfl rfl⟩
theorem oi_X9_3 : Cond.methodLink RX9 3 Lib.objectInit ∈ gtb ∧ Cond.instanceMethod Lib.objectInit ∈ gtb ∧ Cond.code Lib.objectInit ⟨#[0xb1]⟩ 1 none ∈ gtb := ⟨tb1 30 rfl rfl, tb1 23 rfl rfl, tb1 24 rfl rfl⟩
theorem si_m400 : (Int16.ofInt (-400)).toInt32 = iv (-400) := by decide
theorem si_1000 : (Int16.ofInt 1000).toInt32 = iv 1000 := by decide
theorem si_144 : (Int16.ofInt 144).toInt32 = iv 144 := by decide
theorem si_180 : (Int16.ofInt 180).toInt32 = iv 180 := by decide
theorem si_200 : (Int16.ofInt 200).toInt32 = iv 200 := by decide
theorem si_20000 : (Int16.ofInt 20000).toInt32 = iv 20000 := by decide
theorem si_240 : (Int16.ofInt 240).toInt32 = iv 240 := by decide
theorem si_255 : (Int16.ofInt 255).toInt32 = iv 255 := by decide
theorem si_256 : (Int16.ofInt 256).toInt32 = iv 256 := by decide
theorem si_360 : (Int16.ofInt 360).toInt32 = iv 360 := by decide
theorem si_720 : (Int16.ofInt 720).toInt32 = iv 720 := by decide
theorem si_999 : (Int16.ofInt 999).toInt32 = iv 999 := by decide
theorem si_9999 : (Int16.ofInt 9999).toInt32 = iv 9999 := by decide
theorem cIN_X11_36 (mi : MI) (hm : mi.1.cls = RX11) : CIN mi 36 mX10_init 0 "VotedFor" := by
  unfold CIN
  rw [hm]
  exact ⟨ok_X10_init, List.mem_of_getElem? (i := 1) rfl, tb1 65 rfl rfl, rfl, rfl⟩
theorem cIN_X11_43 (mi : MI) (hm : mi.1.cls = RX11) : CIN mi 43 mX8_init 0 "VotedFor" := by
  unfold CIN
  rw [hm]
  exact ⟨ok_X8_init, List.mem_of_getElem? (i := 2) rfl, tb1 80 rfl rfl, rfl, rfl⟩
theorem cIN_X11_57 (mi : MI) (hm : mi.1.cls = RX11) : CIN mi 57 mX4_init 0 "VotedFor" := by
  unfold CIN
  rw [hm]
  exact ⟨ok_X4_init, List.mem_of_getElem? (i := 4) rfl, tb1 165 rfl rfl, rfl, rfl⟩
theorem cIN_X11_66 (mi : MI) (hm : mi.1.cls = RX11) : CIN mi 66 mX7_init 0 "VotedFor" := by
  unfold CIN
  rw [hm]
  exact ⟨ok_X7_init, List.mem_of_getElem? (i := 6) rfl, tb1 192 rfl rfl, rfl, rfl⟩
theorem cIN_X11_9 (mi : MI) (hm : mi.1.cls = RX11) : CIN mi 9 mX9_init 0 "VotedFor" := by
  unfold CIN
  rw [hm]
  exact ⟨ok_X9_init, List.mem_of_getElem? (i := 0) rfl, tb1 28 rfl rfl, rfl, rfl⟩
theorem cIN_X3_39 (mi : MI) (hm : mi.1.cls = RX3) : CIN mi 39 mX8_init 0 "VotedFor" := by
  unfold CIN
  rw [hm]
  exact ⟨ok_X8_init, List.mem_of_getElem? (i := 3) rfl, tb1 80 rfl rfl, rfl, rfl⟩
theorem cIN_X4_17 (mi : MI) (hm : mi.1.cls = RX4) : CIN mi 17 mX8_init 0 "VotedFor" := by
  unfold CIN
  rw [hm]
  exact ⟨ok_X8_init, List.mem_of_getElem? (i := 5) rfl, tb1 80 rfl rfl, rfl, rfl⟩
theorem cI_L_12 (mi : MI) (hm : mi.1.cls = RL) : CI mi 12 mX12_init 0 := by
  unfold CI
  rw [hm]
  exact ⟨ok_X12_init, tb5 64 rfl rfl, tb5 65 rfl rfl, rfl, rfl⟩
theorem cI_L_9 (mi : MI) (hm : mi.1.cls = RL) : CI mi 9 mX11_init 0 := by
  unfold CI
  rw [hm]
  exact ⟨ok_X11_init, tb1 19 rfl rfl, tb1 20 rfl rfl, rfl, rfl⟩
theorem cI_X11_221 (mi : MI) (hm : mi.1.cls = RX11) : CI mi 221 mX1_init 4 := by
  unfold CI
  rw [hm]
  exact ⟨ok_X1_init, tb3 117 rfl rfl, tb3 118 rfl rfl, rfl, rfl⟩
theorem cI_X11_263 (mi : MI) (hm : mi.1.cls = RX11) : CI mi 263 mX5_init 1 := by
  unfold CI
  rw [hm]
  exact ⟨ok_X5_init, tb4 40 rfl rfl, tb4 41 rfl rfl, rfl, rfl⟩
theorem cI_X11_329 (mi : MI) (hm : mi.1.cls = RX11) : CI mi 329 mX2_init 3 := by
  unfold CI
  rw [hm]
  exact ⟨ok_X2_init, tb4 175 rfl rfl, tb4 176 rfl rfl, rfl, rfl⟩
theorem cI_X11_50 (mi : MI) (hm : mi.1.cls = RX11) : CI mi 50 mX3_init 0 := by
  unfold CI
  rw [hm]
  exact ⟨ok_X3_init, tb1 101 rfl rfl, tb1 102 rfl rfl, rfl, rfl⟩
theorem cI_X6_43 (mi : MI) (hm : mi.1.cls = RX6) : CI mi 43 mX0_init 3 := by
  unfold CI
  rw [hm]
  exact ⟨ok_X0_init, tb2 108 rfl rfl, tb2 109 rfl rfl, rfl, rfl⟩
theorem cI_X9_59 (mi : MI) (hm : mi.1.cls = RX9) : CI mi 59 mX6_init 2 := by
  unfold CI
  rw [hm]
  exact ⟨ok_X6_init, tb2 55 rfl rfl, tb2 56 rfl rfl, rfl, rfl⟩
theorem cSN_X0_59 (mi : MI) (hm : mi.1.cls = RX0) : CSN mi 59 mX11_endOf 4 "VotedFor" := by
  unfold CSN
  rw [hm]
  exact ⟨ok_X11_endOf, List.mem_of_getElem? (i := 7) rfl, tb3 54 rfl rfl⟩
theorem cS_X0_44 (mi : MI) (hm : mi.1.cls = RX0) : CS mi 44 mX8_ways 2 := by
  unfold CS
  rw [hm]
  exact ⟨ok_X8_ways, tb2 183 rfl rfl, tb2 184 rfl rfl⟩
theorem cS_X0_49 (mi : MI) (hm : mi.1.cls = RX0) : CS mi 49 mJ9_max_f86c9 2 := by
  unfold CS
  rw [hm]
  exact ⟨ok_J9_max_f86c9, tb2 196 rfl rfl, tb2 197 rfl rfl⟩
theorem cS_X0_82 (mi : MI) (hm : mi.1.cls = RX0) : CS mi 82 mJ9_min_7cf53 2 := by
  unfold CS
  rw [hm]
  exact ⟨ok_J9_min_7cf53, tb4 106 rfl rfl, tb2 187 rfl rfl⟩
theorem cS_X0_86 (mi : MI) (hm : mi.1.cls = RX0) : CS mi 86 mJ9_max_7cf53 2 := by
  unfold CS
  rw [hm]
  exact ⟨ok_J9_max_7cf53, tb4 111 rfl rfl, tb3 57 rfl rfl⟩
theorem cS_X10_17 (mi : MI) (hm : mi.1.cls = RX10) : CS mi 17 mJ9_min_7cf53 2 := by
  unfold CS
  rw [hm]
  exact ⟨ok_J9_min_7cf53, tb4 235 rfl rfl, tb2 187 rfl rfl⟩
theorem cS_X11_138 (mi : MI) (hm : mi.1.cls = RX11) : CS mi 138 mX11_placeIn 2 := by
  unfold CS
  rw [hm]
  exact ⟨ok_X11_placeIn, tb2 205 rfl rfl, tb2 206 rfl rfl⟩
theorem cS_X11_187 (mi : MI) (hm : mi.1.cls = RX11) : CS mi 187 mX11_isEnd 1 := by
  unfold CS
  rw [hm]
  exact ⟨ok_X11_isEnd, tb3 46 rfl rfl, tb3 47 rfl rfl⟩
theorem cS_X11_198 (mi : MI) (hm : mi.1.cls = RX11) : CS mi 198 mX11_placeOf 2 := by
  unfold CS
  rw [hm]
  exact ⟨ok_X11_placeOf, tb2 208 rfl rfl, tb2 209 rfl rfl⟩
theorem cS_X11_288 (mi : MI) (hm : mi.1.cls = RX11) : CS mi 288 mX11_endOf 4 := by
  unfold CS
  rw [hm]
  exact ⟨ok_X11_endOf, tb4 97 rfl rfl, tb3 54 rfl rfl⟩
theorem cS_X11_368 (mi : MI) (hm : mi.1.cls = RX11) : CS mi 368 mX11_refusalOf 2 := by
  unfold CS
  rw [hm]
  exact ⟨ok_X11_refusalOf, tb5 16 rfl rfl, tb5 17 rfl rfl⟩
theorem cS_X11_404 (mi : MI) (hm : mi.1.cls = RX11) : CS mi 404 mJ9_max_7cf53 2 := by
  unfold CS
  rw [hm]
  exact ⟨ok_J9_max_7cf53, tb3 56 rfl rfl, tb3 57 rfl rfl⟩
theorem cS_X11_409 (mi : MI) (hm : mi.1.cls = RX11) : CS mi 409 mJ9_min_7cf53 2 := by
  unfold CS
  rw [hm]
  exact ⟨ok_J9_min_7cf53, tb3 59 rfl rfl, tb2 187 rfl rfl⟩
theorem cS_X12_103 (mi : MI) (hm : mi.1.cls = RX12) : CS mi 103 mX12_in 3 := by
  unfold CS
  rw [hm]
  exact ⟨ok_X12_in, tb5 209 rfl rfl, tb5 210 rfl rfl⟩
theorem cS_X12_151 (mi : MI) (hm : mi.1.cls = RX12) : CS mi 151 mX12_lesser 2 := by
  unfold CS
  rw [hm]
  exact ⟨ok_X12_lesser, tb6 40 rfl rfl, tb6 41 rfl rfl⟩
theorem cS_X12_154 (mi : MI) (hm : mi.1.cls = RX12) : CS mi 154 mX12_under 3 := by
  unfold CS
  rw [hm]
  exact ⟨ok_X12_under, tb6 43 rfl rfl, tb6 44 rfl rfl⟩
theorem cS_X12_158 (mi : MI) (hm : mi.1.cls = RX12) : CS mi 158 mX12_pair 4 := by
  unfold CS
  rw [hm]
  exact ⟨ok_X12_pair, tb6 37 rfl rfl, tb6 38 rfl rfl⟩
theorem cS_X12_165 (mi : MI) (hm : mi.1.cls = RX12) : CS mi 165 mX12_greater 2 := by
  unfold CS
  rw [hm]
  exact ⟨ok_X12_greater, tb6 65 rfl rfl, tb6 66 rfl rfl⟩
theorem cS_X12_287 (mi : MI) (hm : mi.1.cls = RX12) : CS mi 287 mX12_ones 1 := by
  unfold CS
  rw [hm]
  exact ⟨ok_X12_ones, tb6 217 rfl rfl, tb6 218 rfl rfl⟩
theorem cS_X12_351 (mi : MI) (hm : mi.1.cls = RX12) : CS mi 351 mX12_aboveOf 1 := by
  unfold CS
  rw [hm]
  exact ⟨ok_X12_aboveOf, tb7 79 rfl rfl, tb7 80 rfl rfl⟩
theorem cS_X12_366 (mi : MI) (hm : mi.1.cls = RX12) : CS mi 366 mX12_isShelf 1 := by
  unfold CS
  rw [hm]
  exact ⟨ok_X12_isShelf, tb7 102 rfl rfl, tb7 103 rfl rfl⟩
theorem cS_X2_20 (mi : MI) (hm : mi.1.cls = RX2) : CS mi 20 mX2_isUnder_ 2 := by
  unfold CS
  rw [hm]
  exact ⟨ok_X2_isUnder_, tb4 207 rfl rfl, tb4 208 rfl rfl⟩
theorem cS_X3_121 (mi : MI) (hm : mi.1.cls = RX3) : CS mi 121 mJ9_max_7cf53 2 := by
  unfold CS
  rw [hm]
  exact ⟨ok_J9_max_7cf53, tb3 191 rfl rfl, tb3 57 rfl rfl⟩
theorem cS_X3_150 (mi : MI) (hm : mi.1.cls = RX3) : CS mi 150 mJ9_min_7cf53 2 := by
  unfold CS
  rw [hm]
  exact ⟨ok_J9_min_7cf53, tb3 219 rfl rfl, tb2 187 rfl rfl⟩
theorem cS_X3_156 (mi : MI) (hm : mi.1.cls = RX3) : CS mi 156 mJ6_numberOfTrailingZeros_0f7a4 1 := by
  unfold CS
  rw [hm]
  exact ⟨ok_J6_numberOfTrailingZeros_0f7a4, tb3 200 rfl rfl, tb3 201 rfl rfl⟩
theorem cS_X3_173 (mi : MI) (hm : mi.1.cls = RX3) : CS mi 173 mJ9_abs_0f7a4 1 := by
  unfold CS
  rw [hm]
  exact ⟨ok_J9_abs_0f7a4, tb3 212 rfl rfl, tb3 213 rfl rfl⟩
theorem cS_X3_186 (mi : MI) (hm : mi.1.cls = RX3) : CS mi 186 mJ6_bitCount_0f7a4 1 := by
  unfold CS
  rw [hm]
  exact ⟨ok_J6_bitCount_0f7a4, tb4 12 rfl rfl, tb4 13 rfl rfl⟩
theorem cS_X4_60 (mi : MI) (hm : mi.1.cls = RX4) : CS mi 60 mJ9_min_7cf53 2 := by
  unfold CS
  rw [hm]
  exact ⟨ok_J9_min_7cf53, tb4 156 rfl rfl, tb2 187 rfl rfl⟩
theorem cS_X5_54 (mi : MI) (hm : mi.1.cls = RX5) : CS mi 54 mJ9_floorDiv_f86c9 2 := by
  unfold CS
  rw [hm]
  exact ⟨ok_J9_floorDiv_f86c9, tb4 73 rfl rfl, tb4 74 rfl rfl⟩
theorem cS_X6_37 (mi : MI) (hm : mi.1.cls = RX6) : CS mi 37 mX9_isEven 4 := by
  unfold CS
  rw [hm]
  exact ⟨ok_X9_isEven, tb2 106 rfl rfl, tb2 47 rfl rfl⟩
theorem cS_X8_67 (mi : MI) (hm : mi.1.cls = RX8) : CS mi 67 mJ9_max_7cf53 2 := by
  unfold CS
  rw [hm]
  exact ⟨ok_J9_max_7cf53, tb3 229 rfl rfl, tb3 57 rfl rfl⟩
theorem cS_X8_73 (mi : MI) (hm : mi.1.cls = RX8) : CS mi 73 mJ9_min_7cf53 2 := by
  unfold CS
  rw [hm]
  exact ⟨ok_J9_min_7cf53, tb2 186 rfl rfl, tb2 187 rfl rfl⟩
theorem cS_X8_84 (mi : MI) (hm : mi.1.cls = RX8) : CS mi 84 mX8_ways 2 := by
  unfold CS
  rw [hm]
  exact ⟨ok_X8_ways, tb2 238 rfl rfl, tb2 184 rfl rfl⟩
theorem cS_X8_88 (mi : MI) (hm : mi.1.cls = RX8) : CS mi 88 mX8_oneOfTwo 4 := by
  unfold CS
  rw [hm]
  exact ⟨ok_X8_oneOfTwo, tb2 189 rfl rfl, tb2 190 rfl rfl⟩
theorem cS_X8_92 (mi : MI) (hm : mi.1.cls = RX8) : CS mi 92 mX8_threes 1 := by
  unfold CS
  rw [hm]
  exact ⟨ok_X8_threes, tb2 192 rfl rfl, tb2 193 rfl rfl⟩
theorem cS_X9_53 (mi : MI) (hm : mi.1.cls = RX9) : CS mi 53 mX9_isEven 4 := by
  unfold CS
  rw [hm]
  exact ⟨ok_X9_isEven, tb2 46 rfl rfl, tb2 47 rfl rfl⟩
theorem cVN_X11_342 (mi : MI) (hm : mi.1.cls = RX11) : CVN mi 342 mX2_lets 2 2 "VotedFor" := by
  unfold CVN
  rw [hm]
  exact ⟨ok_X2_lets, List.mem_of_getElem? (i := 8) rfl, tb4 200 rfl rfl, tbp 33 (by decide +kernel) rfl, _, rfl, rfl⟩
theorem cVN_X11_345 (mi : MI) (hm : mi.1.cls = RX11) : CVN mi 345 mX2_narrows 2 2 "VotedFor" := by
  unfold CVN
  rw [hm]
  exact ⟨ok_X2_narrows, List.mem_of_getElem? (i := 9) rfl, tb4 214 rfl rfl, tbp 34 (by decide +kernel) rfl, _, rfl, rfl⟩
theorem cVN_X11_348 (mi : MI) (hm : mi.1.cls = RX11) : CVN mi 348 mX2_proves 2 2 "VotedFor" := by
  unfold CVN
  rw [hm]
  exact ⟨ok_X2_proves, List.mem_of_getElem? (i := 10) rfl, tb4 219 rfl rfl, tbp 35 (by decide +kernel) rfl, _, rfl, rfl⟩
theorem cVN_X11_351 (mi : MI) (hm : mi.1.cls = RX11) : CVN mi 351 mX2_tells 2 2 "VotedFor" := by
  unfold CVN
  rw [hm]
  exact ⟨ok_X2_tells, List.mem_of_getElem? (i := 11) rfl, tb4 224 rfl rfl, tbp 36 (by decide +kernel) rfl, _, rfl, rfl⟩
theorem cV_L_101 (mi : MI) (hm : mi.1.cls = RL) : CV mi 101 mX12_line 2 12 := by
  unfold CV
  rw [hm]
  exact ⟨ok_X12_line, tb6 228 rfl rfl, tb6 229 rfl rfl, tb6 230 rfl rfl, _, rfl, rfl⟩
theorem cV_L_102 (mi : MI) (hm : mi.1.cls = RL) : CV mi 102 mX11_wrong 2 11 := by
  unfold CV
  rw [hm]
  exact ⟨ok_X11_wrong, tb4 76 rfl rfl, tb4 77 rfl rfl, tb4 78 rfl rfl, _, rfl, rfl⟩
theorem cV_L_105 (mi : MI) (hm : mi.1.cls = RL) : CV mi 105 mX12_wrong 2 12 := by
  unfold CV
  rw [hm]
  exact ⟨ok_X12_wrong, tb7 1 rfl rfl, tb7 2 rfl rfl, tb7 3 rfl rfl, _, rfl, rfl⟩
theorem cV_L_106 (mi : MI) (hm : mi.1.cls = RL) : CV mi 106 mX11_second 2 11 := by
  unfold CV
  rw [hm]
  exact ⟨ok_X11_second, tb4 84 rfl rfl, tb4 85 rfl rfl, tb4 86 rfl rfl, _, rfl, rfl⟩
theorem cV_L_110 (mi : MI) (hm : mi.1.cls = RL) : CV mi 110 mX12_second 2 12 := by
  unfold CV
  rw [hm]
  exact ⟨ok_X12_second, tb7 5 rfl rfl, tb7 6 rfl rfl, tb7 7 rfl rfl, _, rfl, rfl⟩
theorem cV_L_111 (mi : MI) (hm : mi.1.cls = RL) : CV mi 111 mX11_split 3 11 := by
  unfold CV
  rw [hm]
  exact ⟨ok_X11_split, tb4 93 rfl rfl, tb4 94 rfl rfl, tb4 95 rfl rfl, _, rfl, rfl⟩
theorem cV_L_114 (mi : MI) (hm : mi.1.cls = RL) : CV mi 114 mX12_split 3 12 := by
  unfold CV
  rw [hm]
  exact ⟨ok_X12_split, tb7 11 rfl rfl, tb7 12 rfl rfl, tb7 13 rfl rfl, _, rfl, rfl⟩
theorem cV_L_115 (mi : MI) (hm : mi.1.cls = RL) : CV mi 115 mX11_splits 2 11 := by
  unfold CV
  rw [hm]
  exact ⟨ok_X11_splits, tb4 98 rfl rfl, tb4 99 rfl rfl, tb4 100 rfl rfl, _, rfl, rfl⟩
theorem cV_L_118 (mi : MI) (hm : mi.1.cls = RL) : CV mi 118 mX12_splits 2 12 := by
  unfold CV
  rw [hm]
  exact ⟨ok_X12_splits, tb7 15 rfl rfl, tb7 16 rfl rfl, tb7 17 rfl rfl, _, rfl, rfl⟩
theorem cV_L_119 (mi : MI) (hm : mi.1.cls = RL) : CV mi 119 mX11_changed 2 11 := by
  unfold CV
  rw [hm]
  exact ⟨ok_X11_changed, tb4 112 rfl rfl, tb4 113 rfl rfl, tb4 114 rfl rfl, _, rfl, rfl⟩
theorem cV_L_122 (mi : MI) (hm : mi.1.cls = RL) : CV mi 122 mX12_changed 2 12 := by
  unfold CV
  rw [hm]
  exact ⟨ok_X12_changed, tb7 19 rfl rfl, tb7 20 rfl rfl, tb7 21 rfl rfl, _, rfl, rfl⟩
theorem cV_L_123 (mi : MI) (hm : mi.1.cls = RL) : CV mi 123 mX11_parted 4 11 := by
  unfold CV
  rw [hm]
  exact ⟨ok_X11_parted, tb4 124 rfl rfl, tb4 125 rfl rfl, tb4 126 rfl rfl, _, rfl, rfl⟩
theorem cV_L_126 (mi : MI) (hm : mi.1.cls = RL) : CV mi 126 mX12_parted 4 12 := by
  unfold CV
  rw [hm]
  exact ⟨ok_X12_parted, tb7 27 rfl rfl, tb7 28 rfl rfl, tb7 29 rfl rfl, _, rfl, rfl⟩
theorem cV_L_127 (mi : MI) (hm : mi.1.cls = RL) : CV mi 127 mX11_weight 3 11 := by
  unfold CV
  rw [hm]
  exact ⟨ok_X11_weight, tb4 128 rfl rfl, tb4 129 rfl rfl, tb4 130 rfl rfl, _, rfl, rfl⟩
theorem cV_L_13 (mi : MI) (hm : mi.1.cls = RL) : CV mi 13 mX11_feed 2 11 := by
  unfold CV
  rw [hm]
  exact ⟨ok_X11_feed, tb2 6 rfl rfl, tb2 7 rfl rfl, tb2 8 rfl rfl, _, rfl, rfl⟩
theorem cV_L_130 (mi : MI) (hm : mi.1.cls = RL) : CV mi 130 mX12_weight 3 12 := by
  unfold CV
  rw [hm]
  exact ⟨ok_X12_weight, tb7 31 rfl rfl, tb7 32 rfl rfl, tb7 33 rfl rfl, _, rfl, rfl⟩
theorem cV_L_131 (mi : MI) (hm : mi.1.cls = RL) : CV mi 131 mX11_likeliest 2 11 := by
  unfold CV
  rw [hm]
  exact ⟨ok_X11_likeliest, tb4 132 rfl rfl, tb4 133 rfl rfl, tb4 134 rfl rfl, _, rfl, rfl⟩
theorem cV_L_134 (mi : MI) (hm : mi.1.cls = RL) : CV mi 134 mX12_likeliest 2 12 := by
  unfold CV
  rw [hm]
  exact ⟨ok_X12_likeliest, tb7 35 rfl rfl, tb7 36 rfl rfl, tb7 37 rfl rfl, _, rfl, rfl⟩
theorem cV_L_135 (mi : MI) (hm : mi.1.cls = RL) : CV mi 135 mX11_weighs 2 11 := by
  unfold CV
  rw [hm]
  exact ⟨ok_X11_weighs, tb4 157 rfl rfl, tb4 158 rfl rfl, tb4 159 rfl rfl, _, rfl, rfl⟩
theorem cV_L_138 (mi : MI) (hm : mi.1.cls = RL) : CV mi 138 mX12_weighs 2 12 := by
  unfold CV
  rw [hm]
  exact ⟨ok_X12_weighs, tb7 51 rfl rfl, tb7 52 rfl rfl, tb7 53 rfl rfl, _, rfl, rfl⟩
theorem cV_L_139 (mi : MI) (hm : mi.1.cls = RL) : CV mi 139 mX11_chance 3 11 := by
  unfold CV
  rw [hm]
  exact ⟨ok_X11_chance, tb4 161 rfl rfl, tb4 162 rfl rfl, tb4 163 rfl rfl, _, rfl, rfl⟩
theorem cV_L_142 (mi : MI) (hm : mi.1.cls = RL) : CV mi 142 mX12_chance 3 12 := by
  unfold CV
  rw [hm]
  exact ⟨ok_X12_chance, tb7 55 rfl rfl, tb7 56 rfl rfl, tb7 57 rfl rfl, _, rfl, rfl⟩
theorem cV_L_143 (mi : MI) (hm : mi.1.cls = RL) : CV mi 143 mX11_knowing 1 11 := by
  unfold CV
  rw [hm]
  exact ⟨ok_X11_knowing, tb4 170 rfl rfl, tb4 171 rfl rfl, tb4 172 rfl rfl, _, rfl, rfl⟩
theorem cV_L_147 (mi : MI) (hm : mi.1.cls = RL) : CV mi 147 mX12_knowing 1 12 := by
  unfold CV
  rw [hm]
  exact ⟨ok_X12_knowing, tb7 59 rfl rfl, tb7 60 rfl rfl, tb7 61 rfl rfl, _, rfl, rfl⟩
theorem cV_L_148 (mi : MI) (hm : mi.1.cls = RL) : CV mi 148 mX11_act 3 11 := by
  unfold CV
  rw [hm]
  exact ⟨ok_X11_act, tb4 190 rfl rfl, tb4 191 rfl rfl, tb4 192 rfl rfl, _, rfl, rfl⟩
theorem cV_L_151 (mi : MI) (hm : mi.1.cls = RL) : CV mi 151 mX12_act 3 12 := by
  unfold CV
  rw [hm]
  exact ⟨ok_X12_act, tb7 63 rfl rfl, tb7 64 rfl rfl, tb7 65 rfl rfl, _, rfl, rfl⟩
theorem cV_L_152 (mi : MI) (hm : mi.1.cls = RL) : CV mi 152 mX11_trace 1 11 := by
  unfold CV
  rw [hm]
  exact ⟨ok_X11_trace, tb4 227 rfl rfl, tb4 228 rfl rfl, tb4 229 rfl rfl, _, rfl, rfl⟩
theorem cV_L_155 (mi : MI) (hm : mi.1.cls = RL) : CV mi 155 mX12_trace 1 12 := by
  unfold CV
  rw [hm]
  exact ⟨ok_X12_trace, tb7 94 rfl rfl, tb7 95 rfl rfl, tb7 96 rfl rfl, _, rfl, rfl⟩
theorem cV_L_156 (mi : MI) (hm : mi.1.cls = RL) : CV mi 156 mX11_keep 2 11 := by
  unfold CV
  rw [hm]
  exact ⟨ok_X11_keep, tb4 236 rfl rfl, tb4 237 rfl rfl, tb4 238 rfl rfl, _, rfl, rfl⟩
theorem cV_L_159 (mi : MI) (hm : mi.1.cls = RL) : CV mi 159 mX12_keep 2 12 := by
  unfold CV
  rw [hm]
  exact ⟨ok_X12_keep, tb7 98 rfl rfl, tb7 99 rfl rfl, tb7 100 rfl rfl, _, rfl, rfl⟩
theorem cV_L_160 (mi : MI) (hm : mi.1.cls = RL) : CV mi 160 mX11_row 3 11 := by
  unfold CV
  rw [hm]
  exact ⟨ok_X11_row, tb5 4 rfl rfl, tb5 5 rfl rfl, tb5 6 rfl rfl, _, rfl, rfl⟩
theorem cV_L_163 (mi : MI) (hm : mi.1.cls = RL) : CV mi 163 mX12_row 3 12 := by
  unfold CV
  rw [hm]
  exact ⟨ok_X12_row, tb7 105 rfl rfl, tb7 106 rfl rfl, tb7 107 rfl rfl, _, rfl, rfl⟩
theorem cV_L_164 (mi : MI) (hm : mi.1.cls = RL) : CV mi 164 mX11_put 3 11 := by
  unfold CV
  rw [hm]
  exact ⟨ok_X11_put, tb5 12 rfl rfl, tb5 13 rfl rfl, tb5 14 rfl rfl, _, rfl, rfl⟩
theorem cV_L_168 (mi : MI) (hm : mi.1.cls = RL) : CV mi 168 mX12_put 3 12 := by
  unfold CV
  rw [hm]
  exact ⟨ok_X12_put, tb7 109 rfl rfl, tb7 110 rfl rfl, tb7 111 rfl rfl, _, rfl, rfl⟩
theorem cV_L_169 (mi : MI) (hm : mi.1.cls = RL) : CV mi 169 mX11_element 2 11 := by
  unfold CV
  rw [hm]
  exact ⟨ok_X11_element, tb5 27 rfl rfl, tb5 28 rfl rfl, tb5 29 rfl rfl, _, rfl, rfl⟩
theorem cV_L_17 (mi : MI) (hm : mi.1.cls = RL) : CV mi 17 mX12_feed 2 12 := by
  unfold CV
  rw [hm]
  exact ⟨ok_X12_feed, tb5 205 rfl rfl, tb5 206 rfl rfl, tb5 207 rfl rfl, _, rfl, rfl⟩
theorem cV_L_173 (mi : MI) (hm : mi.1.cls = RL) : CV mi 173 mX12_element 2 12 := by
  unfold CV
  rw [hm]
  exact ⟨ok_X12_element, tb7 117 rfl rfl, tb7 118 rfl rfl, tb7 119 rfl rfl, _, rfl, rfl⟩
theorem cV_L_174 (mi : MI) (hm : mi.1.cls = RL) : CV mi 174 mX11_shift 5 11 := by
  unfold CV
  rw [hm]
  exact ⟨ok_X11_shift, tb5 32 rfl rfl, tb5 33 rfl rfl, tb5 34 rfl rfl, _, rfl, rfl⟩
theorem cV_L_177 (mi : MI) (hm : mi.1.cls = RL) : CV mi 177 mX12_shift 5 12 := by
  unfold CV
  rw [hm]
  exact ⟨ok_X12_shift, tb7 122 rfl rfl, tb7 123 rfl rfl, tb7 124 rfl rfl, _, rfl, rfl⟩
theorem cV_L_178 (mi : MI) (hm : mi.1.cls = RL) : CV mi 178 mX11_taken 2 11 := by
  unfold CV
  rw [hm]
  exact ⟨ok_X11_taken, tb5 37 rfl rfl, tb5 38 rfl rfl, tb5 39 rfl rfl, _, rfl, rfl⟩
theorem cV_L_18 (mi : MI) (hm : mi.1.cls = RL) : CV mi 18 mX11_matter 0 11 := by
  unfold CV
  rw [hm]
  exact ⟨ok_X11_matter, tb2 14 rfl rfl, tb2 15 rfl rfl, tb2 16 rfl rfl, _, rfl, rfl⟩
theorem cV_L_181 (mi : MI) (hm : mi.1.cls = RL) : CV mi 181 mX12_taken 2 12 := by
  unfold CV
  rw [hm]
  exact ⟨ok_X12_taken, tb7 126 rfl rfl, tb7 127 rfl rfl, tb7 128 rfl rfl, _, rfl, rfl⟩
theorem cV_L_182 (mi : MI) (hm : mi.1.cls = RL) : CV mi 182 mX11_boxes 4 11 := by
  unfold CV
  rw [hm]
  exact ⟨ok_X11_boxes, tb5 45 rfl rfl, tb5 46 rfl rfl, tb5 47 rfl rfl, _, rfl, rfl⟩
theorem cV_L_185 (mi : MI) (hm : mi.1.cls = RL) : CV mi 185 mX12_boxes 4 12 := by
  unfold CV
  rw [hm]
  exact ⟨ok_X12_boxes, tb7 130 rfl rfl, tb7 131 rfl rfl, tb7 132 rfl rfl, _, rfl, rfl⟩
theorem cV_L_186 (mi : MI) (hm : mi.1.cls = RL) : CV mi 186 mX11_count 1 11 := by
  unfold CV
  rw [hm]
  exact ⟨ok_X11_count, tb5 50 rfl rfl, tb5 51 rfl rfl, tb5 52 rfl rfl, _, rfl, rfl⟩
theorem cV_L_189 (mi : MI) (hm : mi.1.cls = RL) : CV mi 189 mX12_count 1 12 := by
  unfold CV
  rw [hm]
  exact ⟨ok_X12_count, tb7 139 rfl rfl, tb7 140 rfl rfl, tb7 141 rfl rfl, _, rfl, rfl⟩
theorem cV_L_22 (mi : MI) (hm : mi.1.cls = RL) : CV mi 22 mX12_matter 0 12 := by
  unfold CV
  rw [hm]
  exact ⟨ok_X12_matter, tb5 212 rfl rfl, tb5 213 rfl rfl, tb5 214 rfl rfl, _, rfl, rfl⟩
theorem cV_L_23 (mi : MI) (hm : mi.1.cls = RL) : CV mi 23 mX11_of 2 11 := by
  unfold CV
  rw [hm]
  exact ⟨ok_X11_of, tb2 158 rfl rfl, tb2 159 rfl rfl, tb2 160 rfl rfl, _, rfl, rfl⟩
theorem cV_L_26 (mi : MI) (hm : mi.1.cls = RL) : CV mi 26 mX12_of 2 12 := by
  unfold CV
  rw [hm]
  exact ⟨ok_X12_of, tb6 8 rfl rfl, tb6 9 rfl rfl, tb6 10 rfl rfl, _, rfl, rfl⟩
theorem cV_L_27 (mi : MI) (hm : mi.1.cls = RL) : CV mi 27 mX11_sum 2 11 := by
  unfold CV
  rw [hm]
  exact ⟨ok_X11_sum, tb2 166 rfl rfl, tb2 167 rfl rfl, tb2 168 rfl rfl, _, rfl, rfl⟩
theorem cV_L_30 (mi : MI) (hm : mi.1.cls = RL) : CV mi 30 mX12_sum 2 12 := by
  unfold CV
  rw [hm]
  exact ⟨ok_X12_sum, tb6 16 rfl rfl, tb6 17 rfl rfl, tb6 18 rfl rfl, _, rfl, rfl⟩
theorem cV_L_31 (mi : MI) (hm : mi.1.cls = RL) : CV mi 31 mX11_many 1 11 := by
  unfold CV
  rw [hm]
  exact ⟨ok_X11_many, tb2 174 rfl rfl, tb2 175 rfl rfl, tb2 176 rfl rfl, _, rfl, rfl⟩
theorem cV_L_35 (mi : MI) (hm : mi.1.cls = RL) : CV mi 35 mX12_many 1 12 := by
  unfold CV
  rw [hm]
  exact ⟨ok_X12_many, tb6 24 rfl rfl, tb6 25 rfl rfl, tb6 26 rfl rfl, _, rfl, rfl⟩
theorem cV_L_38 (mi : MI) (hm : mi.1.cls = RL) : CV mi 38 mX11_table 3 11 := by
  unfold CV
  rw [hm]
  exact ⟨ok_X11_table, tb2 201 rfl rfl, tb2 202 rfl rfl, tb2 203 rfl rfl, _, rfl, rfl⟩
theorem cV_L_42 (mi : MI) (hm : mi.1.cls = RL) : CV mi 42 mX12_table 3 12 := by
  unfold CV
  rw [hm]
  exact ⟨ok_X12_table, tb6 49 rfl rfl, tb6 50 rfl rfl, tb6 51 rfl rfl, _, rfl, rfl⟩
theorem cV_L_43 (mi : MI) (hm : mi.1.cls = RL) : CV mi 43 mX11_drawn 3 11 := by
  unfold CV
  rw [hm]
  exact ⟨ok_X11_drawn, tb2 239 rfl rfl, tb3 0 rfl rfl, tb3 1 rfl rfl, _, rfl, rfl⟩
theorem cV_L_46 (mi : MI) (hm : mi.1.cls = RL) : CV mi 46 mX12_drawn 3 12 := by
  unfold CV
  rw [hm]
  exact ⟨ok_X12_drawn, tb6 76 rfl rfl, tb6 77 rfl rfl, tb6 78 rfl rfl, _, rfl, rfl⟩
theorem cV_L_47 (mi : MI) (hm : mi.1.cls = RL) : CV mi 47 mX11_may 3 11 := by
  unfold CV
  rw [hm]
  exact ⟨ok_X11_may, tb3 5 rfl rfl, tb3 6 rfl rfl, tb3 7 rfl rfl, _, rfl, rfl⟩
theorem cV_L_51 (mi : MI) (hm : mi.1.cls = RL) : CV mi 51 mX12_may 3 12 := by
  unfold CV
  rw [hm]
  exact ⟨ok_X12_may, tb6 82 rfl rfl, tb6 83 rfl rfl, tb6 84 rfl rfl, _, rfl, rfl⟩
theorem cV_L_52 (mi : MI) (hm : mi.1.cls = RL) : CV mi 52 mX11_open 3 11 := by
  unfold CV
  rw [hm]
  exact ⟨ok_X11_open, tb3 33 rfl rfl, tb3 34 rfl rfl, tb3 35 rfl rfl, _, rfl, rfl⟩
theorem cV_L_55 (mi : MI) (hm : mi.1.cls = RL) : CV mi 55 mX12_open 3 12 := by
  unfold CV
  rw [hm]
  exact ⟨ok_X12_open, tb6 98 rfl rfl, tb6 99 rfl rfl, tb6 100 rfl rfl, _, rfl, rfl⟩
theorem cV_L_56 (mi : MI) (hm : mi.1.cls = RL) : CV mi 56 mX11_ends 3 11 := by
  unfold CV
  rw [hm]
  exact ⟨ok_X11_ends, tb3 42 rfl rfl, tb3 43 rfl rfl, tb3 44 rfl rfl, _, rfl, rfl⟩
theorem cV_L_59 (mi : MI) (hm : mi.1.cls = RL) : CV mi 59 mX12_ends 3 12 := by
  unfold CV
  rw [hm]
  exact ⟨ok_X12_ends, tb6 102 rfl rfl, tb6 103 rfl rfl, tb6 104 rfl rfl, _, rfl, rfl⟩
theorem cV_L_60 (mi : MI) (hm : mi.1.cls = RL) : CV mi 60 mX11_inAll 3 11 := by
  unfold CV
  rw [hm]
  exact ⟨ok_X11_inAll, tb3 64 rfl rfl, tb3 65 rfl rfl, tb3 66 rfl rfl, _, rfl, rfl⟩
theorem cV_L_63 (mi : MI) (hm : mi.1.cls = RL) : CV mi 63 mX12_inAll 3 12 := by
  unfold CV
  rw [hm]
  exact ⟨ok_X12_inAll, tb6 114 rfl rfl, tb6 115 rfl rfl, tb6 116 rfl rfl, _, rfl, rfl⟩
theorem cV_L_64 (mi : MI) (hm : mi.1.cls = RL) : CV mi 64 mX11_sure 2 11 := by
  unfold CV
  rw [hm]
  exact ⟨ok_X11_sure, tb3 79 rfl rfl, tb3 80 rfl rfl, tb3 81 rfl rfl, _, rfl, rfl⟩
theorem cV_L_67 (mi : MI) (hm : mi.1.cls = RL) : CV mi 67 mX12_sure 2 12 := by
  unfold CV
  rw [hm]
  exact ⟨ok_X12_sure, tb6 131 rfl rfl, tb6 132 rfl rfl, tb6 133 rfl rfl, _, rfl, rfl⟩
theorem cV_L_68 (mi : MI) (hm : mi.1.cls = RL) : CV mi 68 mX11_next 2 11 := by
  unfold CV
  rw [hm]
  exact ⟨ok_X11_next, tb3 93 rfl rfl, tb3 94 rfl rfl, tb3 95 rfl rfl, _, rfl, rfl⟩
theorem cV_L_71 (mi : MI) (hm : mi.1.cls = RL) : CV mi 71 mX12_next 2 12 := by
  unfold CV
  rw [hm]
  exact ⟨ok_X12_next, tb6 139 rfl rfl, tb6 140 rfl rfl, tb6 141 rfl rfl, _, rfl, rfl⟩
theorem cV_L_72 (mi : MI) (hm : mi.1.cls = RL) : CV mi 72 mX11_opens 3 11 := by
  unfold CV
  rw [hm]
  exact ⟨ok_X11_opens, tb3 101 rfl rfl, tb3 102 rfl rfl, tb3 103 rfl rfl, _, rfl, rfl⟩
theorem cV_L_75 (mi : MI) (hm : mi.1.cls = RL) : CV mi 75 mX12_opens 3 12 := by
  unfold CV
  rw [hm]
  exact ⟨ok_X12_opens, tb6 147 rfl rfl, tb6 148 rfl rfl, tb6 149 rfl rfl, _, rfl, rfl⟩
theorem cV_L_76 (mi : MI) (hm : mi.1.cls = RL) : CV mi 76 mX11_hold 5 11 := by
  unfold CV
  rw [hm]
  exact ⟨ok_X11_hold, tb3 111 rfl rfl, tb3 112 rfl rfl, tb3 113 rfl rfl, _, rfl, rfl⟩
theorem cV_L_80 (mi : MI) (hm : mi.1.cls = RL) : CV mi 80 mX12_hold 5 12 := by
  unfold CV
  rw [hm]
  exact ⟨ok_X12_hold, tb6 151 rfl rfl, tb6 152 rfl rfl, tb6 153 rfl rfl, _, rfl, rfl⟩
theorem cV_L_81 (mi : MI) (hm : mi.1.cls = RL) : CV mi 81 mX11_by 4 11 := by
  unfold CV
  rw [hm]
  exact ⟨ok_X11_by, tb3 148 rfl rfl, tb3 149 rfl rfl, tb3 150 rfl rfl, _, rfl, rfl⟩
theorem cV_L_85 (mi : MI) (hm : mi.1.cls = RL) : CV mi 85 mX12_by 4 12 := by
  unfold CV
  rw [hm]
  exact ⟨ok_X12_by, tb6 155 rfl rfl, tb6 156 rfl rfl, tb6 157 rfl rfl, _, rfl, rfl⟩
theorem cV_L_86 (mi : MI) (hm : mi.1.cls = RL) : CV mi 86 mX11_none 2 11 := by
  unfold CV
  rw [hm]
  exact ⟨ok_X11_none, tb3 238 rfl rfl, tb3 239 rfl rfl, tb4 0 rfl rfl, _, rfl, rfl⟩
theorem cV_L_89 (mi : MI) (hm : mi.1.cls = RL) : CV mi 89 mX12_none 2 12 := by
  unfold CV
  rw [hm]
  exact ⟨ok_X12_none, tb6 213 rfl rfl, tb6 214 rfl rfl, tb6 215 rfl rfl, _, rfl, rfl⟩
theorem cV_L_90 (mi : MI) (hm : mi.1.cls = RL) : CV mi 90 mX11_claim 4 11 := by
  unfold CV
  rw [hm]
  exact ⟨ok_X11_claim, tb4 18 rfl rfl, tb4 19 rfl rfl, tb4 20 rfl rfl, _, rfl, rfl⟩
theorem cV_L_93 (mi : MI) (hm : mi.1.cls = RL) : CV mi 93 mX12_claim 4 12 := by
  unfold CV
  rw [hm]
  exact ⟨ok_X12_claim, tb6 220 rfl rfl, tb6 221 rfl rfl, tb6 222 rfl rfl, _, rfl, rfl⟩
theorem cV_L_94 (mi : MI) (hm : mi.1.cls = RL) : CV mi 94 mX11_must 4 11 := by
  unfold CV
  rw [hm]
  exact ⟨ok_X11_must, tb4 22 rfl rfl, tb4 23 rfl rfl, tb4 24 rfl rfl, _, rfl, rfl⟩
theorem cV_L_97 (mi : MI) (hm : mi.1.cls = RL) : CV mi 97 mX12_must 4 12 := by
  unfold CV
  rw [hm]
  exact ⟨ok_X12_must, tb6 224 rfl rfl, tb6 225 rfl rfl, tb6 226 rfl rfl, _, rfl, rfl⟩
theorem cV_L_98 (mi : MI) (hm : mi.1.cls = RL) : CV mi 98 mX11_line 2 11 := by
  unfold CV
  rw [hm]
  exact ⟨ok_X11_line, tb4 34 rfl rfl, tb4 35 rfl rfl, tb4 36 rfl rfl, _, rfl, rfl⟩
theorem cV_X0_63 (mi : MI) (hm : mi.1.cls = RX0) : CV mi 63 mX0_most 1 0 := by
  unfold CV
  rw [hm]
  exact ⟨ok_X0_most, tb3 91 rfl rfl, tb3 61 rfl rfl, tb3 62 rfl rfl, _, rfl, rfl⟩
theorem cV_X0_67 (mi : MI) (hm : mi.1.cls = RX0) : CV mi 67 mX0_least 1 0 := by
  unfold CV
  rw [hm]
  exact ⟨ok_X0_least, tb3 92 rfl rfl, tb3 50 rfl rfl, tb3 51 rfl rfl, _, rfl, rfl⟩
theorem cV_X0_70 (mi : MI) (hm : mi.1.cls = RX0) : CV mi 70 mX0_rowSum 3 0 := by
  unfold CV
  rw [hm]
  exact ⟨ok_X0_rowSum, tb3 25 rfl rfl, tb3 27 rfl rfl, tbp 13 (by decide +kernel) rfl, _, rfl, rfl⟩
theorem cV_X0_74 (mi : MI) (hm : mi.1.cls = RX0) : CV mi 74 mX0_columnSum 3 0 := by
  unfold CV
  rw [hm]
  exact ⟨ok_X0_columnSum, tb3 29 rfl rfl, tb3 31 rfl rfl, tbp 14 (by decide +kernel) rfl, _, rfl, rfl⟩
theorem cV_X0_88 (mi : MI) (hm : mi.1.cls = RX0) : CV mi 88 mX0_cutSum 2 0 := by
  unfold CV
  rw [hm]
  exact ⟨ok_X0_cutSum, tb4 120 rfl rfl, tb4 122 rfl rfl, tbp 28 (by decide +kernel) rfl, _, rfl, rfl⟩
theorem cV_X11_109 (mi : MI) (hm : mi.1.cls = RX11) : CV mi 109 mX11_boxAt 1 11 := by
  unfold CV
  rw [hm]
  exact ⟨ok_X11_boxAt, tb2 170 rfl rfl, tb2 172 rfl rfl, tbp 6 (by decide +kernel) rfl, _, rfl, rfl⟩
theorem cV_X11_130 (mi : MI) (hm : mi.1.cls = RX11) : CV mi 130 mX0_howMany 0 0 := by
  unfold CV
  rw [hm]
  exact ⟨ok_X0_howMany, tb2 179 rfl rfl, tb2 180 rfl rfl, tb2 181 rfl rfl, _, rfl, rfl⟩
theorem cV_X11_142 (mi : MI) (hm : mi.1.cls = RX11) : CV mi 142 mX8_goTo 2 8 := by
  unfold CV
  rw [hm]
  exact ⟨ok_X8_goTo, tb2 211 rfl rfl, tb2 212 rfl rfl, tb2 213 rfl rfl, _, rfl, rfl⟩
theorem cV_X11_153 (mi : MI) (hm : mi.1.cls = RX11) : CV mi 153 mX11_shelfAt 1 11 := by
  unfold CV
  rw [hm]
  exact ⟨ok_X11_shelfAt, tb3 9 rfl rfl, tb3 11 rfl rfl, tbp 12 (by decide +kernel) rfl, _, rfl, rfl⟩
theorem cV_X11_157 (mi : MI) (hm : mi.1.cls = RX11) : CV mi 157 mX7_isEmpty 0 7 := by
  unfold CV
  rw [hm]
  exact ⟨ok_X7_isEmpty, tb3 13 rfl rfl, tb3 14 rfl rfl, tb3 15 rfl rfl, _, rfl, rfl⟩
theorem cV_X11_163 (mi : MI) (hm : mi.1.cls = RX11) : CV mi 163 mX7_has 2 7 := by
  unfold CV
  rw [hm]
  exact ⟨ok_X7_has, tb3 17 rfl rfl, tb3 18 rfl rfl, tb3 19 rfl rfl, _, rfl, rfl⟩
theorem cV_X11_171 (mi : MI) (hm : mi.1.cls = RX11) : CV mi 171 mX0_firstWrongCell 2 0 := by
  unfold CV
  rw [hm]
  exact ⟨ok_X0_firstWrongCell, tb3 21 rfl rfl, tb3 22 rfl rfl, tb3 23 rfl rfl, _, rfl, rfl⟩
theorem cV_X11_175 (mi : MI) (hm : mi.1.cls = RX11) : CV mi 175 mX11_may 3 11 := by
  unfold CV
  rw [hm]
  exact ⟨ok_X11_may, tb3 37 rfl rfl, tb3 6 rfl rfl, tb3 7 rfl rfl, _, rfl, rfl⟩
theorem cV_X11_183 (mi : MI) (hm : mi.1.cls = RX11) : CV mi 183 mX0_see 2 0 := by
  unfold CV
  rw [hm]
  exact ⟨ok_X0_see, tb3 38 rfl rfl, tb3 39 rfl rfl, tb3 40 rfl rfl, _, rfl, rfl⟩
theorem cV_X11_191 (mi : MI) (hm : mi.1.cls = RX11) : CV mi 191 mX0_least 1 0 := by
  unfold CV
  rw [hm]
  exact ⟨ok_X0_least, tb3 49 rfl rfl, tb3 50 rfl rfl, tb3 51 rfl rfl, _, rfl, rfl⟩
theorem cV_X11_195 (mi : MI) (hm : mi.1.cls = RX11) : CV mi 195 mX0_most 1 0 := by
  unfold CV
  rw [hm]
  exact ⟨ok_X0_most, tb3 60 rfl rfl, tb3 61 rfl rfl, tb3 62 rfl rfl, _, rfl, rfl⟩
theorem cV_X11_203 (mi : MI) (hm : mi.1.cls = RX11) : CV mi 203 mX6_endInAll 2 6 := by
  unfold CV
  rw [hm]
  exact ⟨ok_X6_endInAll, tb3 69 rfl rfl, tb3 70 rfl rfl, tb3 71 rfl rfl, _, rfl, rfl⟩
theorem cV_X11_207 (mi : MI) (hm : mi.1.cls = RX11) : CV mi 207 mX6_groupInAll 1 6 := by
  unfold CV
  rw [hm]
  exact ⟨ok_X6_groupInAll, tb3 75 rfl rfl, tb3 76 rfl rfl, tb3 77 rfl rfl, _, rfl, rfl⟩
theorem cV_X11_210 (mi : MI) (hm : mi.1.cls = RX11) : CV mi 210 mX6_sureBoxes 1 6 := by
  unfold CV
  rw [hm]
  exact ⟨ok_X6_sureBoxes, tb3 83 rfl rfl, tb3 84 rfl rfl, tb3 85 rfl rfl, _, rfl, rfl⟩
theorem cV_X11_213 (mi : MI) (hm : mi.1.cls = RX11) : CV mi 213 mX6_widest 2 6 := by
  unfold CV
  rw [hm]
  exact ⟨ok_X6_widest, tb3 97 rfl rfl, tb3 98 rfl rfl, tb3 99 rfl rfl, _, rfl, rfl⟩
theorem cV_X11_216 (mi : MI) (hm : mi.1.cls = RX11) : CV mi 216 mX6_openingsTill 2 6 := by
  unfold CV
  rw [hm]
  exact ⟨ok_X6_openingsTill, tb3 105 rfl rfl, tb3 106 rfl rfl, tb3 107 rfl rfl, _, rfl, rfl⟩
theorem cV_X11_227 (mi : MI) (hm : mi.1.cls = RX11) : CV mi 227 mX1_isOfTwo 0 1 := by
  unfold CV
  rw [hm]
  exact ⟨ok_X1_isOfTwo, tb3 144 rfl rfl, tb3 145 rfl rfl, tb3 146 rfl rfl, _, rfl, rfl⟩
theorem cV_X11_237 (mi : MI) (hm : mi.1.cls = RX11) : CV mi 237 mX6_hasTold 1 6 := by
  unfold CV
  rw [hm]
  exact ⟨ok_X6_hasTold, tb3 152 rfl rfl, tb3 153 rfl rfl, tb3 154 rfl rfl, _, rfl, rfl⟩
theorem cV_X11_240 (mi : MI) (hm : mi.1.cls = RX11) : CV mi 240 mX6_isTooMany 1 6 := by
  unfold CV
  rw [hm]
  exact ⟨ok_X6_isTooMany, tb3 156 rfl rfl, tb3 157 rfl rfl, tb3 158 rfl rfl, _, rfl, rfl⟩
theorem cV_X11_243 (mi : MI) (hm : mi.1.cls = RX11) : CV mi 243 mX3_goThrough 3 3 := by
  unfold CV
  rw [hm]
  exact ⟨ok_X3_goThrough, tb3 171 rfl rfl, tb3 172 rfl rfl, tb3 173 rfl rfl, _, rfl, rfl⟩
theorem cV_X11_254 (mi : MI) (hm : mi.1.cls = RX11) : CV mi 254 mX3_leastNone 2 3 := by
  unfold CV
  rw [hm]
  exact ⟨ok_X3_leastNone, tb4 2 rfl rfl, tb4 3 rfl rfl, tb4 4 rfl rfl, _, rfl, rfl⟩
theorem cV_X11_257 (mi : MI) (hm : mi.1.cls = RX11) : CV mi 257 mX3_leastProof 4 3 := by
  unfold CV
  rw [hm]
  exact ⟨ok_X3_leastProof, tb4 26 rfl rfl, tb4 27 rfl rfl, tb4 28 rfl rfl, _, rfl, rfl⟩
theorem cV_X11_266 (mi : MI) (hm : mi.1.cls = RX11) : CV mi 266 mX5_stands 0 5 := by
  unfold CV
  rw [hm]
  exact ⟨ok_X5_stands, tb4 60 rfl rfl, tb4 61 rfl rfl, tb4 62 rfl rfl, _, rfl, rfl⟩
theorem cV_X11_269 (mi : MI) (hm : mi.1.cls = RX11) : CV mi 269 mX5_at 1 5 := by
  unfold CV
  rw [hm]
  exact ⟨ok_X5_at, tb4 68 rfl rfl, tb4 69 rfl rfl, tb4 70 rfl rfl, _, rfl, rfl⟩
theorem cV_X11_275 (mi : MI) (hm : mi.1.cls = RX11) : CV mi 275 mX0_isBeyondEnds 1 0 := by
  unfold CV
  rw [hm]
  exact ⟨ok_X0_isBeyondEnds, tb4 80 rfl rfl, tb4 81 rfl rfl, tb4 82 rfl rfl, _, rfl, rfl⟩
theorem cV_X11_278 (mi : MI) (hm : mi.1.cls = RX11) : CV mi 278 mX0_tellLater 1 0 := by
  unfold CV
  rw [hm]
  exact ⟨ok_X0_tellLater, tb4 88 rfl rfl, tb4 89 rfl rfl, tb4 90 rfl rfl, _, rfl, rfl⟩
theorem cV_X11_292 (mi : MI) (hm : mi.1.cls = RX11) : CV mi 292 mX0_leastSplit 0 0 := by
  unfold CV
  rw [hm]
  exact ⟨ok_X0_leastSplit, tb4 102 rfl rfl, tb4 103 rfl rfl, tb4 104 rfl rfl, _, rfl, rfl⟩
theorem cV_X11_295 (mi : MI) (hm : mi.1.cls = RX11) : CV mi 295 mX0_mostSplit 0 0 := by
  unfold CV
  rw [hm]
  exact ⟨ok_X0_mostSplit, tb4 107 rfl rfl, tb4 108 rfl rfl, tb4 109 rfl rfl, _, rfl, rfl⟩
theorem cV_X11_298 (mi : MI) (hm : mi.1.cls = RX11) : CV mi 298 mX0_leastChanged 1 0 := by
  unfold CV
  rw [hm]
  exact ⟨ok_X0_leastChanged, tb4 116 rfl rfl, tb4 117 rfl rfl, tb4 118 rfl rfl, _, rfl, rfl⟩
theorem cV_X11_307 (mi : MI) (hm : mi.1.cls = RX11) : CV mi 307 mX4_goThrough 1 4 := by
  unfold CV
  rw [hm]
  exact ⟨ok_X4_goThrough, tb4 137 rfl rfl, tb4 138 rfl rfl, tb4 139 rfl rfl, _, rfl, rfl⟩
theorem cV_X11_320 (mi : MI) (hm : mi.1.cls = RX11) : CV mi 320 mX8_waysWith 3 8 := by
  unfold CV
  rw [hm]
  exact ⟨ok_X8_waysWith, tb4 165 rfl rfl, tb4 166 rfl rfl, tb4 167 rfl rfl, _, rfl, rfl⟩
theorem cV_X11_335 (mi : MI) (hm : mi.1.cls = RX11) : CV mi 335 mX11_knowingAt 1 11 := by
  unfold CV
  rw [hm]
  exact ⟨ok_X11_knowingAt, tb4 194 rfl rfl, tb4 196 rfl rfl, tbp 32 (by decide +kernel) rfl, _, rfl, rfl⟩
theorem cV_X11_354 (mi : MI) (hm : mi.1.cls = RX11) : CV mi 354 mX10_keptCount 0 10 := by
  unfold CV
  rw [hm]
  exact ⟨ok_X10_keptCount, tb4 231 rfl rfl, tb4 232 rfl rfl, tb4 233 rfl rfl, _, rfl, rfl⟩
theorem cV_X11_360 (mi : MI) (hm : mi.1.cls = RX11) : CV mi 360 mX7_holdKnowing 1 7 := by
  unfold CV
  rw [hm]
  exact ⟨ok_X7_holdKnowing, tb5 0 rfl rfl, tb5 1 rfl rfl, tb5 2 rfl rfl, _, rfl, rfl⟩
theorem cV_X11_364 (mi : MI) (hm : mi.1.cls = RX11) : CV mi 364 mX7_holdRow 2 7 := by
  unfold CV
  rw [hm]
  exact ⟨ok_X7_holdRow, tb5 8 rfl rfl, tb5 9 rfl rfl, tb5 10 rfl rfl, _, rfl, rfl⟩
theorem cV_X11_372 (mi : MI) (hm : mi.1.cls = RX11) : CV mi 372 mX7_cutToSort 1 7 := by
  unfold CV
  rw [hm]
  exact ⟨ok_X7_cutToSort, tb5 23 rfl rfl, tb5 24 rfl rfl, tb5 25 rfl rfl, _, rfl, rfl⟩
theorem cV_X11_380 (mi : MI) (hm : mi.1.cls = RX11) : CV mi 380 mX7_isRow 0 7 := by
  unfold CV
  rw [hm]
  exact ⟨ok_X7_isRow, tb5 19 rfl rfl, tb5 20 rfl rfl, tb5 21 rfl rfl, _, rfl, rfl⟩
theorem cV_X11_393 (mi : MI) (hm : mi.1.cls = RX11) : CV mi 393 mX2_isUnder 1 2 := by
  unfold CV
  rw [hm]
  exact ⟨ok_X2_isUnder, tb5 41 rfl rfl, tb5 42 rfl rfl, tb5 43 rfl rfl, _, rfl, rfl⟩
theorem cV_X11_396 (mi : MI) (hm : mi.1.cls = RX11) : CV mi 396 mX6_addBox 2 6 := by
  unfold CV
  rw [hm]
  exact ⟨ok_X6_addBox, tb5 49 rfl rfl, tb2 103 rfl rfl, tb2 104 rfl rfl, _, rfl, rfl⟩
theorem cV_X11_400 (mi : MI) (hm : mi.1.cls = RX11) : CV mi 400 mX11_allBoxes 1 11 := by
  unfold CV
  rw [hm]
  exact ⟨ok_X11_allBoxes, tb5 54 rfl rfl, tb5 56 rfl rfl, tbp 37 (by decide +kernel) rfl, _, rfl, rfl⟩
theorem cV_X11_412 (mi : MI) (hm : mi.1.cls = RX11) : CV mi 412 mX6_openedCount 0 6 := by
  unfold CV
  rw [hm]
  exact ⟨ok_X6_openedCount, tb5 58 rfl rfl, tb5 59 rfl rfl, tb5 60 rfl rfl, _, rfl, rfl⟩
theorem cV_X11_67 (mi : MI) (hm : mi.1.cls = RX11) : CV mi 67 mX9_take 2 9 := by
  unfold CV
  rw [hm]
  exact ⟨ok_X9_take, tb2 10 rfl rfl, tb2 11 rfl rfl, tb2 12 rfl rfl, _, rfl, rfl⟩
theorem cV_X11_78 (mi : MI) (hm : mi.1.cls = RX11) : CV mi 78 mX9_isRead 0 9 := by
  unfold CV
  rw [hm]
  exact ⟨ok_X9_isRead, tb2 18 rfl rfl, tb2 19 rfl rfl, tb2 20 rfl rfl, _, rfl, rfl⟩
theorem cV_X11_85 (mi : MI) (hm : mi.1.cls = RX11) : CV mi 85 mX9_firstUneven 0 9 := by
  unfold CV
  rw [hm]
  exact ⟨ok_X9_firstUneven, tb2 42 rfl rfl, tb2 43 rfl rfl, tb2 44 rfl rfl, _, rfl, rfl⟩
theorem cV_X11_89 (mi : MI) (hm : mi.1.cls = RX11) : CV mi 89 mX9_newMatter 0 9 := by
  unfold CV
  rw [hm]
  exact ⟨ok_X9_newMatter, tb2 49 rfl rfl, tb2 50 rfl rfl, tb2 51 rfl rfl, _, rfl, rfl⟩
theorem cV_X11_93 (mi : MI) (hm : mi.1.cls = RX11) : CV mi 93 mX11_matterAt 1 11 := by
  unfold CV
  rw [hm]
  exact ⟨ok_X11_matterAt, tb2 162 rfl rfl, tb2 164 rfl rfl, tbp 5 (by decide +kernel) rfl, _, rfl, rfl⟩
theorem cV_X12_107 (mi : MI) (hm : mi.1.cls = RX12) : CV mi 107 mX12_isMatter 1 12 := by
  unfold CV
  rw [hm]
  exact ⟨ok_X12_isMatter, tb6 12 rfl rfl, tb6 14 rfl rfl, tbp 46 (by decide +kernel) rfl, _, rfl, rfl⟩
theorem cV_X12_117 (mi : MI) (hm : mi.1.cls = RX12) : CV mi 117 mX12_here 0 12 := by
  unfold CV
  rw [hm]
  exact ⟨ok_X12_here, tb5 224 rfl rfl, tb5 226 rfl rfl, tbp 40 (by decide +kernel) rfl, _, rfl, rfl⟩
theorem cV_X12_121 (mi : MI) (hm : mi.1.cls = RX12) : CV mi 121 mX12_eats 1 12 := by
  unfold CV
  rw [hm]
  exact ⟨ok_X12_eats, tb5 220 rfl rfl, tb5 222 rfl rfl, tbp 39 (by decide +kernel) rfl, _, rfl, rfl⟩
theorem cV_X12_124 (mi : MI) (hm : mi.1.cls = RX12) : CV mi 124 mX12_number 0 12 := by
  unfold CV
  rw [hm]
  exact ⟨ok_X12_number, tb5 232 rfl rfl, tb5 234 rfl rfl, tbp 42 (by decide +kernel) rfl, _, rfl, rfl⟩
theorem cV_X12_127 (mi : MI) (hm : mi.1.cls = RX12) : CV mi 127 mX12_readsSums 3 12 := by
  unfold CV
  rw [hm]
  exact ⟨ok_X12_readsSums, tb5 228 rfl rfl, tb5 230 rfl rfl, tbp 41 (by decide +kernel) rfl, _, rfl, rfl⟩
theorem cV_X12_131 (mi : MI) (hm : mi.1.cls = RX12) : CV mi 131 mX12_sumGroups 2 12 := by
  unfold CV
  rw [hm]
  exact ⟨ok_X12_sumGroups, tb5 236 rfl rfl, tb5 238 rfl rfl, tbp 43 (by decide +kernel) rfl, _, rfl, rfl⟩
theorem cV_X12_135 (mi : MI) (hm : mi.1.cls = RX12) : CV mi 135 mX12_readsMatter 1 12 := by
  unfold CV
  rw [hm]
  exact ⟨ok_X12_readsMatter, tb5 216 rfl rfl, tb5 218 rfl rfl, tbp 38 (by decide +kernel) rfl, _, rfl, rfl⟩
theorem cV_X12_138 (mi : MI) (hm : mi.1.cls = RX12) : CV mi 138 mX12_sumChoices 1 12 := by
  unfold CV
  rw [hm]
  exact ⟨ok_X12_sumChoices, tb6 0 rfl rfl, tb6 2 rfl rfl, tbp 44 (by decide +kernel) rfl, _, rfl, rfl⟩
theorem cV_X12_142 (mi : MI) (hm : mi.1.cls = RX12) : CV mi 142 mX12_begins 2 12 := by
  unfold CV
  rw [hm]
  exact ⟨ok_X12_begins, tb6 4 rfl rfl, tb6 6 rfl rfl, tbp 45 (by decide +kernel) rfl, _, rfl, rfl⟩
theorem cV_X12_146 (mi : MI) (hm : mi.1.cls = RX12) : CV mi 146 mX12_boxOf 1 12 := by
  unfold CV
  rw [hm]
  exact ⟨ok_X12_boxOf, tb6 20 rfl rfl, tb6 22 rfl rfl, tbp 47 (by decide +kernel) rfl, _, rfl, rfl⟩
theorem cV_X12_162 (mi : MI) (hm : mi.1.cls = RX12) : CV mi 162 mX12_ways 4 12 := by
  unfold CV
  rw [hm]
  exact ⟨ok_X12_ways, tb6 33 rfl rfl, tb6 35 rfl rfl, tbp 49 (by decide +kernel) rfl, _, rfl, rfl⟩
theorem cV_X12_170 (mi : MI) (hm : mi.1.cls = RX12) : CV mi 170 mX12_howMany 1 12 := by
  unfold CV
  rw [hm]
  exact ⟨ok_X12_howMany, tb6 29 rfl rfl, tb6 31 rfl rfl, tbp 48 (by decide +kernel) rfl, _, rfl, rfl⟩
theorem cV_X12_178 (mi : MI) (hm : mi.1.cls = RX12) : CV mi 178 mX12_waysWith 5 12 := by
  unfold CV
  rw [hm]
  exact ⟨ok_X12_waysWith, tb6 61 rfl rfl, tb6 63 rfl rfl, tbp 52 (by decide +kernel) rfl, _, rfl, rfl⟩
theorem cV_X12_182 (mi : MI) (hm : mi.1.cls = RX12) : CV mi 182 mX12_lays 5 12 := by
  unfold CV
  rw [hm]
  exact ⟨ok_X12_lays, tb6 68 rfl rfl, tb6 70 rfl rfl, tbp 53 (by decide +kernel) rfl, _, rfl, rfl⟩
theorem cV_X12_186 (mi : MI) (hm : mi.1.cls = RX12) : CV mi 186 mX12_isCell 2 12 := by
  unfold CV
  rw [hm]
  exact ⟨ok_X12_isCell, tb6 53 rfl rfl, tb6 55 rfl rfl, tbp 50 (by decide +kernel) rfl, _, rfl, rfl⟩
theorem cV_X12_190 (mi : MI) (hm : mi.1.cls = RX12) : CV mi 190 mX12_numbered 2 12 := by
  unfold CV
  rw [hm]
  exact ⟨ok_X12_numbered, tb6 57 rfl rfl, tb6 59 rfl rfl, tbp 51 (by decide +kernel) rfl, _, rfl, rfl⟩
theorem cV_X12_194 (mi : MI) (hm : mi.1.cls = RX12) : CV mi 194 mX12_nowAt 2 12 := by
  unfold CV
  rw [hm]
  exact ⟨ok_X12_nowAt, tb6 72 rfl rfl, tb6 74 rfl rfl, tbp 54 (by decide +kernel) rfl, _, rfl, rfl⟩
theorem cV_X12_201 (mi : MI) (hm : mi.1.cls = RX12) : CV mi 201 mX12_lowest 5 12 := by
  unfold CV
  rw [hm]
  exact ⟨ok_X12_lowest, tb6 189 rfl rfl, tb6 191 rfl rfl, tbp 72 (by decide +kernel) rfl, _, rfl, rfl⟩
theorem cV_X12_204 (mi : MI) (hm : mi.1.cls = RX12) : CV mi 204 mX12_rests 1 12 := by
  unfold CV
  rw [hm]
  exact ⟨ok_X12_rests, tb6 209 rfl rfl, tb6 211 rfl rfl, tbp 77 (by decide +kernel) rfl, _, rfl, rfl⟩
theorem cV_X12_208 (mi : MI) (hm : mi.1.cls = RX12) : CV mi 208 mX12_rowBars 2 12 := by
  unfold CV
  rw [hm]
  exact ⟨ok_X12_rowBars, tb6 90 rfl rfl, tb6 92 rfl rfl, tbp 56 (by decide +kernel) rfl, _, rfl, rfl⟩
theorem cV_X12_211 (mi : MI) (hm : mi.1.cls = RX12) : CV mi 211 mX12_barsRow 3 12 := by
  unfold CV
  rw [hm]
  exact ⟨ok_X12_barsRow, tb6 86 rfl rfl, tb6 88 rfl rfl, tbp 55 (by decide +kernel) rfl, _, rfl, rfl⟩
theorem cV_X12_215 (mi : MI) (hm : mi.1.cls = RX12) : CV mi 215 mX12_mayNot 3 12 := by
  unfold CV
  rw [hm]
  exact ⟨ok_X12_mayNot, tb6 94 rfl rfl, tb6 96 rfl rfl, tbp 57 (by decide +kernel) rfl, _, rfl, rfl⟩
theorem cV_X12_218 (mi : MI) (hm : mi.1.cls = RX12) : CV mi 218 mX12_most 2 12 := by
  unfold CV
  rw [hm]
  exact ⟨ok_X12_most, tb6 110 rfl rfl, tb6 112 rfl rfl, tbp 59 (by decide +kernel) rfl, _, rfl, rfl⟩
theorem cV_X12_221 (mi : MI) (hm : mi.1.cls = RX12) : CV mi 221 mX12_least 2 12 := by
  unfold CV
  rw [hm]
  exact ⟨ok_X12_least, tb6 106 rfl rfl, tb6 108 rfl rfl, tbp 58 (by decide +kernel) rfl, _, rfl, rfl⟩
theorem cV_X12_224 (mi : MI) (hm : mi.1.cls = RX12) : CV mi 224 mX12_isAsked 2 12 := by
  unfold CV
  rw [hm]
  exact ⟨ok_X12_isAsked, tb6 118 rfl rfl, tb6 120 rfl rfl, tbp 60 (by decide +kernel) rfl, _, rfl, rfl⟩
theorem cV_X12_228 (mi : MI) (hm : mi.1.cls = RX12) : CV mi 228 mX12_leastAll 2 12 := by
  unfold CV
  rw [hm]
  exact ⟨ok_X12_leastAll, tb6 123 rfl rfl, tb6 125 rfl rfl, tbp 61 (by decide +kernel) rfl, _, rfl, rfl⟩
theorem cV_X12_231 (mi : MI) (hm : mi.1.cls = RX12) : CV mi 231 mX12_mostAll 2 12 := by
  unfold CV
  rw [hm]
  exact ⟨ok_X12_mostAll, tb6 127 rfl rfl, tb6 129 rfl rfl, tbp 62 (by decide +kernel) rfl, _, rfl, rfl⟩
theorem cV_X12_234 (mi : MI) (hm : mi.1.cls = RX12) : CV mi 234 mX12_wide 2 12 := by
  unfold CV
  rw [hm]
  exact ⟨ok_X12_wide, tb6 135 rfl rfl, tb6 137 rfl rfl, tbp 63 (by decide +kernel) rfl, _, rfl, rfl⟩
theorem cV_X12_237 (mi : MI) (hm : mi.1.cls = RX12) : CV mi 237 mX12_widest 3 12 := by
  unfold CV
  rw [hm]
  exact ⟨ok_X12_widest, tb6 143 rfl rfl, tb6 145 rfl rfl, tbp 64 (by decide +kernel) rfl, _, rfl, rfl⟩
theorem cV_X12_240 (mi : MI) (hm : mi.1.cls = RX12) : CV mi 240 mX12_isHeld 1 12 := by
  unfold CV
  rw [hm]
  exact ⟨ok_X12_isHeld, tb6 197 rfl rfl, tb6 199 rfl rfl, tbp 74 (by decide +kernel) rfl, _, rfl, rfl⟩
theorem cV_X12_245 (mi : MI) (hm : mi.1.cls = RX12) : CV mi 245 mX12_countOf 1 12 := by
  unfold CV
  rw [hm]
  exact ⟨ok_X12_countOf, tb6 176 rfl rfl, tb6 178 rfl rfl, tbp 69 (by decide +kernel) rfl, _, rfl, rfl⟩
theorem cV_X12_250 (mi : MI) (hm : mi.1.cls = RX12) : CV mi 250 mX12_firstTable 1 12 := by
  unfold CV
  rw [hm]
  exact ⟨ok_X12_firstTable, tb6 185 rfl rfl, tb6 187 rfl rfl, tbp 71 (by decide +kernel) rfl, _, rfl, rfl⟩
theorem cV_X12_253 (mi : MI) (hm : mi.1.cls = RX12) : CV mi 253 mX12_nextTable 1 12 := by
  unfold CV
  rw [hm]
  exact ⟨ok_X12_nextTable, tb6 205 rfl rfl, tb6 207 rfl rfl, tbp 76 (by decide +kernel) rfl, _, rfl, rfl⟩
theorem cV_X12_256 (mi : MI) (hm : mi.1.cls = RX12) : CV mi 256 mX12_firstOf 1 12 := by
  unfold CV
  rw [hm]
  exact ⟨ok_X12_firstOf, tb6 181 rfl rfl, tb6 183 rfl rfl, tbp 70 (by decide +kernel) rfl, _, rfl, rfl⟩
theorem cV_X12_259 (mi : MI) (hm : mi.1.cls = RX12) : CV mi 259 mX12_namedBy 2 12 := by
  unfold CV
  rw [hm]
  exact ⟨ok_X12_namedBy, tb6 167 rfl rfl, tb6 169 rfl rfl, tbp 67 (by decide +kernel) rfl, _, rfl, rfl⟩
theorem cV_X12_262 (mi : MI) (hm : mi.1.cls = RX12) : CV mi 262 mX12_isBig 2 12 := by
  unfold CV
  rw [hm]
  exact ⟨ok_X12_isBig, tb6 171 rfl rfl, tb6 173 rfl rfl, tbp 68 (by decide +kernel) rfl, _, rfl, rfl⟩
theorem cV_X12_269 (mi : MI) (hm : mi.1.cls = RX12) : CV mi 269 mX12_areHeld 2 12 := by
  unfold CV
  rw [hm]
  exact ⟨ok_X12_areHeld, tb6 193 rfl rfl, tb6 195 rfl rfl, tbp 73 (by decide +kernel) rfl, _, rfl, rfl⟩
theorem cV_X12_278 (mi : MI) (hm : mi.1.cls = RX12) : CV mi 278 mX12_nextRow 2 12 := by
  unfold CV
  rw [hm]
  exact ⟨ok_X12_nextRow, tb6 201 rfl rfl, tb6 203 rfl rfl, tbp 75 (by decide +kernel) rfl, _, rfl, rfl⟩
theorem cV_X12_281 (mi : MI) (hm : mi.1.cls = RX12) : CV mi 281 mX12_isSet 2 12 := by
  unfold CV
  rw [hm]
  exact ⟨ok_X12_isSet, tb6 159 rfl rfl, tb6 161 rfl rfl, tbp 65 (by decide +kernel) rfl, _, rfl, rfl⟩
theorem cV_X12_284 (mi : MI) (hm : mi.1.cls = RX12) : CV mi 284 mX12_goes 3 12 := by
  unfold CV
  rw [hm]
  exact ⟨ok_X12_goes, tb6 163 rfl rfl, tb6 165 rfl rfl, tbp 66 (by decide +kernel) rfl, _, rfl, rfl⟩
theorem cV_X12_308 (mi : MI) (hm : mi.1.cls = RX12) : CV mi 308 mX12_draws 1 12 := by
  unfold CV
  rw [hm]
  exact ⟨ok_X12_draws, tb6 232 rfl rfl, tb6 234 rfl rfl, tbp 78 (by decide +kernel) rfl, _, rfl, rfl⟩
theorem cV_X12_311 (mi : MI) (hm : mi.1.cls = RX12) : CV mi 311 mX12_lineAt 1 12 := by
  unfold CV
  rw [hm]
  exact ⟨ok_X12_lineAt, tb6 237 rfl rfl, tb6 239 rfl rfl, tbp 79 (by decide +kernel) rfl, _, rfl, rfl⟩
theorem cV_X12_318 (mi : MI) (hm : mi.1.cls = RX12) : CV mi 318 mX12_cutTo 3 12 := by
  unfold CV
  rw [hm]
  exact ⟨ok_X12_cutTo, tb7 23 rfl rfl, tb7 25 rfl rfl, tbp 80 (by decide +kernel) rfl, _, rfl, rfl⟩
theorem cV_X12_324 (mi : MI) (hm : mi.1.cls = RX12) : CV mi 324 mX12_weightNow 1 12 := by
  unfold CV
  rw [hm]
  exact ⟨ok_X12_weightNow, tb7 47 rfl rfl, tb7 49 rfl rfl, tbp 83 (by decide +kernel) rfl, _, rfl, rfl⟩
theorem cV_X12_333 (mi : MI) (hm : mi.1.cls = RX12) : CV mi 333 mX12_isMany 1 12 := by
  unfold CV
  rw [hm]
  exact ⟨ok_X12_isMany, tb7 39 rfl rfl, tb7 41 rfl rfl, tbp 81 (by decide +kernel) rfl, _, rfl, rfl⟩
theorem cV_X12_336 (mi : MI) (hm : mi.1.cls = RX12) : CV mi 336 mX12_findsLikeliest 1 12 := by
  unfold CV
  rw [hm]
  exact ⟨ok_X12_findsLikeliest, tb7 43 rfl rfl, tb7 45 rfl rfl, tbp 82 (by decide +kernel) rfl, _, rfl, rfl⟩
theorem cV_X12_345 (mi : MI) (hm : mi.1.cls = RX12) : CV mi 345 mX12_beginsBody 1 12 := by
  unfold CV
  rw [hm]
  exact ⟨ok_X12_beginsBody, tb7 75 rfl rfl, tb7 77 rfl rfl, tbp 86 (by decide +kernel) rfl, _, rfl, rfl⟩
theorem cV_X12_348 (mi : MI) (hm : mi.1.cls = RX12) : CV mi 348 mX12_letsFrom 3 12 := by
  unfold CV
  rw [hm]
  exact ⟨ok_X12_letsFrom, tb7 71 rfl rfl, tb7 73 rfl rfl, tbp 85 (by decide +kernel) rfl, _, rfl, rfl⟩
theorem cV_X12_354 (mi : MI) (hm : mi.1.cls = RX12) : CV mi 354 mX12_narrowsFrom 3 12 := by
  unfold CV
  rw [hm]
  exact ⟨ok_X12_narrowsFrom, tb7 82 rfl rfl, tb7 84 rfl rfl, tbp 87 (by decide +kernel) rfl, _, rfl, rfl⟩
theorem cV_X12_357 (mi : MI) (hm : mi.1.cls = RX12) : CV mi 357 mX12_provesFrom 3 12 := by
  unfold CV
  rw [hm]
  exact ⟨ok_X12_provesFrom, tb7 86 rfl rfl, tb7 88 rfl rfl, tbp 88 (by decide +kernel) rfl, _, rfl, rfl⟩
theorem cV_X12_360 (mi : MI) (hm : mi.1.cls = RX12) : CV mi 360 mX12_tellsFrom 3 12 := by
  unfold CV
  rw [hm]
  exact ⟨ok_X12_tellsFrom, tb7 90 rfl rfl, tb7 92 rfl rfl, tbp 89 (by decide +kernel) rfl, _, rfl, rfl⟩
theorem cV_X12_363 (mi : MI) (hm : mi.1.cls = RX12) : CV mi 363 mX12_isKnowing 1 12 := by
  unfold CV
  rw [hm]
  exact ⟨ok_X12_isKnowing, tb7 67 rfl rfl, tb7 69 rfl rfl, tbp 84 (by decide +kernel) rfl, _, rfl, rfl⟩
theorem cV_X12_369 (mi : MI) (hm : mi.1.cls = RX12) : CV mi 369 mX12_barred 2 12 := by
  unfold CV
  rw [hm]
  exact ⟨ok_X12_barred, tb7 113 rfl rfl, tb7 115 rfl rfl, tbp 90 (by decide +kernel) rfl, _, rfl, rfl⟩
theorem cV_X12_376 (mi : MI) (hm : mi.1.cls = RX12) : CV mi 376 mX12_comes 3 12 := by
  unfold CV
  rw [hm]
  exact ⟨ok_X12_comes, tb7 134 rfl rfl, tb7 136 rfl rfl, tbp 91 (by decide +kernel) rfl, _, rfl, rfl⟩
theorem cV_X1_25 (mi : MI) (hm : mi.1.cls = RX1) : CV mi 25 mX1_isOfTwo 0 1 := by
  unfold CV
  rw [hm]
  exact ⟨ok_X1_isOfTwo, tb3 168 rfl rfl, tb3 145 rfl rfl, tb3 146 rfl rfl, _, rfl, rfl⟩
theorem cV_X2_28 (mi : MI) (hm : mi.1.cls = RX2) : CV mi 28 mX10_begin 1 10 := by
  unfold CV
  rw [hm]
  exact ⟨ok_X10_begin, tb4 202 rfl rfl, tb4 203 rfl rfl, tb4 204 rfl rfl, _, rfl, rfl⟩
theorem cV_X2_34 (mi : MI) (hm : mi.1.cls = RX2) : CV mi 34 mX2_lets 2 2 := by
  unfold CV
  rw [hm]
  exact ⟨ok_X2_lets, tb4 206 rfl rfl, tb4 200 rfl rfl, tbp 33 (by decide +kernel) rfl, _, rfl, rfl⟩
theorem cV_X2_38 (mi : MI) (hm : mi.1.cls = RX2) : CV mi 38 mX2_narrows 2 2 := by
  unfold CV
  rw [hm]
  exact ⟨ok_X2_narrows, tb4 216 rfl rfl, tb4 214 rfl rfl, tbp 34 (by decide +kernel) rfl, _, rfl, rfl⟩
theorem cV_X2_41 (mi : MI) (hm : mi.1.cls = RX2) : CV mi 41 mX2_proves 2 2 := by
  unfold CV
  rw [hm]
  exact ⟨ok_X2_proves, tb4 221 rfl rfl, tb4 219 rfl rfl, tbp 35 (by decide +kernel) rfl, _, rfl, rfl⟩
theorem cV_X2_44 (mi : MI) (hm : mi.1.cls = RX2) : CV mi 44 mX2_tells 2 2 := by
  unfold CV
  rw [hm]
  exact ⟨ok_X2_tells, tb4 226 rfl rfl, tb4 224 rfl rfl, tbp 36 (by decide +kernel) rfl, _, rfl, rfl⟩
theorem cV_X3_100 (mi : MI) (hm : mi.1.cls = RX3) : CV mi 100 mX0_most 1 0 := by
  unfold CV
  rw [hm]
  exact ⟨ok_X0_most, tb3 185 rfl rfl, tb3 61 rfl rfl, tb3 62 rfl rfl, _, rfl, rfl⟩
theorem cV_X3_114 (mi : MI) (hm : mi.1.cls = RX3) : CV mi 114 mX1_isOfTwo 0 1 := by
  unfold CV
  rw [hm]
  exact ⟨ok_X1_isOfTwo, tb3 190 rfl rfl, tb3 145 rfl rfl, tb3 146 rfl rfl, _, rfl, rfl⟩
theorem cV_X3_127 (mi : MI) (hm : mi.1.cls = RX3) : CV mi 127 mX3_allKept 1 3 := by
  unfold CV
  rw [hm]
  exact ⟨ok_X3_allKept, tb3 196 rfl rfl, tb3 198 rfl rfl, tbp 19 (by decide +kernel) rfl, _, rfl, rfl⟩
theorem cV_X3_131 (mi : MI) (hm : mi.1.cls = RX3) : CV mi 131 mX3_note 2 3 := by
  unfold CV
  rw [hm]
  exact ⟨ok_X3_note, tb3 215 rfl rfl, tb3 217 rfl rfl, tbp 22 (by decide +kernel) rfl, _, rfl, rfl⟩
theorem cV_X3_134 (mi : MI) (hm : mi.1.cls = RX3) : CV mi 134 mX8_start 1 8 := by
  unfold CV
  rw [hm]
  exact ⟨ok_X8_start, tb3 221 rfl rfl, tb3 222 rfl rfl, tb3 223 rfl rfl, _, rfl, rfl⟩
theorem cV_X3_138 (mi : MI) (hm : mi.1.cls = RX3) : CV mi 138 mX3_canTell 2 3 := by
  unfold CV
  rw [hm]
  exact ⟨ok_X3_canTell, tb3 230 rfl rfl, tb3 232 rfl rfl, tbp 24 (by decide +kernel) rfl, _, rfl, rfl⟩
theorem cV_X3_145 (mi : MI) (hm : mi.1.cls = RX3) : CV mi 145 mX8_advance 0 8 := by
  unfold CV
  rw [hm]
  exact ⟨ok_X8_advance, tb3 234 rfl rfl, tb3 235 rfl rfl, tb3 236 rfl rfl, _, rfl, rfl⟩
theorem cV_X3_159 (mi : MI) (hm : mi.1.cls = RX3) : CV mi 159 mX3_isKept 1 3 := by
  unfold CV
  rw [hm]
  exact ⟨ok_X3_isKept, tb3 204 rfl rfl, tb3 206 rfl rfl, tbp 20 (by decide +kernel) rfl, _, rfl, rfl⟩
theorem cV_X3_164 (mi : MI) (hm : mi.1.cls = RX3) : CV mi 164 mX3_inBox 2 3 := by
  unfold CV
  rw [hm]
  exact ⟨ok_X3_inBox, tb3 208 rfl rfl, tb3 210 rfl rfl, tbp 21 (by decide +kernel) rfl, _, rfl, rfl⟩
theorem cV_X3_179 (mi : MI) (hm : mi.1.cls = RX3) : CV mi 179 mX6_isTooMany 1 6 := by
  unfold CV
  rw [hm]
  exact ⟨ok_X6_isTooMany, tb4 6 rfl rfl, tb3 157 rfl rfl, tb3 158 rfl rfl, _, rfl, rfl⟩
theorem cV_X3_182 (mi : MI) (hm : mi.1.cls = RX3) : CV mi 182 mX3_goTillBelow 4 3 := by
  unfold CV
  rw [hm]
  exact ⟨ok_X3_goTillBelow, tb4 8 rfl rfl, tb4 10 rfl rfl, tbp 25 (by decide +kernel) rfl, _, rfl, rfl⟩
theorem cV_X3_189 (mi : MI) (hm : mi.1.cls = RX3) : CV mi 189 mX3_letsNoneByLess 1 3 := by
  unfold CV
  rw [hm]
  exact ⟨ok_X3_letsNoneByLess, tb4 30 rfl rfl, tb4 32 rfl rfl, tbp 26 (by decide +kernel) rfl, _, rfl, rfl⟩
theorem cV_X3_44 (mi : MI) (hm : mi.1.cls = RX3) : CV mi 44 mX3_prepare 3 3 := by
  unfold CV
  rw [hm]
  exact ⟨ok_X3_prepare, tb3 175 rfl rfl, tb3 177 rfl rfl, tbp 15 (by decide +kernel) rfl, _, rfl, rfl⟩
theorem cV_X3_48 (mi : MI) (hm : mi.1.cls = RX3) : CV mi 48 mX3_walk 2 3 := by
  unfold CV
  rw [hm]
  exact ⟨ok_X3_walk, tb3 192 rfl rfl, tb3 194 rfl rfl, tbp 18 (by decide +kernel) rfl, _, rfl, rfl⟩
theorem cV_X3_72 (mi : MI) (hm : mi.1.cls = RX3) : CV mi 72 mX3_setLevels 1 3 := by
  unfold CV
  rw [hm]
  exact ⟨ok_X3_setLevels, tb3 179 rfl rfl, tb3 181 rfl rfl, tbp 16 (by decide +kernel) rfl, _, rfl, rfl⟩
theorem cV_X3_76 (mi : MI) (hm : mi.1.cls = RX3) : CV mi 76 mX3_setDue 1 3 := by
  unfold CV
  rw [hm]
  exact ⟨ok_X3_setDue, tb3 186 rfl rfl, tb3 188 rfl rfl, tbp 17 (by decide +kernel) rfl, _, rfl, rfl⟩
theorem cV_X3_79 (mi : MI) (hm : mi.1.cls = RX3) : CV mi 79 mX6_named 1 6 := by
  unfold CV
  rw [hm]
  exact ⟨ok_X6_named, tb3 183 rfl rfl, tb3 161 rfl rfl, tb3 162 rfl rfl, _, rfl, rfl⟩
theorem cV_X3_97 (mi : MI) (hm : mi.1.cls = RX3) : CV mi 97 mX0_least 1 0 := by
  unfold CV
  rw [hm]
  exact ⟨ok_X0_least, tb3 184 rfl rfl, tb3 50 rfl rfl, tb3 51 rfl rfl, _, rfl, rfl⟩
theorem cV_X4_26 (mi : MI) (hm : mi.1.cls = RX4) : CV mi 26 mX8_start 1 8 := by
  unfold CV
  rw [hm]
  exact ⟨ok_X8_start, tb4 141 rfl rfl, tb3 222 rfl rfl, tb3 223 rfl rfl, _, rfl, rfl⟩
theorem cV_X4_41 (mi : MI) (hm : mi.1.cls = RX4) : CV mi 41 mX4_weightOf 1 4 := by
  unfold CV
  rw [hm]
  exact ⟨ok_X4_weightOf, tb4 142 rfl rfl, tb4 144 rfl rfl, tbp 29 (by decide +kernel) rfl, _, rfl, rfl⟩
theorem cV_X4_49 (mi : MI) (hm : mi.1.cls = RX4) : CV mi 49 mX4_keepCells 0 4 := by
  unfold CV
  rw [hm]
  exact ⟨ok_X4_keepCells, tb4 146 rfl rfl, tb4 148 rfl rfl, tbp 30 (by decide +kernel) rfl, _, rfl, rfl⟩
theorem cV_X4_52 (mi : MI) (hm : mi.1.cls = RX4) : CV mi 52 mX8_advance 0 8 := by
  unfold CV
  rw [hm]
  exact ⟨ok_X8_advance, tb4 151 rfl rfl, tb3 235 rfl rfl, tb3 236 rfl rfl, _, rfl, rfl⟩
theorem cV_X4_56 (mi : MI) (hm : mi.1.cls = RX4) : CV mi 56 mX4_look 1 4 := by
  unfold CV
  rw [hm]
  exact ⟨ok_X4_look, tb4 152 rfl rfl, tb4 154 rfl rfl, tbp 31 (by decide +kernel) rfl, _, rfl, rfl⟩
theorem cV_X5_49 (mi : MI) (hm : mi.1.cls = RX5) : CV mi 49 mX5_spread 0 5 := by
  unfold CV
  rw [hm]
  exact ⟨ok_X5_spread, tb4 64 rfl rfl, tb4 66 rfl rfl, tbp 27 (by decide +kernel) rfl, _, rfl, rfl⟩
theorem cV_X6_50 (mi : MI) (hm : mi.1.cls = RX6) : CV mi 50 mX0_least 1 0 := by
  unfold CV
  rw [hm]
  exact ⟨ok_X0_least, tb3 73 rfl rfl, tb3 50 rfl rfl, tb3 51 rfl rfl, _, rfl, rfl⟩
theorem cV_X6_54 (mi : MI) (hm : mi.1.cls = RX6) : CV mi 54 mX0_most 1 0 := by
  unfold CV
  rw [hm]
  exact ⟨ok_X0_most, tb3 74 rfl rfl, tb3 61 rfl rfl, tb3 62 rfl rfl, _, rfl, rfl⟩
theorem cV_X6_60 (mi : MI) (hm : mi.1.cls = RX6) : CV mi 60 mX0_wide 1 0 := by
  unfold CV
  rw [hm]
  exact ⟨ok_X0_wide, tb3 87 rfl rfl, tb3 88 rfl rfl, tb3 89 rfl rfl, _, rfl, rfl⟩
theorem cV_X6_63 (mi : MI) (hm : mi.1.cls = RX6) : CV mi 63 mX6_endInAll 2 6 := by
  unfold CV
  rw [hm]
  exact ⟨ok_X6_endInAll, tb3 109 rfl rfl, tb3 70 rfl rfl, tb3 71 rfl rfl, _, rfl, rfl⟩
theorem cV_X6_67 (mi : MI) (hm : mi.1.cls = RX6) : CV mi 67 mX6_widest 2 6 := by
  unfold CV
  rw [hm]
  exact ⟨ok_X6_widest, tb3 110 rfl rfl, tb3 98 rfl rfl, tb3 99 rfl rfl, _, rfl, rfl⟩
theorem cV_X6_73 (mi : MI) (hm : mi.1.cls = RX6) : CV mi 73 mX1_boxBits 0 1 := by
  unfold CV
  rw [hm]
  exact ⟨ok_X1_boxBits, tb3 164 rfl rfl, tb3 165 rfl rfl, tb3 166 rfl rfl, _, rfl, rfl⟩
theorem cV_X6_77 (mi : MI) (hm : mi.1.cls = RX6) : CV mi 77 mX6_named 1 6 := by
  unfold CV
  rw [hm]
  exact ⟨ok_X6_named, tb3 160 rfl rfl, tb3 161 rfl rfl, tb3 162 rfl rfl, _, rfl, rfl⟩
theorem cV_X6_80 (mi : MI) (hm : mi.1.cls = RX6) : CV mi 80 mX0_howMany 0 0 := by
  unfold CV
  rw [hm]
  exact ⟨ok_X0_howMany, tb3 169 rfl rfl, tb2 180 rfl rfl, tb2 181 rfl rfl, _, rfl, rfl⟩
theorem cV_X8_51 (mi : MI) (hm : mi.1.cls = RX8) : CV mi 51 mX8_empty 1 8 := by
  unfold CV
  rw [hm]
  exact ⟨ok_X8_empty, tb2 215 rfl rfl, tb2 217 rfl rfl, tbp 7 (by decide +kernel) rfl, _, rfl, rfl⟩
theorem cV_X8_55 (mi : MI) (hm : mi.1.cls = RX8) : CV mi 55 mX8_fillFrom 1 8 := by
  unfold CV
  rw [hm]
  exact ⟨ok_X8_fillFrom, tb3 225 rfl rfl, tb3 227 rfl rfl, tbp 23 (by decide +kernel) rfl, _, rfl, rfl⟩
theorem cV_X8_59 (mi : MI) (hm : mi.1.cls = RX8) : CV mi 59 mX8_set 2 8 := by
  unfold CV
  rw [hm]
  exact ⟨ok_X8_set, tb2 234 rfl rfl, tb2 236 rfl rfl, tbp 11 (by decide +kernel) rfl, _, rfl, rfl⟩
theorem cV_X8_63 (mi : MI) (hm : mi.1.cls = RX8) : CV mi 63 mX8_room 1 8 := by
  unfold CV
  rw [hm]
  exact ⟨ok_X8_room, tb2 226 rfl rfl, tb2 228 rfl rfl, tbp 9 (by decide +kernel) rfl, _, rfl, rfl⟩
theorem cV_X8_76 (mi : MI) (hm : mi.1.cls = RX8) : CV mi 76 mX8_valueAt 2 8 := by
  unfold CV
  rw [hm]
  exact ⟨ok_X8_valueAt, tb2 222 rfl rfl, tb2 224 rfl rfl, tbp 8 (by decide +kernel) rfl, _, rfl, rfl⟩
theorem cV_X8_80 (mi : MI) (hm : mi.1.cls = RX8) : CV mi 80 mX8_waysFrom 2 8 := by
  unfold CV
  rw [hm]
  exact ⟨ok_X8_waysFrom, tb2 230 rfl rfl, tb2 232 rfl rfl, tbp 10 (by decide +kernel) rfl, _, rfl, rfl⟩
theorem cV_X9_28 (mi : MI) (hm : mi.1.cls = RX9) : CV mi 28 mX9_readHead 0 9 := by
  unfold CV
  rw [hm]
  exact ⟨ok_X9_readHead, tb2 22 rfl rfl, tb2 24 rfl rfl, tbp 0 (by decide +kernel) rfl, _, rfl, rfl⟩
theorem cV_X9_32 (mi : MI) (hm : mi.1.cls = RX9) : CV mi 32 mX9_readSign 1 9 := by
  unfold CV
  rw [hm]
  exact ⟨ok_X9_readSign, tb2 26 rfl rfl, tb2 28 rfl rfl, tbp 1 (by decide +kernel) rfl, _, rfl, rfl⟩
theorem cV_X9_36 (mi : MI) (hm : mi.1.cls = RX9) : CV mi 36 mX9_readSums 0 9 := by
  unfold CV
  rw [hm]
  exact ⟨ok_X9_readSums, tb2 38 rfl rfl, tb2 40 rfl rfl, tbp 4 (by decide +kernel) rfl, _, rfl, rfl⟩
theorem cV_X9_39 (mi : MI) (hm : mi.1.cls = RX9) : CV mi 39 mX9_isDigit 2 9 := by
  unfold CV
  rw [hm]
  exact ⟨ok_X9_isDigit, tb2 30 rfl rfl, tb2 32 rfl rfl, tbp 2 (by decide +kernel) rfl, _, rfl, rfl⟩
theorem cV_X9_43 (mi : MI) (hm : mi.1.cls = RX9) : CV mi 43 mX9_readDigit 0 9 := by
  unfold CV
  rw [hm]
  exact ⟨ok_X9_readDigit, tb2 34 rfl rfl, tb2 36 rfl rfl, tbp 3 (by decide +kernel) rfl, _, rfl, rfl⟩
theorem cV_X9_62 (mi : MI) (hm : mi.1.cls = RX9) : CV mi 62 mX6_addBox 2 6 := by
  unfold CV
  rw [hm]
  exact ⟨ok_X6_addBox, tb2 102 rfl rfl, tb2 103 rfl rfl, tb2 104 rfl rfl, _, rfl, rfl⟩
theorem tswOut3 {x : Int32} (n0 : ¬ x = iv 0) (n1 : ¬ x = iv 1) (n2 : ¬ x = iv 2) : x.toInt < 0 ∨ 2 < x.toInt := by
  have key : ∀ z : Int, x.toInt = z → x = Int32.ofInt z := fun z hz => by rw [← hz, Int32.ofInt_toInt]
  have e0 : ¬ x.toInt = 0 := fun z => n0 (key 0 z)
  have e1 : ¬ x.toInt = 1 := fun z => n1 (key 1 z)
  have e2 : ¬ x.toInt = 2 := fun z => n2 (key 2 z)
  omega
theorem tswOut4 {x : Int32} (n0 : ¬ x = iv 0) (n1 : ¬ x = iv 1) (n2 : ¬ x = iv 2) (n3 : ¬ x = iv 3) : x.toInt < 0 ∨ 3 < x.toInt := by
  have key : ∀ z : Int, x.toInt = z → x = Int32.ofInt z := fun z hz => by rw [← hz, Int32.ofInt_toInt]
  have e0 : ¬ x.toInt = 0 := fun z => n0 (key 0 z)
  have e1 : ¬ x.toInt = 1 := fun z => n1 (key 1 z)
  have e2 : ¬ x.toInt = 2 := fun z => n2 (key 2 z)
  have e3 : ¬ x.toInt = 3 := fun z => n3 (key 3 z)
  omega
theorem tswOut5 {x : Int32} (n0 : ¬ x = iv 0) (n1 : ¬ x = iv 1) (n2 : ¬ x = iv 2) (n3 : ¬ x = iv 3) (n4 : ¬ x = iv 4) : x.toInt < 0 ∨ 4 < x.toInt := by
  have key : ∀ z : Int, x.toInt = z → x = Int32.ofInt z := fun z hz => by rw [← hz, Int32.ofInt_toInt]
  have e0 : ¬ x.toInt = 0 := fun z => n0 (key 0 z)
  have e1 : ¬ x.toInt = 1 := fun z => n1 (key 1 z)
  have e2 : ¬ x.toInt = 2 := fun z => n2 (key 2 z)
  have e3 : ¬ x.toInt = 3 := fun z => n3 (key 3 z)
  have e4 : ¬ x.toInt = 4 := fun z => n4 (key 4 z)
  omega
theorem tswOut6 {x : Int32} (n0 : ¬ x = iv 0) (n1 : ¬ x = iv 1) (n2 : ¬ x = iv 2) (n3 : ¬ x = iv 3) (n4 : ¬ x = iv 4) (n5 : ¬ x = iv 5) : x.toInt < 0 ∨ 5 < x.toInt := by
  have key : ∀ z : Int, x.toInt = z → x = Int32.ofInt z := fun z hz => by rw [← hz, Int32.ofInt_toInt]
  have e0 : ¬ x.toInt = 0 := fun z => n0 (key 0 z)
  have e1 : ¬ x.toInt = 1 := fun z => n1 (key 1 z)
  have e2 : ¬ x.toInt = 2 := fun z => n2 (key 2 z)
  have e3 : ¬ x.toInt = 3 := fun z => n3 (key 3 z)
  have e4 : ¬ x.toInt = 4 := fun z => n4 (key 4 z)
  have e5 : ¬ x.toInt = 5 := fun z => n5 (key 5 z)
  omega
theorem tswOut41 {x : Int32} (n0 : ¬ x = iv 0) (n1 : ¬ x = iv 1) (n2 : ¬ x = iv 2) (n3 : ¬ x = iv 3) (n4 : ¬ x = iv 4) (n5 : ¬ x = iv 5) (n6 : ¬ x = iv 6) (n7 : ¬ x = iv 7) (n8 : ¬ x = iv 8) (n9 : ¬ x = iv 9) (n10 : ¬ x = iv 10) (n11 : ¬ x = iv 11) (n12 : ¬ x = iv 12) (n13 : ¬ x = iv 13) (n14 : ¬ x = iv 14) (n15 : ¬ x = iv 15) (n16 : ¬ x = iv 16) (n17 : ¬ x = iv 17) (n18 : ¬ x = iv 18) (n19 : ¬ x = iv 19) (n20 : ¬ x = iv 20) (n21 : ¬ x = iv 21) (n22 : ¬ x = iv 22) (n23 : ¬ x = iv 23) (n24 : ¬ x = iv 24) (n25 : ¬ x = iv 25) (n26 : ¬ x = iv 26) (n27 : ¬ x = iv 27) (n28 : ¬ x = iv 28) (n29 : ¬ x = iv 29) (n30 : ¬ x = iv 30) (n31 : ¬ x = iv 31) (n32 : ¬ x = iv 32) (n33 : ¬ x = iv 33) (n34 : ¬ x = iv 34) (n35 : ¬ x = iv 35) (n36 : ¬ x = iv 36) (n37 : ¬ x = iv 37) (n38 : ¬ x = iv 38) (n39 : ¬ x = iv 39) (n40 : ¬ x = iv 40) : x.toInt < 0 ∨ 40 < x.toInt := by
  have key : ∀ z : Int, x.toInt = z → x = Int32.ofInt z := fun z hz => by rw [← hz, Int32.ofInt_toInt]
  have e0 : ¬ x.toInt = 0 := fun z => n0 (key 0 z)
  have e1 : ¬ x.toInt = 1 := fun z => n1 (key 1 z)
  have e2 : ¬ x.toInt = 2 := fun z => n2 (key 2 z)
  have e3 : ¬ x.toInt = 3 := fun z => n3 (key 3 z)
  have e4 : ¬ x.toInt = 4 := fun z => n4 (key 4 z)
  have e5 : ¬ x.toInt = 5 := fun z => n5 (key 5 z)
  have e6 : ¬ x.toInt = 6 := fun z => n6 (key 6 z)
  have e7 : ¬ x.toInt = 7 := fun z => n7 (key 7 z)
  have e8 : ¬ x.toInt = 8 := fun z => n8 (key 8 z)
  have e9 : ¬ x.toInt = 9 := fun z => n9 (key 9 z)
  have e10 : ¬ x.toInt = 10 := fun z => n10 (key 10 z)
  have e11 : ¬ x.toInt = 11 := fun z => n11 (key 11 z)
  have e12 : ¬ x.toInt = 12 := fun z => n12 (key 12 z)
  have e13 : ¬ x.toInt = 13 := fun z => n13 (key 13 z)
  have e14 : ¬ x.toInt = 14 := fun z => n14 (key 14 z)
  have e15 : ¬ x.toInt = 15 := fun z => n15 (key 15 z)
  have e16 : ¬ x.toInt = 16 := fun z => n16 (key 16 z)
  have e17 : ¬ x.toInt = 17 := fun z => n17 (key 17 z)
  have e18 : ¬ x.toInt = 18 := fun z => n18 (key 18 z)
  have e19 : ¬ x.toInt = 19 := fun z => n19 (key 19 z)
  have e20 : ¬ x.toInt = 20 := fun z => n20 (key 20 z)
  have e21 : ¬ x.toInt = 21 := fun z => n21 (key 21 z)
  have e22 : ¬ x.toInt = 22 := fun z => n22 (key 22 z)
  have e23 : ¬ x.toInt = 23 := fun z => n23 (key 23 z)
  have e24 : ¬ x.toInt = 24 := fun z => n24 (key 24 z)
  have e25 : ¬ x.toInt = 25 := fun z => n25 (key 25 z)
  have e26 : ¬ x.toInt = 26 := fun z => n26 (key 26 z)
  have e27 : ¬ x.toInt = 27 := fun z => n27 (key 27 z)
  have e28 : ¬ x.toInt = 28 := fun z => n28 (key 28 z)
  have e29 : ¬ x.toInt = 29 := fun z => n29 (key 29 z)
  have e30 : ¬ x.toInt = 30 := fun z => n30 (key 30 z)
  have e31 : ¬ x.toInt = 31 := fun z => n31 (key 31 z)
  have e32 : ¬ x.toInt = 32 := fun z => n32 (key 32 z)
  have e33 : ¬ x.toInt = 33 := fun z => n33 (key 33 z)
  have e34 : ¬ x.toInt = 34 := fun z => n34 (key 34 z)
  have e35 : ¬ x.toInt = 35 := fun z => n35 (key 35 z)
  have e36 : ¬ x.toInt = 36 := fun z => n36 (key 36 z)
  have e37 : ¬ x.toInt = 37 := fun z => n37 (key 37 z)
  have e38 : ¬ x.toInt = 38 := fun z => n38 (key 38 z)
  have e39 : ¬ x.toInt = 39 := fun z => n39 (key 39 z)
  have e40 : ¬ x.toInt = 40 := fun z => n40 (key 40 z)
  omega
theorem kI {x : Int32} {z : Int} (n : ¬ x = iv z) : ¬ z = x.toInt := fun e => n (by unfold iv; rw [e, Int32.ofInt_toInt])
theorem look_X12_letsFrom_1 {x : Int32} (n0 : ¬ x = iv 0) (n1 : ¬ x = iv 1) (n2 : ¬ x = iv 5) : Op.lookupswitch.offset (#[(0, 35), (1, 44), (5, 60)] : Array (Int × Int)).toList 78 x.toInt = 78 := by
  show Op.lookupswitch.offset [(0, 35), (1, 44), (5, 60)] 78 x.toInt = 78
  rw [Op.lookupswitch.offset_cons, if_neg (kI n0), Op.lookupswitch.offset_cons, if_neg (kI n1), Op.lookupswitch.offset_cons, if_neg (kI n2)]
  rfl
theorem look_X12_provesFrom_1 {x : Int32} (n0 : ¬ x = iv 0) (n1 : ¬ x = iv 2) (n2 : ¬ x = iv 6) : Op.lookupswitch.offset (#[(0, 35), (2, 45), (6, 61)] : Array (Int × Int)).toList 92 x.toInt = 92 := by
  show Op.lookupswitch.offset [(0, 35), (2, 45), (6, 61)] 92 x.toInt = 92
  rw [Op.lookupswitch.offset_cons, if_neg (kI n0), Op.lookupswitch.offset_cons, if_neg (kI n1), Op.lookupswitch.offset_cons, if_neg (kI n2)]
  rfl
theorem look_X12_tellsFrom_1 {x : Int32} (n0 : ¬ x = iv 0) (n1 : ¬ x = iv 3) (n2 : ¬ x = iv 6) : Op.lookupswitch.offset (#[(0, 35), (3, 70), (6, 86)] : Array (Int × Int)).toList 102 x.toInt = 102 := by
  show Op.lookupswitch.offset [(0, 35), (3, 70), (6, 86)] 102 x.toInt = 102
  rw [Op.lookupswitch.offset_cons, if_neg (kI n0), Op.lookupswitch.offset_cons, if_neg (kI n1), Op.lookupswitch.offset_cons, if_neg (kI n2)]
  rfl
