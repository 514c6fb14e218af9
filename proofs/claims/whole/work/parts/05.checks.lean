/-! ===== the blocks are what the bytes say ===== -/
set_option maxRecDepth 100000 in
theorem ck_1 : ckM 0 2 none true prog_1_method_1_code mb_1 = true := by decide +kernel
set_option maxRecDepth 100000 in
theorem ck_2 : ckM 1 1 none true prog_10_method_1_code mb_2 = true := by decide +kernel
set_option maxRecDepth 100000 in
theorem ck_3 : ckM 6 2 none true prog_6_method_1_code mb_3 = true := by decide +kernel
set_option maxRecDepth 100000 in
theorem ck_4 : ckM 2 1 none true prog_2_method_1_code mb_4 = true := by decide +kernel
set_option maxRecDepth 100000 in
theorem ck_5 : ckM 3 1 none true prog_4_method_1_code mb_5 = true := by decide +kernel
set_option maxRecDepth 100000 in
theorem ck_6 : ckM 4 1 none true prog_9_method_1_code mb_6 = true := by decide +kernel
set_option maxRecDepth 100000 in
theorem ck_7 : ckM 5 4 none true prog_5_method_1_code mb_7 = true := by decide +kernel
set_option maxRecDepth 100000 in
theorem ck_8 : ckM 7 3 none true prog_11_method_1_code mb_8 = true := by decide +kernel
set_option maxRecDepth 100000 in
theorem ck_9 : ckM 8 1 none true prog_3_method_1_code mb_9 = true := by decide +kernel
set_option maxRecDepth 100000 in
theorem ck_10 : ckM 9 1 none true prog_8_method_1_code mb_10 = true := by decide +kernel
set_option maxRecDepth 100000 in
theorem ck_11 : ckM 0 3 (some .int) false prog_1_method_2_code mb_11 = true := by decide +kernel
set_option maxRecDepth 100000 in
theorem ck_12 : ckM 0 1 none false prog_1_method_47_code mb_12 = true := by decide +kernel
set_option maxRecDepth 100000 in
theorem ck_13 : ckM 0 6 (some .int) false prog_1_method_3_code mb_13 = true := by decide +kernel
set_option maxRecDepth 100000 in
theorem ck_14 : ckM 0 3 (some .boolean) false prog_1_method_43_code mb_14 = true := by decide +kernel
set_option maxRecDepth 100000 in
theorem ck_15 : ckM 0 2 (some .boolean) false prog_1_method_44_code mb_15 = true := by decide +kernel
set_option maxRecDepth 100000 in
theorem ck_16 : ckM 0 5 (some .boolean) false prog_1_method_4_code mb_16 = true := by decide +kernel
set_option maxRecDepth 100000 in
theorem ck_17 : ckM 0 2 (some .boolean) false prog_1_method_45_code mb_17 = true := by decide +kernel
set_option maxRecDepth 100000 in
theorem ck_18 : ckM 0 4 (some .boolean) false prog_1_method_5_code mb_18 = true := by decide +kernel
set_option maxRecDepth 100000 in
theorem ck_19 : ckM 0 1 none false prog_1_method_46_code mb_19 = true := by decide +kernel
set_option maxRecDepth 100000 in
theorem ck_20 : ckM 6 2 none false prog_6_method_2_code mb_20 = true := by decide +kernel
set_option maxRecDepth 100000 in
theorem ck_21 : ckM 1 6 (some .int) false prog_10_method_6_code mb_21 = true := by decide +kernel
set_option maxRecDepth 100000 in
theorem ck_22 : ckM 1 8 (some .int) false prog_10_method_8_code mb_22 = true := by decide +kernel
set_option maxRecDepth 100000 in
theorem ck_23 : ckM 6 4 (some .int) false prog_6_method_3_code mb_23 = true := by decide +kernel
set_option maxRecDepth 100000 in
theorem ck_24 : ckM 2 6 (some .int) false prog_2_method_4_code mb_24 = true := by decide +kernel
set_option maxRecDepth 100000 in
theorem ck_25 : ckM 2 4 none false prog_2_method_5_code mb_25 = true := by decide +kernel
set_option maxRecDepth 100000 in
theorem ck_26 : ckM 2 6 (some .int) false prog_2_method_8_code mb_26 = true := by decide +kernel
set_option maxRecDepth 100000 in
theorem ck_27 : ckM 8 1 (some .boolean) false prog_3_method_2_code mb_27 = true := by decide +kernel
set_option maxRecDepth 100000 in
theorem ck_28 : ckM 2 3 (some .int) false prog_2_method_9_code mb_28 = true := by decide +kernel
set_option maxRecDepth 100000 in
theorem ck_29 : ckM 2 2 (some .int) false prog_2_method_7_code mb_29 = true := by decide +kernel
set_option maxRecDepth 100000 in
theorem ck_30 : ckM 2 2 (some .int) false prog_2_method_6_code mb_30 = true := by decide +kernel
set_option maxRecDepth 100000 in
theorem ck_31 : ckM 6 2 (some .int) false prog_6_method_7_code mb_31 = true := by decide +kernel
set_option maxRecDepth 100000 in
theorem ck_32 : ckM 1 5 (some .int) false prog_10_method_7_code mb_32 = true := by decide +kernel
set_option maxRecDepth 100000 in
theorem ck_33 : ckM 1 6 none false prog_10_method_3_code mb_33 = true := by decide +kernel
set_option maxRecDepth 100000 in
theorem ck_34 : ckM 0 4 (some .int) false prog_1_method_6_code mb_34 = true := by decide +kernel
set_option maxRecDepth 100000 in
theorem ck_35 : ckM 1 4 (some .int) false prog_10_method_4_code mb_35 = true := by decide +kernel
set_option maxRecDepth 100000 in
theorem ck_36 : ckM 1 7 (some .int) false prog_10_method_5_code mb_36 = true := by decide +kernel
set_option maxRecDepth 100000 in
theorem ck_37 : ckM 0 6 (some .int) false prog_1_method_7_code mb_37 = true := by decide +kernel
set_option maxRecDepth 100000 in
theorem ck_38 : ckM 0 3 none false prog_1_method_48_code mb_38 = true := by decide +kernel
set_option maxRecDepth 100000 in
theorem ck_39 : ckM 0 2 (some .boolean) false prog_1_method_8_code mb_39 = true := by decide +kernel
set_option maxRecDepth 100000 in
theorem ck_40 : ckM 0 4 (some .int) false prog_1_method_9_code mb_40 = true := by decide +kernel
set_option maxRecDepth 100000 in
theorem ck_41 : ckM 9 6 none false prog_8_method_2_code mb_41 = true := by decide +kernel
set_option maxRecDepth 100000 in
theorem ck_42 : ckM 9 5 (some .int) false prog_8_method_4_code mb_42 = true := by decide +kernel
set_option maxRecDepth 100000 in
theorem ck_43 : ckM 9 1 (some .int) false prog_8_method_5_code mb_43 = true := by decide +kernel
set_option maxRecDepth 100000 in
theorem ck_44 : ckM 9 7 (some .int) false prog_8_method_6_code mb_44 = true := by decide +kernel
set_option maxRecDepth 100000 in
theorem ck_45 : ckM 9 7 (some .int) false prog_8_method_7_code mb_45 = true := by decide +kernel
set_option maxRecDepth 100000 in
theorem ck_46 : ckM 14 1 (some .int) false prog_19_method_54_code mb_46 = true := by decide +kernel
set_option maxRecDepth 100000 in
theorem ck_47 : ckM 14 1 (some .byte) false prog_19_method_152_code mb_47 = true := by decide +kernel
set_option maxRecDepth 100000 in
theorem ck_48 : ckM 14 2 (some .char) false prog_19_method_56_code mb_48 = true := by decide +kernel
set_option maxRecDepth 100000 in
theorem ck_49 : ckM 14 1 (some .boolean) false prog_19_method_154_code mb_49 = true := by decide +kernel
set_option maxRecDepth 100000 in
theorem ck_50 : ckM 15 2 (some .char) false prog_20_method_2_code mb_50 = true := by decide +kernel
set_option maxRecDepth 100000 in
theorem ck_51 : ckM 14 2 none false prog_19_method_155_code mb_51 = true := by decide +kernel
set_option maxRecDepth 100000 in
theorem ck_52 : ckM 16 3 (some .int) false prog_23_method_11_code mb_52 = true := by decide +kernel
set_option maxRecDepth 100000 in
theorem ck_53 : ckM 9 7 (some .boolean) false prog_8_method_8_code mb_53 = true := by decide +kernel
set_option maxRecDepth 100000 in
theorem ck_54 : ckM 14 2 (some .int) false prog_19_method_79_code mb_54 = true := by decide +kernel
set_option maxRecDepth 100000 in
theorem ck_55 : ckM 14 3 (some .int) false prog_19_method_80_code mb_55 = true := by decide +kernel
set_option maxRecDepth 100000 in
theorem ck_56 : ckM 15 4 (some .int) false prog_20_method_22_code mb_56 = true := by decide +kernel
set_option maxRecDepth 100000 in
theorem ck_57 : ckM 15 1 (some .boolean) false prog_20_method_4_code mb_57 = true := by decide +kernel
set_option maxRecDepth 100000 in
theorem ck_58 : ckM 15 6 (some .int) false prog_20_method_23_code mb_58 = true := by decide +kernel
set_option maxRecDepth 100000 in
theorem ck_59 : ckM 9 3 none false prog_8_method_3_code mb_59 = true := by decide +kernel
set_option maxRecDepth 100000 in
theorem ck_60 : ckM 8 3 none false prog_3_method_3_code mb_60 = true := by decide +kernel
set_option maxRecDepth 100000 in
theorem ck_61 : ckM 9 1 (some .boolean) false prog_8_method_10_code mb_61 = true := by decide +kernel
set_option maxRecDepth 100000 in
theorem ck_62 : ckM 9 1 (some .int) false prog_8_method_9_code mb_62 = true := by decide +kernel
set_option maxRecDepth 100000 in
theorem ck_63 : ckM 9 2 none false prog_8_method_11_code mb_63 = true := by decide +kernel
set_option maxRecDepth 100000 in
theorem ck_64 : ckM 8 3 none false prog_3_method_4_code mb_64 = true := by decide +kernel
set_option maxRecDepth 100000 in
theorem ck_65 : ckM 9 2 (some .boolean) false prog_8_method_12_code mb_65 = true := by decide +kernel
set_option maxRecDepth 100000 in
theorem ck_66 : ckM 8 4 none false prog_3_method_5_code mb_66 = true := by decide +kernel
set_option maxRecDepth 100000 in
theorem ck_67 : ckM 8 2 none false prog_3_method_6_code mb_67 = true := by decide +kernel
set_option maxRecDepth 100000 in
theorem ck_68 : ckM 2 2 none false prog_2_method_3_code mb_68 = true := by decide +kernel
set_option maxRecDepth 100000 in
theorem ck_69 : ckM 9 4 (some .int) false prog_8_method_14_code mb_69 = true := by decide +kernel
set_option maxRecDepth 100000 in
theorem ck_70 : ckM 8 4 none false prog_3_method_7_code mb_70 = true := by decide +kernel
set_option maxRecDepth 100000 in
theorem ck_71 : ckM 8 3 none false prog_3_method_8_code mb_71 = true := by decide +kernel
set_option maxRecDepth 100000 in
theorem ck_72 : ckM 8 2 none false prog_3_method_12_code mb_72 = true := by decide +kernel
set_option maxRecDepth 100000 in
theorem ck_73 : ckM 8 2 (some .int) false prog_3_method_9_code mb_73 = true := by decide +kernel
set_option maxRecDepth 100000 in
theorem ck_74 : ckM 9 2 none false prog_8_method_13_code mb_74 = true := by decide +kernel
set_option maxRecDepth 100000 in
theorem ck_75 : ckM 8 2 none false prog_3_method_10_code mb_75 = true := by decide +kernel
set_option maxRecDepth 100000 in
theorem ck_76 : ckM 8 1 none false prog_3_method_14_code mb_76 = true := by decide +kernel
set_option maxRecDepth 100000 in
theorem ck_77 : ckM 8 3 none false prog_3_method_13_code mb_77 = true := by decide +kernel
set_option maxRecDepth 100000 in
theorem ck_78 : ckM 8 1 (some .boolean) false prog_3_method_11_code mb_78 = true := by decide +kernel
set_option maxRecDepth 100000 in
theorem ck_79 : ckM 3 6 none false prog_4_method_3_code mb_79 = true := by decide +kernel
set_option maxRecDepth 100000 in
theorem ck_80 : ckM 3 5 none false prog_4_method_4_code mb_80 = true := by decide +kernel
set_option maxRecDepth 100000 in
theorem ck_81 : ckM 3 4 none false prog_4_method_5_code mb_81 = true := by decide +kernel
set_option maxRecDepth 100000 in
theorem ck_82 : ckM 3 3 none false prog_4_method_6_code mb_82 = true := by decide +kernel
set_option maxRecDepth 100000 in
theorem ck_83 : ckM 3 3 none false prog_4_method_7_code mb_83 = true := by decide +kernel
set_option maxRecDepth 100000 in
theorem ck_84 : ckM 0 2 (some .int) false prog_1_method_49_code mb_84 = true := by decide +kernel
set_option maxRecDepth 100000 in
theorem ck_85 : ckM 2 2 none false prog_2_method_2_code mb_85 = true := by decide +kernel
set_option maxRecDepth 100000 in
theorem ck_86 : ckM 3 2 none false prog_4_method_2_code mb_86 = true := by decide +kernel
set_option maxRecDepth 100000 in
theorem ck_87 : ckM 6 4 none false prog_6_method_8_code mb_87 = true := by decide +kernel
set_option maxRecDepth 100000 in
theorem ck_88 : ckM 0 2 (some .int) false prog_1_method_10_code mb_88 = true := by decide +kernel
set_option maxRecDepth 100000 in
theorem ck_89 : ckM 0 6 (some .int) false prog_1_method_11_code mb_89 = true := by decide +kernel
set_option maxRecDepth 100000 in
theorem ck_90 : ckM 6 4 (some .int) false prog_6_method_6_code mb_90 = true := by decide +kernel
set_option maxRecDepth 100000 in
theorem ck_91 : ckM 0 5 (some .int) false prog_1_method_50_code mb_91 = true := by decide +kernel
set_option maxRecDepth 100000 in
theorem ck_92 : ckM 0 4 (some .int) false prog_1_method_12_code mb_92 = true := by decide +kernel
set_option maxRecDepth 100000 in
theorem ck_93 : ckM 0 3 (some .int) false prog_1_method_13_code mb_93 = true := by decide +kernel
set_option maxRecDepth 100000 in
theorem ck_94 : ckM 0 4 (some .int) false prog_1_method_14_code mb_94 = true := by decide +kernel
set_option maxRecDepth 100000 in
theorem ck_95 : ckM 6 4 (some .int) false prog_6_method_5_code mb_95 = true := by decide +kernel
set_option maxRecDepth 100000 in
theorem ck_96 : ckM 6 6 (some .int) false prog_6_method_4_code mb_96 = true := by decide +kernel
set_option maxRecDepth 100000 in
theorem ck_97 : ckM 0 5 (some .int) false prog_1_method_15_code mb_97 = true := by decide +kernel
set_option maxRecDepth 100000 in
theorem ck_98 : ckM 0 2 (some .int) false prog_1_method_16_code mb_98 = true := by decide +kernel
set_option maxRecDepth 100000 in
theorem ck_99 : ckM 12 10 (some .int) false prog_12_method_2_code mb_99 = true := by decide +kernel
set_option maxRecDepth 100000 in
theorem ck_100 : ckM 0 2 (some .int) false prog_1_method_17_code mb_100 = true := by decide +kernel
set_option maxRecDepth 100000 in
theorem ck_101 : ckM 12 6 (some .int) false prog_12_method_3_code mb_101 = true := by decide +kernel
set_option maxRecDepth 100000 in
theorem ck_102 : ckM 12 4 (some .int) false prog_12_method_4_code mb_102 = true := by decide +kernel
set_option maxRecDepth 100000 in
theorem ck_103 : ckM 0 2 (some .int) false prog_1_method_18_code mb_103 = true := by decide +kernel
set_option maxRecDepth 100000 in
theorem ck_104 : ckM 12 11 (some .int) false prog_12_method_5_code mb_104 = true := by decide +kernel
set_option maxRecDepth 100000 in
theorem ck_105 : ckM 18 2 (some .int) false prog_17_method_50_code mb_105 = true := by decide +kernel
set_option maxRecDepth 100000 in
theorem ck_106 : ckM 12 9 (some .long) false prog_12_method_6_code mb_106 = true := by decide +kernel
set_option maxRecDepth 100000 in
theorem ck_107 : ckM 0 3 (some .boolean) false prog_1_method_19_code mb_107 = true := by decide +kernel
set_option maxRecDepth 100000 in
theorem ck_108 : ckM 0 3 (some .int) false prog_1_method_20_code mb_108 = true := by decide +kernel
set_option maxRecDepth 100000 in
theorem ck_109 : ckM 11 8 (some .int) false prog_7_method_3_code mb_109 = true := by decide +kernel
set_option maxRecDepth 100000 in
theorem ck_110 : ckM 11 11 (some .long) false prog_7_method_2_code mb_110 = true := by decide +kernel
set_option maxRecDepth 100000 in
theorem ck_111 : ckM 0 2 (some .int) false prog_1_method_21_code mb_111 = true := by decide +kernel
set_option maxRecDepth 100000 in
theorem ck_112 : ckM 5 2 (some .int) false prog_5_method_2_code mb_112 = true := by decide +kernel
set_option maxRecDepth 100000 in
theorem ck_113 : ckM 0 3 (some .int) false prog_1_method_22_code mb_113 = true := by decide +kernel
set_option maxRecDepth 100000 in
theorem ck_114 : ckM 11 7 (some .int) false prog_7_method_4_code mb_114 = true := by decide +kernel
set_option maxRecDepth 100000 in
theorem ck_115 : ckM 5 5 (some .int) false prog_5_method_4_code mb_115 = true := by decide +kernel
set_option maxRecDepth 100000 in
theorem ck_116 : ckM 5 3 (some .int) false prog_5_method_5_code mb_116 = true := by decide +kernel
set_option maxRecDepth 100000 in
theorem ck_117 : ckM 11 5 (some .int) false prog_7_method_5_code mb_117 = true := by decide +kernel
set_option maxRecDepth 100000 in
theorem ck_118 : ckM 11 7 (some .int) false prog_7_method_6_code mb_118 = true := by decide +kernel
set_option maxRecDepth 100000 in
theorem ck_119 : ckM 11 7 (some .int) false prog_7_method_7_code mb_119 = true := by decide +kernel
set_option maxRecDepth 100000 in
theorem ck_120 : ckM 0 4 (some .boolean) false prog_1_method_23_code mb_120 = true := by decide +kernel
set_option maxRecDepth 100000 in
theorem ck_121 : ckM 7 4 (some .boolean) false prog_11_method_2_code mb_121 = true := by decide +kernel
set_option maxRecDepth 100000 in
theorem ck_122 : ckM 7 5 none false prog_11_method_4_code mb_122 = true := by decide +kernel
set_option maxRecDepth 100000 in
theorem ck_123 : ckM 7 4 (some .int) false prog_11_method_3_code mb_123 = true := by decide +kernel
set_option maxRecDepth 100000 in
theorem ck_124 : ckM 0 2 (some .int) false prog_1_method_24_code mb_124 = true := by decide +kernel
set_option maxRecDepth 100000 in
theorem ck_125 : ckM 7 8 (some .int) false prog_11_method_6_code mb_125 = true := by decide +kernel
set_option maxRecDepth 100000 in
theorem ck_126 : ckM 7 4 (some .int) false prog_11_method_7_code mb_126 = true := by decide +kernel
set_option maxRecDepth 100000 in
theorem ck_127 : ckM 7 3 (some .int) false prog_11_method_8_code mb_127 = true := by decide +kernel
set_option maxRecDepth 100000 in
theorem ck_128 : ckM 7 6 (some .int) false prog_11_method_9_code mb_128 = true := by decide +kernel
set_option maxRecDepth 100000 in
theorem ck_129 : ckM 7 5 (some .boolean) false prog_11_method_10_code mb_129 = true := by decide +kernel
set_option maxRecDepth 100000 in
theorem ck_130 : ckM 0 4 (some .int) false prog_1_method_25_code mb_130 = true := by decide +kernel
set_option maxRecDepth 100000 in
theorem ck_131 : ckM 11 7 (some .int) false prog_7_method_8_code mb_131 = true := by decide +kernel
set_option maxRecDepth 100000 in
theorem ck_132 : ckM 0 5 (some .int) false prog_1_method_26_code mb_132 = true := by decide +kernel
set_option maxRecDepth 100000 in
theorem ck_133 : ckM 11 1 (some .boolean) false prog_7_method_9_code mb_133 = true := by decide +kernel
set_option maxRecDepth 100000 in
theorem ck_134 : ckM 11 15 (some .int) false prog_7_method_10_code mb_134 = true := by decide +kernel
set_option maxRecDepth 100000 in
theorem ck_135 : ckM 0 2 (some .int) false prog_1_method_27_code mb_135 = true := by decide +kernel
set_option maxRecDepth 100000 in
theorem ck_136 : ckM 0 3 (some .int) false prog_1_method_28_code mb_136 = true := by decide +kernel
set_option maxRecDepth 100000 in
theorem ck_137 : ckM 11 3 (some .int) false prog_7_method_12_code mb_137 = true := by decide +kernel
set_option maxRecDepth 100000 in
theorem ck_138 : ckM 11 2 (some .int) false prog_7_method_11_code mb_138 = true := by decide +kernel
set_option maxRecDepth 100000 in
theorem ck_139 : ckM 11 5 (some .int) false prog_7_method_13_code mb_139 = true := by decide +kernel
set_option maxRecDepth 100000 in
theorem ck_140 : ckM 11 7 (some .int) false prog_7_method_14_code mb_140 = true := by decide +kernel
set_option maxRecDepth 100000 in
theorem ck_141 : ckM 11 4 (some .int) false prog_7_method_15_code mb_141 = true := by decide +kernel
set_option maxRecDepth 100000 in
theorem ck_142 : ckM 0 2 (some .int) false prog_1_method_29_code mb_142 = true := by decide +kernel
set_option maxRecDepth 100000 in
theorem ck_143 : ckM 0 3 (some .int) false prog_1_method_30_code mb_143 = true := by decide +kernel
set_option maxRecDepth 100000 in
theorem ck_144 : ckM 11 2 (some .int) false prog_7_method_16_code mb_144 = true := by decide +kernel
set_option maxRecDepth 100000 in
theorem ck_145 : ckM 11 6 (some .int) false prog_7_method_17_code mb_145 = true := by decide +kernel
set_option maxRecDepth 100000 in
theorem ck_146 : ckM 0 4 (some .int) false prog_1_method_31_code mb_146 = true := by decide +kernel
set_option maxRecDepth 100000 in
theorem ck_147 : ckM 4 4 (some .int) false prog_9_method_3_code mb_147 = true := by decide +kernel
set_option maxRecDepth 100000 in
theorem ck_148 : ckM 0 3 (some .int) false prog_1_method_32_code mb_148 = true := by decide +kernel
set_option maxRecDepth 100000 in
theorem ck_149 : ckM 0 4 (some .int) false prog_1_method_33_code mb_149 = true := by decide +kernel
set_option maxRecDepth 100000 in
theorem ck_150 : ckM 12 9 (some .int) false prog_12_method_8_code mb_150 = true := by decide +kernel
set_option maxRecDepth 100000 in
theorem ck_151 : ckM 12 3 (some .int) false prog_12_method_7_code mb_151 = true := by decide +kernel
set_option maxRecDepth 100000 in
theorem ck_152 : ckM 0 5 (some .int) false prog_1_method_34_code mb_152 = true := by decide +kernel
set_option maxRecDepth 100000 in
theorem ck_153 : ckM 12 10 (some .int) false prog_12_method_9_code mb_153 = true := by decide +kernel
set_option maxRecDepth 100000 in
theorem ck_154 : ckM 0 3 (some .int) false prog_1_method_35_code mb_154 = true := by decide +kernel
set_option maxRecDepth 100000 in
theorem ck_155 : ckM 11 6 (some .int) false prog_7_method_18_code mb_155 = true := by decide +kernel
set_option maxRecDepth 100000 in
theorem ck_156 : ckM 0 3 (some .int) false prog_1_method_36_code mb_156 = true := by decide +kernel
set_option maxRecDepth 100000 in
theorem ck_157 : ckM 11 7 (some .int) false prog_7_method_19_code mb_157 = true := by decide +kernel
set_option maxRecDepth 100000 in
theorem ck_158 : ckM 0 2 (some .int) false prog_1_method_37_code mb_158 = true := by decide +kernel
set_option maxRecDepth 100000 in
theorem ck_159 : ckM 0 3 (some .int) false prog_1_method_38_code mb_159 = true := by decide +kernel
set_option maxRecDepth 100000 in
theorem ck_160 : ckM 5 3 (some .int) false prog_5_method_6_code mb_160 = true := by decide +kernel
set_option maxRecDepth 100000 in
theorem ck_161 : ckM 5 3 (some .boolean) false prog_5_method_7_code mb_161 = true := by decide +kernel
set_option maxRecDepth 100000 in
theorem ck_162 : ckM 0 2 (some .int) false prog_1_method_39_code mb_162 = true := by decide +kernel
set_option maxRecDepth 100000 in
theorem ck_163 : ckM 12 5 (some .boolean) false prog_12_method_10_code mb_163 = true := by decide +kernel
set_option maxRecDepth 100000 in
theorem ck_164 : ckM 12 5 (some .int) false prog_12_method_11_code mb_164 = true := by decide +kernel
set_option maxRecDepth 100000 in
theorem ck_165 : ckM 12 5 (some .int) false prog_12_method_12_code mb_165 = true := by decide +kernel
set_option maxRecDepth 100000 in
theorem ck_166 : ckM 17 1 (some .int) false prog_16_method_49_code mb_166 = true := by decide +kernel
set_option maxRecDepth 100000 in
theorem ck_167 : ckM 12 4 none false prog_12_method_13_code mb_167 = true := by decide +kernel
set_option maxRecDepth 100000 in
theorem ck_168 : ckM 12 5 (some .int) false prog_12_method_14_code mb_168 = true := by decide +kernel
set_option maxRecDepth 100000 in
theorem ck_169 : ckM 12 6 (some .int) false prog_12_method_15_code mb_169 = true := by decide +kernel
set_option maxRecDepth 100000 in
theorem ck_170 : ckM 0 1 (some .boolean) false prog_1_method_40_code mb_170 = true := by decide +kernel
set_option maxRecDepth 100000 in
theorem ck_171 : ckM 0 2 (some .boolean) false prog_1_method_41_code mb_171 = true := by decide +kernel
set_option maxRecDepth 100000 in
theorem ck_172 : ckM 1 2 none false prog_10_method_2_code mb_172 = true := by decide +kernel
set_option maxRecDepth 100000 in
theorem ck_173 : ckM 4 2 none false prog_9_method_2_code mb_173 = true := by decide +kernel
set_option maxRecDepth 100000 in
theorem ck_174 : ckM 5 2 none false prog_5_method_3_code mb_174 = true := by decide +kernel
set_option maxRecDepth 100000 in
theorem ck_175 : ckM 7 3 none false prog_11_method_5_code mb_175 = true := by decide +kernel
set_option maxRecDepth 100000 in
theorem ck_176 : ckM 0 3 (some .int) false prog_1_method_42_code mb_176 = true := by decide +kernel
set_option maxRecDepth 100000 in
theorem ck_178 : ckM 10 2 (some .boolean) false prog_14_method_11_code mb_178 = true := by decide +kernel
set_option maxRecDepth 100000 in
theorem ck_179 : ckM 10 3 (some .int) false prog_14_method_14_code mb_179 = true := by decide +kernel
set_option maxRecDepth 100000 in
theorem ck_180 : ckM 10 5 (some .int) false prog_14_method_19_code mb_180 = true := by decide +kernel
set_option maxRecDepth 100000 in
theorem ck_181 : ckM 10 4 (some .boolean) false prog_14_method_3_code mb_181 = true := by decide +kernel
set_option maxRecDepth 100000 in
theorem ck_182 : ckM 10 3 (some .boolean) false prog_14_method_17_code mb_182 = true := by decide +kernel
set_option maxRecDepth 100000 in
theorem ck_183 : ckM 10 5 (some .boolean) false prog_14_method_20_code mb_183 = true := by decide +kernel
set_option maxRecDepth 100000 in
theorem ck_184 : ckM 10 2 (some .boolean) false prog_14_method_16_code mb_184 = true := by decide +kernel
set_option maxRecDepth 100000 in
theorem ck_185 : ckM 10 6 (some .int) false prog_14_method_22_code mb_185 = true := by decide +kernel
set_option maxRecDepth 100000 in
theorem ck_186 : ckM 10 3 none false prog_14_method_21_code mb_186 = true := by decide +kernel
set_option maxRecDepth 100000 in
theorem ck_187 : ckM 10 2 (some .boolean) false prog_14_method_23_code mb_187 = true := by decide +kernel
set_option maxRecDepth 100000 in
theorem ck_188 : ckM 10 3 (some .int) false prog_14_method_58_code mb_188 = true := by decide +kernel
set_option maxRecDepth 100000 in
theorem ck_189 : ckM 10 2 (some .int) false prog_14_method_55_code mb_189 = true := by decide +kernel
set_option maxRecDepth 100000 in
theorem ck_190 : ckM 10 2 none false prog_14_method_29_code mb_190 = true := by decide +kernel
set_option maxRecDepth 100000 in
theorem ck_191 : ckM 10 2 (some .int) false prog_14_method_24_code mb_191 = true := by decide +kernel
set_option maxRecDepth 100000 in
theorem ck_192 : ckM 10 2 (some .boolean) false prog_14_method_25_code mb_192 = true := by decide +kernel
set_option maxRecDepth 100000 in
theorem ck_193 : ckM 10 6 (some .int) false prog_14_method_28_code mb_193 = true := by decide +kernel
set_option maxRecDepth 100000 in
theorem ck_194 : ckM 10 2 (some .boolean) false prog_14_method_26_code mb_194 = true := by decide +kernel
set_option maxRecDepth 100000 in
theorem ck_195 : ckM 10 2 (some .boolean) false prog_14_method_27_code mb_195 = true := by decide +kernel
set_option maxRecDepth 100000 in
theorem ck_196 : ckM 10 2 (some .int) false prog_14_method_50_code mb_196 = true := by decide +kernel
set_option maxRecDepth 100000 in
theorem ck_197 : ckM 10 2 (some .boolean) false prog_14_method_31_code mb_197 = true := by decide +kernel
set_option maxRecDepth 100000 in
theorem ck_198 : ckM 10 2 (some .int) false prog_14_method_30_code mb_198 = true := by decide +kernel
set_option maxRecDepth 100000 in
theorem ck_199 : ckM 10 3 (some .int) false prog_14_method_49_code mb_199 = true := by decide +kernel
set_option maxRecDepth 100000 in
theorem ck_200 : ckM 10 4 (some .int) false prog_14_method_47_code mb_200 = true := by decide +kernel
set_option maxRecDepth 100000 in
theorem ck_201 : ckM 10 4 (some .int) false prog_14_method_45_code mb_201 = true := by decide +kernel
set_option maxRecDepth 100000 in
theorem ck_202 : ckM 10 3 (some .int) false prog_14_method_48_code mb_202 = true := by decide +kernel
set_option maxRecDepth 100000 in
theorem ck_203 : ckM 10 2 (some .int) false prog_14_method_46_code mb_203 = true := by decide +kernel
set_option maxRecDepth 100000 in
theorem ck_204 : ckM 10 2 (some .boolean) false prog_14_method_32_code mb_204 = true := by decide +kernel
set_option maxRecDepth 100000 in
theorem ck_205 : ckM 10 2 (some .int) false prog_14_method_52_code mb_205 = true := by decide +kernel
set_option maxRecDepth 100000 in
theorem ck_206 : ckM 10 3 (some .int) false prog_14_method_51_code mb_206 = true := by decide +kernel
set_option maxRecDepth 100000 in
theorem ck_207 : ckM 10 2 (some .int) false prog_14_method_54_code mb_207 = true := by decide +kernel
set_option maxRecDepth 100000 in
theorem ck_208 : ckM 10 2 (some .int) false prog_14_method_53_code mb_208 = true := by decide +kernel
set_option maxRecDepth 100000 in
theorem ck_209 : ckM 10 3 (some .int) false prog_14_method_43_code mb_209 = true := by decide +kernel
set_option maxRecDepth 100000 in
theorem ck_210 : ckM 10 1 (some .boolean) false prog_14_method_42_code mb_210 = true := by decide +kernel
set_option maxRecDepth 100000 in
theorem ck_211 : ckM 10 2 (some .int) false prog_14_method_37_code mb_211 = true := by decide +kernel
set_option maxRecDepth 100000 in
theorem ck_212 : ckM 10 2 (some .int) false prog_14_method_36_code mb_212 = true := by decide +kernel
set_option maxRecDepth 100000 in
theorem ck_213 : ckM 10 2 (some .int) false prog_14_method_35_code mb_213 = true := by decide +kernel
set_option maxRecDepth 100000 in
theorem ck_214 : ckM 10 2 (some .boolean) false prog_14_method_34_code mb_214 = true := by decide +kernel
set_option maxRecDepth 100000 in
theorem ck_215 : ckM 10 3 none false prog_14_method_33_code mb_215 = true := by decide +kernel
set_option maxRecDepth 100000 in
theorem ck_216 : ckM 10 4 (some .int) false prog_14_method_41_code mb_216 = true := by decide +kernel
set_option maxRecDepth 100000 in
theorem ck_217 : ckM 10 2 none false prog_14_method_39_code mb_217 = true := by decide +kernel
set_option maxRecDepth 100000 in
theorem ck_218 : ckM 10 2 (some .int) false prog_14_method_38_code mb_218 = true := by decide +kernel
set_option maxRecDepth 100000 in
theorem ck_219 : ckM 10 2 none false prog_14_method_40_code mb_219 = true := by decide +kernel
set_option maxRecDepth 100000 in
theorem ck_220 : ckM 10 3 none false prog_14_method_44_code mb_220 = true := by decide +kernel
set_option maxRecDepth 100000 in
theorem ck_221 : ckM 10 4 none false prog_14_method_57_code mb_221 = true := by decide +kernel
set_option maxRecDepth 100000 in
theorem ck_222 : ckM 10 4 none false prog_14_method_56_code mb_222 = true := by decide +kernel
set_option maxRecDepth 100000 in
theorem ck_223 : ckM 10 2 (some .int) false prog_14_method_59_code mb_223 = true := by decide +kernel
set_option maxRecDepth 100000 in
theorem ck_224 : ckM 10 3 (some .boolean) false prog_14_method_76_code mb_224 = true := by decide +kernel
set_option maxRecDepth 100000 in
theorem ck_225 : ckM 10 3 (some .boolean) false prog_14_method_75_code mb_225 = true := by decide +kernel
set_option maxRecDepth 100000 in
theorem ck_226 : ckM 10 2 none false prog_14_method_10_code mb_226 = true := by decide +kernel
set_option maxRecDepth 100000 in
theorem ck_227 : ckM 10 3 (some .int) false prog_14_method_74_code mb_227 = true := by decide +kernel
set_option maxRecDepth 100000 in
theorem ck_228 : ckM 10 8 (some .int) false prog_14_method_71_code mb_228 = true := by decide +kernel
set_option maxRecDepth 100000 in
theorem ck_229 : ckM 10 2 (some .int) false prog_14_method_69_code mb_229 = true := by decide +kernel
set_option maxRecDepth 100000 in
theorem ck_230 : ckM 10 2 (some .int) false prog_14_method_70_code mb_230 = true := by decide +kernel
set_option maxRecDepth 100000 in
theorem ck_231 : ckM 10 3 (some .int) false prog_14_method_65_code mb_231 = true := by decide +kernel
set_option maxRecDepth 100000 in
theorem ck_232 : ckM 10 3 none false prog_14_method_63_code mb_232 = true := by decide +kernel
set_option maxRecDepth 100000 in
theorem ck_233 : ckM 10 4 (some .int) false prog_14_method_4_code mb_233 = true := by decide +kernel
set_option maxRecDepth 100000 in
theorem ck_234 : ckM 10 6 (some .int) false prog_14_method_64_code mb_234 = true := by decide +kernel
set_option maxRecDepth 100000 in
theorem ck_235 : ckM 10 3 (some .int) false prog_14_method_62_code mb_235 = true := by decide +kernel
set_option maxRecDepth 100000 in
theorem ck_236 : ckM 10 6 (some .int) false prog_14_method_61_code mb_236 = true := by decide +kernel
set_option maxRecDepth 100000 in
theorem ck_237 : ckM 10 4 (some .int) false prog_14_method_60_code mb_237 = true := by decide +kernel
set_option maxRecDepth 100000 in
theorem ck_238 : ckM 10 2 (some .int) false prog_14_method_18_code mb_238 = true := by decide +kernel
set_option maxRecDepth 100000 in
theorem ck_239 : ckM 10 3 (some .int) false prog_14_method_66_code mb_239 = true := by decide +kernel
set_option maxRecDepth 100000 in
theorem ck_240 : ckM 10 2 (some .boolean) false prog_14_method_73_code mb_240 = true := by decide +kernel
set_option maxRecDepth 100000 in
theorem ck_241 : ckM 10 2 (some .int) false prog_14_method_15_code mb_241 = true := by decide +kernel
set_option maxRecDepth 100000 in
theorem ck_242 : ckM 10 4 (some .int) false prog_14_method_72_code mb_242 = true := by decide +kernel
set_option maxRecDepth 100000 in
theorem ck_243 : ckM 10 5 none false prog_14_method_68_code mb_243 = true := by decide +kernel
set_option maxRecDepth 100000 in
theorem ck_244 : ckM 10 3 (some .int) false prog_14_method_67_code mb_244 = true := by decide +kernel
set_option maxRecDepth 100000 in
theorem ck_245 : ckM 10 4 (some .int) false prog_14_method_79_code mb_245 = true := by decide +kernel
set_option maxRecDepth 100000 in
theorem ck_246 : ckM 10 3 (some .int) false prog_14_method_78_code mb_246 = true := by decide +kernel
set_option maxRecDepth 100000 in
theorem ck_247 : ckM 10 7 (some .int) false prog_14_method_77_code mb_247 = true := by decide +kernel
set_option maxRecDepth 100000 in
theorem ck_248 : ckM 10 3 (some .int) false prog_14_method_6_code mb_248 = true := by decide +kernel
set_option maxRecDepth 100000 in
theorem ck_249 : ckM 10 3 (some .int) false prog_14_method_5_code mb_249 = true := by decide +kernel
set_option maxRecDepth 100000 in
theorem ck_250 : ckM 10 5 (some .int) false prog_14_method_81_code mb_250 = true := by decide +kernel
set_option maxRecDepth 100000 in
theorem ck_251 : ckM 10 4 (some .int) false prog_14_method_80_code mb_251 = true := by decide +kernel
set_option maxRecDepth 100000 in
theorem ck_252 : ckM 10 3 (some .int) false prog_14_method_82_code mb_252 = true := by decide +kernel
set_option maxRecDepth 100000 in
theorem ck_253 : ckM 10 3 (some .int) false prog_14_method_83_code mb_253 = true := by decide +kernel
set_option maxRecDepth 100000 in
theorem ck_254 : ckM 10 4 (some .int) false prog_14_method_86_code mb_254 = true := by decide +kernel
set_option maxRecDepth 100000 in
theorem ck_255 : ckM 10 2 none false prog_14_method_12_code mb_255 = true := by decide +kernel
set_option maxRecDepth 100000 in
theorem ck_256 : ckM 10 5 (some .int) false prog_14_method_84_code mb_256 = true := by decide +kernel
set_option maxRecDepth 100000 in
theorem ck_257 : ckM 10 3 (some .int) false prog_14_method_85_code mb_257 = true := by decide +kernel
set_option maxRecDepth 100000 in
theorem ck_258 : ckM 10 2 none false prog_14_method_13_code mb_258 = true := by decide +kernel
set_option maxRecDepth 100000 in
theorem ck_259 : ckM 10 6 (some .int) false prog_14_method_87_code mb_259 = true := by decide +kernel
set_option maxRecDepth 100000 in
theorem ck_260 : ckM 10 6 (some .int) false prog_14_method_88_code mb_260 = true := by decide +kernel
set_option maxRecDepth 100000 in
theorem ck_261 : ckM 10 4 (some .int) false prog_14_method_90_code mb_261 = true := by decide +kernel
set_option maxRecDepth 100000 in
theorem ck_262 : ckM 10 4 (some .int) false prog_14_method_89_code mb_262 = true := by decide +kernel
set_option maxRecDepth 100000 in
theorem ck_263 : ckM 10 2 (some .int) false prog_14_method_7_code mb_263 = true := by decide +kernel
set_option maxRecDepth 100000 in
theorem ck_264 : ckM 10 5 (some .int) false prog_14_method_94_code mb_264 = true := by decide +kernel
set_option maxRecDepth 100000 in
theorem ck_265 : ckM 10 4 (some .int) false prog_14_method_93_code mb_265 = true := by decide +kernel
set_option maxRecDepth 100000 in
theorem ck_266 : ckM 10 3 (some .boolean) false prog_14_method_91_code mb_266 = true := by decide +kernel
set_option maxRecDepth 100000 in
theorem ck_267 : ckM 10 6 none false prog_14_method_92_code mb_267 = true := by decide +kernel
set_option maxRecDepth 100000 in
theorem ck_268 : ckM 10 3 (some .boolean) false prog_14_method_95_code mb_268 = true := by decide +kernel
set_option maxRecDepth 100000 in
theorem ck_269 : ckM 10 6 (some .int) false prog_14_method_96_code mb_269 = true := by decide +kernel
set_option maxRecDepth 100000 in
theorem ck_270 : ckM 10 3 (some .boolean) false prog_14_method_9_code mb_270 = true := by decide +kernel
set_option maxRecDepth 100000 in
theorem ck_271 : ckM 10 6 (some .int) false prog_14_method_8_code mb_271 = true := by decide +kernel
set_option maxRecDepth 100000 in
theorem ck_272 : ckM 10 2 (some .int) false prog_14_method_97_code mb_272 = true := by decide +kernel
set_option maxRecDepth 100000 in
theorem ck_273 : ckM 10 4 (some .int) false prog_14_method_99_code mb_273 = true := by decide +kernel
set_option maxRecDepth 100000 in
theorem ck_274 : ckM 10 8 (some .int) false prog_14_method_98_code mb_274 = true := by decide +kernel
set_option maxRecDepth 100000 in
theorem ck_275 : ckM 10 6 (some .boolean) false prog_14_method_102_code mb_275 = true := by decide +kernel
set_option maxRecDepth 100000 in
theorem ck_276 : ckM 10 2 (some .int) false prog_14_method_106_code mb_276 = true := by decide +kernel
set_option maxRecDepth 100000 in
theorem ck_277 : ckM 10 5 (some .int) false prog_14_method_105_code mb_277 = true := by decide +kernel
set_option maxRecDepth 100000 in
theorem ck_278 : ckM 10 3 (some .boolean) false prog_14_method_104_code mb_278 = true := by decide +kernel
set_option maxRecDepth 100000 in
theorem ck_279 : ckM 10 4 (some .int) false prog_14_method_101_code mb_279 = true := by decide +kernel
set_option maxRecDepth 100000 in
theorem ck_280 : ckM 10 5 (some .int) false prog_14_method_100_code mb_280 = true := by decide +kernel
set_option maxRecDepth 100000 in
theorem ck_281 : ckM 10 4 none false prog_14_method_103_code mb_281 = true := by decide +kernel
set_option maxRecDepth 100000 in
theorem ck_282 : ckM 10 5 (some .int) false prog_14_method_109_code mb_282 = true := by decide +kernel
set_option maxRecDepth 100000 in
theorem ck_283 : ckM 10 6 none false prog_14_method_108_code mb_283 = true := by decide +kernel
set_option maxRecDepth 100000 in
theorem ck_284 : ckM 10 4 (some .int) false prog_14_method_107_code mb_284 = true := by decide +kernel
set_option maxRecDepth 100000 in
theorem ck_285 : ckM 10 12 (some .int) false prog_14_method_110_code mb_285 = true := by decide +kernel
set_option maxRecDepth 100000 in
theorem ck_286 : ckM 10 2 (some .int) false prog_14_method_111_code mb_286 = true := by decide +kernel
set_option maxRecDepth 100000 in
theorem ck_287 : ckM 10 4 (some .int) false prog_14_method_115_code mb_287 = true := by decide +kernel
set_option maxRecDepth 100000 in
theorem ck_288 : ckM 10 4 (some .int) false prog_14_method_114_code mb_288 = true := by decide +kernel
set_option maxRecDepth 100000 in
theorem ck_289 : ckM 10 5 (some .int) false prog_14_method_112_code mb_289 = true := by decide +kernel
set_option maxRecDepth 100000 in
theorem ck_290 : ckM 10 2 (some .int) false prog_14_method_113_code mb_290 = true := by decide +kernel
set_option maxRecDepth 100000 in
theorem ck_291 : ckM 10 2 (some .int) false prog_14_method_116_code mb_291 = true := by decide +kernel
set_option maxRecDepth 100000 in
theorem ck_292 : ckM 10 3 (some .int) false prog_14_method_118_code mb_292 = true := by decide +kernel
set_option maxRecDepth 100000 in
theorem ck_293 : ckM 10 6 (some .int) false prog_14_method_117_code mb_293 = true := by decide +kernel
set_option maxRecDepth 100000 in
theorem ck_294 : ckM 10 4 (some .int) false prog_14_method_119_code mb_294 = true := by decide +kernel
set_option maxRecDepth 100000 in
theorem ck_295 : ckM 10 4 (some .int) false prog_14_method_120_code mb_295 = true := by decide +kernel
set_option maxRecDepth 100000 in
theorem ck_296 : ckM 10 5 (some .int) false prog_14_method_122_code mb_296 = true := by decide +kernel
set_option maxRecDepth 100000 in
theorem ck_297 : ckM 10 11 (some .int) false prog_14_method_121_code mb_297 = true := by decide +kernel
set_option maxRecDepth 100000 in
theorem ck_298 : ckM 10 6 (some .int) false prog_14_method_123_code mb_298 = true := by decide +kernel
set_option maxRecDepth 100000 in
theorem ck_299 : ckM 10 5 (some .int) false prog_14_method_125_code mb_299 = true := by decide +kernel
set_option maxRecDepth 100000 in
theorem ck_300 : ckM 10 7 (some .int) false prog_14_method_124_code mb_300 = true := by decide +kernel
set_option maxRecDepth 100000 in
theorem ck_301 : ckM 10 8 (some .int) false prog_14_method_126_code mb_301 = true := by decide +kernel
set_option maxRecDepth 100000 in
theorem ck_302 : ckM 10 2 (some .int) false prog_14_method_127_code mb_302 = true := by decide +kernel
set_option maxRecDepth 100000 in
theorem ck_303 : ckM 10 4 (some .int) false prog_14_method_128_code mb_303 = true := by decide +kernel
set_option maxRecDepth 100000 in
theorem ck_304 : ckM 10 9 (some .int) false prog_14_method_133_code mb_304 = true := by decide +kernel
set_option maxRecDepth 100000 in
theorem ck_305 : ckM 10 4 none false prog_14_method_129_code mb_305 = true := by decide +kernel
set_option maxRecDepth 100000 in
theorem ck_306 : ckM 10 2 (some .boolean) false prog_14_method_130_code mb_306 = true := by decide +kernel
set_option maxRecDepth 100000 in
theorem ck_307 : ckM 10 3 (some .int) false prog_14_method_132_code mb_307 = true := by decide +kernel
set_option maxRecDepth 100000 in
theorem ck_308 : ckM 10 5 (some .int) false prog_14_method_131_code mb_308 = true := by decide +kernel
set_option maxRecDepth 100000 in
theorem ck_309 : ckM 10 3 (some .boolean) false prog_14_method_137_code mb_309 = true := by decide +kernel
set_option maxRecDepth 100000 in
theorem ck_310 : ckM 10 2 (some .int) false prog_14_method_134_code mb_310 = true := by decide +kernel
set_option maxRecDepth 100000 in
theorem ck_312 : ckM 10 2 none false prog_14_method_135_code mb_312 = true := by decide +kernel
set_option maxRecDepth 100000 in
theorem ck_313 : ckM 10 2 (some .int) false prog_14_method_138_code mb_313 = true := by decide +kernel
