theorem jm_ck_app {cc : ByteArray} {a b : List (Nat × Instr × Nat)} (h1 : jm_ck cc a = true) (h2 : jm_ck cc b = true) : jm_ck cc (a ++ b) = true := by
  unfold jm_ck at h1 h2 ⊢
  rw [List.all_append, h1, h2]; rfl
def jm_d0 : jm_R := (⟨"", "", ""⟩, ⟨#[]⟩, 0, none, 0, 0, false)
theorem jm_d_0 : jm_ck prog_2_method_1_code jm_i_0 = true := jm_c_0_0
theorem jm_d_1 : jm_ck prog_2_method_2_code jm_i_1 = true := jm_c_1_0
theorem jm_d_2 : jm_ck prog_2_method_3_code jm_i_2 = true := jm_c_2_0
theorem jm_d_3 : jm_ck prog_2_method_4_code jm_i_3 = true := jm_ck_app jm_c_3_0 (jm_c_3_1)
theorem jm_d_4 : jm_ck prog_3_method_1_code jm_i_4 = true := jm_c_4_0
theorem jm_d_5 : jm_ck prog_3_method_2_code jm_i_5 = true := jm_c_5_0
theorem jm_d_6 : jm_ck prog_3_method_3_code jm_i_6 = true := jm_c_6_0
theorem jm_d_7 : jm_ck prog_3_method_4_code jm_i_7 = true := jm_c_7_0
theorem jm_d_8 : jm_ck prog_3_method_5_code jm_i_8 = true := jm_c_8_0
theorem jm_d_9 : jm_ck prog_3_method_6_code jm_i_9 = true := jm_c_9_0
theorem jm_d_10 : jm_ck prog_3_method_7_code jm_i_10 = true := jm_c_10_0
theorem jm_d_11 : jm_ck prog_3_method_8_code jm_i_11 = true := jm_c_11_0
theorem jm_d_12 : jm_ck prog_4_method_1_code jm_i_12 = true := jm_c_12_0
theorem jm_d_13 : jm_ck prog_4_method_2_code jm_i_13 = true := jm_c_13_0
theorem jm_d_14 : jm_ck prog_4_method_3_code jm_i_14 = true := jm_c_14_0
theorem jm_d_15 : jm_ck prog_4_method_4_code jm_i_15 = true := jm_ck_app jm_c_15_0 (jm_c_15_1)
theorem jm_d_16 : jm_ck prog_4_method_5_code jm_i_16 = true := jm_c_16_0
theorem jm_d_17 : jm_ck prog_4_method_6_code jm_i_17 = true := jm_ck_app jm_c_17_0 (jm_c_17_1)
theorem jm_d_18 : jm_ck prog_4_method_7_code jm_i_18 = true := jm_c_18_0
theorem jm_d_19 : jm_ck prog_4_method_8_code jm_i_19 = true := jm_c_19_0
theorem jm_d_20 : jm_ck prog_4_method_9_code jm_i_20 = true := jm_c_20_0
theorem jm_d_21 : jm_ck prog_4_method_10_code jm_i_21 = true := jm_c_21_0
theorem jm_d_22 : jm_ck prog_4_method_11_code jm_i_22 = true := jm_c_22_0
theorem jm_d_23 : jm_ck prog_4_method_12_code jm_i_23 = true := jm_c_23_0
theorem jm_d_24 : jm_ck prog_4_method_13_code jm_i_24 = true := jm_c_24_0
theorem jm_d_25 : jm_ck prog_4_method_14_code jm_i_25 = true := jm_c_25_0
theorem jm_d_26 : jm_ck prog_4_method_15_code jm_i_26 = true := jm_c_26_0
theorem jm_d_27 : jm_ck prog_4_method_16_code jm_i_27 = true := jm_c_27_0
theorem jm_d_28 : jm_ck prog_4_method_17_code jm_i_28 = true := jm_c_28_0
theorem jm_d_29 : jm_ck prog_4_method_18_code jm_i_29 = true := jm_c_29_0
theorem jm_d_30 : jm_ck prog_4_method_19_code jm_i_30 = true := jm_c_30_0
theorem jm_d_31 : jm_ck prog_4_method_20_code jm_i_31 = true := jm_c_31_0
theorem jm_d_32 : jm_ck prog_4_method_21_code jm_i_32 = true := jm_ck_app jm_c_32_0 (jm_c_32_1)
theorem jm_d_33 : jm_ck prog_5_method_1_code jm_i_33 = true := jm_c_33_0
theorem jm_d_34 : jm_ck prog_5_method_2_code jm_i_34 = true := jm_c_34_0
theorem jm_d_35 : jm_ck prog_5_method_3_code jm_i_35 = true := jm_c_35_0
theorem jm_d_36 : jm_ck prog_5_method_4_code jm_i_36 = true := jm_c_36_0
theorem jm_d_37 : jm_ck prog_5_method_5_code jm_i_37 = true := jm_c_37_0
theorem jm_d_38 : jm_ck prog_5_method_6_code jm_i_38 = true := jm_c_38_0
theorem jm_d_39 : jm_ck prog_5_method_7_code jm_i_39 = true := jm_ck_app jm_c_39_0 (jm_c_39_1)
theorem jm_d_40 : jm_ck prog_5_method_8_code jm_i_40 = true := jm_c_40_0
theorem jm_d_41 : jm_ck prog_5_method_9_code jm_i_41 = true := jm_c_41_0
theorem jm_d_42 : jm_ck prog_5_method_10_code jm_i_42 = true := jm_c_42_0
theorem jm_d_43 : jm_ck prog_5_method_11_code jm_i_43 = true := jm_c_43_0
theorem jm_d_44 : jm_ck prog_5_method_12_code jm_i_44 = true := jm_c_44_0
theorem jm_d_45 : jm_ck prog_5_method_13_code jm_i_45 = true := jm_c_45_0
theorem jm_d_46 : jm_ck prog_5_method_14_code jm_i_46 = true := jm_c_46_0
theorem jm_d_47 : jm_ck prog_5_method_15_code jm_i_47 = true := jm_ck_app jm_c_47_0 (jm_c_47_1)
theorem jm_d_48 : jm_ck prog_5_method_16_code jm_i_48 = true := jm_c_48_0
theorem jm_d_49 : jm_ck prog_5_method_17_code jm_i_49 = true := jm_ck_app jm_c_49_0 (jm_c_49_1)
theorem jm_d_50 : jm_ck prog_6_method_1_code jm_i_50 = true := jm_c_50_0
theorem jm_d_51 : jm_ck prog_6_method_2_code jm_i_51 = true := jm_c_51_0
theorem jm_d_52 : jm_ck prog_6_method_3_code jm_i_52 = true := jm_c_52_0
theorem jm_d_53 : jm_ck prog_6_method_4_code jm_i_53 = true := jm_ck_app jm_c_53_0 (jm_c_53_1)
theorem jm_d_54 : jm_ck prog_6_method_5_code jm_i_54 = true := jm_c_54_0
theorem jm_d_55 : jm_ck prog_6_method_6_code jm_i_55 = true := jm_c_55_0
theorem jm_d_56 : jm_ck prog_6_method_7_code jm_i_56 = true := jm_c_56_0
theorem jm_d_57 : jm_ck prog_6_method_8_code jm_i_57 = true := jm_c_57_0
theorem jm_d_58 : jm_ck prog_6_method_9_code jm_i_58 = true := jm_ck_app jm_c_58_0 (jm_c_58_1)
theorem jm_d_59 : jm_ck prog_7_method_1_code jm_i_59 = true := jm_c_59_0
theorem jm_d_60 : jm_ck prog_7_method_2_code jm_i_60 = true := jm_c_60_0
theorem jm_d_61 : jm_ck prog_7_method_3_code jm_i_61 = true := jm_c_61_0
theorem jm_d_62 : jm_ck prog_7_method_4_code jm_i_62 = true := jm_c_62_0
theorem jm_d_63 : jm_ck prog_7_method_5_code jm_i_63 = true := jm_ck_app jm_c_63_0 (jm_c_63_1)
theorem jm_d_64 : jm_ck prog_7_method_6_code jm_i_64 = true := jm_c_64_0
theorem jm_d_65 : jm_ck prog_7_method_7_code jm_i_65 = true := jm_c_65_0
theorem jm_d_66 : jm_ck prog_7_method_8_code jm_i_66 = true := jm_c_66_0
theorem jm_d_67 : jm_ck prog_7_method_9_code jm_i_67 = true := jm_ck_app jm_c_67_0 (jm_c_67_1)
theorem jm_d_68 : jm_ck prog_7_method_10_code jm_i_68 = true := jm_c_68_0
theorem jm_d_69 : jm_ck prog_7_method_11_code jm_i_69 = true := jm_c_69_0
theorem jm_d_70 : jm_ck prog_8_method_1_code jm_i_70 = true := jm_c_70_0
theorem jm_d_71 : jm_ck prog_8_method_2_code jm_i_71 = true := jm_c_71_0
theorem jm_d_72 : jm_ck prog_8_method_3_code jm_i_72 = true := jm_c_72_0
theorem jm_d_73 : jm_ck prog_8_method_4_code jm_i_73 = true := jm_c_73_0
theorem jm_d_74 : jm_ck prog_8_method_5_code jm_i_74 = true := jm_c_74_0
theorem jm_d_75 : jm_ck prog_8_method_6_code jm_i_75 = true := jm_c_75_0
theorem jm_d_76 : jm_ck prog_8_method_7_code jm_i_76 = true := jm_c_76_0
theorem jm_d_77 : jm_ck prog_1_method_1_code jm_i_77 = true := jm_c_77_0
theorem jm_d_78 : jm_ck prog_1_method_2_code jm_i_78 = true := jm_c_78_0
theorem jm_d_79 : jm_ck prog_1_method_3_code jm_i_79 = true := jm_c_79_0
theorem jm_d_80 : jm_ck prog_1_method_4_code jm_i_80 = true := jm_ck_app jm_c_80_0 (jm_c_80_1)
theorem jm_d_81 : jm_ck prog_1_method_5_code jm_i_81 = true := jm_c_81_0
theorem jm_d_82 : jm_ck prog_1_method_6_code jm_i_82 = true := jm_c_82_0
theorem jm_d_83 : jm_ck prog_1_method_7_code jm_i_83 = true := jm_c_83_0
theorem jm_d_84 : jm_ck prog_1_method_8_code jm_i_84 = true := jm_c_84_0
theorem jm_d_85 : jm_ck prog_1_method_9_code jm_i_85 = true := jm_c_85_0
theorem jm_d_86 : jm_ck prog_1_method_10_code jm_i_86 = true := jm_c_86_0
theorem jm_d_87 : jm_ck prog_1_method_11_code jm_i_87 = true := jm_c_87_0
theorem jm_d_88 : jm_ck prog_1_method_12_code jm_i_88 = true := jm_c_88_0
theorem jm_d_89 : jm_ck prog_1_method_13_code jm_i_89 = true := jm_c_89_0
theorem jm_d_90 : jm_ck prog_1_method_14_code jm_i_90 = true := jm_c_90_0
theorem jm_d_91 : jm_ck prog_1_method_15_code jm_i_91 = true := jm_c_91_0
theorem jm_d_92 : jm_ck prog_1_method_16_code jm_i_92 = true := jm_c_92_0
theorem jm_d_93 : jm_ck prog_1_method_17_code jm_i_93 = true := jm_c_93_0
theorem jm_d_94 : jm_ck prog_1_method_18_code jm_i_94 = true := jm_c_94_0
theorem jm_d_95 : jm_ck prog_1_method_19_code jm_i_95 = true := jm_c_95_0
theorem jm_d_96 : jm_ck prog_1_method_20_code jm_i_96 = true := jm_c_96_0
theorem jm_d_97 : jm_ck prog_1_method_21_code jm_i_97 = true := jm_c_97_0
theorem jm_d_98 : jm_ck prog_1_method_22_code jm_i_98 = true := jm_c_98_0
theorem jm_d_99 : jm_ck prog_1_method_23_code jm_i_99 = true := jm_c_99_0
theorem jm_d_100 : jm_ck prog_1_method_24_code jm_i_100 = true := jm_c_100_0
theorem jm_d_101 : jm_ck prog_1_method_25_code jm_i_101 = true := jm_c_101_0
theorem jm_d_102 : jm_ck prog_1_method_26_code jm_i_102 = true := jm_c_102_0
theorem jm_d_103 : jm_ck prog_1_method_27_code jm_i_103 = true := jm_c_103_0
theorem jm_d_104 : jm_ck prog_1_method_28_code jm_i_104 = true := jm_c_104_0
theorem jm_d_105 : jm_ck prog_1_method_29_code jm_i_105 = true := jm_ck_app jm_c_105_0 (jm_c_105_1)
theorem jm_d_106 : jm_ck prog_1_method_30_code jm_i_106 = true := jm_c_106_0
theorem jm_d_107 : jm_ck prog_1_method_31_code jm_i_107 = true := jm_c_107_0
theorem jm_d_108 : jm_ck prog_1_method_32_code jm_i_108 = true := jm_c_108_0
theorem jm_d_109 : jm_ck prog_1_method_33_code jm_i_109 = true := jm_c_109_0
theorem jm_d_110 : jm_ck prog_1_method_34_code jm_i_110 = true := jm_c_110_0
theorem jm_d_111 : jm_ck prog_1_method_35_code jm_i_111 = true := jm_c_111_0
theorem jm_d_112 : jm_ck prog_1_method_36_code jm_i_112 = true := jm_c_112_0
theorem jm_d_113 : jm_ck prog_1_method_37_code jm_i_113 = true := jm_c_113_0
theorem jm_d_114 : jm_ck prog_1_method_38_code jm_i_114 = true := jm_c_114_0
theorem jm_d_115 : jm_ck prog_1_method_39_code jm_i_115 = true := jm_c_115_0
theorem jm_d_116 : jm_ck prog_1_method_40_code jm_i_116 = true := jm_c_116_0
theorem jm_d_117 : jm_ck prog_1_method_41_code jm_i_117 = true := jm_c_117_0
theorem jm_d_118 : jm_ck prog_1_method_42_code jm_i_118 = true := jm_c_118_0
theorem jm_d_119 : jm_ck prog_1_method_43_code jm_i_119 = true := jm_c_119_0
theorem jm_d_120 : jm_ck prog_1_method_44_code jm_i_120 = true := jm_c_120_0
theorem jm_d_121 : jm_ck prog_1_method_45_code jm_i_121 = true := jm_c_121_0
theorem jm_d_122 : jm_ck prog_1_method_46_code jm_i_122 = true := jm_c_122_0
theorem jm_d_123 : jm_ck prog_1_method_47_code jm_i_123 = true := jm_c_123_0
theorem jm_d_124 : jm_ck prog_1_method_48_code jm_i_124 = true := jm_c_124_0
theorem jm_d_125 : jm_ck prog_1_method_49_code jm_i_125 = true := jm_c_125_0
theorem jm_d_126 : jm_ck prog_1_method_50_code jm_i_126 = true := jm_c_126_0
theorem jm_d_127 : jm_ck prog_1_method_51_code jm_i_127 = true := jm_c_127_0
theorem jm_d_128 : jm_ck prog_10_method_1_code jm_i_128 = true := jm_ck_app jm_c_128_0 (jm_c_128_1)
theorem jm_d_129 : jm_ck prog_10_method_3_code jm_i_129 = true := jm_c_129_0
theorem jm_d_130 : jm_ck prog_10_method_4_code jm_i_130 = true := jm_c_130_0
theorem jm_d_131 : jm_ck prog_10_method_5_code jm_i_131 = true := jm_c_131_0
theorem jm_d_132 : jm_ck prog_10_method_6_code jm_i_132 = true := jm_c_132_0
theorem jm_d_133 : jm_ck prog_10_method_7_code jm_i_133 = true := jm_ck_app jm_c_133_0 (jm_c_133_1)
theorem jm_d_134 : jm_ck prog_10_method_8_code jm_i_134 = true := jm_ck_app jm_c_134_0 (jm_ck_app jm_c_134_1 (jm_c_134_2))
theorem jm_d_135 : jm_ck prog_10_method_9_code jm_i_135 = true := jm_c_135_0
theorem jm_d_136 : jm_ck prog_10_method_10_code jm_i_136 = true := jm_c_136_0
theorem jm_d_137 : jm_ck prog_10_method_11_code jm_i_137 = true := jm_c_137_0
theorem jm_d_138 : jm_ck prog_10_method_12_code jm_i_138 = true := jm_ck_app jm_c_138_0 (jm_ck_app jm_c_138_1 (jm_c_138_2))
theorem jm_d_139 : jm_ck prog_10_method_13_code jm_i_139 = true := jm_c_139_0
theorem jm_d_140 : jm_ck prog_10_method_14_code jm_i_140 = true := jm_c_140_0
theorem jm_d_141 : jm_ck prog_10_method_15_code jm_i_141 = true := jm_c_141_0
theorem jm_d_142 : jm_ck prog_10_method_16_code jm_i_142 = true := jm_c_142_0
theorem jm_d_143 : jm_ck prog_10_method_17_code jm_i_143 = true := jm_c_143_0
theorem jm_d_144 : jm_ck prog_10_method_18_code jm_i_144 = true := jm_c_144_0
theorem jm_d_145 : jm_ck prog_10_method_19_code jm_i_145 = true := jm_c_145_0
theorem jm_d_146 : jm_ck prog_10_method_20_code jm_i_146 = true := jm_c_146_0
theorem jm_d_147 : jm_ck prog_10_method_21_code jm_i_147 = true := jm_c_147_0
theorem jm_d_148 : jm_ck prog_10_method_22_code jm_i_148 = true := jm_c_148_0
theorem jm_d_149 : jm_ck prog_10_method_23_code jm_i_149 = true := jm_ck_app jm_c_149_0 (jm_c_149_1)
theorem jm_d_150 : jm_ck prog_10_method_24_code jm_i_150 = true := jm_ck_app jm_c_150_0 (jm_c_150_1)
theorem jm_d_151 : jm_ck prog_10_method_25_code jm_i_151 = true := jm_c_151_0
theorem jm_d_152 : jm_ck prog_10_method_26_code jm_i_152 = true := jm_c_152_0
theorem jm_d_153 : jm_ck prog_10_method_27_code jm_i_153 = true := jm_c_153_0
theorem jm_d_154 : jm_ck prog_10_method_28_code jm_i_154 = true := jm_c_154_0
theorem jm_d_155 : jm_ck prog_10_method_29_code jm_i_155 = true := jm_c_155_0
theorem jm_d_156 : jm_ck prog_10_method_30_code jm_i_156 = true := jm_c_156_0
theorem jm_d_157 : jm_ck prog_10_method_31_code jm_i_157 = true := jm_c_157_0
theorem jm_d_158 : jm_ck prog_10_method_32_code jm_i_158 = true := jm_c_158_0
theorem jm_d_159 : jm_ck prog_10_method_33_code jm_i_159 = true := jm_c_159_0
theorem jm_d_160 : jm_ck prog_10_method_34_code jm_i_160 = true := jm_c_160_0
theorem jm_d_161 : jm_ck prog_10_method_35_code jm_i_161 = true := jm_c_161_0
theorem jm_d_162 : jm_ck prog_10_method_36_code jm_i_162 = true := jm_c_162_0
theorem jm_d_163 : jm_ck prog_10_method_37_code jm_i_163 = true := jm_c_163_0
theorem jm_d_164 : jm_ck prog_10_method_38_code jm_i_164 = true := jm_c_164_0
theorem jm_d_165 : jm_ck prog_10_method_39_code jm_i_165 = true := jm_c_165_0
theorem jm_d_166 : jm_ck prog_10_method_40_code jm_i_166 = true := jm_ck_app jm_c_166_0 (jm_ck_app jm_c_166_1 (jm_c_166_2))
theorem jm_d_167 : jm_ck prog_10_method_41_code jm_i_167 = true := jm_c_167_0
theorem jm_d_168 : jm_ck prog_10_method_42_code jm_i_168 = true := jm_c_168_0
theorem jm_d_169 : jm_ck prog_10_method_43_code jm_i_169 = true := jm_c_169_0
theorem jm_d_170 : jm_ck prog_10_method_44_code jm_i_170 = true := jm_c_170_0
theorem jm_d_171 : jm_ck prog_10_method_45_code jm_i_171 = true := jm_c_171_0
theorem jm_d_172 : jm_ck prog_10_method_46_code jm_i_172 = true := jm_c_172_0
theorem jm_d_173 : jm_ck prog_10_method_47_code jm_i_173 = true := jm_c_173_0
theorem jm_d_174 : jm_ck prog_10_method_48_code jm_i_174 = true := jm_c_174_0
theorem jm_d_175 : jm_ck prog_10_method_49_code jm_i_175 = true := jm_c_175_0
theorem jm_d_176 : jm_ck prog_10_method_50_code jm_i_176 = true := jm_c_176_0
theorem jm_d_177 : jm_ck prog_10_method_51_code jm_i_177 = true := jm_c_177_0
theorem jm_d_178 : jm_ck prog_10_method_52_code jm_i_178 = true := jm_c_178_0
theorem jm_d_179 : jm_ck prog_10_method_53_code jm_i_179 = true := jm_c_179_0
theorem jm_d_180 : jm_ck prog_10_method_54_code jm_i_180 = true := jm_c_180_0
theorem jm_d_181 : jm_ck prog_10_method_55_code jm_i_181 = true := jm_c_181_0
theorem jm_d_182 : jm_ck prog_10_method_56_code jm_i_182 = true := jm_c_182_0
theorem jm_d_183 : jm_ck prog_10_method_57_code jm_i_183 = true := jm_c_183_0
theorem jm_d_184 : jm_ck prog_10_method_58_code jm_i_184 = true := jm_c_184_0
theorem jm_d_185 : jm_ck prog_10_method_59_code jm_i_185 = true := jm_c_185_0
theorem jm_d_186 : jm_ck prog_10_method_60_code jm_i_186 = true := jm_c_186_0
theorem jm_d_187 : jm_ck prog_10_method_61_code jm_i_187 = true := jm_ck_app jm_c_187_0 (jm_c_187_1)
theorem jm_d_188 : jm_ck prog_10_method_62_code jm_i_188 = true := jm_ck_app jm_c_188_0 (jm_c_188_1)
theorem jm_d_189 : jm_ck prog_10_method_63_code jm_i_189 = true := jm_ck_app jm_c_189_0 (jm_ck_app jm_c_189_1 (jm_c_189_2))
theorem jm_d_190 : jm_ck prog_10_method_64_code jm_i_190 = true := jm_ck_app jm_c_190_0 (jm_c_190_1)
theorem jm_d_191 : jm_ck prog_10_method_65_code jm_i_191 = true := jm_c_191_0
theorem jm_d_192 : jm_ck prog_10_method_66_code jm_i_192 = true := jm_c_192_0
theorem jm_d_193 : jm_ck prog_10_method_67_code jm_i_193 = true := jm_c_193_0
theorem jm_d_194 : jm_ck prog_10_method_68_code jm_i_194 = true := jm_c_194_0
theorem jm_d_195 : jm_ck prog_10_method_69_code jm_i_195 = true := jm_c_195_0
theorem jm_d_196 : jm_ck prog_10_method_70_code jm_i_196 = true := jm_c_196_0
theorem jm_d_197 : jm_ck prog_10_method_71_code jm_i_197 = true := jm_c_197_0
theorem jm_d_198 : jm_ck prog_10_method_72_code jm_i_198 = true := jm_ck_app jm_c_198_0 (jm_c_198_1)
theorem jm_d_199 : jm_ck prog_10_method_73_code jm_i_199 = true := jm_c_199_0
theorem jm_d_200 : jm_ck prog_10_method_74_code jm_i_200 = true := jm_c_200_0
theorem jm_d_201 : jm_ck prog_10_method_75_code jm_i_201 = true := jm_c_201_0
theorem jm_d_202 : jm_ck prog_10_method_76_code jm_i_202 = true := jm_ck_app jm_c_202_0 (jm_c_202_1)
theorem jm_d_203 : jm_ck prog_10_method_77_code jm_i_203 = true := jm_ck_app jm_c_203_0 (jm_c_203_1)
theorem jm_d_204 : jm_ck prog_10_method_78_code jm_i_204 = true := jm_ck_app jm_c_204_0 (jm_ck_app jm_c_204_1 (jm_c_204_2))
theorem jm_d_205 : jm_ck prog_10_method_79_code jm_i_205 = true := jm_ck_app jm_c_205_0 (jm_c_205_1)
theorem jm_d_206 : jm_ck prog_10_method_80_code jm_i_206 = true := jm_c_206_0
theorem jm_d_207 : jm_ck prog_10_method_81_code jm_i_207 = true := jm_c_207_0
theorem jm_d_208 : jm_ck prog_10_method_82_code jm_i_208 = true := jm_c_208_0
theorem jm_d_209 : jm_ck prog_10_method_83_code jm_i_209 = true := jm_c_209_0
theorem jm_d_210 : jm_ck prog_10_method_84_code jm_i_210 = true := jm_c_210_0
theorem jm_d_211 : jm_ck prog_10_method_85_code jm_i_211 = true := jm_c_211_0
theorem jm_d_212 : jm_ck prog_10_method_86_code jm_i_212 = true := jm_c_212_0
theorem jm_d_213 : jm_ck prog_10_method_87_code jm_i_213 = true := jm_c_213_0
theorem jm_d_214 : jm_ck prog_10_method_88_code jm_i_214 = true := jm_ck_app jm_c_214_0 (jm_c_214_1)
theorem jm_d_215 : jm_ck prog_10_method_89_code jm_i_215 = true := jm_c_215_0
theorem jm_d_216 : jm_ck prog_10_method_90_code jm_i_216 = true := jm_c_216_0
theorem jm_d_217 : jm_ck prog_10_method_91_code jm_i_217 = true := jm_c_217_0
theorem jm_d_218 : jm_ck prog_10_method_92_code jm_i_218 = true := jm_c_218_0
theorem jm_d_219 : jm_ck prog_10_method_93_code jm_i_219 = true := jm_c_219_0
theorem jm_d_220 : jm_ck prog_11_method_48_code jm_i_220 = true := jm_c_220_0
theorem jm_d_221 : jm_ck prog_11_method_49_code jm_i_221 = true := jm_c_221_0
theorem jm_d_222 : jm_ck prog_14_method_103_code jm_i_222 = true := jm_c_222_0
theorem jm_d_223 : jm_ck code jm_i_223 = true := jm_ck_app jm_c_223_0 (jm_ck_app jm_c_223_1 (jm_ck_app jm_c_223_2 (jm_ck_app jm_c_223_3 (jm_ck_app jm_c_223_4 (jm_ck_app jm_c_223_5 (jm_ck_app jm_c_223_6 (jm_ck_app jm_c_223_7 (jm_ck_app jm_c_223_8 (jm_ck_app jm_c_223_9 (jm_ck_app jm_c_223_10 (jm_ck_app jm_c_223_11 (jm_ck_app jm_c_223_12 (jm_ck_app jm_c_223_13 (jm_ck_app jm_c_223_14 (jm_ck_app jm_c_223_15 (jm_ck_app jm_c_223_16 (jm_c_223_17)))))))))))))))))
theorem jm_dd_0 : ∀ k, jm_ck ((jm_mt_0.getD k jm_d0).2.1) (jm_ins_0.getD k []) = true
  | 0 => jm_d_0
  | 1 => jm_d_1
  | 2 => jm_d_2
  | 3 => jm_d_3
  | 4 => jm_d_4
  | 5 => jm_d_5
  | 6 => jm_d_6
  | 7 => jm_d_7
  | 8 => jm_d_8
  | 9 => jm_d_9
  | 10 => jm_d_10
  | 11 => jm_d_11
  | 12 => jm_d_12
  | 13 => jm_d_13
  | 14 => jm_d_14
  | 15 => jm_d_15
  | 16 => jm_d_16
  | 17 => jm_d_17
  | 18 => jm_d_18
  | 19 => jm_d_19
  | 20 => jm_d_20
  | 21 => jm_d_21
  | 22 => jm_d_22
  | 23 => jm_d_23
  | 24 => jm_d_24
  | 25 => jm_d_25
  | 26 => jm_d_26
  | 27 => jm_d_27
  | 28 => jm_d_28
  | 29 => jm_d_29
  | 30 => jm_d_30
  | 31 => jm_d_31
  | _ + 32 => rfl
theorem jm_dl_0 : jm_mt_0.length = jm_ins_0.length := rfl
theorem jm_dd_1 : ∀ k, jm_ck ((jm_mt_1.getD k jm_d0).2.1) (jm_ins_1.getD k []) = true
  | 0 => jm_d_32
  | 1 => jm_d_33
  | 2 => jm_d_34
  | 3 => jm_d_35
  | 4 => jm_d_36
  | 5 => jm_d_37
  | 6 => jm_d_38
  | 7 => jm_d_39
  | 8 => jm_d_40
  | 9 => jm_d_41
  | 10 => jm_d_42
  | 11 => jm_d_43
  | 12 => jm_d_44
  | 13 => jm_d_45
  | 14 => jm_d_46
  | 15 => jm_d_47
  | 16 => jm_d_48
  | 17 => jm_d_49
  | 18 => jm_d_50
  | 19 => jm_d_51
  | 20 => jm_d_52
  | 21 => jm_d_53
  | 22 => jm_d_54
  | 23 => jm_d_55
  | 24 => jm_d_56
  | 25 => jm_d_57
  | 26 => jm_d_58
  | 27 => jm_d_59
  | 28 => jm_d_60
  | 29 => jm_d_61
  | 30 => jm_d_62
  | 31 => jm_d_63
  | _ + 32 => rfl
theorem jm_dl_1 : jm_mt_1.length = jm_ins_1.length := rfl
theorem jm_dd_2 : ∀ k, jm_ck ((jm_mt_2.getD k jm_d0).2.1) (jm_ins_2.getD k []) = true
  | 0 => jm_d_64
  | 1 => jm_d_65
  | 2 => jm_d_66
  | 3 => jm_d_67
  | 4 => jm_d_68
  | 5 => jm_d_69
  | 6 => jm_d_70
  | 7 => jm_d_71
  | 8 => jm_d_72
  | 9 => jm_d_73
  | 10 => jm_d_74
  | 11 => jm_d_75
  | 12 => jm_d_76
  | 13 => jm_d_77
  | 14 => jm_d_78
  | 15 => jm_d_79
  | 16 => jm_d_80
  | 17 => jm_d_81
  | 18 => jm_d_82
  | 19 => jm_d_83
  | 20 => jm_d_84
  | 21 => jm_d_85
  | 22 => jm_d_86
  | 23 => jm_d_87
  | 24 => jm_d_88
  | 25 => jm_d_89
  | 26 => jm_d_90
  | 27 => jm_d_91
  | 28 => jm_d_92
  | 29 => jm_d_93
  | 30 => jm_d_94
  | 31 => jm_d_95
  | _ + 32 => rfl
theorem jm_dl_2 : jm_mt_2.length = jm_ins_2.length := rfl
theorem jm_dd_3 : ∀ k, jm_ck ((jm_mt_3.getD k jm_d0).2.1) (jm_ins_3.getD k []) = true
  | 0 => jm_d_96
  | 1 => jm_d_97
  | 2 => jm_d_98
  | 3 => jm_d_99
  | 4 => jm_d_100
  | 5 => jm_d_101
  | 6 => jm_d_102
  | 7 => jm_d_103
  | 8 => jm_d_104
  | 9 => jm_d_105
  | 10 => jm_d_106
  | 11 => jm_d_107
  | 12 => jm_d_108
  | 13 => jm_d_109
  | 14 => jm_d_110
  | 15 => jm_d_111
  | 16 => jm_d_112
  | 17 => jm_d_113
  | 18 => jm_d_114
  | 19 => jm_d_115
  | 20 => jm_d_116
  | 21 => jm_d_117
  | 22 => jm_d_118
  | 23 => jm_d_119
  | 24 => jm_d_120
  | 25 => jm_d_121
  | 26 => jm_d_122
  | 27 => jm_d_123
  | 28 => jm_d_124
  | 29 => jm_d_125
  | 30 => jm_d_126
  | 31 => jm_d_127
  | _ + 32 => rfl
theorem jm_dl_3 : jm_mt_3.length = jm_ins_3.length := rfl
theorem jm_dd_4 : ∀ k, jm_ck ((jm_mt_4.getD k jm_d0).2.1) (jm_ins_4.getD k []) = true
  | 0 => jm_d_128
  | 1 => jm_d_129
  | 2 => jm_d_130
  | 3 => jm_d_131
  | 4 => jm_d_132
  | 5 => jm_d_133
  | 6 => jm_d_134
  | 7 => jm_d_135
  | 8 => jm_d_136
  | 9 => jm_d_137
  | 10 => jm_d_138
  | 11 => jm_d_139
  | 12 => jm_d_140
  | 13 => jm_d_141
  | 14 => jm_d_142
  | 15 => jm_d_143
  | 16 => jm_d_144
  | 17 => jm_d_145
  | 18 => jm_d_146
  | 19 => jm_d_147
  | 20 => jm_d_148
  | 21 => jm_d_149
  | 22 => jm_d_150
  | 23 => jm_d_151
  | 24 => jm_d_152
  | 25 => jm_d_153
  | 26 => jm_d_154
  | 27 => jm_d_155
  | 28 => jm_d_156
  | 29 => jm_d_157
  | 30 => jm_d_158
  | 31 => jm_d_159
  | _ + 32 => rfl
theorem jm_dl_4 : jm_mt_4.length = jm_ins_4.length := rfl
theorem jm_dd_5 : ∀ k, jm_ck ((jm_mt_5.getD k jm_d0).2.1) (jm_ins_5.getD k []) = true
  | 0 => jm_d_160
  | 1 => jm_d_161
  | 2 => jm_d_162
  | 3 => jm_d_163
  | 4 => jm_d_164
  | 5 => jm_d_165
  | 6 => jm_d_166
  | 7 => jm_d_167
  | 8 => jm_d_168
  | 9 => jm_d_169
  | 10 => jm_d_170
  | 11 => jm_d_171
  | 12 => jm_d_172
  | 13 => jm_d_173
  | 14 => jm_d_174
  | 15 => jm_d_175
  | 16 => jm_d_176
  | 17 => jm_d_177
  | 18 => jm_d_178
  | 19 => jm_d_179
  | 20 => jm_d_180
  | 21 => jm_d_181
  | 22 => jm_d_182
  | 23 => jm_d_183
  | 24 => jm_d_184
  | 25 => jm_d_185
  | 26 => jm_d_186
  | 27 => jm_d_187
  | 28 => jm_d_188
  | 29 => jm_d_189
  | 30 => jm_d_190
  | 31 => jm_d_191
  | _ + 32 => rfl
theorem jm_dl_5 : jm_mt_5.length = jm_ins_5.length := rfl
theorem jm_dd_6 : ∀ k, jm_ck ((jm_mt_6.getD k jm_d0).2.1) (jm_ins_6.getD k []) = true
  | 0 => jm_d_192
  | 1 => jm_d_193
  | 2 => jm_d_194
  | 3 => jm_d_195
  | 4 => jm_d_196
  | 5 => jm_d_197
  | 6 => jm_d_198
  | 7 => jm_d_199
  | 8 => jm_d_200
  | 9 => jm_d_201
  | 10 => jm_d_202
  | 11 => jm_d_203
  | 12 => jm_d_204
  | 13 => jm_d_205
  | 14 => jm_d_206
  | 15 => jm_d_207
  | 16 => jm_d_208
  | 17 => jm_d_209
  | 18 => jm_d_210
  | 19 => jm_d_211
  | 20 => jm_d_212
  | 21 => jm_d_213
  | 22 => jm_d_214
  | 23 => jm_d_215
  | 24 => jm_d_216
  | 25 => jm_d_217
  | 26 => jm_d_218
  | 27 => jm_d_219
  | 28 => jm_d_220
  | 29 => jm_d_221
  | 30 => jm_d_222
  | 31 => jm_d_223
  | _ + 32 => rfl
theorem jm_dl_6 : jm_mt_6.length = jm_ins_6.length := rfl
theorem jm_dcomb {a b : List jm_R} {c d : List (List (Nat × Instr × Nat))} (hl : a.length = c.length) (h1 : ∀ k, jm_ck ((a.getD k jm_d0).2.1) (c.getD k []) = true) (h2 : ∀ k, jm_ck ((b.getD k jm_d0).2.1) (d.getD k []) = true) : ∀ k, jm_ck (((a ++ b).getD k jm_d0).2.1) ((c ++ d).getD k []) = true := by
  intro k
  rw [List.getD_eq_getElem?_getD, List.getD_eq_getElem?_getD]
  by_cases h : k < a.length
  · rw [List.getElem?_append_left h, List.getElem?_append_left (by omega), ← List.getD_eq_getElem?_getD, ← List.getD_eq_getElem?_getD]
    exact h1 k
  · rw [List.getElem?_append_right (by omega), List.getElem?_append_right (by omega), ← hl, ← List.getD_eq_getElem?_getD, ← List.getD_eq_getElem?_getD]
    exact h2 (k - a.length)
theorem jm_dall : ∀ j, jm_ck ((jm_mt.getD j jm_d0).2.1) (jm_ins.getD j []) = true := jm_dcomb jm_dl_0 jm_dd_0 (jm_dcomb jm_dl_1 jm_dd_1 (jm_dcomb jm_dl_2 jm_dd_2 (jm_dcomb jm_dl_3 jm_dd_3 (jm_dcomb jm_dl_4 jm_dd_4 (jm_dcomb jm_dl_5 jm_dd_5 (jm_dd_6))))))
theorem jm_lenck : jm_ins.all (fun l => l.all (fun q => q.2.2 == jm_len q.2.1 || jm_len q.2.1 == 0)) = true := by decide +kernel
theorem jm_fetch_ok {j pc n : Nat} {i : Instr} (h : jm_fetch j pc = some (i, n)) : decode (jm_code j) pc = .ok (i, n) ∧ (n = jm_len i ∨ jm_len i = 0) := by
  unfold jm_fetch at h
  have hm := jm_lk h
  have h1 := List.all_eq_true.mp (jm_dall j) _ hm
  rw [decide_eq_true_eq] at h1
  refine ⟨h1, ?_⟩
  have hj : j < jm_ins.length := by
    rcases Nat.lt_or_ge j jm_ins.length with q | q
    · exact q
    · rw [List.getD_eq_getElem?_getD, List.getElem?_eq_none q] at hm
      simp at hm
  have hmem : jm_ins.getD j [] ∈ jm_ins := by
    rw [List.getD_eq_getElem?_getD, List.getElem?_eq_getElem hj]
    exact List.getElem_mem hj
  have h2 := List.all_eq_true.mp (List.all_eq_true.mp jm_lenck _ hmem) _ hm
  simp only [Bool.or_eq_true, beq_iff_eq] at h2
  exact h2
/-- what the tables say of the methods -/
def jm_mck (t : Nat) : Bool := jm_at (jm_pl.getD t (0, 0, 0, 0)).2.1 (.initialized (jm_y t).cls) && (if jm_sc t then jm_at (jm_pl.getD t (0, 0, 0, 0)).2.2.1 (.static (jm_y t)) else jm_at (jm_pl.getD t (0, 0, 0, 0)).2.2.1 (.instanceMethod (jm_y t)) && ((jm_y t).name == "<init>" || jm_at (jm_pl.getD t (0, 0, 0, 0)).2.2.2 (.selects (jm_y t).cls (jm_y t) (jm_y t)))) && plainName (jm_y t).cls && decide ((jm_y t).cls ≠ "java/lang/invoke/MethodHandle") && decide ((jm_y t).cls ≠ "java/lang/invoke/VarHandle") && decide ((parseMethodDescriptor (jm_y t).desc).map (fun d => d.parameters.length) = some (jm_np t)) && decide (jm_cnm (jm_own t) = (jm_y t).cls) && decide (jm_ml t ≤ 41) && (decide ((jm_y t).name ≠ "<init>") || decide (jm_rt t = none))
theorem jm_mck_0 : (List.range 25).all (fun k => jm_mck (0 + k)) = true := by decide +kernel
theorem jm_mck_1 : (List.range 25).all (fun k => jm_mck (25 + k)) = true := by decide +kernel
theorem jm_mck_2 : (List.range 25).all (fun k => jm_mck (50 + k)) = true := by decide +kernel
theorem jm_mck_3 : (List.range 25).all (fun k => jm_mck (75 + k)) = true := by decide +kernel
theorem jm_mck_4 : (List.range 25).all (fun k => jm_mck (100 + k)) = true := by decide +kernel
theorem jm_mck_5 : (List.range 25).all (fun k => jm_mck (125 + k)) = true := by decide +kernel
theorem jm_mck_6 : (List.range 25).all (fun k => jm_mck (150 + k)) = true := by decide +kernel
theorem jm_mck_7 : (List.range 25).all (fun k => jm_mck (175 + k)) = true := by decide +kernel
theorem jm_mck_8 : (List.range 23).all (fun k => jm_mck (200 + k)) = true := by decide +kernel
theorem jm_mckall {t : Nat} (h : t < 223) : jm_mck t = true := by
  have key : ∀ (q r : Nat), r < 25 → 25 * q + r < 223 → jm_mck (25 * q + r) = true := by
    intro q r hr hq
    match q, hq with
    | 0, hq => exact List.all_eq_true.mp jm_mck_0 r (List.mem_range.mpr (by omega))
    | 1, hq => exact List.all_eq_true.mp jm_mck_1 r (List.mem_range.mpr (by omega))
    | 2, hq => exact List.all_eq_true.mp jm_mck_2 r (List.mem_range.mpr (by omega))
    | 3, hq => exact List.all_eq_true.mp jm_mck_3 r (List.mem_range.mpr (by omega))
    | 4, hq => exact List.all_eq_true.mp jm_mck_4 r (List.mem_range.mpr (by omega))
    | 5, hq => exact List.all_eq_true.mp jm_mck_5 r (List.mem_range.mpr (by omega))
    | 6, hq => exact List.all_eq_true.mp jm_mck_6 r (List.mem_range.mpr (by omega))
    | 7, hq => exact List.all_eq_true.mp jm_mck_7 r (List.mem_range.mpr (by omega))
    | 8, hq => exact List.all_eq_true.mp jm_mck_8 r (List.mem_range.mpr (by omega))
    | n + 9, h => omega
  have := key (t / 25) (t % 25) (by omega) (by omega)
  rw [show 25 * (t / 25) + t % 25 = t by omega] at this
  exact this
theorem jm_up_1 {w : Cond} (h : w ∈ tables_1_1) : w ∈ lw_tbl := List.mem_append_right _ (by unfold tables_1; exact List.mem_append_left _ h)
theorem jm_up_2 {w : Cond} (h : w ∈ tables_1_2) : w ∈ lw_tbl := List.mem_append_right _ (by unfold tables_1; exact List.mem_append_right _ (List.mem_append_left _ h))
theorem jm_up_3 {w : Cond} (h : w ∈ tables_1_3) : w ∈ lw_tbl := List.mem_append_right _ (by unfold tables_1; exact List.mem_append_right _ (List.mem_append_right _ (List.mem_append_left _ h)))
theorem jm_up_4 {w : Cond} (h : w ∈ tables_1_4) : w ∈ lw_tbl := List.mem_append_right _ (by unfold tables_1; exact List.mem_append_right _ (List.mem_append_right _ (List.mem_append_right _ (List.mem_append_left _ h))))
theorem jm_up_5 {w : Cond} (h : w ∈ tables_1_5) : w ∈ lw_tbl := List.mem_append_right _ (by unfold tables_1; exact List.mem_append_right _ (List.mem_append_right _ (List.mem_append_right _ (List.mem_append_right _ (List.mem_append_left _ h)))))
theorem jm_up_6 {w : Cond} (h : w ∈ tables_1_6) : w ∈ lw_tbl := List.mem_append_right _ (by unfold tables_1; exact List.mem_append_right _ (List.mem_append_right _ (List.mem_append_right _ (List.mem_append_right _ (List.mem_append_right _ h)))))
set_option maxRecDepth 20000 in
theorem jm_cw_0 : Cond.code ⟨"JingleLaws$Acts", "<init>", "()V"⟩ prog_2_method_1_code 1 none ∈ lw_tbl := jm_up_1 (List.mem_of_getElem? (i := 168) rfl)
set_option maxRecDepth 20000 in
theorem jm_cw_1 : Cond.code ⟨"JingleLaws$Acts", "forget", "()V"⟩ prog_2_method_2_code 1 none ∈ lw_tbl := jm_up_2 (List.mem_of_getElem? (i := 158) rfl)
set_option maxRecDepth 20000 in
theorem jm_cw_2 : Cond.code ⟨"JingleLaws$Acts", "keep", "(LJingleLaws$Camp;)V"⟩ prog_2_method_3_code 3 none ∈ lw_tbl := jm_up_2 (List.mem_of_getElem? (i := 188) rfl)
set_option maxRecDepth 20000 in
theorem jm_cw_3 : Cond.code ⟨"JingleLaws$Acts", "takeBack", "(LJingleLaws$Camp;)V"⟩ prog_2_method_4_code 3 none ∈ lw_tbl := jm_up_2 (List.mem_of_getElem? (i := 171) rfl)
set_option maxRecDepth 20000 in
theorem jm_cw_4 : Cond.code ⟨"JingleLaws$Asks", "<init>", "()V"⟩ prog_3_method_1_code 1 none ∈ lw_tbl := jm_up_2 (List.mem_of_getElem? (i := 5) rfl)
set_option maxRecDepth 20000 in
theorem jm_cw_5 : Cond.code ⟨"JingleLaws$Asks", "leave", "(I)V"⟩ prog_3_method_2_code 2 none ∈ lw_tbl := jm_up_4 (List.mem_of_getElem? (i := 71) rfl)
set_option maxRecDepth 20000 in
theorem jm_cw_6 : Cond.code ⟨"JingleLaws$Asks", "sizeOf", "(LJingleLaws$Camp;I)I"⟩ prog_3_method_3_code 3 (some FieldType.int) ∈ lw_tbl := jm_up_4 (List.mem_of_getElem? (i := 63) rfl)
set_option maxRecDepth 20000 in
theorem jm_cw_7 : Cond.code ⟨"JingleLaws$Asks", "markOf", "(LJingleLaws$Camp;I)I"⟩ prog_3_method_4_code 3 (some FieldType.int) ∈ lw_tbl := jm_up_4 (List.mem_of_getElem? (i := 83) rfl)
set_option maxRecDepth 20000 in
theorem jm_cw_8 : Cond.code ⟨"JingleLaws$Asks", "songSize", "(LJingleLaws$Camp;I)I"⟩ prog_3_method_5_code 5 (some FieldType.int) ∈ lw_tbl := jm_up_4 (List.mem_of_getElem? (i := 67) rfl)
set_option maxRecDepth 20000 in
theorem jm_cw_9 : Cond.code ⟨"JingleLaws$Asks", "songMark", "(LJingleLaws$Camp;I)I"⟩ prog_3_method_6_code 6 (some FieldType.int) ∈ lw_tbl := jm_up_4 (List.mem_of_getElem? (i := 75) rfl)
set_option maxRecDepth 20000 in
theorem jm_cw_10 : Cond.code ⟨"JingleLaws$Asks", "lostSize", "(LJingleLaws$Camp;I)I"⟩ prog_3_method_7_code 5 (some FieldType.int) ∈ lw_tbl := jm_up_4 (List.mem_of_getElem? (i := 79) rfl)
set_option maxRecDepth 20000 in
theorem jm_cw_11 : Cond.code ⟨"JingleLaws$Asks", "lostMark", "(LJingleLaws$Camp;I)I"⟩ prog_3_method_8_code 3 (some FieldType.int) ∈ lw_tbl := jm_up_4 (List.mem_of_getElem? (i := 87) rfl)
set_option maxRecDepth 20000 in
theorem jm_cw_12 : Cond.code ⟨"JingleLaws$Camp", "<init>", "()V"⟩ prog_4_method_1_code 1 none ∈ lw_tbl := jm_up_1 (List.mem_of_getElem? (i := 56) rfl)
set_option maxRecDepth 20000 in
theorem jm_cw_13 : Cond.code ⟨"JingleLaws$Camp", "isNone", "()Z"⟩ prog_4_method_2_code 1 (some FieldType.boolean) ∈ lw_tbl := jm_up_2 (List.mem_of_getElem? (i := 184) rfl)
set_option maxRecDepth 20000 in
theorem jm_cw_14 : Cond.code ⟨"JingleLaws$Camp", "clear", "()V"⟩ prog_4_method_3_code 1 none ∈ lw_tbl := jm_up_2 (List.mem_of_getElem? (i := 119) rfl)
set_option maxRecDepth 20000 in
theorem jm_cw_15 : Cond.code ⟨"JingleLaws$Camp", "become", "(LJingleLaws$Camp;)V"⟩ prog_4_method_4_code 2 none ∈ lw_tbl := jm_up_2 (List.mem_of_getElem? (i := 153) rfl)
set_option maxRecDepth 20000 in
theorem jm_cw_16 : Cond.code ⟨"JingleLaws$Camp", "keeper", "()I"⟩ prog_4_method_5_code 1 (some FieldType.int) ∈ lw_tbl := jm_up_2 (List.mem_of_getElem? (i := 209) rfl)
set_option maxRecDepth 20000 in
theorem jm_cw_17 : Cond.code ⟨"JingleLaws$Camp", "tally", "()V"⟩ prog_4_method_6_code 3 none ∈ lw_tbl := jm_up_2 (List.mem_of_getElem? (i := 199) rfl)
set_option maxRecDepth 20000 in
theorem jm_cw_18 : Cond.code ⟨"JingleLaws$Camp", "addPlayer", "(II)V"⟩ prog_4_method_7_code 3 none ∈ lw_tbl := jm_up_2 (List.mem_of_getElem? (i := 205) rfl)
set_option maxRecDepth 20000 in
theorem jm_cw_19 : Cond.code ⟨"JingleLaws$Camp", "passHours", "(I)V"⟩ prog_4_method_8_code 3 none ∈ lw_tbl := jm_up_3 (List.mem_of_getElem? (i := 70) rfl)
set_option maxRecDepth 20000 in
theorem jm_cw_20 : Cond.code ⟨"JingleLaws$Camp", "passHour", "()V"⟩ prog_4_method_9_code 2 none ∈ lw_tbl := jm_up_2 (List.mem_of_getElem? (i := 195) rfl)
set_option maxRecDepth 20000 in
theorem jm_cw_21 : Cond.code ⟨"JingleLaws$Camp", "beatBehind", "(I)I"⟩ prog_4_method_10_code 3 (some FieldType.int) ∈ lw_tbl := jm_up_2 (List.mem_of_getElem? (i := 213) rfl)
set_option maxRecDepth 20000 in
theorem jm_cw_22 : Cond.code ⟨"JingleLaws$Camp", "lossBehind", "(I)I"⟩ prog_4_method_11_code 3 (some FieldType.int) ∈ lw_tbl := jm_up_2 (List.mem_of_getElem? (i := 218) rfl)
set_option maxRecDepth 20000 in
theorem jm_cw_23 : Cond.code ⟨"JingleLaws$Camp", "strengthBehind", "(I)I"⟩ prog_4_method_12_code 2 (some FieldType.int) ∈ lw_tbl := jm_up_2 (List.mem_of_getElem? (i := 225) rfl)
set_option maxRecDepth 20000 in
theorem jm_cw_24 : Cond.code ⟨"JingleLaws$Camp", "holds", "(I)Z"⟩ prog_4_method_13_code 2 (some FieldType.boolean) ∈ lw_tbl := jm_up_2 (List.mem_of_getElem? (i := 239) rfl)
set_option maxRecDepth 20000 in
theorem jm_cw_25 : Cond.code ⟨"JingleLaws$Camp", "holding", "()I"⟩ prog_4_method_14_code 3 (some FieldType.int) ∈ lw_tbl := jm_up_2 (List.mem_of_getElem? (i := 235) rfl)
set_option maxRecDepth 20000 in
theorem jm_cw_26 : Cond.code ⟨"JingleLaws$Camp", "holdingOver", "(I)I"⟩ prog_4_method_15_code 4 (some FieldType.int) ∈ lw_tbl := jm_up_3 (List.mem_of_getElem? (i := 181) rfl)
set_option maxRecDepth 20000 in
theorem jm_cw_27 : Cond.code ⟨"JingleLaws$Camp", "barring", "()I"⟩ prog_4_method_16_code 1 (some FieldType.int) ∈ lw_tbl := jm_up_3 (List.mem_of_getElem? (i := 48) rfl)
set_option maxRecDepth 20000 in
theorem jm_cw_28 : Cond.code ⟨"JingleLaws$Camp", "barredBy", "(I)I"⟩ prog_4_method_17_code 4 (some FieldType.int) ∈ lw_tbl := jm_up_3 (List.mem_of_getElem? (i := 53) rfl)
set_option maxRecDepth 20000 in
theorem jm_cw_29 : Cond.code ⟨"JingleLaws$Camp", "fewestBarring", "(I)I"⟩ prog_4_method_18_code 6 (some FieldType.int) ∈ lw_tbl := jm_up_3 (List.mem_of_getElem? (i := 172) rfl)
set_option maxRecDepth 20000 in
theorem jm_cw_30 : Cond.code ⟨"JingleLaws$Camp", "allBeat", "()I"⟩ prog_4_method_19_code 3 (some FieldType.int) ∈ lw_tbl := jm_up_3 (List.mem_of_getElem? (i := 57) rfl)
set_option maxRecDepth 20000 in
theorem jm_cw_31 : Cond.code ⟨"JingleLaws$Camp", "allStrength", "()I"⟩ prog_4_method_20_code 3 (some FieldType.int) ∈ lw_tbl := jm_up_3 (List.mem_of_getElem? (i := 207) rfl)
set_option maxRecDepth 20000 in
theorem jm_cw_32 : Cond.code ⟨"JingleLaws$Camp", "shareOf", "(II)I"⟩ prog_4_method_21_code 8 (some FieldType.int) ∈ lw_tbl := jm_up_3 (List.mem_of_getElem? (i := 203) rfl)
set_option maxRecDepth 20000 in
theorem jm_cw_33 : Cond.code ⟨"JingleLaws$Foretold", "<init>", "()V"⟩ prog_5_method_1_code 1 none ∈ lw_tbl := jm_up_1 (List.mem_of_getElem? (i := 186) rfl)
set_option maxRecDepth 20000 in
theorem jm_cw_34 : Cond.code ⟨"JingleLaws$Foretold", "behind", "(LJingleLaws$Camp;I)LJingleLaws$Camp;"⟩ prog_5_method_2_code 3 (some (FieldType.object "JingleLaws$Camp")) ∈ lw_tbl := jm_up_3 (List.mem_of_getElem? (i := 65) rfl)
set_option maxRecDepth 20000 in
theorem jm_cw_35 : Cond.code ⟨"JingleLaws$Foretold", "firstFall", "(LJingleLaws$Camp;II)I"⟩ prog_5_method_3_code 6 (some FieldType.int) ∈ lw_tbl := jm_up_3 (List.mem_of_getElem? (i := 87) rfl)
set_option maxRecDepth 20000 in
theorem jm_cw_36 : Cond.code ⟨"JingleLaws$Foretold", "fewestHands", "(LJingleLaws$Camp;II)I"⟩ prog_5_method_4_code 6 (some FieldType.int) ∈ lw_tbl := jm_up_3 (List.mem_of_getElem? (i := 106) rfl)
set_option maxRecDepth 20000 in
theorem jm_cw_37 : Cond.code ⟨"JingleLaws$Foretold", "letPlay", "(LJingleLaws$Camp;II)V"⟩ prog_5_method_5_code 4 none ∈ lw_tbl := jm_up_3 (List.mem_of_getElem? (i := 110) rfl)
set_option maxRecDepth 20000 in
theorem jm_cw_38 : Cond.code ⟨"JingleLaws$Foretold", "comesOfTurns", "(LJingleLaws$Camp;III)I"⟩ prog_5_method_6_code 5 (some FieldType.int) ∈ lw_tbl := jm_up_3 (List.mem_of_getElem? (i := 189) rfl)
set_option maxRecDepth 20000 in
theorem jm_cw_39 : Cond.code ⟨"JingleLaws$Foretold", "outcome", "(IIII)I"⟩ prog_5_method_7_code 10 (some FieldType.int) ∈ lw_tbl := jm_up_3 (List.mem_of_getElem? (i := 193) rfl)
set_option maxRecDepth 20000 in
theorem jm_cw_40 : Cond.code ⟨"JingleLaws$Foretold", "hear", "([III)V"⟩ prog_5_method_8_code 4 none ∈ lw_tbl := jm_up_3 (List.mem_of_getElem? (i := 219) rfl)
set_option maxRecDepth 20000 in
theorem jm_cw_41 : Cond.code ⟨"JingleLaws$Foretold", "isSo", "(I)Z"⟩ prog_5_method_9_code 3 (some FieldType.boolean) ∈ lw_tbl := jm_up_3 (List.mem_of_getElem? (i := 228) rfl)
set_option maxRecDepth 20000 in
theorem jm_cw_42 : Cond.code ⟨"JingleLaws$Foretold", "fittingKinds", "(LJingleLaws$Camp;I)I"⟩ prog_5_method_10_code 5 (some FieldType.int) ∈ lw_tbl := jm_up_3 (List.mem_of_getElem? (i := 224) rfl)
set_option maxRecDepth 20000 in
theorem jm_cw_43 : Cond.code ⟨"JingleLaws$Foretold", "fittingLosses", "(LJingleLaws$Camp;I)I"⟩ prog_5_method_11_code 5 (some FieldType.int) ∈ lw_tbl := jm_up_3 (List.mem_of_getElem? (i := 232) rfl)
set_option maxRecDepth 20000 in
theorem jm_cw_44 : Cond.code ⟨"JingleLaws$Foretold", "fittingBeats", "(LJingleLaws$Camp;IZ)I"⟩ prog_5_method_12_code 7 (some FieldType.int) ∈ lw_tbl := jm_up_3 (List.mem_of_getElem? (i := 236) rfl)
set_option maxRecDepth 20000 in
theorem jm_cw_45 : Cond.code ⟨"JingleLaws$Foretold", "fittingStrengths", "(LJingleLaws$Camp;II)I"⟩ prog_5_method_13_code 6 (some FieldType.int) ∈ lw_tbl := jm_up_4 (List.mem_of_getElem? (i := 4) rfl)
set_option maxRecDepth 20000 in
theorem jm_cw_46 : Cond.code ⟨"JingleLaws$Foretold", "allCases", "(LJingleLaws$Camp;)J"⟩ prog_5_method_14_code 5 (some FieldType.long) ∈ lw_tbl := jm_up_4 (List.mem_of_getElem? (i := 13) rfl)
set_option maxRecDepth 20000 in
theorem jm_cw_47 : Cond.code ⟨"JingleLaws$Foretold", "casesHolding", "(LJingleLaws$Camp;III)J"⟩ prog_5_method_15_code 12 (some FieldType.long) ∈ lw_tbl := jm_up_4 (List.mem_of_getElem? (i := 18) rfl)
set_option maxRecDepth 20000 in
theorem jm_cw_48 : Cond.code ⟨"JingleLaws$Foretold", "drawnNights", "(LJingleLaws$Camp;II)LJingleLaws$Camp;"⟩ prog_5_method_16_code 7 (some (FieldType.object "JingleLaws$Camp")) ∈ lw_tbl := jm_up_4 (List.mem_of_getElem? (i := 31) rfl)
set_option maxRecDepth 20000 in
theorem jm_cw_49 : Cond.code ⟨"JingleLaws$Foretold", "draw", "(J)V"⟩ prog_5_method_17_code 5 none ∈ lw_tbl := jm_up_4 (List.mem_of_getElem? (i := 37) rfl)
set_option maxRecDepth 20000 in
theorem jm_cw_50 : Cond.code ⟨"JingleLaws$Reader", "<init>", "()V"⟩ prog_6_method_1_code 1 none ∈ lw_tbl := jm_up_1 (List.mem_of_getElem? (i := 50) rfl)
set_option maxRecDepth 20000 in
theorem jm_cw_51 : Cond.code ⟨"JingleLaws$Reader", "readCamp", "()V"⟩ prog_6_method_2_code 2 none ∈ lw_tbl := jm_up_2 (List.mem_of_getElem? (i := 115) rfl)
set_option maxRecDepth 20000 in
theorem jm_cw_52 : Cond.code ⟨"JingleLaws$Reader", "readHand", "()V"⟩ prog_6_method_3_code 2 none ∈ lw_tbl := jm_up_2 (List.mem_of_getElem? (i := 140) rfl)
set_option maxRecDepth 20000 in
theorem jm_cw_53 : Cond.code ⟨"JingleLaws$Reader", "readRule", "()V"⟩ prog_6_method_4_code 5 none ∈ lw_tbl := jm_up_2 (List.mem_of_getElem? (i := 145) rfl)
set_option maxRecDepth 20000 in
theorem jm_cw_54 : Cond.code ⟨"JingleLaws$Reader", "kindTold", "(I)I"⟩ prog_6_method_5_code 1 (some FieldType.int) ∈ lw_tbl := jm_up_2 (List.mem_of_getElem? (i := 148) rfl)
set_option maxRecDepth 20000 in
theorem jm_cw_55 : Cond.code ⟨"JingleLaws$Reader", "next", "()I"⟩ prog_6_method_6_code 1 (some FieldType.int) ∈ lw_tbl := jm_up_2 (List.mem_of_getElem? (i := 127) rfl)
set_option maxRecDepth 20000 in
theorem jm_cw_56 : Cond.code ⟨"JingleLaws$Reader", "byteAt", "(I)I"⟩ prog_6_method_7_code 2 (some FieldType.int) ∈ lw_tbl := jm_up_2 (List.mem_of_getElem? (i := 131) rfl)
set_option maxRecDepth 20000 in
theorem jm_cw_57 : Cond.code ⟨"JingleLaws$Reader", "readByte", "(I)V"⟩ prog_6_method_8_code 2 none ∈ lw_tbl := jm_up_2 (List.mem_of_getElem? (i := 123) rfl)
set_option maxRecDepth 20000 in
theorem jm_cw_58 : Cond.code ⟨"JingleLaws$Reader", "readNumber", "(II)I"⟩ prog_6_method_9_code 6 (some FieldType.int) ∈ lw_tbl := jm_up_2 (List.mem_of_getElem? (i := 136) rfl)
set_option maxRecDepth 20000 in
theorem jm_cw_59 : Cond.code ⟨"JingleLaws$Rota", "<init>", "()V"⟩ prog_7_method_1_code 1 none ∈ lw_tbl := jm_up_1 (List.mem_of_getElem? (i := 207) rfl)
set_option maxRecDepth 20000 in
theorem jm_cw_60 : Cond.code ⟨"JingleLaws$Rota", "bestHolding", "()I"⟩ prog_7_method_2_code 1 (some FieldType.int) ∈ lw_tbl := jm_up_3 (List.mem_of_getElem? (i := 164) rfl)
set_option maxRecDepth 20000 in
theorem jm_cw_61 : Cond.code ⟨"JingleLaws$Rota", "find", "(LJingleLaws$Camp;I)V"⟩ prog_7_method_3_code 5 none ∈ lw_tbl := jm_up_3 (List.mem_of_getElem? (i := 123) rfl)
set_option maxRecDepth 20000 in
theorem jm_cw_62 : Cond.code ⟨"JingleLaws$Rota", "listSongs", "(LJingleLaws$Camp;)V"⟩ prog_7_method_4_code 3 none ∈ lw_tbl := jm_up_3 (List.mem_of_getElem? (i := 127) rfl)
set_option maxRecDepth 20000 in
theorem jm_cw_63 : Cond.code ⟨"JingleLaws$Rota", "workOut", "(LJingleLaws$Camp;I)V"⟩ prog_7_method_5_code 5 none ∈ lw_tbl := jm_up_3 (List.mem_of_getElem? (i := 131) rfl)
set_option maxRecDepth 20000 in
theorem jm_cw_64 : Cond.code ⟨"JingleLaws$Rota", "letPlayAlone", "(LJingleLaws$Camp;II)V"⟩ prog_7_method_6_code 5 none ∈ lw_tbl := jm_up_3 (List.mem_of_getElem? (i := 136) rfl)
set_option maxRecDepth 20000 in
theorem jm_cw_65 : Cond.code ⟨"JingleLaws$Rota", "worthOf", "(I)I"⟩ prog_7_method_7_code 2 (some FieldType.int) ∈ lw_tbl := jm_up_3 (List.mem_of_getElem? (i := 146) rfl)
set_option maxRecDepth 20000 in
theorem jm_cw_66 : Cond.code ⟨"JingleLaws$Rota", "worthOfLost", "()I"⟩ prog_7_method_8_code 3 (some FieldType.int) ∈ lw_tbl := jm_up_3 (List.mem_of_getElem? (i := 142) rfl)
set_option maxRecDepth 20000 in
theorem jm_cw_67 : Cond.code ⟨"JingleLaws$Rota", "weighWay", "(I)V"⟩ prog_7_method_9_code 5 none ∈ lw_tbl := jm_up_3 (List.mem_of_getElem? (i := 152) rfl)
set_option maxRecDepth 20000 in
theorem jm_cw_68 : Cond.code ⟨"JingleLaws$Rota", "keepWay", "(I)V"⟩ prog_7_method_10_code 3 none ∈ lw_tbl := jm_up_3 (List.mem_of_getElem? (i := 156) rfl)
set_option maxRecDepth 20000 in
theorem jm_cw_69 : Cond.code ⟨"JingleLaws$Rota", "nextWay", "(I)V"⟩ prog_7_method_11_code 3 none ∈ lw_tbl := jm_up_3 (List.mem_of_getElem? (i := 160) rfl)
set_option maxRecDepth 20000 in
theorem jm_cw_70 : Cond.code ⟨"JingleLaws$Rows", "<init>", "()V"⟩ prog_8_method_1_code 1 none ∈ lw_tbl := jm_up_1 (List.mem_of_getElem? (i := 26) rfl)
set_option maxRecDepth 20000 in
theorem jm_cw_71 : Cond.code ⟨"JingleLaws$Rows", "isMissing", "(I)Z"⟩ prog_8_method_2_code 2 (some FieldType.boolean) ∈ lw_tbl := jm_up_2 (List.mem_of_getElem? (i := 79) rfl)
set_option maxRecDepth 20000 in
theorem jm_cw_72 : Cond.code ⟨"JingleLaws$Rows", "hasPlaces", "(III)Z"⟩ prog_8_method_3_code 4 (some FieldType.boolean) ∈ lw_tbl := jm_up_2 (List.mem_of_getElem? (i := 83) rfl)
set_option maxRecDepth 20000 in
theorem jm_cw_73 : Cond.code ⟨"JingleLaws$Rows", "make", "(III)V"⟩ prog_8_method_4_code 4 none ∈ lw_tbl := jm_up_2 (List.mem_of_getElem? (i := 67) rfl)
set_option maxRecDepth 20000 in
theorem jm_cw_74 : Cond.code ⟨"JingleLaws$Rows", "put", "(III)I"⟩ prog_8_method_5_code 5 (some FieldType.int) ∈ lw_tbl := jm_up_2 (List.mem_of_getElem? (i := 87) rfl)
set_option maxRecDepth 20000 in
theorem jm_cw_75 : Cond.code ⟨"JingleLaws$Rows", "lose", "(I)I"⟩ prog_8_method_6_code 3 (some FieldType.int) ∈ lw_tbl := jm_up_2 (List.mem_of_getElem? (i := 102) rfl)
set_option maxRecDepth 20000 in
theorem jm_cw_76 : Cond.code ⟨"JingleLaws$Rows", "howMany", "()I"⟩ prog_8_method_7_code 3 (some FieldType.int) ∈ lw_tbl := jm_up_4 (List.mem_of_getElem? (i := 99) rfl)
set_option maxRecDepth 20000 in
theorem jm_cw_77 : Cond.code ⟨"JingleLaws", "<init>", "()V"⟩ prog_1_method_1_code 1 none ∈ lw_tbl := jm_up_1 (List.mem_of_getElem? (i := 18) rfl)
set_option maxRecDepth 20000 in
theorem jm_cw_78 : Cond.code ⟨"JingleLaws", "row", "(III)I"⟩ prog_1_method_2_code 4 (some FieldType.int) ∈ lw_tbl := jm_up_2 (List.mem_of_getElem? (i := 50) rfl)
set_option maxRecDepth 20000 in
theorem jm_cw_79 : Cond.code ⟨"JingleLaws", "set", "(III)I"⟩ prog_1_method_3_code 4 (some FieldType.int) ∈ lw_tbl := jm_up_2 (List.mem_of_getElem? (i := 75) rfl)
set_option maxRecDepth 20000 in
theorem jm_cw_80 : Cond.code ⟨"JingleLaws", "copy", "(IIIII)I"⟩ prog_1_method_4_code 6 (some FieldType.int) ∈ lw_tbl := jm_up_2 (List.mem_of_getElem? (i := 91) rfl)
set_option maxRecDepth 20000 in
theorem jm_cw_81 : Cond.code ⟨"JingleLaws", "drop", "(I)I"⟩ prog_1_method_5_code 2 (some FieldType.int) ∈ lw_tbl := jm_up_2 (List.mem_of_getElem? (i := 98) rfl)
set_option maxRecDepth 20000 in
theorem jm_cw_82 : Cond.code ⟨"JingleLaws", "feed", "(I)I"⟩ prog_1_method_6_code 2 (some FieldType.int) ∈ lw_tbl := jm_up_2 (List.mem_of_getElem? (i := 106) rfl)
set_option maxRecDepth 20000 in
theorem jm_cw_83 : Cond.code ⟨"JingleLaws", "camp", "()I"⟩ prog_1_method_7_code 1 (some FieldType.int) ∈ lw_tbl := jm_up_2 (List.mem_of_getElem? (i := 111) rfl)
set_option maxRecDepth 20000 in
theorem jm_cw_84 : Cond.code ⟨"JingleLaws", "fault", "()I"⟩ prog_1_method_8_code 1 (some FieldType.int) ∈ lw_tbl := jm_up_2 (List.mem_of_getElem? (i := 162) rfl)
set_option maxRecDepth 20000 in
theorem jm_cw_85 : Cond.code ⟨"JingleLaws", "undo", "()I"⟩ prog_1_method_9_code 1 (some FieldType.int) ∈ lw_tbl := jm_up_2 (List.mem_of_getElem? (i := 166) rfl)
set_option maxRecDepth 20000 in
theorem jm_cw_86 : Cond.code ⟨"JingleLaws", "hours", "(I)I"⟩ prog_1_method_10_code 3 (some FieldType.int) ∈ lw_tbl := jm_up_2 (List.mem_of_getElem? (i := 176) rfl)
set_option maxRecDepth 20000 in
theorem jm_cw_87 : Cond.code ⟨"JingleLaws", "give", "(II)I"⟩ prog_1_method_11_code 4 (some FieldType.int) ∈ lw_tbl := jm_up_3 (List.mem_of_getElem? (i := 3) rfl)
set_option maxRecDepth 20000 in
theorem jm_cw_88 : Cond.code ⟨"JingleLaws", "play", "(II)I"⟩ prog_1_method_12_code 4 (some FieldType.int) ∈ lw_tbl := jm_up_3 (List.mem_of_getElem? (i := 11) rfl)
set_option maxRecDepth 20000 in
theorem jm_cw_89 : Cond.code ⟨"JingleLaws", "soup", "(II)I"⟩ prog_1_method_13_code 3 (some FieldType.int) ∈ lw_tbl := jm_up_3 (List.mem_of_getElem? (i := 20) rfl)
set_option maxRecDepth 20000 in
theorem jm_cw_90 : Cond.code ⟨"JingleLaws", "bars", "(II)I"⟩ prog_1_method_14_code 4 (some FieldType.int) ∈ lw_tbl := jm_up_3 (List.mem_of_getElem? (i := 25) rfl)
set_option maxRecDepth 20000 in
theorem jm_cw_91 : Cond.code ⟨"JingleLaws", "rule", "(II)I"⟩ prog_1_method_15_code 3 (some FieldType.int) ∈ lw_tbl := jm_up_3 (List.mem_of_getElem? (i := 29) rfl)
set_option maxRecDepth 20000 in
theorem jm_cw_92 : Cond.code ⟨"JingleLaws", "hand", "(II)I"⟩ prog_1_method_16_code 3 (some FieldType.int) ∈ lw_tbl := jm_up_3 (List.mem_of_getElem? (i := 40) rfl)
set_option maxRecDepth 20000 in
theorem jm_cw_93 : Cond.code ⟨"JingleLaws", "stand", "(I)I"⟩ prog_1_method_17_code 2 (some FieldType.int) ∈ lw_tbl := jm_up_3 (List.mem_of_getElem? (i := 44) rfl)
set_option maxRecDepth 20000 in
theorem jm_cw_94 : Cond.code ⟨"JingleLaws", "ahead", "(II)I"⟩ prog_1_method_18_code 3 (some FieldType.int) ∈ lw_tbl := jm_up_3 (List.mem_of_getElem? (i := 61) rfl)
set_option maxRecDepth 20000 in
theorem jm_cw_95 : Cond.code ⟨"JingleLaws", "strong", "(II)I"⟩ prog_1_method_19_code 3 (some FieldType.int) ∈ lw_tbl := jm_up_3 (List.mem_of_getElem? (i := 75) rfl)
set_option maxRecDepth 20000 in
theorem jm_cw_96 : Cond.code ⟨"JingleLaws", "barred", "(I)I"⟩ prog_1_method_20_code 2 (some FieldType.int) ∈ lw_tbl := jm_up_3 (List.mem_of_getElem? (i := 79) rfl)
set_option maxRecDepth 20000 in
theorem jm_cw_97 : Cond.code ⟨"JingleLaws", "when", "(I)I"⟩ prog_1_method_21_code 2 (some FieldType.int) ∈ lw_tbl := jm_up_3 (List.mem_of_getElem? (i := 83) rfl)
set_option maxRecDepth 20000 in
theorem jm_cw_98 : Cond.code ⟨"JingleLaws", "first", "(I)I"⟩ prog_1_method_22_code 2 (some FieldType.int) ∈ lw_tbl := jm_up_3 (List.mem_of_getElem? (i := 98) rfl)
set_option maxRecDepth 20000 in
theorem jm_cw_99 : Cond.code ⟨"JingleLaws", "hands", "(III)I"⟩ prog_1_method_23_code 4 (some FieldType.int) ∈ lw_tbl := jm_up_3 (List.mem_of_getElem? (i := 102) rfl)
set_option maxRecDepth 20000 in
theorem jm_cw_100 : Cond.code ⟨"JingleLaws", "rota", "(II)I"⟩ prog_1_method_24_code 3 (some FieldType.int) ∈ lw_tbl := jm_up_3 (List.mem_of_getElem? (i := 119) rfl)
set_option maxRecDepth 20000 in
theorem jm_cw_101 : Cond.code ⟨"JingleLaws", "cover", "(II)I"⟩ prog_1_method_25_code 3 (some FieldType.int) ∈ lw_tbl := jm_up_3 (List.mem_of_getElem? (i := 168) rfl)
set_option maxRecDepth 20000 in
theorem jm_cw_102 : Cond.code ⟨"JingleLaws", "fall", "(I)I"⟩ prog_1_method_26_code 2 (some FieldType.int) ∈ lw_tbl := jm_up_3 (List.mem_of_getElem? (i := 177) rfl)
set_option maxRecDepth 20000 in
theorem jm_cw_103 : Cond.code ⟨"JingleLaws", "byTurns", "(III)I"⟩ prog_1_method_27_code 4 (some FieldType.int) ∈ lw_tbl := jm_up_3 (List.mem_of_getElem? (i := 185) rfl)
set_option maxRecDepth 20000 in
theorem jm_cw_104 : Cond.code ⟨"JingleLaws", "share", "(II)I"⟩ prog_1_method_28_code 3 (some FieldType.int) ∈ lw_tbl := jm_up_3 (List.mem_of_getElem? (i := 199) rfl)
set_option maxRecDepth 20000 in
theorem jm_cw_105 : Cond.code ⟨"JingleLaws", "who", "(IIIII)I"⟩ prog_1_method_29_code 7 (some FieldType.int) ∈ lw_tbl := jm_up_3 (List.mem_of_getElem? (i := 211) rfl)
set_option maxRecDepth 20000 in
theorem jm_cw_106 : Cond.code ⟨"JingleLaws", "felt", "(IIIII)I"⟩ prog_1_method_30_code 7 (some FieldType.int) ∈ lw_tbl := jm_up_4 (List.mem_of_getElem? (i := 0) rfl)
set_option maxRecDepth 20000 in
theorem jm_cw_107 : Cond.code ⟨"JingleLaws", "sleep", "(IIII)J"⟩ prog_1_method_31_code 11 (some FieldType.long) ∈ lw_tbl := jm_up_4 (List.mem_of_getElem? (i := 8) rfl)
set_option maxRecDepth 20000 in
theorem jm_cw_108 : Cond.code ⟨"JingleLaws", "drawn", "(III)I"⟩ prog_1_method_32_code 5 (some FieldType.int) ∈ lw_tbl := jm_up_4 (List.mem_of_getElem? (i := 26) rfl)
set_option maxRecDepth 20000 in
theorem jm_cw_109 : Cond.code ⟨"JingleLaws", "image", "(I)I"⟩ prog_1_method_33_code 2 (some FieldType.int) ∈ lw_tbl := jm_up_4 (List.mem_of_getElem? (i := 43) rfl)
set_option maxRecDepth 20000 in
theorem jm_cw_110 : Cond.code ⟨"JingleLaws", "restore", "(I)I"⟩ prog_1_method_34_code 2 (some FieldType.int) ∈ lw_tbl := jm_up_4 (List.mem_of_getElem? (i := 47) rfl)
set_option maxRecDepth 20000 in
theorem jm_cw_111 : Cond.code ⟨"JingleLaws", "kind", "(I)I"⟩ prog_1_method_35_code 2 (some FieldType.int) ∈ lw_tbl := jm_up_4 (List.mem_of_getElem? (i := 51) rfl)
set_option maxRecDepth 20000 in
theorem jm_cw_112 : Cond.code ⟨"JingleLaws", "as", "(II)I"⟩ prog_1_method_36_code 3 (some FieldType.int) ∈ lw_tbl := jm_up_4 (List.mem_of_getElem? (i := 55) rfl)
set_option maxRecDepth 20000 in
theorem jm_cw_113 : Cond.code ⟨"JingleLaws", "ask", "(II)I"⟩ prog_1_method_37_code 3 (some FieldType.int) ∈ lw_tbl := jm_up_4 (List.mem_of_getElem? (i := 59) rfl)
set_option maxRecDepth 20000 in
theorem jm_cw_114 : Cond.code ⟨"JingleLaws", "trace", "(I)I"⟩ prog_1_method_38_code 2 (some FieldType.int) ∈ lw_tbl := jm_up_4 (List.mem_of_getElem? (i := 91) rfl)
set_option maxRecDepth 20000 in
theorem jm_cw_115 : Cond.code ⟨"JingleLaws", "count", "(I)I"⟩ prog_1_method_39_code 2 (some FieldType.int) ∈ lw_tbl := jm_up_4 (List.mem_of_getElem? (i := 95) rfl)
set_option maxRecDepth 20000 in
theorem jm_cw_116 : Cond.code ⟨"JingleLaws", "status", "()I"⟩ prog_1_method_40_code 1 (some FieldType.int) ∈ lw_tbl := jm_up_4 (List.mem_of_getElem? (i := 105) rfl)
set_option maxRecDepth 20000 in
theorem jm_cw_117 : Cond.code ⟨"JingleLaws", "within", "(III)Z"⟩ prog_1_method_41_code 3 (some FieldType.boolean) ∈ lw_tbl := jm_up_2 (List.mem_of_getElem? (i := 57) rfl)
set_option maxRecDepth 20000 in
theorem jm_cw_118 : Cond.code ⟨"JingleLaws", "isKind", "(II)Z"⟩ prog_1_method_42_code 4 (some FieldType.boolean) ∈ lw_tbl := jm_up_3 (List.mem_of_getElem? (i := 33) rfl)
set_option maxRecDepth 20000 in
theorem jm_cw_119 : Cond.code ⟨"JingleLaws", "greatestCommon", "(JJ)J"⟩ prog_1_method_43_code 11 (some FieldType.long) ∈ lw_tbl := jm_up_4 (List.mem_of_getElem? (i := 21) rfl)
set_option maxRecDepth 20000 in
theorem jm_cw_120 : Cond.code ⟨"JingleLaws", "fewest", "(II)I"⟩ prog_1_method_44_code 2 (some FieldType.int) ∈ lw_tbl := jm_up_3 (List.mem_of_getElem? (i := 114) rfl)
set_option maxRecDepth 20000 in
theorem jm_cw_121 : Cond.code ⟨"JingleLaws", "noRow", "(I)Z"⟩ prog_1_method_45_code 2 (some FieldType.boolean) ∈ lw_tbl := jm_up_2 (List.mem_of_getElem? (i := 54) rfl)
set_option maxRecDepth 20000 in
theorem jm_cw_122 : Cond.code ⟨"JingleLaws", "noCamp", "()Z"⟩ prog_1_method_46_code 1 (some FieldType.boolean) ∈ lw_tbl := jm_up_2 (List.mem_of_getElem? (i := 180) rfl)
set_option maxRecDepth 20000 in
theorem jm_cw_123 : Cond.code ⟨"JingleLaws", "noRule", "(I)Z"⟩ prog_1_method_47_code 2 (some FieldType.boolean) ∈ lw_tbl := jm_up_3 (List.mem_of_getElem? (i := 7) rfl)
set_option maxRecDepth 20000 in
theorem jm_cw_124 : Cond.code ⟨"JingleLaws", "noHand", "(I)Z"⟩ prog_1_method_48_code 2 (some FieldType.boolean) ∈ lw_tbl := jm_up_3 (List.mem_of_getElem? (i := 15) rfl)
set_option maxRecDepth 20000 in
theorem jm_cw_125 : Cond.code ⟨"JingleLaws", "unheard", "(III)I"⟩ prog_1_method_49_code 4 (some FieldType.int) ∈ lw_tbl := jm_up_3 (List.mem_of_getElem? (i := 215) rfl)
set_option maxRecDepth 20000 in
theorem jm_cw_126 : Cond.code ⟨"JingleLaws", "finding", "(I)I"⟩ prog_1_method_50_code 2 (some FieldType.int) ∈ lw_tbl := jm_up_2 (List.mem_of_getElem? (i := 62) rfl)
set_option maxRecDepth 20000 in
theorem jm_cw_127 : Cond.code ⟨"JingleLaws", "unfound", "(I)I"⟩ prog_1_method_51_code 2 (some FieldType.int) ∈ lw_tbl := jm_up_2 (List.mem_of_getElem? (i := 71) rfl)
set_option maxRecDepth 20000 in
theorem jm_cw_128 : Cond.code ⟨"JingleLawsModel", "<init>", "()V"⟩ prog_10_method_1_code 1 none ∈ lw_tbl := jm_up_4 (List.mem_of_getElem? (i := 110) rfl)
set_option maxRecDepth 20000 in
theorem jm_cw_129 : Cond.code ⟨"JingleLawsModel", "in", "(JJJ)Z"⟩ prog_10_method_3_code 6 (some FieldType.boolean) ∈ lw_tbl := jm_up_4 (List.mem_of_getElem? (i := 205) rfl)
set_option maxRecDepth 20000 in
theorem jm_cw_130 : Cond.code ⟨"JingleLawsModel", "finding", "(I)I"⟩ prog_10_method_4_code 2 (some FieldType.int) ∈ lw_tbl := jm_up_4 (List.mem_of_getElem? (i := 211) rfl)
set_option maxRecDepth 20000 in
theorem jm_cw_131 : Cond.code ⟨"JingleLawsModel", "isRow", "(I)Z"⟩ prog_10_method_5_code 1 (some FieldType.boolean) ∈ lw_tbl := jm_up_4 (List.mem_of_getElem? (i := 201) rfl)
set_option maxRecDepth 20000 in
theorem jm_cw_132 : Cond.code ⟨"JingleLawsModel", "row", "(III)I"⟩ prog_10_method_6_code 5 (some FieldType.int) ∈ lw_tbl := jm_up_4 (List.mem_of_getElem? (i := 198) rfl)
set_option maxRecDepth 20000 in
theorem jm_cw_133 : Cond.code ⟨"JingleLawsModel", "set", "(III)I"⟩ prog_10_method_7_code 4 (some FieldType.int) ∈ lw_tbl := jm_up_4 (List.mem_of_getElem? (i := 216) rfl)
set_option maxRecDepth 20000 in
theorem jm_cw_134 : Cond.code ⟨"JingleLawsModel", "copy", "(IIIII)I"⟩ prog_10_method_8_code 9 (some FieldType.int) ∈ lw_tbl := jm_up_4 (List.mem_of_getElem? (i := 220) rfl)
set_option maxRecDepth 20000 in
theorem jm_cw_135 : Cond.code ⟨"JingleLawsModel", "drop", "(I)I"⟩ prog_10_method_9_code 2 (some FieldType.int) ∈ lw_tbl := jm_up_4 (List.mem_of_getElem? (i := 224) rfl)
set_option maxRecDepth 20000 in
theorem jm_cw_136 : Cond.code ⟨"JingleLawsModel", "feed", "(I)I"⟩ prog_10_method_10_code 2 (some FieldType.int) ∈ lw_tbl := jm_up_4 (List.mem_of_getElem? (i := 228) rfl)
set_option maxRecDepth 20000 in
theorem jm_cw_137 : Cond.code ⟨"JingleLawsModel", "bad", "(I)V"⟩ prog_10_method_11_code 2 none ∈ lw_tbl := jm_up_5 (List.mem_of_getElem? (i := 23) rfl)
set_option maxRecDepth 20000 in
theorem jm_cw_138 : Cond.code ⟨"JingleLawsModel", "nextToken", "()V"⟩ prog_10_method_12_code 1 none ∈ lw_tbl := jm_up_5 (List.mem_of_getElem? (i := 6) rfl)
set_option maxRecDepth 20000 in
theorem jm_cw_139 : Cond.code ⟨"JingleLawsModel", "must", "(Z)V"⟩ prog_10_method_13_code 2 none ∈ lw_tbl := jm_up_5 (List.mem_of_getElem? (i := 19) rfl)
set_option maxRecDepth 20000 in
theorem jm_cw_140 : Cond.code ⟨"JingleLawsModel", "isLetter", "(I)Z"⟩ prog_10_method_14_code 2 (some FieldType.boolean) ∈ lw_tbl := jm_up_5 (List.mem_of_getElem? (i := 15) rfl)
set_option maxRecDepth 20000 in
theorem jm_cw_141 : Cond.code ⟨"JingleLawsModel", "number", "(II)I"⟩ prog_10_method_15_code 4 (some FieldType.int) ∈ lw_tbl := jm_up_5 (List.mem_of_getElem? (i := 27) rfl)
set_option maxRecDepth 20000 in
theorem jm_cw_142 : Cond.code ⟨"JingleLawsModel", "mustSign", "(I)V"⟩ prog_10_method_16_code 2 none ∈ lw_tbl := jm_up_5 (List.mem_of_getElem? (i := 31) rfl)
set_option maxRecDepth 20000 in
theorem jm_cw_143 : Cond.code ⟨"JingleLawsModel", "begin", "()V"⟩ prog_10_method_17_code 1 none ∈ lw_tbl := jm_up_5 (List.mem_of_getElem? (i := 2) rfl)
set_option maxRecDepth 20000 in
theorem jm_cw_144 : Cond.code ⟨"JingleLawsModel", "failed", "()Z"⟩ prog_10_method_18_code 1 (some FieldType.boolean) ∈ lw_tbl := jm_up_5 (List.mem_of_getElem? (i := 50) rfl)
set_option maxRecDepth 20000 in
theorem jm_cw_145 : Cond.code ⟨"JingleLawsModel", "fault", "()I"⟩ prog_10_method_19_code 1 (some FieldType.int) ∈ lw_tbl := jm_up_4 (List.mem_of_getElem? (i := 234) rfl)
set_option maxRecDepth 20000 in
theorem jm_cw_146 : Cond.code ⟨"JingleLawsModel", "kindBy", "(I)I"⟩ prog_10_method_20_code 1 (some FieldType.int) ∈ lw_tbl := jm_up_5 (List.mem_of_getElem? (i := 42) rfl)
set_option maxRecDepth 20000 in
theorem jm_cw_147 : Cond.code ⟨"JingleLawsModel", "isSort", "()Z"⟩ prog_10_method_21_code 1 (some FieldType.boolean) ∈ lw_tbl := jm_up_5 (List.mem_of_getElem? (i := 39) rfl)
set_option maxRecDepth 20000 in
theorem jm_cw_148 : Cond.code ⟨"JingleLawsModel", "readHand", "()V"⟩ prog_10_method_22_code 2 none ∈ lw_tbl := jm_up_5 (List.mem_of_getElem? (i := 35) rfl)
set_option maxRecDepth 20000 in
theorem jm_cw_149 : Cond.code ⟨"JingleLawsModel", "readRule", "()V"⟩ prog_10_method_23_code 6 none ∈ lw_tbl := jm_up_5 (List.mem_of_getElem? (i := 46) rfl)
set_option maxRecDepth 20000 in
theorem jm_cw_150 : Cond.code ⟨"JingleLawsModel", "camp", "()I"⟩ prog_10_method_24_code 2 (some FieldType.int) ∈ lw_tbl := jm_up_4 (List.mem_of_getElem? (i := 238) rfl)
set_option maxRecDepth 20000 in
theorem jm_cw_151 : Cond.code ⟨"JingleLawsModel", "isThere", "()Z"⟩ prog_10_method_25_code 1 (some FieldType.boolean) ∈ lw_tbl := jm_up_5 (List.mem_of_getElem? (i := 59) rfl)
set_option maxRecDepth 20000 in
theorem jm_cw_152 : Cond.code ⟨"JingleLawsModel", "isRule", "(I)Z"⟩ prog_10_method_26_code 2 (some FieldType.boolean) ∈ lw_tbl := jm_up_5 (List.mem_of_getElem? (i := 110) rfl)
set_option maxRecDepth 20000 in
theorem jm_cw_153 : Cond.code ⟨"JingleLawsModel", "isHand", "(I)Z"⟩ prog_10_method_27_code 2 (some FieldType.boolean) ∈ lw_tbl := jm_up_5 (List.mem_of_getElem? (i := 118) rfl)
set_option maxRecDepth 20000 in
theorem jm_cw_154 : Cond.code ⟨"JingleLawsModel", "bits", "(I)I"⟩ prog_10_method_28_code 3 (some FieldType.int) ∈ lw_tbl := jm_up_5 (List.mem_of_getElem? (i := 96) rfl)
set_option maxRecDepth 20000 in
theorem jm_cw_155 : Cond.code ⟨"JingleLawsModel", "has", "(II)Z"⟩ prog_10_method_29_code 2 (some FieldType.boolean) ∈ lw_tbl := jm_up_5 (List.mem_of_getElem? (i := 185) rfl)
set_option maxRecDepth 20000 in
theorem jm_cw_156 : Cond.code ⟨"JingleLawsModel", "of", "([III)I"⟩ prog_10_method_30_code 3 (some FieldType.int) ∈ lw_tbl := jm_up_5 (List.mem_of_getElem? (i := 72) rfl)
set_option maxRecDepth 20000 in
theorem jm_cw_157 : Cond.code ⟨"JingleLawsModel", "be", "([IIII)V"⟩ prog_10_method_31_code 4 none ∈ lw_tbl := jm_up_5 (List.mem_of_getElem? (i := 99) rfl)
set_option maxRecDepth 20000 in
theorem jm_cw_158 : Cond.code ⟨"JingleLawsModel", "strength", "([II)I"⟩ prog_10_method_32_code 2 (some FieldType.int) ∈ lw_tbl := jm_up_5 (List.mem_of_getElem? (i := 84) rfl)
set_option maxRecDepth 20000 in
theorem jm_cw_159 : Cond.code ⟨"JingleLawsModel", "playsOf", "([II)I"⟩ prog_10_method_33_code 2 (some FieldType.int) ∈ lw_tbl := jm_up_5 (List.mem_of_getElem? (i := 81) rfl)
set_option maxRecDepth 20000 in
theorem jm_cw_160 : Cond.code ⟨"JingleLawsModel", "plays", "([III)V"⟩ prog_10_method_34_code 3 none ∈ lw_tbl := jm_up_5 (List.mem_of_getElem? (i := 121) rfl)
set_option maxRecDepth 20000 in
theorem jm_cw_161 : Cond.code ⟨"JingleLawsModel", "isLost", "([II)Z"⟩ prog_10_method_35_code 2 (some FieldType.boolean) ∈ lw_tbl := jm_up_5 (List.mem_of_getElem? (i := 78) rfl)
set_option maxRecDepth 20000 in
theorem jm_cw_162 : Cond.code ⟨"JingleLawsModel", "isPlayedBy", "([III)Z"⟩ prog_10_method_36_code 4 (some FieldType.boolean) ∈ lw_tbl := jm_up_5 (List.mem_of_getElem? (i := 75) rfl)
set_option maxRecDepth 20000 in
theorem jm_cw_163 : Cond.code ⟨"JingleLawsModel", "handsOf", "([II)I"⟩ prog_10_method_37_code 4 (some FieldType.int) ∈ lw_tbl := jm_up_5 (List.mem_of_getElem? (i := 87) rfl)
set_option maxRecDepth 20000 in
theorem jm_cw_164 : Cond.code ⟨"JingleLawsModel", "rulesOf", "([II)I"⟩ prog_10_method_38_code 4 (some FieldType.int) ∈ lw_tbl := jm_up_5 (List.mem_of_getElem? (i := 93) rfl)
set_option maxRecDepth 20000 in
theorem jm_cw_165 : Cond.code ⟨"JingleLawsModel", "lossOf", "([IIZ)I"⟩ prog_10_method_39_code 4 (some FieldType.int) ∈ lw_tbl := jm_up_5 (List.mem_of_getElem? (i := 90) rfl)
set_option maxRecDepth 20000 in
theorem jm_cw_166 : Cond.code ⟨"JingleLawsModel", "hour", "([I)V"⟩ prog_10_method_40_code 5 none ∈ lw_tbl := jm_up_5 (List.mem_of_getElem? (i := 69) rfl)
set_option maxRecDepth 20000 in
theorem jm_cw_167 : Cond.code ⟨"JingleLawsModel", "hoursOf", "([II)V"⟩ prog_10_method_41_code 4 none ∈ lw_tbl := jm_up_5 (List.mem_of_getElem? (i := 166) rfl)
set_option maxRecDepth 20000 in
theorem jm_cw_168 : Cond.code ⟨"JingleLawsModel", "holding", "([I)I"⟩ prog_10_method_42_code 3 (some FieldType.int) ∈ lw_tbl := jm_up_5 (List.mem_of_getElem? (i := 102) rfl)
set_option maxRecDepth 20000 in
theorem jm_cw_169 : Cond.code ⟨"JingleLawsModel", "barredBy", "([I)I"⟩ prog_10_method_43_code 3 (some FieldType.int) ∈ lw_tbl := jm_up_5 (List.mem_of_getElem? (i := 150) rfl)
set_option maxRecDepth 20000 in
theorem jm_cw_170 : Cond.code ⟨"JingleLawsModel", "allBeat", "([I)I"⟩ prog_10_method_44_code 3 (some FieldType.int) ∈ lw_tbl := jm_up_5 (List.mem_of_getElem? (i := 153) rfl)
set_option maxRecDepth 20000 in
theorem jm_cw_171 : Cond.code ⟨"JingleLawsModel", "allStrength", "([I)I"⟩ prog_10_method_45_code 3 (some FieldType.int) ∈ lw_tbl := jm_up_6 (List.mem_of_getElem? (i := 81) rfl)
set_option maxRecDepth 20000 in
theorem jm_cw_172 : Cond.code ⟨"JingleLawsModel", "layThen", "()V"⟩ prog_10_method_46_code 2 none ∈ lw_tbl := jm_up_5 (List.mem_of_getElem? (i := 162) rfl)
set_option maxRecDepth 20000 in
theorem jm_cw_173 : Cond.code ⟨"JingleLawsModel", "keep", "()V"⟩ prog_10_method_47_code 2 none ∈ lw_tbl := jm_up_5 (List.mem_of_getElem? (i := 65) rfl)
set_option maxRecDepth 20000 in
theorem jm_cw_174 : Cond.code ⟨"JingleLawsModel", "hours", "(I)I"⟩ prog_10_method_48_code 3 (some FieldType.int) ∈ lw_tbl := jm_up_5 (List.mem_of_getElem? (i := 55) rfl)
set_option maxRecDepth 20000 in
theorem jm_cw_175 : Cond.code ⟨"JingleLawsModel", "give", "(II)I"⟩ prog_10_method_49_code 4 (some FieldType.int) ∈ lw_tbl := jm_up_5 (List.mem_of_getElem? (i := 106) rfl)
set_option maxRecDepth 20000 in
theorem jm_cw_176 : Cond.code ⟨"JingleLawsModel", "play", "(II)I"⟩ prog_10_method_50_code 4 (some FieldType.int) ∈ lw_tbl := jm_up_5 (List.mem_of_getElem? (i := 114) rfl)
set_option maxRecDepth 20000 in
theorem jm_cw_177 : Cond.code ⟨"JingleLawsModel", "soup", "(II)I"⟩ prog_10_method_51_code 4 (some FieldType.int) ∈ lw_tbl := jm_up_5 (List.mem_of_getElem? (i := 125) rfl)
set_option maxRecDepth 20000 in
theorem jm_cw_178 : Cond.code ⟨"JingleLawsModel", "bars", "(II)I"⟩ prog_10_method_52_code 4 (some FieldType.int) ∈ lw_tbl := jm_up_5 (List.mem_of_getElem? (i := 130) rfl)
set_option maxRecDepth 20000 in
theorem jm_cw_179 : Cond.code ⟨"JingleLawsModel", "undo", "()I"⟩ prog_10_method_53_code 2 (some FieldType.int) ∈ lw_tbl := jm_up_5 (List.mem_of_getElem? (i := 135) rfl)
set_option maxRecDepth 20000 in
theorem jm_cw_180 : Cond.code ⟨"JingleLawsModel", "rule", "(II)I"⟩ prog_10_method_54_code 3 (some FieldType.int) ∈ lw_tbl := jm_up_5 (List.mem_of_getElem? (i := 139) rfl)
set_option maxRecDepth 20000 in
theorem jm_cw_181 : Cond.code ⟨"JingleLawsModel", "hand", "(II)I"⟩ prog_10_method_55_code 3 (some FieldType.int) ∈ lw_tbl := jm_up_5 (List.mem_of_getElem? (i := 143) rfl)
set_option maxRecDepth 20000 in
theorem jm_cw_182 : Cond.code ⟨"JingleLawsModel", "stand", "(I)I"⟩ prog_10_method_56_code 2 (some FieldType.int) ∈ lw_tbl := jm_up_5 (List.mem_of_getElem? (i := 147) rfl)
set_option maxRecDepth 20000 in
theorem jm_cw_183 : Cond.code ⟨"JingleLawsModel", "ahead", "(II)I"⟩ prog_10_method_57_code 3 (some FieldType.int) ∈ lw_tbl := jm_up_5 (List.mem_of_getElem? (i := 157) rfl)
set_option maxRecDepth 20000 in
theorem jm_cw_184 : Cond.code ⟨"JingleLawsModel", "strong", "(II)I"⟩ prog_10_method_58_code 3 (some FieldType.int) ∈ lw_tbl := jm_up_5 (List.mem_of_getElem? (i := 170) rfl)
set_option maxRecDepth 20000 in
theorem jm_cw_185 : Cond.code ⟨"JingleLawsModel", "barred", "(I)I"⟩ prog_10_method_59_code 2 (some FieldType.int) ∈ lw_tbl := jm_up_5 (List.mem_of_getElem? (i := 174) rfl)
set_option maxRecDepth 20000 in
theorem jm_cw_186 : Cond.code ⟨"JingleLawsModel", "when", "(I)I"⟩ prog_10_method_60_code 3 (some FieldType.int) ∈ lw_tbl := jm_up_5 (List.mem_of_getElem? (i := 178) rfl)
set_option maxRecDepth 20000 in
theorem jm_cw_187 : Cond.code ⟨"JingleLawsModel", "first", "(I)I"⟩ prog_10_method_61_code 5 (some FieldType.int) ∈ lw_tbl := jm_up_5 (List.mem_of_getElem? (i := 182) rfl)
set_option maxRecDepth 20000 in
theorem jm_cw_188 : Cond.code ⟨"JingleLawsModel", "hands", "(III)I"⟩ prog_10_method_62_code 7 (some FieldType.int) ∈ lw_tbl := jm_up_5 (List.mem_of_getElem? (i := 189) rfl)
set_option maxRecDepth 20000 in
theorem jm_cw_189 : Cond.code ⟨"JingleLawsModel", "rota", "(II)I"⟩ prog_10_method_63_code 9 (some FieldType.int) ∈ lw_tbl := jm_up_5 (List.mem_of_getElem? (i := 194) rfl)
set_option maxRecDepth 20000 in
theorem jm_cw_190 : Cond.code ⟨"JingleLawsModel", "cover", "(II)I"⟩ prog_10_method_64_code 8 (some FieldType.int) ∈ lw_tbl := jm_up_5 (List.mem_of_getElem? (i := 199) rfl)
set_option maxRecDepth 20000 in
theorem jm_cw_191 : Cond.code ⟨"JingleLawsModel", "fall", "(I)I"⟩ prog_10_method_65_code 4 (some FieldType.int) ∈ lw_tbl := jm_up_5 (List.mem_of_getElem? (i := 203) rfl)
set_option maxRecDepth 20000 in
theorem jm_cw_192 : Cond.code ⟨"JingleLawsModel", "afterTurns", "(III)I"⟩ prog_10_method_66_code 5 (some FieldType.int) ∈ lw_tbl := jm_up_5 (List.mem_of_getElem? (i := 224) rfl)
set_option maxRecDepth 20000 in
theorem jm_cw_193 : Cond.code ⟨"JingleLawsModel", "fourth", "(III)I"⟩ prog_10_method_67_code 7 (some FieldType.int) ∈ lw_tbl := jm_up_5 (List.mem_of_getElem? (i := 220) rfl)
set_option maxRecDepth 20000 in
theorem jm_cw_194 : Cond.code ⟨"JingleLawsModel", "third", "(III)I"⟩ prog_10_method_68_code 7 (some FieldType.int) ∈ lw_tbl := jm_up_5 (List.mem_of_getElem? (i := 216) rfl)
set_option maxRecDepth 20000 in
theorem jm_cw_195 : Cond.code ⟨"JingleLawsModel", "second", "(III)I"⟩ prog_10_method_69_code 7 (some FieldType.int) ∈ lw_tbl := jm_up_5 (List.mem_of_getElem? (i := 212) rfl)
set_option maxRecDepth 20000 in
theorem jm_cw_196 : Cond.code ⟨"JingleLawsModel", "byTurns", "(III)I"⟩ prog_10_method_70_code 7 (some FieldType.int) ∈ lw_tbl := jm_up_5 (List.mem_of_getElem? (i := 207) rfl)
set_option maxRecDepth 20000 in
theorem jm_cw_197 : Cond.code ⟨"JingleLawsModel", "lacks", "(I)I"⟩ prog_10_method_71_code 2 (some FieldType.int) ∈ lw_tbl := jm_up_5 (List.mem_of_getElem? (i := 233) rfl)
set_option maxRecDepth 20000 in
theorem jm_cw_198 : Cond.code ⟨"JingleLawsModel", "share", "(II)I"⟩ prog_10_method_72_code 7 (some FieldType.int) ∈ lw_tbl := jm_up_5 (List.mem_of_getElem? (i := 228) rfl)
set_option maxRecDepth 20000 in
theorem jm_cw_199 : Cond.code ⟨"JingleLawsModel", "isSo", "(III)Z"⟩ prog_10_method_73_code 6 (some FieldType.boolean) ∈ lw_tbl := jm_up_6 (List.mem_of_getElem? (i := 9) rfl)
set_option maxRecDepth 20000 in
theorem jm_cw_200 : Cond.code ⟨"JingleLawsModel", "rowFound", "(III)I"⟩ prog_10_method_74_code 4 (some FieldType.int) ∈ lw_tbl := jm_up_6 (List.mem_of_getElem? (i := 5) rfl)
set_option maxRecDepth 20000 in
theorem jm_cw_201 : Cond.code ⟨"JingleLawsModel", "isMany", "(II)Z"⟩ prog_10_method_75_code 2 (some FieldType.boolean) ∈ lw_tbl := jm_up_6 (List.mem_of_getElem? (i := 1) rfl)
set_option maxRecDepth 20000 in
theorem jm_cw_202 : Cond.code ⟨"JingleLawsModel", "who", "(IIIII)I"⟩ prog_10_method_76_code 12 (some FieldType.int) ∈ lw_tbl := jm_up_5 (List.mem_of_getElem? (i := 237) rfl)
set_option maxRecDepth 20000 in
theorem jm_cw_203 : Cond.code ⟨"JingleLawsModel", "felt", "(IIIII)I"⟩ prog_10_method_77_code 9 (some FieldType.int) ∈ lw_tbl := jm_up_6 (List.mem_of_getElem? (i := 13) rfl)
set_option maxRecDepth 20000 in
theorem jm_cw_204 : Cond.code ⟨"JingleLawsModel", "sleep", "(IIII)J"⟩ prog_10_method_78_code 15 (some FieldType.long) ∈ lw_tbl := jm_up_6 (List.mem_of_getElem? (i := 17) rfl)
set_option maxRecDepth 20000 in
theorem jm_cw_205 : Cond.code ⟨"JingleLawsModel", "drawn", "(III)I"⟩ prog_10_method_79_code 9 (some FieldType.int) ∈ lw_tbl := jm_up_6 (List.mem_of_getElem? (i := 23) rfl)
set_option maxRecDepth 20000 in
theorem jm_cw_206 : Cond.code ⟨"JingleLawsModel", "image", "(I)I"⟩ prog_10_method_80_code 3 (some FieldType.int) ∈ lw_tbl := jm_up_6 (List.mem_of_getElem? (i := 31) rfl)
set_option maxRecDepth 20000 in
theorem jm_cw_207 : Cond.code ⟨"JingleLawsModel", "restore", "(I)I"⟩ prog_10_method_81_code 3 (some FieldType.int) ∈ lw_tbl := jm_up_6 (List.mem_of_getElem? (i := 35) rfl)
set_option maxRecDepth 20000 in
theorem jm_cw_208 : Cond.code ⟨"JingleLawsModel", "isOf", "(II)Z"⟩ prog_10_method_82_code 2 (some FieldType.boolean) ∈ lw_tbl := jm_up_6 (List.mem_of_getElem? (i := 46) rfl)
set_option maxRecDepth 20000 in
theorem jm_cw_209 : Cond.code ⟨"JingleLawsModel", "kind", "(I)I"⟩ prog_10_method_83_code 2 (some FieldType.int) ∈ lw_tbl := jm_up_6 (List.mem_of_getElem? (i := 39) rfl)
set_option maxRecDepth 20000 in
theorem jm_cw_210 : Cond.code ⟨"JingleLawsModel", "as", "(II)I"⟩ prog_10_method_84_code 3 (some FieldType.int) ∈ lw_tbl := jm_up_6 (List.mem_of_getElem? (i := 43) rfl)
set_option maxRecDepth 20000 in
theorem jm_cw_211 : Cond.code ⟨"JingleLawsModel", "began", "(I)V"⟩ prog_10_method_85_code 2 none ∈ lw_tbl := jm_up_6 (List.mem_of_getElem? (i := 62) rfl)
set_option maxRecDepth 20000 in
theorem jm_cw_212 : Cond.code ⟨"JingleLawsModel", "plainSize", "(I)I"⟩ prog_10_method_86_code 2 (some FieldType.int) ∈ lw_tbl := jm_up_6 (List.mem_of_getElem? (i := 66) rfl)
set_option maxRecDepth 20000 in
theorem jm_cw_213 : Cond.code ⟨"JingleLawsModel", "lostSize", "(I)I"⟩ prog_10_method_87_code 4 (some FieldType.int) ∈ lw_tbl := jm_up_6 (List.mem_of_getElem? (i := 58) rfl)
set_option maxRecDepth 20000 in
theorem jm_cw_214 : Cond.code ⟨"JingleLawsModel", "markOf", "(I)I"⟩ prog_10_method_88_code 4 (some FieldType.int) ∈ lw_tbl := jm_up_6 (List.mem_of_getElem? (i := 70) rfl)
set_option maxRecDepth 20000 in
theorem jm_cw_215 : Cond.code ⟨"JingleLawsModel", "sizeOf", "(I)I"⟩ prog_10_method_89_code 4 (some FieldType.int) ∈ lw_tbl := jm_up_6 (List.mem_of_getElem? (i := 54) rfl)
set_option maxRecDepth 20000 in
theorem jm_cw_216 : Cond.code ⟨"JingleLawsModel", "ask", "(II)I"⟩ prog_10_method_90_code 3 (some FieldType.int) ∈ lw_tbl := jm_up_6 (List.mem_of_getElem? (i := 50) rfl)
set_option maxRecDepth 20000 in
theorem jm_cw_217 : Cond.code ⟨"JingleLawsModel", "trace", "(I)I"⟩ prog_10_method_91_code 2 (some FieldType.int) ∈ lw_tbl := jm_up_6 (List.mem_of_getElem? (i := 74) rfl)
set_option maxRecDepth 20000 in
theorem jm_cw_218 : Cond.code ⟨"JingleLawsModel", "count", "(I)I"⟩ prog_10_method_92_code 4 (some FieldType.int) ∈ lw_tbl := jm_up_6 (List.mem_of_getElem? (i := 78) rfl)
set_option maxRecDepth 20000 in
theorem jm_cw_219 : Cond.code ⟨"JingleLawsModel", "status", "()I"⟩ prog_10_method_93_code 1 (some FieldType.int) ∈ lw_tbl := jm_up_6 (List.mem_of_getElem? (i := 85) rfl)
set_option maxRecDepth 20000 in
theorem jm_cw_220 : Cond.code ⟨"java/lang/Integer", "numberOfTrailingZeros", "(I)I"⟩ prog_11_method_48_code 2 (some FieldType.int) ∈ lw_tbl := jm_up_3 (List.mem_of_getElem? (i := 91) rfl)
set_option maxRecDepth 20000 in
theorem jm_cw_221 : Cond.code ⟨"java/lang/Integer", "bitCount", "(I)I"⟩ prog_11_method_49_code 1 (some FieldType.int) ∈ lw_tbl := jm_up_2 (List.mem_of_getElem? (i := 228) rfl)
set_option maxRecDepth 20000 in
theorem jm_cw_222 : Cond.code ⟨"java/util/Arrays", "fill", "([II)V"⟩ prog_14_method_103_code 4 none ∈ lw_tbl := jm_up_1 (List.mem_of_getElem? (i := 32) rfl)
theorem jm_cwc_0 : ∀ k, k < 32 → Cond.code (jm_mt_0.getD k jm_d0).1 (jm_mt_0.getD k jm_d0).2.1 (jm_mt_0.getD k jm_d0).2.2.1 (jm_mt_0.getD k jm_d0).2.2.2.1 ∈ lw_tbl
  | 0, _ => jm_cw_0
  | 1, _ => jm_cw_1
  | 2, _ => jm_cw_2
  | 3, _ => jm_cw_3
  | 4, _ => jm_cw_4
  | 5, _ => jm_cw_5
  | 6, _ => jm_cw_6
  | 7, _ => jm_cw_7
  | 8, _ => jm_cw_8
  | 9, _ => jm_cw_9
  | 10, _ => jm_cw_10
  | 11, _ => jm_cw_11
  | 12, _ => jm_cw_12
  | 13, _ => jm_cw_13
  | 14, _ => jm_cw_14
  | 15, _ => jm_cw_15
  | 16, _ => jm_cw_16
  | 17, _ => jm_cw_17
  | 18, _ => jm_cw_18
  | 19, _ => jm_cw_19
  | 20, _ => jm_cw_20
  | 21, _ => jm_cw_21
  | 22, _ => jm_cw_22
  | 23, _ => jm_cw_23
  | 24, _ => jm_cw_24
  | 25, _ => jm_cw_25
  | 26, _ => jm_cw_26
  | 27, _ => jm_cw_27
  | 28, _ => jm_cw_28
  | 29, _ => jm_cw_29
  | 30, _ => jm_cw_30
  | 31, _ => jm_cw_31
  | n + 32, h => absurd h (by omega)
theorem jm_cwc_1 : ∀ k, k < 32 → Cond.code (jm_mt_1.getD k jm_d0).1 (jm_mt_1.getD k jm_d0).2.1 (jm_mt_1.getD k jm_d0).2.2.1 (jm_mt_1.getD k jm_d0).2.2.2.1 ∈ lw_tbl
  | 0, _ => jm_cw_32
  | 1, _ => jm_cw_33
  | 2, _ => jm_cw_34
  | 3, _ => jm_cw_35
  | 4, _ => jm_cw_36
  | 5, _ => jm_cw_37
  | 6, _ => jm_cw_38
  | 7, _ => jm_cw_39
  | 8, _ => jm_cw_40
  | 9, _ => jm_cw_41
  | 10, _ => jm_cw_42
  | 11, _ => jm_cw_43
  | 12, _ => jm_cw_44
  | 13, _ => jm_cw_45
  | 14, _ => jm_cw_46
  | 15, _ => jm_cw_47
  | 16, _ => jm_cw_48
  | 17, _ => jm_cw_49
  | 18, _ => jm_cw_50
  | 19, _ => jm_cw_51
  | 20, _ => jm_cw_52
  | 21, _ => jm_cw_53
  | 22, _ => jm_cw_54
  | 23, _ => jm_cw_55
  | 24, _ => jm_cw_56
  | 25, _ => jm_cw_57
  | 26, _ => jm_cw_58
  | 27, _ => jm_cw_59
  | 28, _ => jm_cw_60
  | 29, _ => jm_cw_61
  | 30, _ => jm_cw_62
  | 31, _ => jm_cw_63
  | n + 32, h => absurd h (by omega)
theorem jm_cwc_2 : ∀ k, k < 32 → Cond.code (jm_mt_2.getD k jm_d0).1 (jm_mt_2.getD k jm_d0).2.1 (jm_mt_2.getD k jm_d0).2.2.1 (jm_mt_2.getD k jm_d0).2.2.2.1 ∈ lw_tbl
  | 0, _ => jm_cw_64
  | 1, _ => jm_cw_65
  | 2, _ => jm_cw_66
  | 3, _ => jm_cw_67
  | 4, _ => jm_cw_68
  | 5, _ => jm_cw_69
  | 6, _ => jm_cw_70
  | 7, _ => jm_cw_71
  | 8, _ => jm_cw_72
  | 9, _ => jm_cw_73
  | 10, _ => jm_cw_74
  | 11, _ => jm_cw_75
  | 12, _ => jm_cw_76
  | 13, _ => jm_cw_77
  | 14, _ => jm_cw_78
  | 15, _ => jm_cw_79
  | 16, _ => jm_cw_80
  | 17, _ => jm_cw_81
  | 18, _ => jm_cw_82
  | 19, _ => jm_cw_83
  | 20, _ => jm_cw_84
  | 21, _ => jm_cw_85
  | 22, _ => jm_cw_86
  | 23, _ => jm_cw_87
  | 24, _ => jm_cw_88
  | 25, _ => jm_cw_89
  | 26, _ => jm_cw_90
  | 27, _ => jm_cw_91
  | 28, _ => jm_cw_92
  | 29, _ => jm_cw_93
  | 30, _ => jm_cw_94
  | 31, _ => jm_cw_95
  | n + 32, h => absurd h (by omega)
theorem jm_cwc_3 : ∀ k, k < 32 → Cond.code (jm_mt_3.getD k jm_d0).1 (jm_mt_3.getD k jm_d0).2.1 (jm_mt_3.getD k jm_d0).2.2.1 (jm_mt_3.getD k jm_d0).2.2.2.1 ∈ lw_tbl
  | 0, _ => jm_cw_96
  | 1, _ => jm_cw_97
  | 2, _ => jm_cw_98
  | 3, _ => jm_cw_99
  | 4, _ => jm_cw_100
  | 5, _ => jm_cw_101
  | 6, _ => jm_cw_102
  | 7, _ => jm_cw_103
  | 8, _ => jm_cw_104
  | 9, _ => jm_cw_105
  | 10, _ => jm_cw_106
  | 11, _ => jm_cw_107
  | 12, _ => jm_cw_108
  | 13, _ => jm_cw_109
  | 14, _ => jm_cw_110
  | 15, _ => jm_cw_111
  | 16, _ => jm_cw_112
  | 17, _ => jm_cw_113
  | 18, _ => jm_cw_114
  | 19, _ => jm_cw_115
  | 20, _ => jm_cw_116
  | 21, _ => jm_cw_117
  | 22, _ => jm_cw_118
  | 23, _ => jm_cw_119
  | 24, _ => jm_cw_120
  | 25, _ => jm_cw_121
  | 26, _ => jm_cw_122
  | 27, _ => jm_cw_123
  | 28, _ => jm_cw_124
  | 29, _ => jm_cw_125
  | 30, _ => jm_cw_126
  | 31, _ => jm_cw_127
  | n + 32, h => absurd h (by omega)
theorem jm_cwc_4 : ∀ k, k < 32 → Cond.code (jm_mt_4.getD k jm_d0).1 (jm_mt_4.getD k jm_d0).2.1 (jm_mt_4.getD k jm_d0).2.2.1 (jm_mt_4.getD k jm_d0).2.2.2.1 ∈ lw_tbl
  | 0, _ => jm_cw_128
  | 1, _ => jm_cw_129
  | 2, _ => jm_cw_130
  | 3, _ => jm_cw_131
  | 4, _ => jm_cw_132
  | 5, _ => jm_cw_133
  | 6, _ => jm_cw_134
  | 7, _ => jm_cw_135
  | 8, _ => jm_cw_136
  | 9, _ => jm_cw_137
  | 10, _ => jm_cw_138
  | 11, _ => jm_cw_139
  | 12, _ => jm_cw_140
  | 13, _ => jm_cw_141
  | 14, _ => jm_cw_142
  | 15, _ => jm_cw_143
  | 16, _ => jm_cw_144
  | 17, _ => jm_cw_145
  | 18, _ => jm_cw_146
  | 19, _ => jm_cw_147
  | 20, _ => jm_cw_148
  | 21, _ => jm_cw_149
  | 22, _ => jm_cw_150
  | 23, _ => jm_cw_151
  | 24, _ => jm_cw_152
  | 25, _ => jm_cw_153
  | 26, _ => jm_cw_154
  | 27, _ => jm_cw_155
  | 28, _ => jm_cw_156
  | 29, _ => jm_cw_157
  | 30, _ => jm_cw_158
  | 31, _ => jm_cw_159
  | n + 32, h => absurd h (by omega)
theorem jm_cwc_5 : ∀ k, k < 32 → Cond.code (jm_mt_5.getD k jm_d0).1 (jm_mt_5.getD k jm_d0).2.1 (jm_mt_5.getD k jm_d0).2.2.1 (jm_mt_5.getD k jm_d0).2.2.2.1 ∈ lw_tbl
  | 0, _ => jm_cw_160
  | 1, _ => jm_cw_161
  | 2, _ => jm_cw_162
  | 3, _ => jm_cw_163
  | 4, _ => jm_cw_164
  | 5, _ => jm_cw_165
  | 6, _ => jm_cw_166
  | 7, _ => jm_cw_167
  | 8, _ => jm_cw_168
  | 9, _ => jm_cw_169
  | 10, _ => jm_cw_170
  | 11, _ => jm_cw_171
  | 12, _ => jm_cw_172
  | 13, _ => jm_cw_173
  | 14, _ => jm_cw_174
  | 15, _ => jm_cw_175
  | 16, _ => jm_cw_176
  | 17, _ => jm_cw_177
  | 18, _ => jm_cw_178
  | 19, _ => jm_cw_179
  | 20, _ => jm_cw_180
  | 21, _ => jm_cw_181
  | 22, _ => jm_cw_182
  | 23, _ => jm_cw_183
  | 24, _ => jm_cw_184
  | 25, _ => jm_cw_185
  | 26, _ => jm_cw_186
  | 27, _ => jm_cw_187
  | 28, _ => jm_cw_188
  | 29, _ => jm_cw_189
  | 30, _ => jm_cw_190
  | 31, _ => jm_cw_191
  | n + 32, h => absurd h (by omega)
theorem jm_cwc_6 : ∀ k, k < 31 → Cond.code (jm_mt_6.getD k jm_d0).1 (jm_mt_6.getD k jm_d0).2.1 (jm_mt_6.getD k jm_d0).2.2.1 (jm_mt_6.getD k jm_d0).2.2.2.1 ∈ lw_tbl
  | 0, _ => jm_cw_192
  | 1, _ => jm_cw_193
  | 2, _ => jm_cw_194
  | 3, _ => jm_cw_195
  | 4, _ => jm_cw_196
  | 5, _ => jm_cw_197
  | 6, _ => jm_cw_198
  | 7, _ => jm_cw_199
  | 8, _ => jm_cw_200
  | 9, _ => jm_cw_201
  | 10, _ => jm_cw_202
  | 11, _ => jm_cw_203
  | 12, _ => jm_cw_204
  | 13, _ => jm_cw_205
  | 14, _ => jm_cw_206
  | 15, _ => jm_cw_207
  | 16, _ => jm_cw_208
  | 17, _ => jm_cw_209
  | 18, _ => jm_cw_210
  | 19, _ => jm_cw_211
  | 20, _ => jm_cw_212
  | 21, _ => jm_cw_213
  | 22, _ => jm_cw_214
  | 23, _ => jm_cw_215
  | 24, _ => jm_cw_216
  | 25, _ => jm_cw_217
  | 26, _ => jm_cw_218
  | 27, _ => jm_cw_219
  | 28, _ => jm_cw_220
  | 29, _ => jm_cw_221
  | 30, _ => jm_cw_222
  | n + 31, h => absurd h (by omega)
theorem jm_ccomb {P : jm_R → Prop} {a b : List jm_R} {n : Nat} (h1 : ∀ k, k < a.length → P (a.getD k jm_d0)) (h2 : ∀ k, k < n → P (b.getD k jm_d0)) : ∀ k, k < a.length + n → P ((a ++ b).getD k jm_d0) := by
  intro k hk
  rw [List.getD_eq_getElem?_getD]
  by_cases h : k < a.length
  · rw [List.getElem?_append_left h, ← List.getD_eq_getElem?_getD]
    exact h1 k h
  · rw [List.getElem?_append_right (by omega), ← List.getD_eq_getElem?_getD]
    exact h2 (k - a.length) (by omega)
theorem jm_cwall : ∀ t, t < 223 → Cond.code (jm_y t) (jm_code t) (jm_ml t) (jm_rt t) ∈ jm_Tb := fun t h => List.mem_filter.mpr ⟨jm_ccomb (P := fun r => Cond.code r.1 r.2.1 r.2.2.1 r.2.2.2.1 ∈ lw_tbl) (a := jm_mt_0) jm_cwc_0 (jm_ccomb (P := fun r => Cond.code r.1 r.2.1 r.2.2.1 r.2.2.2.1 ∈ lw_tbl) (a := jm_mt_1) jm_cwc_1 (jm_ccomb (P := fun r => Cond.code r.1 r.2.1 r.2.2.1 r.2.2.2.1 ∈ lw_tbl) (a := jm_mt_2) jm_cwc_2 (jm_ccomb (P := fun r => Cond.code r.1 r.2.1 r.2.2.1 r.2.2.2.1 ∈ lw_tbl) (a := jm_mt_3) jm_cwc_3 (jm_ccomb (P := fun r => Cond.code r.1 r.2.1 r.2.2.1 r.2.2.2.1 ∈ lw_tbl) (a := jm_mt_4) jm_cwc_4 (jm_ccomb (P := fun r => Cond.code r.1 r.2.1 r.2.2.1 r.2.2.2.1 ∈ lw_tbl) (a := jm_mt_5) jm_cwc_5 (jm_cwc_6)))))) t h, rfl⟩
theorem jm_mok : jm_mT.all (fun q => decide (q.2.1 < 223) && (if q.2.2.1 then decide (Cond.methodLinkNest (jm_cnm q.1.1) q.1.2 (jm_y q.2.1) "JingleLaws" ∈ jm_nw) else jm_at q.2.2.2 (.methodLink (jm_cnm q.1.1) q.1.2 (jm_y q.2.1)))) = true := by decide +kernel
