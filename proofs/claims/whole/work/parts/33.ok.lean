theorem rx_okc_0_0 : rt_L_law_0.all (fun q => rx_okD (rx_dd (rx_mi 0).2.1) (rx_mi 0) q.1 q.2) = true := by decide +kernel
theorem rx_okc_0_1 : rt_L_law_1.all (fun q => rx_okD (rx_dd (rx_mi 0).2.1) (rx_mi 0) q.1 q.2) = true := by decide +kernel
theorem rx_okc_0_2 : rt_L_law_2.all (fun q => rx_okD (rx_dd (rx_mi 0).2.1) (rx_mi 0) q.1 q.2) = true := by decide +kernel
theorem rx_okc_0_3 : rt_L_law_3.all (fun q => rx_okD (rx_dd (rx_mi 0).2.1) (rx_mi 0) q.1 q.2) = true := by decide +kernel
theorem rx_okc_0_4 : rt_L_law_4.all (fun q => rx_okD (rx_dd (rx_mi 0).2.1) (rx_mi 0) q.1 q.2) = true := by decide +kernel
theorem rx_okc_0_5 : rt_L_law_5.all (fun q => rx_okD (rx_dd (rx_mi 0).2.1) (rx_mi 0) q.1 q.2) = true := by decide +kernel
theorem rx_okc_0_6 : rt_L_law_6.all (fun q => rx_okD (rx_dd (rx_mi 0).2.1) (rx_mi 0) q.1 q.2) = true := by decide +kernel
theorem rx_okc_0_7 : rt_L_law_7.all (fun q => rx_okD (rx_dd (rx_mi 0).2.1) (rx_mi 0) q.1 q.2) = true := by decide +kernel
theorem rx_okc_0_8 : rt_L_law_8.all (fun q => rx_okD (rx_dd (rx_mi 0).2.1) (rx_mi 0) q.1 q.2) = true := by decide +kernel
theorem rx_okc_0_9 : rt_L_law_9.all (fun q => rx_okD (rx_dd (rx_mi 0).2.1) (rx_mi 0) q.1 q.2) = true := by decide +kernel
theorem rx_okc_0_10 : rt_L_law_10.all (fun q => rx_okD (rx_dd (rx_mi 0).2.1) (rx_mi 0) q.1 q.2) = true := by decide +kernel
theorem rx_okc_0_11 : rt_L_law_11.all (fun q => rx_okD (rx_dd (rx_mi 0).2.1) (rx_mi 0) q.1 q.2) = true := by decide +kernel
theorem rx_okc_0_12 : rt_L_law_12.all (fun q => rx_okD (rx_dd (rx_mi 0).2.1) (rx_mi 0) q.1 q.2) = true := by decide +kernel
theorem rx_okc_0_13 : rt_L_law_13.all (fun q => rx_okD (rx_dd (rx_mi 0).2.1) (rx_mi 0) q.1 q.2) = true := by decide +kernel
theorem rx_okc_0_14 : rt_L_law_14.all (fun q => rx_okD (rx_dd (rx_mi 0).2.1) (rx_mi 0) q.1 q.2) = true := by decide +kernel
theorem rx_okc_0_15 : rt_L_law_15.all (fun q => rx_okD (rx_dd (rx_mi 0).2.1) (rx_mi 0) q.1 q.2) = true := by decide +kernel
theorem rx_okc_0_16 : rt_L_law_16.all (fun q => rx_okD (rx_dd (rx_mi 0).2.1) (rx_mi 0) q.1 q.2) = true := by decide +kernel
theorem rx_okc_0_17 : rt_L_law_17.all (fun q => rx_okD (rx_dd (rx_mi 0).2.1) (rx_mi 0) q.1 q.2) = true := by decide +kernel
theorem rx_okc_0_18 : rt_L_law_18.all (fun q => rx_okD (rx_dd (rx_mi 0).2.1) (rx_mi 0) q.1 q.2) = true := by decide +kernel
theorem rx_okc_0_19 : rt_L_law_19.all (fun q => rx_okD (rx_dd (rx_mi 0).2.1) (rx_mi 0) q.1 q.2) = true := by decide +kernel
theorem rx_okc_0_20 : rt_L_law_20.all (fun q => rx_okD (rx_dd (rx_mi 0).2.1) (rx_mi 0) q.1 q.2) = true := by decide +kernel
theorem rx_okc_0_21 : rt_L_law_21.all (fun q => rx_okD (rx_dd (rx_mi 0).2.1) (rx_mi 0) q.1 q.2) = true := by decide +kernel
theorem rx_okc_0_22 : rt_L_law_22.all (fun q => rx_okD (rx_dd (rx_mi 0).2.1) (rx_mi 0) q.1 q.2) = true := by decide +kernel
theorem rx_okc_0_23 : rt_L_law_23.all (fun q => rx_okD (rx_dd (rx_mi 0).2.1) (rx_mi 0) q.1 q.2) = true := by decide +kernel
theorem rx_okc_0_24 : rt_L_law_24.all (fun q => rx_okD (rx_dd (rx_mi 0).2.1) (rx_mi 0) q.1 q.2) = true := by decide +kernel
theorem rx_okc_0_25 : rt_L_law_25.all (fun q => rx_okD (rx_dd (rx_mi 0).2.1) (rx_mi 0) q.1 q.2) = true := by decide +kernel
theorem rx_okm_0 : rx_okmD 0 = true := (show rt_L_law.all (fun q => rx_okD (rx_dd (rx_mi 0).2.1) (rx_mi 0) q.1 q.2) = true from by
  unfold rt_L_law
  simp only [List.all_append, Bool.and_eq_true]
  exact ⟨rx_okc_0_0, rx_okc_0_1, rx_okc_0_2, rx_okc_0_3, rx_okc_0_4, rx_okc_0_5, rx_okc_0_6, rx_okc_0_7, rx_okc_0_8, rx_okc_0_9, rx_okc_0_10, rx_okc_0_11, rx_okc_0_12, rx_okc_0_13, rx_okc_0_14, rx_okc_0_15, rx_okc_0_16, rx_okc_0_17, rx_okc_0_18, rx_okc_0_19, rx_okc_0_20, rx_okc_0_21, rx_okc_0_22, rx_okc_0_23, rx_okc_0_24, rx_okc_0_25⟩)
theorem rx_okm_1 : rx_okmD 1 = true := by decide +kernel
theorem rx_okm_2 : rx_okmD 2 = true := by decide +kernel
theorem rx_okm_3 : rx_okmD 3 = true := by decide +kernel
theorem rx_okm_4 : rx_okmD 4 = true := by decide +kernel
theorem rx_okm_5 : rx_okmD 5 = true := by decide +kernel
theorem rx_okm_6 : rx_okmD 6 = true := by decide +kernel
theorem rx_okm_7 : rx_okmD 7 = true := by decide +kernel
theorem rx_okm_8 : rx_okmD 8 = true := by decide +kernel
theorem rx_okm_9 : rx_okmD 9 = true := by decide +kernel
theorem rx_okm_10 : rx_okmD 10 = true := by decide +kernel
theorem rx_okm_11 : rx_okmD 11 = true := by decide +kernel
theorem rx_okm_12 : rx_okmD 12 = true := by decide +kernel
theorem rx_okm_13 : rx_okmD 13 = true := by decide +kernel
theorem rx_okm_14 : rx_okmD 14 = true := by decide +kernel
theorem rx_okm_15 : rx_okmD 15 = true := by decide +kernel
theorem rx_okm_16 : rx_okmD 16 = true := by decide +kernel
theorem rx_okm_17 : rx_okmD 17 = true := by decide +kernel
theorem rx_okm_18 : rx_okmD 18 = true := by decide +kernel
theorem rx_okm_19 : rx_okmD 19 = true := by decide +kernel
theorem rx_okm_20 : rx_okmD 20 = true := by decide +kernel
theorem rx_okm_21 : rx_okmD 21 = true := by decide +kernel
theorem rx_okm_22 : rx_okmD 22 = true := by decide +kernel
theorem rx_okm_23 : rx_okmD 23 = true := by decide +kernel
theorem rx_okm_24 : rx_okmD 24 = true := by decide +kernel
theorem rx_okm_25 : rx_okmD 25 = true := by decide +kernel
theorem rx_okm_26 : rx_okmD 26 = true := by decide +kernel
theorem rx_okm_27 : rx_okmD 27 = true := by decide +kernel
theorem rx_okm_28 : rx_okmD 28 = true := by decide +kernel
theorem rx_okm_29 : rx_okmD 29 = true := by decide +kernel
theorem rx_okm_30 : rx_okmD 30 = true := by decide +kernel
theorem rx_okm_31 : rx_okmD 31 = true := by decide +kernel
theorem rx_okm_32 : rx_okmD 32 = true := by decide +kernel
theorem rx_okm_33 : rx_okmD 33 = true := by decide +kernel
theorem rx_okm_34 : rx_okmD 34 = true := by decide +kernel
theorem rx_okm_35 : rx_okmD 35 = true := by decide +kernel
theorem rx_okm_36 : rx_okmD 36 = true := by decide +kernel
theorem rx_okm_37 : rx_okmD 37 = true := by decide +kernel
theorem rx_okm_38 : rx_okmD 38 = true := by decide +kernel
theorem rx_okm_39 : rx_okmD 39 = true := by decide +kernel
theorem rx_okm_40 : rx_okmD 40 = true := by decide +kernel
theorem rx_okm_41 : rx_okmD 41 = true := by decide +kernel
theorem rx_okm_42 : rx_okmD 42 = true := by decide +kernel
theorem rx_okm_43 : rx_okmD 43 = true := by decide +kernel
theorem rx_okm_44 : rx_okmD 44 = true := by decide +kernel
theorem rx_okm_45 : rx_okmD 45 = true := by decide +kernel
theorem rx_okm_46 : rx_okmD 46 = true := by decide +kernel
theorem rx_okm_47 : rx_okmD 47 = true := by decide +kernel
theorem rx_okm_48 : rx_okmD 48 = true := by decide +kernel
theorem rx_okm_49 : rx_okmD 49 = true := by decide +kernel
theorem rx_okm_50 : rx_okmD 50 = true := by decide +kernel
theorem rx_okm_51 : rx_okmD 51 = true := by decide +kernel
theorem rx_okm_52 : rx_okmD 52 = true := by decide +kernel
theorem rx_okm_53 : rx_okmD 53 = true := by decide +kernel
theorem rx_okm_54 : rx_okmD 54 = true := by decide +kernel
theorem rx_okm_55 : rx_okmD 55 = true := by decide +kernel
theorem rx_okm_56 : rx_okmD 56 = true := by decide +kernel
theorem rx_okm_57 : rx_okmD 57 = true := by decide +kernel
theorem rx_okm_58 : rx_okmD 58 = true := by decide +kernel
theorem rx_okm_59 : rx_okmD 59 = true := by decide +kernel
theorem rx_okm_60 : rx_okmD 60 = true := by decide +kernel
theorem rx_okm_61 : rx_okmD 61 = true := by decide +kernel
theorem rx_okm_62 : rx_okmD 62 = true := by decide +kernel
theorem rx_okm_63 : rx_okmD 63 = true := by decide +kernel
theorem rx_okm_64 : rx_okmD 64 = true := by decide +kernel
theorem rx_okm_65 : rx_okmD 65 = true := by decide +kernel
theorem rx_okm_66 : rx_okmD 66 = true := by decide +kernel
theorem rx_okm_67 : rx_okmD 67 = true := by decide +kernel
theorem rx_okm_68 : rx_okmD 68 = true := by decide +kernel
theorem rx_okm_69 : rx_okmD 69 = true := by decide +kernel
theorem rx_okm_70 : rx_okmD 70 = true := by decide +kernel
theorem rx_okm_71 : rx_okmD 71 = true := by decide +kernel
theorem rx_okm_72 : rx_okmD 72 = true := by decide +kernel
theorem rx_okm_73 : rx_okmD 73 = true := by decide +kernel
theorem rx_okm_74 : rx_okmD 74 = true := by decide +kernel
theorem rx_okm_75 : rx_okmD 75 = true := by decide +kernel
theorem rx_okm_76 : rx_okmD 76 = true := by decide +kernel
theorem rx_okm_77 : rx_okmD 77 = true := by decide +kernel
theorem rx_okm_78 : rx_okmD 78 = true := by decide +kernel
theorem rx_okm_79 : rx_okmD 79 = true := by decide +kernel
theorem rx_okm_80 : rx_okmD 80 = true := by decide +kernel
theorem rx_okm_81 : rx_okmD 81 = true := by decide +kernel
theorem rx_okm_82 : rx_okmD 82 = true := by decide +kernel
theorem rx_okm_83 : rx_okmD 83 = true := by decide +kernel
theorem rx_okm_84 : rx_okmD 84 = true := by decide +kernel
theorem rx_okm_85 : rx_okmD 85 = true := by decide +kernel
theorem rx_okm_86 : rx_okmD 86 = true := by decide +kernel
theorem rx_okm_87 : rx_okmD 87 = true := by decide +kernel
theorem rx_okm_88 : rx_okmD 88 = true := by decide +kernel
theorem rx_okm_89 : rx_okmD 89 = true := by decide +kernel
theorem rx_okm_90 : rx_okmD 90 = true := by decide +kernel
theorem rx_okm_91 : rx_okmD 91 = true := by decide +kernel
theorem rx_okm_92 : rx_okmD 92 = true := by decide +kernel
theorem rx_okm_93 : rx_okmD 93 = true := by decide +kernel
theorem rx_okm_94 : rx_okmD 94 = true := by decide +kernel
theorem rx_okm_95 : rx_okmD 95 = true := by decide +kernel
theorem rx_okm_96 : rx_okmD 96 = true := by decide +kernel
theorem rx_okm_97 : rx_okmD 97 = true := by decide +kernel
theorem rx_okm_98 : rx_okmD 98 = true := by decide +kernel
theorem rx_okm_99 : rx_okmD 99 = true := by decide +kernel
theorem rx_okm_100 : rx_okmD 100 = true := by decide +kernel
theorem rx_okm_101 : rx_okmD 101 = true := by decide +kernel
theorem rx_okm_102 : rx_okmD 102 = true := by decide +kernel
theorem rx_okm_103 : rx_okmD 103 = true := by decide +kernel
theorem rx_okm_104 : rx_okmD 104 = true := by decide +kernel
theorem rx_okm_105 : rx_okmD 105 = true := by decide +kernel
theorem rx_okm_106 : rx_okmD 106 = true := by decide +kernel
theorem rx_okm_107 : rx_okmD 107 = true := by decide +kernel
theorem rx_okm_108 : rx_okmD 108 = true := by decide +kernel
theorem rx_okm_109 : rx_okmD 109 = true := by decide +kernel
theorem rx_okm_110 : rx_okmD 110 = true := by decide +kernel
theorem rx_okm_111 : rx_okmD 111 = true := by decide +kernel
theorem rx_okm_112 : rx_okmD 112 = true := by decide +kernel
theorem rx_okm_113 : rx_okmD 113 = true := by decide +kernel
theorem rx_okm_114 : rx_okmD 114 = true := by decide +kernel
theorem rx_okm_115 : rx_okmD 115 = true := by decide +kernel
theorem rx_okm_116 : rx_okmD 116 = true := by decide +kernel
theorem rx_okm_117 : rx_okmD 117 = true := by decide +kernel
theorem rx_okm_118 : rx_okmD 118 = true := by decide +kernel
theorem rx_okm_119 : rx_okmD 119 = true := by decide +kernel
theorem rx_okm_120 : rx_okmD 120 = true := by decide +kernel
theorem rx_okm_121 : rx_okmD 121 = true := by decide +kernel
theorem rx_okm_122 : rx_okmD 122 = true := by decide +kernel
theorem rx_okm_123 : rx_okmD 123 = true := by decide +kernel
theorem rx_okm_124 : rx_okmD 124 = true := by decide +kernel
theorem rx_okm_125 : rx_okmD 125 = true := by decide +kernel
theorem rx_okm_126 : rx_okmD 126 = true := by decide +kernel
theorem rx_okm_127 : rx_okmD 127 = true := by decide +kernel
theorem rx_okm_128 : rx_okmD 128 = true := by decide +kernel
theorem rx_okm_129 : rx_okmD 129 = true := by decide +kernel
theorem rx_okm_130 : rx_okmD 130 = true := by decide +kernel
theorem rx_okm_131 : rx_okmD 131 = true := by decide +kernel
theorem rx_okm_132 : rx_okmD 132 = true := by decide +kernel
theorem rx_okm_133 : rx_okmD 133 = true := by decide +kernel
theorem rx_okm_134 : rx_okmD 134 = true := by decide +kernel
theorem rx_okm_135 : rx_okmD 135 = true := by decide +kernel
theorem rx_okm_136 : rx_okmD 136 = true := by decide +kernel
theorem rx_okm_137 : rx_okmD 137 = true := by decide +kernel
theorem rx_okm_138 : rx_okmD 138 = true := by decide +kernel
theorem rx_okm_139 : rx_okmD 139 = true := by decide +kernel
theorem rx_okm_140 : rx_okmD 140 = true := by decide +kernel
theorem rx_okm_141 : rx_okmD 141 = true := by decide +kernel
theorem rx_okm_142 : rx_okmD 142 = true := by decide +kernel
theorem rx_okm_143 : rx_okmD 143 = true := by decide +kernel
theorem rx_okm_144 : rx_okmD 144 = true := by decide +kernel
theorem rx_okm_145 : rx_okmD 145 = true := by decide +kernel
theorem rx_okm_146 : rx_okmD 146 = true := by decide +kernel
theorem rx_okm_147 : rx_okmD 147 = true := by decide +kernel
theorem rx_okm_148 : rx_okmD 148 = true := by decide +kernel
theorem rx_okm_149 : rx_okmD 149 = true := by decide +kernel
theorem rx_okm_150 : rx_okmD 150 = true := by decide +kernel
theorem rx_okm_151 : rx_okmD 151 = true := by decide +kernel
theorem rx_okm_152 : rx_okmD 152 = true := by decide +kernel
theorem rx_okm_153 : rx_okmD 153 = true := by decide +kernel
theorem rx_okm_154 : rx_okmD 154 = true := by decide +kernel
theorem rx_okm_155 : rx_okmD 155 = true := by decide +kernel
theorem rx_okm_156 : rx_okmD 156 = true := by decide +kernel
theorem rx_okm_157 : rx_okmD 157 = true := by decide +kernel
theorem rx_okm_158 : rx_okmD 158 = true := by decide +kernel
theorem rx_okm_159 : rx_okmD 159 = true := by decide +kernel
theorem rx_okm_160 : rx_okmD 160 = true := by decide +kernel
theorem rx_okm_161 : rx_okmD 161 = true := by decide +kernel
theorem rx_okm_162 : rx_okmD 162 = true := by decide +kernel
theorem rx_okm_163 : rx_okmD 163 = true := by decide +kernel
theorem rx_okm_164 : rx_okmD 164 = true := by decide +kernel
theorem rx_okm_165 : rx_okmD 165 = true := by decide +kernel
theorem rx_okm_166 : rx_okmD 166 = true := by decide +kernel
theorem rx_okm_167 : rx_okmD 167 = true := by decide +kernel
theorem rx_okm_168 : rx_okmD 168 = true := by decide +kernel
theorem rx_okm_169 : rx_okmD 169 = true := by decide +kernel
theorem rx_okm_170 : rx_okmD 170 = true := by decide +kernel
theorem rx_okm_171 : rx_okmD 171 = true := by decide +kernel
theorem rx_okm_172 : rx_okmD 172 = true := by decide +kernel
theorem rx_okm_173 : rx_okmD 173 = true := by decide +kernel
theorem rx_okc_174_0 : rt_X11_isParted_0.all (fun q => rx_okD (rx_dd (rx_mi 174).2.1) (rx_mi 174) q.1 q.2) = true := by decide +kernel
theorem rx_okc_174_1 : rt_X11_isParted_1.all (fun q => rx_okD (rx_dd (rx_mi 174).2.1) (rx_mi 174) q.1 q.2) = true := by decide +kernel
theorem rx_okc_174_2 : rt_X11_isParted_2.all (fun q => rx_okD (rx_dd (rx_mi 174).2.1) (rx_mi 174) q.1 q.2) = true := by decide +kernel
theorem rx_okc_174_3 : rt_X11_isParted_3.all (fun q => rx_okD (rx_dd (rx_mi 174).2.1) (rx_mi 174) q.1 q.2) = true := by decide +kernel
theorem rx_okm_174 : rx_okmD 174 = true := (show rt_X11_isParted.all (fun q => rx_okD (rx_dd (rx_mi 174).2.1) (rx_mi 174) q.1 q.2) = true from by
  unfold rt_X11_isParted
  simp only [List.all_append, Bool.and_eq_true]
  exact ⟨rx_okc_174_0, rx_okc_174_1, rx_okc_174_2, rx_okc_174_3⟩)
theorem rx_okm_175 : rx_okmD 175 = true := by decide +kernel
theorem rx_okm_176 : rx_okmD 176 = true := by decide +kernel
theorem rx_okm_177 : rx_okmD 177 = true := by decide +kernel
theorem rx_okm_178 : rx_okmD 178 = true := by decide +kernel
theorem rx_okm_179 : rx_okmD 179 = true := by decide +kernel
theorem rx_okm_180 : rx_okmD 180 = true := by decide +kernel
theorem rx_okm_181 : rx_okmD 181 = true := by decide +kernel
theorem rx_okm_182 : rx_okmD 182 = true := by decide +kernel
theorem rx_okc_183_0 : rt_X11_line_0.all (fun q => rx_okD (rx_dd (rx_mi 183).2.1) (rx_mi 183) q.1 q.2) = true := by decide +kernel
theorem rx_okc_183_1 : rt_X11_line_1.all (fun q => rx_okD (rx_dd (rx_mi 183).2.1) (rx_mi 183) q.1 q.2) = true := by decide +kernel
theorem rx_okc_183_2 : rt_X11_line_2.all (fun q => rx_okD (rx_dd (rx_mi 183).2.1) (rx_mi 183) q.1 q.2) = true := by decide +kernel
theorem rx_okc_183_3 : rt_X11_line_3.all (fun q => rx_okD (rx_dd (rx_mi 183).2.1) (rx_mi 183) q.1 q.2) = true := by decide +kernel
theorem rx_okm_183 : rx_okmD 183 = true := (show rt_X11_line.all (fun q => rx_okD (rx_dd (rx_mi 183).2.1) (rx_mi 183) q.1 q.2) = true from by
  unfold rt_X11_line
  simp only [List.all_append, Bool.and_eq_true]
  exact ⟨rx_okc_183_0, rx_okc_183_1, rx_okc_183_2, rx_okc_183_3⟩)
theorem rx_okm_184 : rx_okmD 184 = true := by decide +kernel
theorem rx_okm_185 : rx_okmD 185 = true := by decide +kernel
theorem rx_okm_186 : rx_okmD 186 = true := by decide +kernel
theorem rx_okm_187 : rx_okmD 187 = true := by decide +kernel
theorem rx_okm_188 : rx_okmD 188 = true := by decide +kernel
theorem rx_okm_189 : rx_okmD 189 = true := by decide +kernel
theorem rx_okm_190 : rx_okmD 190 = true := by decide +kernel
theorem rx_okm_191 : rx_okmD 191 = true := by decide +kernel
theorem rx_okm_192 : rx_okmD 192 = true := by decide +kernel
theorem rx_okm_193 : rx_okmD 193 = true := by decide +kernel
theorem rx_okm_194 : rx_okmD 194 = true := by decide +kernel
theorem rx_okm_195 : rx_okmD 195 = true := by decide +kernel
theorem rx_okm_196 : rx_okmD 196 = true := by decide +kernel
theorem rx_okc_197_0 : rt_X11_findBestLine_0.all (fun q => rx_okD (rx_dd (rx_mi 197).2.1) (rx_mi 197) q.1 q.2) = true := by decide +kernel
theorem rx_okc_197_1 : rt_X11_findBestLine_1.all (fun q => rx_okD (rx_dd (rx_mi 197).2.1) (rx_mi 197) q.1 q.2) = true := by decide +kernel
theorem rx_okc_197_2 : rt_X11_findBestLine_2.all (fun q => rx_okD (rx_dd (rx_mi 197).2.1) (rx_mi 197) q.1 q.2) = true := by decide +kernel
theorem rx_okc_197_3 : rt_X11_findBestLine_3.all (fun q => rx_okD (rx_dd (rx_mi 197).2.1) (rx_mi 197) q.1 q.2) = true := by decide +kernel
theorem rx_okc_197_4 : rt_X11_findBestLine_4.all (fun q => rx_okD (rx_dd (rx_mi 197).2.1) (rx_mi 197) q.1 q.2) = true := by decide +kernel
theorem rx_okm_197 : rx_okmD 197 = true := (show rt_X11_findBestLine.all (fun q => rx_okD (rx_dd (rx_mi 197).2.1) (rx_mi 197) q.1 q.2) = true from by
  unfold rt_X11_findBestLine
  simp only [List.all_append, Bool.and_eq_true]
  exact ⟨rx_okc_197_0, rx_okc_197_1, rx_okc_197_2, rx_okc_197_3, rx_okc_197_4⟩)
theorem rx_okm_198 : rx_okmD 198 = true := by decide +kernel
theorem rx_okm_199 : rx_okmD 199 = true := by decide +kernel
theorem rx_okm_200 : rx_okmD 200 = true := by decide +kernel
theorem rx_okm_201 : rx_okmD 201 = true := by decide +kernel
theorem rx_okm_202 : rx_okmD 202 = true := by decide +kernel
theorem rx_okm_203 : rx_okmD 203 = true := by decide +kernel
theorem rx_okm_204 : rx_okmD 204 = true := by decide +kernel
theorem rx_okm_205 : rx_okmD 205 = true := by decide +kernel
theorem rx_okm_206 : rx_okmD 206 = true := by decide +kernel
theorem rx_okm_207 : rx_okmD 207 = true := by decide +kernel
theorem rx_okm_208 : rx_okmD 208 = true := by decide +kernel
theorem rx_okm_209 : rx_okmD 209 = true := by decide +kernel
theorem rx_okm_210 : rx_okmD 210 = true := by decide +kernel
theorem rx_okm_211 : rx_okmD 211 = true := by decide +kernel
theorem rx_okm_212 : rx_okmD 212 = true := by decide +kernel
theorem rx_okm_213 : rx_okmD 213 = true := by decide +kernel
theorem rx_okm_214 : rx_okmD 214 = true := by decide +kernel
theorem rx_okc_215_0 : rt_X11_go_0.all (fun q => rx_okD (rx_dd (rx_mi 215).2.1) (rx_mi 215) q.1 q.2) = true := by decide +kernel
theorem rx_okc_215_1 : rt_X11_go_1.all (fun q => rx_okD (rx_dd (rx_mi 215).2.1) (rx_mi 215) q.1 q.2) = true := by decide +kernel
theorem rx_okc_215_2 : rt_X11_go_2.all (fun q => rx_okD (rx_dd (rx_mi 215).2.1) (rx_mi 215) q.1 q.2) = true := by decide +kernel
theorem rx_okc_215_3 : rt_X11_go_3.all (fun q => rx_okD (rx_dd (rx_mi 215).2.1) (rx_mi 215) q.1 q.2) = true := by decide +kernel
theorem rx_okm_215 : rx_okmD 215 = true := (show rt_X11_go.all (fun q => rx_okD (rx_dd (rx_mi 215).2.1) (rx_mi 215) q.1 q.2) = true from by
  unfold rt_X11_go
  simp only [List.all_append, Bool.and_eq_true]
  exact ⟨rx_okc_215_0, rx_okc_215_1, rx_okc_215_2, rx_okc_215_3⟩)
theorem rx_okm_216 : rx_okmD 216 = true := by decide +kernel
theorem rx_okm_217 : rx_okmD 217 = true := by decide +kernel
theorem rx_okm_218 : rx_okmD 218 = true := by decide +kernel
theorem rx_okm_219 : rx_okmD 219 = true := by decide +kernel
theorem rx_okm_220 : rx_okmD 220 = true := by decide +kernel
theorem rx_okm_221 : rx_okmD 221 = true := by decide +kernel
theorem rx_okc_222_0 : rt_X11_takesE_0.all (fun q => rx_okD (rx_dd (rx_mi 222).2.1) (rx_mi 222) q.1 q.2) = true := by decide +kernel
theorem rx_okc_222_1 : rt_X11_takesE_1.all (fun q => rx_okD (rx_dd (rx_mi 222).2.1) (rx_mi 222) q.1 q.2) = true := by decide +kernel
theorem rx_okc_222_2 : rt_X11_takesE_2.all (fun q => rx_okD (rx_dd (rx_mi 222).2.1) (rx_mi 222) q.1 q.2) = true := by decide +kernel
theorem rx_okc_222_3 : rt_X11_takesE_3.all (fun q => rx_okD (rx_dd (rx_mi 222).2.1) (rx_mi 222) q.1 q.2) = true := by decide +kernel
theorem rx_okc_222_4 : rt_X11_takesE_4.all (fun q => rx_okD (rx_dd (rx_mi 222).2.1) (rx_mi 222) q.1 q.2) = true := by decide +kernel
theorem rx_okm_222 : rx_okmD 222 = true := (show rt_X11_takesE.all (fun q => rx_okD (rx_dd (rx_mi 222).2.1) (rx_mi 222) q.1 q.2) = true from by
  unfold rt_X11_takesE
  simp only [List.all_append, Bool.and_eq_true]
  exact ⟨rx_okc_222_0, rx_okc_222_1, rx_okc_222_2, rx_okc_222_3, rx_okc_222_4⟩)
theorem rx_okm_223 : rx_okmD 223 = true := by decide +kernel
theorem rx_okm_224 : rx_okmD 224 = true := by decide +kernel
theorem rx_okm_225 : rx_okmD 225 = true := by decide +kernel
theorem rx_okm_226 : rx_okmD 226 = true := by decide +kernel
theorem rx_okm_227 : rx_okmD 227 = true := by decide +kernel
theorem rx_okm_228 : rx_okmD 228 = true := by decide +kernel
theorem rx_okm_229 : rx_okmD 229 = true := by decide +kernel
theorem rx_okm_230 : rx_okmD 230 = true := by decide +kernel
theorem rx_okm_231 : rx_okmD 231 = true := by decide +kernel
theorem rx_okm_232 : rx_okmD 232 = true := by decide +kernel
theorem rx_okm_233 : rx_okmD 233 = true := by decide +kernel
theorem rx_okm_234 : rx_okmD 234 = true := by decide +kernel
theorem rx_okm_235 : rx_okmD 235 = true := by decide +kernel
theorem rx_okm_236 : rx_okmD 236 = true := by decide +kernel
theorem rx_okm_237 : rx_okmD 237 = true := by decide +kernel
theorem rx_okm_238 : rx_okmD 238 = true := by decide +kernel
theorem rx_okm_239 : rx_okmD 239 = true := by decide +kernel
theorem rx_okm_240 : rx_okmD 240 = true := by decide +kernel
theorem rx_okm_241 : rx_okmD 241 = true := by decide +kernel
theorem rx_okm_242 : rx_okmD 242 = true := by decide +kernel
theorem rx_okm_243 : rx_okmD 243 = true := by decide +kernel
theorem rx_okm_244 : rx_okmD 244 = true := by decide +kernel
theorem rx_okm_245 : rx_okmD 245 = true := by decide +kernel
theorem rx_okm_246 : rx_okmD 246 = true := by decide +kernel
set_option maxRecDepth 100000 in
theorem rx_okmAll : ∀ m ∈ List.range 247, rx_okmD m = true := by
  show ∀ m ∈ [0, 1, 2, 3, 4, 5, 6, 7, 8, 9, 10, 11, 12, 13, 14, 15, 16, 17, 18, 19, 20, 21, 22, 23, 24, 25, 26, 27, 28, 29, 30, 31, 32, 33, 34, 35, 36, 37, 38, 39, 40, 41, 42, 43, 44, 45, 46, 47, 48, 49, 50, 51, 52, 53, 54, 55, 56, 57, 58, 59, 60, 61, 62, 63, 64, 65, 66, 67, 68, 69, 70, 71, 72, 73, 74, 75, 76, 77, 78, 79, 80, 81, 82, 83, 84, 85, 86, 87, 88, 89, 90, 91, 92, 93, 94, 95, 96, 97, 98, 99, 100, 101, 102, 103, 104, 105, 106, 107, 108, 109, 110, 111, 112, 113, 114, 115, 116, 117, 118, 119, 120, 121, 122, 123, 124, 125, 126, 127, 128, 129, 130, 131, 132, 133, 134, 135, 136, 137, 138, 139, 140, 141, 142, 143, 144, 145, 146, 147, 148, 149, 150, 151, 152, 153, 154, 155, 156, 157, 158, 159, 160, 161, 162, 163, 164, 165, 166, 167, 168, 169, 170, 171, 172, 173, 174, 175, 176, 177, 178, 179, 180, 181, 182, 183, 184, 185, 186, 187, 188, 189, 190, 191, 192, 193, 194, 195, 196, 197, 198, 199, 200, 201, 202, 203, 204, 205, 206, 207, 208, 209, 210, 211, 212, 213, 214, 215, 216, 217, 218, 219, 220, 221, 222, 223, 224, 225, 226, 227, 228, 229, 230, 231, 232, 233, 234, 235, 236, 237, 238, 239, 240, 241, 242, 243, 244, 245, 246], rx_okmD m = true
  exact List.forall_mem_cons.mpr ⟨rx_okm_0, List.forall_mem_cons.mpr ⟨rx_okm_1, List.forall_mem_cons.mpr ⟨rx_okm_2, List.forall_mem_cons.mpr ⟨rx_okm_3, List.forall_mem_cons.mpr ⟨rx_okm_4, List.forall_mem_cons.mpr ⟨rx_okm_5, List.forall_mem_cons.mpr ⟨rx_okm_6, List.forall_mem_cons.mpr ⟨rx_okm_7, List.forall_mem_cons.mpr ⟨rx_okm_8, List.forall_mem_cons.mpr ⟨rx_okm_9, List.forall_mem_cons.mpr ⟨rx_okm_10, List.forall_mem_cons.mpr ⟨rx_okm_11, List.forall_mem_cons.mpr ⟨rx_okm_12, List.forall_mem_cons.mpr ⟨rx_okm_13, List.forall_mem_cons.mpr ⟨rx_okm_14, List.forall_mem_cons.mpr ⟨rx_okm_15, List.forall_mem_cons.mpr ⟨rx_okm_16, List.forall_mem_cons.mpr ⟨rx_okm_17, List.forall_mem_cons.mpr ⟨rx_okm_18, List.forall_mem_cons.mpr ⟨rx_okm_19, List.forall_mem_cons.mpr ⟨rx_okm_20, List.forall_mem_cons.mpr ⟨rx_okm_21, List.forall_mem_cons.mpr ⟨rx_okm_22, List.forall_mem_cons.mpr ⟨rx_okm_23, List.forall_mem_cons.mpr ⟨rx_okm_24, List.forall_mem_cons.mpr ⟨rx_okm_25, List.forall_mem_cons.mpr ⟨rx_okm_26, List.forall_mem_cons.mpr ⟨rx_okm_27, List.forall_mem_cons.mpr ⟨rx_okm_28, List.forall_mem_cons.mpr ⟨rx_okm_29, List.forall_mem_cons.mpr ⟨rx_okm_30, List.forall_mem_cons.mpr ⟨rx_okm_31, List.forall_mem_cons.mpr ⟨rx_okm_32, List.forall_mem_cons.mpr ⟨rx_okm_33, List.forall_mem_cons.mpr ⟨rx_okm_34, List.forall_mem_cons.mpr ⟨rx_okm_35, List.forall_mem_cons.mpr ⟨rx_okm_36, List.forall_mem_cons.mpr ⟨rx_okm_37, List.forall_mem_cons.mpr ⟨rx_okm_38, List.forall_mem_cons.mpr ⟨rx_okm_39, List.forall_mem_cons.mpr ⟨rx_okm_40, List.forall_mem_cons.mpr ⟨rx_okm_41, List.forall_mem_cons.mpr ⟨rx_okm_42, List.forall_mem_cons.mpr ⟨rx_okm_43, List.forall_mem_cons.mpr ⟨rx_okm_44, List.forall_mem_cons.mpr ⟨rx_okm_45, List.forall_mem_cons.mpr ⟨rx_okm_46, List.forall_mem_cons.mpr ⟨rx_okm_47, List.forall_mem_cons.mpr ⟨rx_okm_48, List.forall_mem_cons.mpr ⟨rx_okm_49, List.forall_mem_cons.mpr ⟨rx_okm_50, List.forall_mem_cons.mpr ⟨rx_okm_51, List.forall_mem_cons.mpr ⟨rx_okm_52, List.forall_mem_cons.mpr ⟨rx_okm_53, List.forall_mem_cons.mpr ⟨rx_okm_54, List.forall_mem_cons.mpr ⟨rx_okm_55, List.forall_mem_cons.mpr ⟨rx_okm_56, List.forall_mem_cons.mpr ⟨rx_okm_57, List.forall_mem_cons.mpr ⟨rx_okm_58, List.forall_mem_cons.mpr ⟨rx_okm_59, List.forall_mem_cons.mpr ⟨rx_okm_60, List.forall_mem_cons.mpr ⟨rx_okm_61, List.forall_mem_cons.mpr ⟨rx_okm_62, List.forall_mem_cons.mpr ⟨rx_okm_63, List.forall_mem_cons.mpr ⟨rx_okm_64, List.forall_mem_cons.mpr ⟨rx_okm_65, List.forall_mem_cons.mpr ⟨rx_okm_66, List.forall_mem_cons.mpr ⟨rx_okm_67, List.forall_mem_cons.mpr ⟨rx_okm_68, List.forall_mem_cons.mpr ⟨rx_okm_69, List.forall_mem_cons.mpr ⟨rx_okm_70, List.forall_mem_cons.mpr ⟨rx_okm_71, List.forall_mem_cons.mpr ⟨rx_okm_72, List.forall_mem_cons.mpr ⟨rx_okm_73, List.forall_mem_cons.mpr ⟨rx_okm_74, List.forall_mem_cons.mpr ⟨rx_okm_75, List.forall_mem_cons.mpr ⟨rx_okm_76, List.forall_mem_cons.mpr ⟨rx_okm_77, List.forall_mem_cons.mpr ⟨rx_okm_78, List.forall_mem_cons.mpr ⟨rx_okm_79, List.forall_mem_cons.mpr ⟨rx_okm_80, List.forall_mem_cons.mpr ⟨rx_okm_81, List.forall_mem_cons.mpr ⟨rx_okm_82, List.forall_mem_cons.mpr ⟨rx_okm_83, List.forall_mem_cons.mpr ⟨rx_okm_84, List.forall_mem_cons.mpr ⟨rx_okm_85, List.forall_mem_cons.mpr ⟨rx_okm_86, List.forall_mem_cons.mpr ⟨rx_okm_87, List.forall_mem_cons.mpr ⟨rx_okm_88, List.forall_mem_cons.mpr ⟨rx_okm_89, List.forall_mem_cons.mpr ⟨rx_okm_90, List.forall_mem_cons.mpr ⟨rx_okm_91, List.forall_mem_cons.mpr ⟨rx_okm_92, List.forall_mem_cons.mpr ⟨rx_okm_93, List.forall_mem_cons.mpr ⟨rx_okm_94, List.forall_mem_cons.mpr ⟨rx_okm_95, List.forall_mem_cons.mpr ⟨rx_okm_96, List.forall_mem_cons.mpr ⟨rx_okm_97, List.forall_mem_cons.mpr ⟨rx_okm_98, List.forall_mem_cons.mpr ⟨rx_okm_99, List.forall_mem_cons.mpr ⟨rx_okm_100, List.forall_mem_cons.mpr ⟨rx_okm_101, List.forall_mem_cons.mpr ⟨rx_okm_102, List.forall_mem_cons.mpr ⟨rx_okm_103, List.forall_mem_cons.mpr ⟨rx_okm_104, List.forall_mem_cons.mpr ⟨rx_okm_105, List.forall_mem_cons.mpr ⟨rx_okm_106, List.forall_mem_cons.mpr ⟨rx_okm_107, List.forall_mem_cons.mpr ⟨rx_okm_108, List.forall_mem_cons.mpr ⟨rx_okm_109, List.forall_mem_cons.mpr ⟨rx_okm_110, List.forall_mem_cons.mpr ⟨rx_okm_111, List.forall_mem_cons.mpr ⟨rx_okm_112, List.forall_mem_cons.mpr ⟨rx_okm_113, List.forall_mem_cons.mpr ⟨rx_okm_114, List.forall_mem_cons.mpr ⟨rx_okm_115, List.forall_mem_cons.mpr ⟨rx_okm_116, List.forall_mem_cons.mpr ⟨rx_okm_117, List.forall_mem_cons.mpr ⟨rx_okm_118, List.forall_mem_cons.mpr ⟨rx_okm_119, List.forall_mem_cons.mpr ⟨rx_okm_120, List.forall_mem_cons.mpr ⟨rx_okm_121, List.forall_mem_cons.mpr ⟨rx_okm_122, List.forall_mem_cons.mpr ⟨rx_okm_123, List.forall_mem_cons.mpr ⟨rx_okm_124, List.forall_mem_cons.mpr ⟨rx_okm_125, List.forall_mem_cons.mpr ⟨rx_okm_126, List.forall_mem_cons.mpr ⟨rx_okm_127, List.forall_mem_cons.mpr ⟨rx_okm_128, List.forall_mem_cons.mpr ⟨rx_okm_129, List.forall_mem_cons.mpr ⟨rx_okm_130, List.forall_mem_cons.mpr ⟨rx_okm_131, List.forall_mem_cons.mpr ⟨rx_okm_132, List.forall_mem_cons.mpr ⟨rx_okm_133, List.forall_mem_cons.mpr ⟨rx_okm_134, List.forall_mem_cons.mpr ⟨rx_okm_135, List.forall_mem_cons.mpr ⟨rx_okm_136, List.forall_mem_cons.mpr ⟨rx_okm_137, List.forall_mem_cons.mpr ⟨rx_okm_138, List.forall_mem_cons.mpr ⟨rx_okm_139, List.forall_mem_cons.mpr ⟨rx_okm_140, List.forall_mem_cons.mpr ⟨rx_okm_141, List.forall_mem_cons.mpr ⟨rx_okm_142, List.forall_mem_cons.mpr ⟨rx_okm_143, List.forall_mem_cons.mpr ⟨rx_okm_144, List.forall_mem_cons.mpr ⟨rx_okm_145, List.forall_mem_cons.mpr ⟨rx_okm_146, List.forall_mem_cons.mpr ⟨rx_okm_147, List.forall_mem_cons.mpr ⟨rx_okm_148, List.forall_mem_cons.mpr ⟨rx_okm_149, List.forall_mem_cons.mpr ⟨rx_okm_150, List.forall_mem_cons.mpr ⟨rx_okm_151, List.forall_mem_cons.mpr ⟨rx_okm_152, List.forall_mem_cons.mpr ⟨rx_okm_153, List.forall_mem_cons.mpr ⟨rx_okm_154, List.forall_mem_cons.mpr ⟨rx_okm_155, List.forall_mem_cons.mpr ⟨rx_okm_156, List.forall_mem_cons.mpr ⟨rx_okm_157, List.forall_mem_cons.mpr ⟨rx_okm_158, List.forall_mem_cons.mpr ⟨rx_okm_159, List.forall_mem_cons.mpr ⟨rx_okm_160, List.forall_mem_cons.mpr ⟨rx_okm_161, List.forall_mem_cons.mpr ⟨rx_okm_162, List.forall_mem_cons.mpr ⟨rx_okm_163, List.forall_mem_cons.mpr ⟨rx_okm_164, List.forall_mem_cons.mpr ⟨rx_okm_165, List.forall_mem_cons.mpr ⟨rx_okm_166, List.forall_mem_cons.mpr ⟨rx_okm_167, List.forall_mem_cons.mpr ⟨rx_okm_168, List.forall_mem_cons.mpr ⟨rx_okm_169, List.forall_mem_cons.mpr ⟨rx_okm_170, List.forall_mem_cons.mpr ⟨rx_okm_171, List.forall_mem_cons.mpr ⟨rx_okm_172, List.forall_mem_cons.mpr ⟨rx_okm_173, List.forall_mem_cons.mpr ⟨rx_okm_174, List.forall_mem_cons.mpr ⟨rx_okm_175, List.forall_mem_cons.mpr ⟨rx_okm_176, List.forall_mem_cons.mpr ⟨rx_okm_177, List.forall_mem_cons.mpr ⟨rx_okm_178, List.forall_mem_cons.mpr ⟨rx_okm_179, List.forall_mem_cons.mpr ⟨rx_okm_180, List.forall_mem_cons.mpr ⟨rx_okm_181, List.forall_mem_cons.mpr ⟨rx_okm_182, List.forall_mem_cons.mpr ⟨rx_okm_183, List.forall_mem_cons.mpr ⟨rx_okm_184, List.forall_mem_cons.mpr ⟨rx_okm_185, List.forall_mem_cons.mpr ⟨rx_okm_186, List.forall_mem_cons.mpr ⟨rx_okm_187, List.forall_mem_cons.mpr ⟨rx_okm_188, List.forall_mem_cons.mpr ⟨rx_okm_189, List.forall_mem_cons.mpr ⟨rx_okm_190, List.forall_mem_cons.mpr ⟨rx_okm_191, List.forall_mem_cons.mpr ⟨rx_okm_192, List.forall_mem_cons.mpr ⟨rx_okm_193, List.forall_mem_cons.mpr ⟨rx_okm_194, List.forall_mem_cons.mpr ⟨rx_okm_195, List.forall_mem_cons.mpr ⟨rx_okm_196, List.forall_mem_cons.mpr ⟨rx_okm_197, List.forall_mem_cons.mpr ⟨rx_okm_198, List.forall_mem_cons.mpr ⟨rx_okm_199, List.forall_mem_cons.mpr ⟨rx_okm_200, List.forall_mem_cons.mpr ⟨rx_okm_201, List.forall_mem_cons.mpr ⟨rx_okm_202, List.forall_mem_cons.mpr ⟨rx_okm_203, List.forall_mem_cons.mpr ⟨rx_okm_204, List.forall_mem_cons.mpr ⟨rx_okm_205, List.forall_mem_cons.mpr ⟨rx_okm_206, List.forall_mem_cons.mpr ⟨rx_okm_207, List.forall_mem_cons.mpr ⟨rx_okm_208, List.forall_mem_cons.mpr ⟨rx_okm_209, List.forall_mem_cons.mpr ⟨rx_okm_210, List.forall_mem_cons.mpr ⟨rx_okm_211, List.forall_mem_cons.mpr ⟨rx_okm_212, List.forall_mem_cons.mpr ⟨rx_okm_213, List.forall_mem_cons.mpr ⟨rx_okm_214, List.forall_mem_cons.mpr ⟨rx_okm_215, List.forall_mem_cons.mpr ⟨rx_okm_216, List.forall_mem_cons.mpr ⟨rx_okm_217, List.forall_mem_cons.mpr ⟨rx_okm_218, List.forall_mem_cons.mpr ⟨rx_okm_219, List.forall_mem_cons.mpr ⟨rx_okm_220, List.forall_mem_cons.mpr ⟨rx_okm_221, List.forall_mem_cons.mpr ⟨rx_okm_222, List.forall_mem_cons.mpr ⟨rx_okm_223, List.forall_mem_cons.mpr ⟨rx_okm_224, List.forall_mem_cons.mpr ⟨rx_okm_225, List.forall_mem_cons.mpr ⟨rx_okm_226, List.forall_mem_cons.mpr ⟨rx_okm_227, List.forall_mem_cons.mpr ⟨rx_okm_228, List.forall_mem_cons.mpr ⟨rx_okm_229, List.forall_mem_cons.mpr ⟨rx_okm_230, List.forall_mem_cons.mpr ⟨rx_okm_231, List.forall_mem_cons.mpr ⟨rx_okm_232, List.forall_mem_cons.mpr ⟨rx_okm_233, List.forall_mem_cons.mpr ⟨rx_okm_234, List.forall_mem_cons.mpr ⟨rx_okm_235, List.forall_mem_cons.mpr ⟨rx_okm_236, List.forall_mem_cons.mpr ⟨rx_okm_237, List.forall_mem_cons.mpr ⟨rx_okm_238, List.forall_mem_cons.mpr ⟨rx_okm_239, List.forall_mem_cons.mpr ⟨rx_okm_240, List.forall_mem_cons.mpr ⟨rx_okm_241, List.forall_mem_cons.mpr ⟨rx_okm_242, List.forall_mem_cons.mpr ⟨rx_okm_243, List.forall_mem_cons.mpr ⟨rx_okm_244, List.forall_mem_cons.mpr ⟨rx_okm_245, List.forall_mem_cons.mpr ⟨rx_okm_246, fun q h => absurd h List.not_mem_nil⟩⟩⟩⟩⟩⟩⟩⟩⟩⟩⟩⟩⟩⟩⟩⟩⟩⟩⟩⟩⟩⟩⟩⟩⟩⟩⟩⟩⟩⟩⟩⟩⟩⟩⟩⟩⟩⟩⟩⟩⟩⟩⟩⟩⟩⟩⟩⟩⟩⟩⟩⟩⟩⟩⟩⟩⟩⟩⟩⟩⟩⟩⟩⟩⟩⟩⟩⟩⟩⟩⟩⟩⟩⟩⟩⟩⟩⟩⟩⟩⟩⟩⟩⟩⟩⟩⟩⟩⟩⟩⟩⟩⟩⟩⟩⟩⟩⟩⟩⟩⟩⟩⟩⟩⟩⟩⟩⟩⟩⟩⟩⟩⟩⟩⟩⟩⟩⟩⟩⟩⟩⟩⟩⟩⟩⟩⟩⟩⟩⟩⟩⟩⟩⟩⟩⟩⟩⟩⟩⟩⟩⟩⟩⟩⟩⟩⟩⟩⟩⟩⟩⟩⟩⟩⟩⟩⟩⟩⟩⟩⟩⟩⟩⟩⟩⟩⟩⟩⟩⟩⟩⟩⟩⟩⟩⟩⟩⟩⟩⟩⟩⟩⟩⟩⟩⟩⟩⟩⟩⟩⟩⟩⟩⟩⟩⟩⟩⟩⟩⟩⟩⟩⟩⟩⟩⟩⟩⟩⟩⟩⟩⟩⟩⟩⟩⟩⟩⟩⟩⟩⟩⟩⟩⟩⟩⟩⟩⟩⟩⟩⟩⟩⟩⟩⟩⟩⟩⟩⟩⟩⟩⟩⟩⟩⟩⟩⟩
theorem rx_tabLen : rx_tab.length = 247 := by decide +kernel
theorem rx_lookMem {l : List (Nat × rx_I)} {pc : Nat} {i : rx_I} (h : l.lookup pc = some i) : (pc, i) ∈ l := by
  induction l with
  | nil => cases h
  | cons a l ih =>
    rw [List.lookup] at h
    cases e : pc == a.1 with
    | true =>
      rw [e] at h
      have h1 : a.2 = i := Option.some.inj h
      have h2 : pc = a.1 := by simpa using e
      rw [← h1, h2]
      exact List.mem_cons_self
    | false =>
      rw [e] at h
      exact List.mem_cons_of_mem _ (ih h)
theorem rx_OK : ∀ m pc i, rx_ins m pc = some i → rx_ok (rx_mi m) pc i = true := by
  intro m pc i h
  unfold rx_ins at h
  by_cases hm : m < 247
  · have h1 := rx_okmAll m (List.mem_range.mpr hm)
    rw [rx_okmD_eq] at h1
    exact List.all_eq_true.mp h1 (pc, i) (rx_lookMem h)
  · rw [List.getD_eq_getElem?_getD, List.getElem?_eq_none (by rw [rx_tabLen]; omega)] at h
    cases h

