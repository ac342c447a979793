/-! 16: each method passes the check -/
set_option maxRecDepth 100000 in
theorem ok_100 : gj_okM gj_mt mt_100 := gj_ckM_s (oi := 10) rfl (by decide +kernel)
set_option maxRecDepth 100000 in
theorem ok_101 : gj_okM gj_mt mt_101 := gj_ckM_s (oi := 10) rfl (by decide +kernel)
set_option maxRecDepth 100000 in
theorem ok_102 : gj_okM gj_mt mt_102 := gj_ckM_s (oi := 10) rfl (by decide +kernel)
set_option maxRecDepth 100000 in
theorem ok_103 : gj_okM gj_mt mt_103 := gj_ckM_s (oi := 10) rfl (by decide +kernel)
set_option maxRecDepth 100000 in
theorem ok_104 : gj_okM gj_mt mt_104 := gj_ckM_s (oi := 10) rfl (by decide +kernel)
set_option maxRecDepth 100000 in
theorem ok_105 : gj_okM gj_mt mt_105 := gj_ckM_s (oi := 10) rfl (by decide +kernel)
set_option maxRecDepth 100000 in
theorem ok_106 : gj_okM gj_mt mt_106 := gj_ckM_s (oi := 10) rfl (by decide +kernel)
set_option maxRecDepth 100000 in
theorem ok_107 : gj_okM gj_mt mt_107 := gj_ckM_s (oi := 10) rfl (by decide +kernel)
set_option maxRecDepth 100000 in
theorem ok_108 : gj_okM gj_mt mt_108 := gj_ckM_s (oi := 10) rfl (by decide +kernel)
set_option maxRecDepth 100000 in
theorem ok_109 : gj_okM gj_mt mt_109 := gj_ckM_s (oi := 10) rfl (by decide +kernel)
set_option maxRecDepth 100000 in
theorem ok_110 : gj_okM gj_mt mt_110 := gj_ckM_s (oi := 10) rfl (by decide +kernel)
set_option maxRecDepth 100000 in
theorem ok_111 : gj_okM gj_mt mt_111 := gj_ckM_s (oi := 10) rfl (by decide +kernel)
set_option maxRecDepth 100000 in
theorem ok_112 : gj_okM gj_mt mt_112 := gj_ckM_s (oi := 10) rfl (by decide +kernel)
set_option maxRecDepth 100000 in
theorem ok_113 : gj_okM gj_mt mt_113 := gj_ckM_s (oi := 10) rfl (by decide +kernel)
set_option maxRecDepth 100000 in
theorem ok_114 : gj_okM gj_mt mt_114 := gj_ckM_s (oi := 10) rfl (by decide +kernel)
set_option maxRecDepth 100000 in
theorem ok_115 : gj_okM gj_mt mt_115 := gj_ckM_s (oi := 10) rfl (by decide +kernel)
set_option maxRecDepth 100000 in
theorem ok_116 : gj_okM gj_mt mt_116 := gj_ckM_s (oi := 10) rfl (by decide +kernel)
set_option maxRecDepth 100000 in
theorem ok_117 : gj_okM gj_mt mt_117 := gj_ckM_s (oi := 10) rfl (by decide +kernel)
set_option maxRecDepth 100000 in
theorem ok_118 : gj_okM gj_mt mt_118 := gj_ckM_s (oi := 10) rfl (by decide +kernel)
set_option maxRecDepth 100000 in
theorem ok_119 : gj_okM gj_mt mt_119 := gj_ckM_s (oi := 10) rfl (by decide +kernel)
set_option maxRecDepth 100000 in
theorem ok_120 : gj_okM gj_mt mt_120 := gj_ckM_s (oi := 10) rfl (by decide +kernel)
set_option maxRecDepth 100000 in
theorem ok_121 : gj_okM gj_mt mt_121 := gj_ckM_s (oi := 10) rfl (by decide +kernel)
set_option maxRecDepth 100000 in
theorem ok_122 : gj_okM gj_mt mt_122 := gj_ckM_s (oi := 10) rfl (by decide +kernel)
set_option maxRecDepth 100000 in
theorem ok_123 : gj_okM gj_mt mt_123 := gj_ckM_s (oi := 10) rfl (by decide +kernel)
set_option maxRecDepth 100000 in
theorem ok_124 : gj_okM gj_mt mt_124 := gj_ckM_s (oi := 10) rfl (by decide +kernel)
set_option maxRecDepth 100000 in
theorem ok_125 : gj_okM gj_mt mt_125 := gj_ckM_s (oi := 10) rfl (by decide +kernel)
set_option maxRecDepth 100000 in
theorem ok_126 : gj_okM gj_mt mt_126 := gj_ckM_s (oi := 10) rfl (by decide +kernel)
set_option maxRecDepth 100000 in
theorem ok_127 : gj_okM gj_mt mt_127 := gj_ckM_s (oi := 10) rfl (by decide +kernel)
set_option maxRecDepth 100000 in
theorem ok_128 : gj_okM gj_mt mt_128 := gj_ckM_s (oi := 10) rfl (by decide +kernel)
set_option maxRecDepth 100000 in
theorem ok_129 : gj_okM gj_mt mt_129 := gj_ckM_s (oi := 10) rfl (by decide +kernel)
set_option maxRecDepth 100000 in
theorem ok_130 : gj_okM gj_mt mt_130 := gj_ckM_s (oi := 10) rfl (by decide +kernel)
set_option maxRecDepth 100000 in
theorem ok_131 : gj_okM gj_mt mt_131 := gj_ckM_s (oi := 10) rfl (by decide +kernel)
set_option maxRecDepth 100000 in
theorem ok_132 : gj_okM gj_mt mt_132 := gj_ckM_s (oi := 10) rfl (by decide +kernel)
set_option maxRecDepth 100000 in
theorem ok_133 : gj_okM gj_mt mt_133 := gj_ckM_s (oi := 10) rfl (by decide +kernel)
set_option maxRecDepth 100000 in
theorem ok_134 : gj_okM gj_mt mt_134 := gj_ckM_s (oi := 10) rfl (by decide +kernel)
set_option maxRecDepth 100000 in
theorem ok_135 : gj_okM gj_mt mt_135 := gj_ckM_s (oi := 10) rfl (by decide +kernel)
set_option maxRecDepth 100000 in
theorem ok_136 : gj_okM gj_mt mt_136 := gj_ckM_s (oi := 10) rfl (by decide +kernel)
set_option maxRecDepth 100000 in
theorem ok_137 : gj_okM gj_mt mt_137 := gj_ckM_s (oi := 10) rfl (by decide +kernel)
set_option maxRecDepth 100000 in
theorem ok_138 : gj_okM gj_mt mt_138 := gj_ckM_s (oi := 10) rfl (by decide +kernel)
set_option maxRecDepth 100000 in
theorem ok_139 : gj_okM gj_mt mt_139 := gj_ckM_s (oi := 10) rfl (by decide +kernel)
set_option maxRecDepth 100000 in
theorem ok_140 : gj_okM gj_mt mt_140 := gj_ckM_s (oi := 10) rfl (by decide +kernel)
set_option maxRecDepth 100000 in
theorem ok_141 : gj_okM gj_mt mt_141 := gj_ckM_s (oi := 10) rfl (by decide +kernel)
set_option maxRecDepth 100000 in
theorem ok_142 : gj_okM gj_mt mt_142 := gj_ckM_s (oi := 10) rfl (by decide +kernel)
set_option maxRecDepth 100000 in
theorem ok_143 : gj_okM gj_mt mt_143 := gj_ckM_s (oi := 10) rfl (by decide +kernel)
set_option maxRecDepth 100000 in
theorem ok_144 : gj_okM gj_mt mt_144 := gj_ckM_s (oi := 10) rfl (by decide +kernel)
set_option maxRecDepth 100000 in
theorem ok_145 : gj_okM gj_mt mt_145 := gj_ckM_s (oi := 10) rfl (by decide +kernel)
set_option maxRecDepth 100000 in
theorem ok_146 : gj_okM gj_mt mt_146 := gj_ckM_s (oi := 10) rfl (by decide +kernel)
set_option maxRecDepth 100000 in
theorem ok_147 : gj_okM gj_mt mt_147 := gj_ckM_s (oi := 10) rfl (by decide +kernel)
set_option maxRecDepth 100000 in
theorem ok_148 : gj_okM gj_mt mt_148 := gj_ckM_s (oi := 10) rfl (by decide +kernel)
set_option maxRecDepth 100000 in
theorem ok_149 : gj_okM gj_mt mt_149 := gj_ckM_s (oi := 10) rfl (by decide +kernel)
set_option maxRecDepth 100000 in
theorem ok_150 : gj_okM gj_mt mt_150 := gj_ckM_s (oi := 10) rfl (by decide +kernel)
set_option maxRecDepth 100000 in
theorem ok_151 : gj_okM gj_mt mt_151 := gj_ckM_s (oi := 10) rfl (by decide +kernel)
set_option maxRecDepth 100000 in
theorem ok_152 : gj_okM gj_mt mt_152 := gj_ckM_s (oi := 10) rfl (by decide +kernel)
set_option maxRecDepth 100000 in
theorem ok_153 : gj_okM gj_mt mt_153 := gj_ckM_s (oi := 10) rfl (by decide +kernel)
set_option maxRecDepth 100000 in
theorem ok_154 : gj_okM gj_mt mt_154 := gj_ckM_s (oi := 10) rfl (by decide +kernel)
set_option maxRecDepth 100000 in
theorem ok_155 : gj_okM gj_mt mt_155 := gj_ckM_s (oi := 11) rfl (by decide +kernel)
set_option maxRecDepth 100000 in
theorem ok_156 : gj_okM gj_mt mt_156 := gj_ckM_s (oi := 11) rfl (by decide +kernel)
set_option maxRecDepth 100000 in
theorem ok_157 : gj_okM gj_mt mt_157 := gj_ckM_s (oi := 11) rfl (by decide +kernel)
set_option maxRecDepth 100000 in
theorem ok_158 : gj_okM gj_mt mt_158 := gj_ckM_s (oi := 11) rfl (by decide +kernel)
set_option maxRecDepth 100000 in
theorem ok_159 : gj_okM gj_mt mt_159 := gj_ckM_s (oi := 11) rfl (by decide +kernel)
set_option maxRecDepth 100000 in
theorem ok_160 : gj_okM gj_mt mt_160 := gj_ckM_s (oi := 11) rfl (by decide +kernel)
set_option maxRecDepth 100000 in
theorem ok_161 : gj_okM gj_mt mt_161 := gj_ckM_s (oi := 11) rfl (by decide +kernel)
set_option maxRecDepth 100000 in
theorem ok_162 : gj_okM gj_mt mt_162 := gj_ckM_s (oi := 11) rfl (by decide +kernel)
set_option maxRecDepth 100000 in
theorem ok_163 : gj_okM gj_mt mt_163 := gj_ckM_s (oi := 11) rfl (by decide +kernel)
set_option maxRecDepth 100000 in
theorem ok_164 : gj_okM gj_mt mt_164 := gj_ckM_s (oi := 11) rfl (by decide +kernel)
set_option maxRecDepth 100000 in
theorem ok_165 : gj_okM gj_mt mt_165 := gj_ckM_s (oi := 11) rfl (by decide +kernel)
set_option maxRecDepth 100000 in
theorem ok_166 : gj_okM gj_mt mt_166 := gj_ckM_s (oi := 11) rfl (by decide +kernel)
set_option maxRecDepth 100000 in
theorem ok_167 : gj_okM gj_mt mt_167 := gj_ckM_s (oi := 11) rfl (by decide +kernel)
set_option maxRecDepth 100000 in
theorem ok_168 : gj_okM gj_mt mt_168 := gj_ckM_s (oi := 11) rfl (by decide +kernel)
set_option maxRecDepth 100000 in
theorem ok_169 : gj_okM gj_mt mt_169 := gj_ckM_s (oi := 11) rfl (by decide +kernel)
set_option maxRecDepth 100000 in
theorem ok_170 : gj_okM gj_mt mt_170 := gj_ckM_s (oi := 11) rfl (by decide +kernel)
set_option maxRecDepth 100000 in
theorem ok_171 : gj_okM gj_mt mt_171 := gj_ckM_s (oi := 11) rfl (by decide +kernel)
set_option maxRecDepth 100000 in
theorem ok_172 : gj_okM gj_mt mt_172 := gj_ckM_s (oi := 11) rfl (by decide +kernel)
set_option maxRecDepth 100000 in
theorem ok_173 : gj_okM gj_mt mt_173 := gj_ckM_s (oi := 11) rfl (by decide +kernel)
set_option maxRecDepth 100000 in
theorem ok_174 : gj_okM gj_mt mt_174 := gj_ckM_s (oi := 11) rfl (by decide +kernel)
set_option maxRecDepth 100000 in
theorem ok_175 : gj_okM gj_mt mt_175 := gj_ckM_s (oi := 11) rfl (by decide +kernel)
set_option maxRecDepth 100000 in
theorem ok_176 : gj_okM gj_mt mt_176 := gj_ckM_s (oi := 11) rfl (by decide +kernel)
set_option maxRecDepth 100000 in
theorem ok_177 : gj_okM gj_mt mt_177 := gj_ckM_s (oi := 11) rfl (by decide +kernel)
set_option maxRecDepth 100000 in
theorem ok_178 : gj_okM gj_mt mt_178 := gj_ckM_s (oi := 11) rfl (by decide +kernel)
set_option maxRecDepth 100000 in
theorem ok_179 : gj_okM gj_mt mt_179 := gj_ckM_s (oi := 11) rfl (by decide +kernel)
set_option maxRecDepth 100000 in
theorem ok_180 : gj_okM gj_mt mt_180 := gj_ckM_s (oi := 11) rfl (by decide +kernel)
set_option maxRecDepth 100000 in
theorem ok_181 : gj_okM gj_mt mt_181 := gj_ckM_s (oi := 11) rfl (by decide +kernel)
set_option maxRecDepth 100000 in
theorem ok_182 : gj_okM gj_mt mt_182 := gj_ckM_s (oi := 11) rfl (by decide +kernel)
set_option maxRecDepth 100000 in
theorem ok_183 : gj_okM gj_mt mt_183 := gj_ckM_s (oi := 11) rfl (by decide +kernel)
set_option maxRecDepth 100000 in
theorem ok_184 : gj_okM gj_mt mt_184 := gj_ckM_s (oi := 11) rfl (by decide +kernel)
set_option maxRecDepth 100000 in
theorem ok_185 : gj_okM gj_mt mt_185 := gj_ckM_s (oi := 11) rfl (by decide +kernel)
set_option maxRecDepth 100000 in
theorem ok_186 : gj_okM gj_mt mt_186 := gj_ckM_s (oi := 11) rfl (by decide +kernel)
set_option maxRecDepth 100000 in
theorem ok_187 : gj_okM gj_mt mt_187 := gj_ckM_s (oi := 11) rfl (by decide +kernel)
set_option maxRecDepth 100000 in
theorem ok_188 : gj_okM gj_mt mt_188 := gj_ckM_s (oi := 11) rfl (by decide +kernel)
set_option maxRecDepth 100000 in
theorem ok_189 : gj_okM gj_mt mt_189 := gj_ckM_s (oi := 11) rfl (by decide +kernel)
set_option maxRecDepth 100000 in
theorem ok_190 : gj_okM gj_mt mt_190 := gj_ckM_s (oi := 11) rfl (by decide +kernel)
set_option maxRecDepth 100000 in
theorem ok_191 : gj_okM gj_mt mt_191 := gj_ckM_s (oi := 11) rfl (by decide +kernel)
set_option maxRecDepth 100000 in
theorem ok_192 : gj_okM gj_mt mt_192 := gj_ckM_s (oi := 11) rfl (by decide +kernel)
set_option maxRecDepth 100000 in
theorem ok_193 : gj_okM gj_mt mt_193 := gj_ckM_s (oi := 11) rfl (by decide +kernel)
set_option maxRecDepth 100000 in
theorem ok_194 : gj_okM gj_mt mt_194 := gj_ckM_s (oi := 11) rfl (by decide +kernel)
set_option maxRecDepth 100000 in
theorem ok_195 : gj_okM gj_mt mt_195 := gj_ckM_s (oi := 11) rfl (by decide +kernel)
set_option maxRecDepth 100000 in
theorem ok_196 : gj_okM gj_mt mt_196 := gj_ckM_s (oi := 11) rfl (by decide +kernel)
set_option maxRecDepth 100000 in
theorem ok_197 : gj_okM gj_mt mt_197 := gj_ckM_s (oi := 11) rfl (by decide +kernel)
set_option maxRecDepth 100000 in
theorem ok_198 : gj_okM gj_mt mt_198 := gj_ckM_s (oi := 11) rfl (by decide +kernel)
set_option maxRecDepth 100000 in
theorem ok_199 : gj_okM gj_mt mt_199 := gj_ckM_s (oi := 11) rfl (by decide +kernel)
