set_option maxRecDepth 100000 in
theorem ck_122 : chkMid 122 = true := by decide +kernel
set_option maxRecDepth 100000 in
theorem ck_123 : chkMid 123 = true := by decide +kernel
set_option maxRecDepth 100000 in
theorem ck_124 : chkMid 124 = true := by decide +kernel
set_option maxRecDepth 100000 in
theorem ck_125 : chkMid 125 = true := by decide +kernel
set_option maxRecDepth 100000 in
theorem ck_126 : chkMid 126 = true := by decide +kernel
set_option maxRecDepth 100000 in
theorem ck_127 : chkMid 127 = true := by decide +kernel
set_option maxRecDepth 100000 in
theorem ck_128 : chkMid 128 = true := by decide +kernel
set_option maxRecDepth 100000 in
theorem ck_129 : chkMid 129 = true := by decide +kernel
set_option maxRecDepth 100000 in
theorem ck_130 : chkMid 130 = true := by decide +kernel
set_option maxRecDepth 100000 in
theorem ck_131 : chkMid 131 = true := by decide +kernel
set_option maxRecDepth 100000 in
theorem ck_132 : chkMid 132 = true := by decide +kernel
set_option maxRecDepth 100000 in
theorem ck_133 : chkMid 133 = true := by decide +kernel
set_option maxRecDepth 100000 in
theorem ck_134 : chkMid 134 = true := by decide +kernel
set_option maxRecDepth 100000 in
theorem ck_135 : chkMid 135 = true := by decide +kernel
set_option maxRecDepth 100000 in
theorem ck_136 : chkMid 136 = true := by decide +kernel
set_option maxRecDepth 100000 in
theorem ck_137 : chkMid 137 = true := by decide +kernel
set_option maxRecDepth 100000 in
theorem ck_138 : chkMid 138 = true := by decide +kernel
set_option maxRecDepth 100000 in
theorem ck_139 : chkMid 139 = true := by decide +kernel
set_option maxRecDepth 100000 in
theorem ck_140 : chkMid 140 = true := by decide +kernel
set_option maxRecDepth 100000 in
theorem ck_141 : chkMid 141 = true := by decide +kernel
set_option maxRecDepth 100000 in
theorem ck_142 : chkMid 142 = true := by decide +kernel
set_option maxRecDepth 100000 in
theorem ck_143 : chkMid 143 = true := by decide +kernel
set_option maxRecDepth 100000 in
theorem ck_144 : chkMid 144 = true := by decide +kernel
set_option maxRecDepth 100000 in
theorem ck_145 : chkMid 145 = true := by decide +kernel
set_option maxRecDepth 100000 in
theorem ck_146 : chkMid 146 = true := by decide +kernel
set_option maxRecDepth 100000 in
theorem ck_147 : chkMid 147 = true := by decide +kernel
set_option maxRecDepth 100000 in
theorem ck_148 : chkMid 148 = true := by decide +kernel
set_option maxRecDepth 100000 in
theorem ck_149 : chkMid 149 = true := by decide +kernel
set_option maxRecDepth 100000 in
theorem ck_150 : chkMid 150 = true := by decide +kernel
set_option maxRecDepth 100000 in
theorem ck_151 : chkMid 151 = true := by decide +kernel
set_option maxRecDepth 100000 in
theorem ck_152 : chkMid 152 = true := by decide +kernel
set_option maxRecDepth 100000 in
theorem ck_153 : chkMid 153 = true := by decide +kernel
set_option maxRecDepth 100000 in
theorem ck_154 : chkMid 154 = true := by decide +kernel
set_option maxRecDepth 100000 in
theorem ck_155 : chkMid 155 = true := by decide +kernel
set_option maxRecDepth 100000 in
theorem ck_156 : chkMid 156 = true := by decide +kernel
set_option maxRecDepth 100000 in
theorem ck_157 : chkMid 157 = true := by decide +kernel
set_option maxRecDepth 100000 in
theorem ck_158 : chkMid 158 = true := by decide +kernel
set_option maxRecDepth 100000 in
theorem ck_159 : chkMid 159 = true := by decide +kernel
set_option maxRecDepth 100000 in
theorem ck_160 : chkMid 160 = true := by decide +kernel
set_option maxRecDepth 100000 in
theorem ck_161 : chkMid 161 = true := by decide +kernel
set_option maxRecDepth 100000 in
theorem ck_162 : chkMid 162 = true := by decide +kernel
set_option maxRecDepth 100000 in
theorem ck_163 : chkMid 163 = true := by decide +kernel
set_option maxRecDepth 100000 in
theorem ck_164 : chkMid 164 = true := by decide +kernel
set_option maxRecDepth 100000 in
theorem ck_165 : chkMid 165 = true := by decide +kernel
set_option maxRecDepth 100000 in
theorem ck_166 : chkMid 166 = true := by decide +kernel
set_option maxRecDepth 100000 in
theorem ck_167 : chkMid 167 = true := by decide +kernel
set_option maxRecDepth 100000 in
theorem ck_168 : chkMid 168 = true := by decide +kernel
set_option maxRecDepth 100000 in
theorem ck_169 : chkMid 169 = true := by decide +kernel
set_option maxRecDepth 100000 in
theorem ck_170 : chkMid 170 = true := by decide +kernel
set_option maxRecDepth 100000 in
theorem ck_171 : chkMid 171 = true := by decide +kernel
set_option maxRecDepth 100000 in
theorem ck_172 : chkMid 172 = true := by decide +kernel
set_option maxRecDepth 100000 in
theorem ck_173 : chkMid 173 = true := by decide +kernel
set_option maxRecDepth 100000 in
theorem ck_174 : chkMid 174 = true := by decide +kernel
set_option maxRecDepth 100000 in
theorem ck_175 : chkMid 175 = true := by decide +kernel
set_option maxRecDepth 100000 in
theorem ck_176 : chkMid 176 = true := by decide +kernel
set_option maxRecDepth 100000 in
theorem ck_177 : chkMid 177 = true := by decide +kernel
set_option maxRecDepth 100000 in
theorem ck_178 : chkMid 178 = true := by decide +kernel
set_option maxRecDepth 100000 in
theorem ck_179 : chkMid 179 = true := by decide +kernel
set_option maxRecDepth 100000 in
theorem ck_180 : chkMid 180 = true := by decide +kernel
set_option maxRecDepth 100000 in
theorem ck_181 : chkMid 181 = true := by decide +kernel
set_option maxRecDepth 100000 in
theorem ck_182 : chkMid 182 = true := by decide +kernel
set_option maxRecDepth 100000 in
theorem ck_183 : chkMid 183 = true := by decide +kernel
set_option maxRecDepth 100000 in
theorem ck_184 : chkMid 184 = true := by decide +kernel
set_option maxRecDepth 100000 in
theorem ck_185 : chkMid 185 = true := by decide +kernel
set_option maxRecDepth 100000 in
theorem ck_186 : chkMid 186 = true := by decide +kernel
set_option maxRecDepth 100000 in
theorem ck_187 : chkMid 187 = true := by decide +kernel
set_option maxRecDepth 100000 in
theorem ck_188 : chkMid 188 = true := by decide +kernel
set_option maxRecDepth 100000 in
theorem ck_189 : chkMid 189 = true := by decide +kernel
set_option maxRecDepth 100000 in
theorem ck_190 : chkMid 190 = true := by decide +kernel
set_option maxRecDepth 100000 in
theorem ck_191 : chkMid 191 = true := by decide +kernel
set_option maxRecDepth 100000 in
theorem ck_192 : chkMid 192 = true := by decide +kernel
set_option maxRecDepth 100000 in
theorem ck_193 : chkMid 193 = true := by decide +kernel
set_option maxRecDepth 100000 in
theorem ck_194 : chkMid 194 = true := by decide +kernel
set_option maxRecDepth 100000 in
theorem ck_195 : chkMid 195 = true := by decide +kernel
set_option maxRecDepth 100000 in
theorem ck_196 : chkMid 196 = true := by decide +kernel
theorem ckA_138 : ∀ a, a < 138 → chkMid a = true := lt_s (lt_s (lt_s (lt_s (lt_s (lt_s (lt_s (lt_s (lt_s (lt_s (lt_s (lt_s (lt_s (lt_s (lt_s (lt_s (ckA_122) ck_122) ck_123) ck_124) ck_125) ck_126) ck_127) ck_128) ck_129) ck_130) ck_131) ck_132) ck_133) ck_134) ck_135) ck_136) ck_137
theorem ckA_154 : ∀ a, a < 154 → chkMid a = true := lt_s (lt_s (lt_s (lt_s (lt_s (lt_s (lt_s (lt_s (lt_s (lt_s (lt_s (lt_s (lt_s (lt_s (lt_s (lt_s (ckA_138) ck_138) ck_139) ck_140) ck_141) ck_142) ck_143) ck_144) ck_145) ck_146) ck_147) ck_148) ck_149) ck_150) ck_151) ck_152) ck_153
theorem ckA_170 : ∀ a, a < 170 → chkMid a = true := lt_s (lt_s (lt_s (lt_s (lt_s (lt_s (lt_s (lt_s (lt_s (lt_s (lt_s (lt_s (lt_s (lt_s (lt_s (lt_s (ckA_154) ck_154) ck_155) ck_156) ck_157) ck_158) ck_159) ck_160) ck_161) ck_162) ck_163) ck_164) ck_165) ck_166) ck_167) ck_168) ck_169
theorem ckA_186 : ∀ a, a < 186 → chkMid a = true := lt_s (lt_s (lt_s (lt_s (lt_s (lt_s (lt_s (lt_s (lt_s (lt_s (lt_s (lt_s (lt_s (lt_s (lt_s (lt_s (ckA_170) ck_170) ck_171) ck_172) ck_173) ck_174) ck_175) ck_176) ck_177) ck_178) ck_179) ck_180) ck_181) ck_182) ck_183) ck_184) ck_185
theorem ckA_197 : ∀ a, a < 197 → chkMid a = true := lt_s (lt_s (lt_s (lt_s (lt_s (lt_s (lt_s (lt_s (lt_s (lt_s (lt_s (ckA_186) ck_186) ck_187) ck_188) ck_189) ck_190) ck_191) ck_192) ck_193) ck_194) ck_195) ck_196
