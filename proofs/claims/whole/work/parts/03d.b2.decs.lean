theorem am_D_141 : (am_code 141).all (am_okE 141) = true := by decide +kernel
theorem am_D_142 : (am_code 142).all (am_okE 142) = true := by decide +kernel
theorem am_D_143 : (am_code 143).all (am_okE 143) = true := by decide +kernel
theorem am_D_144 : (am_code 144).all (am_okE 144) = true := by decide +kernel
theorem am_D_145 : (am_code 145).all (am_okE 145) = true := by decide +kernel
theorem am_D_146 : (am_code 146).all (am_okE 146) = true := by decide +kernel
theorem am_D_147 : (am_code 147).all (am_okE 147) = true := by decide +kernel
theorem am_D_148 : (am_code 148).all (am_okE 148) = true := by decide +kernel
theorem am_D_149 : (am_code 149).all (am_okE 149) = true := by decide +kernel
theorem am_D_150 : (am_code 150).all (am_okE 150) = true := by decide +kernel
theorem am_D_151 : (am_code 151).all (am_okE 151) = true := by decide +kernel
theorem am_D_152 : (am_code 152).all (am_okE 152) = true := by decide +kernel
theorem am_D_153 : (am_code 153).all (am_okE 153) = true := by decide +kernel
theorem am_D_154 : (am_code 154).all (am_okE 154) = true := by decide +kernel
theorem am_D_155 : (am_code 155).all (am_okE 155) = true := by decide +kernel
theorem am_D_156 : (am_code 156).all (am_okE 156) = true := by decide +kernel
theorem am_D_157 : (am_code 157).all (am_okE 157) = true := by decide +kernel
theorem am_D_158 : (am_code 158).all (am_okE 158) = true := by decide +kernel
theorem am_D_159 : (am_code 159).all (am_okE 159) = true := by decide +kernel
theorem am_D_160 : (am_code 160).all (am_okE 160) = true := by decide +kernel
theorem am_D_161 : (am_code 161).all (am_okE 161) = true := by decide +kernel
theorem am_D_162 : (am_code 162).all (am_okE 162) = true := by decide +kernel
theorem am_D_163 : (am_code 163).all (am_okE 163) = true := by decide +kernel
theorem am_D_164 : (am_code 164).all (am_okE 164) = true := by decide +kernel
theorem am_D_165 : (am_code 165).all (am_okE 165) = true := by decide +kernel
theorem am_D_166 : (am_code 166).all (am_okE 166) = true := by decide +kernel
theorem am_D_167 : (am_code 167).all (am_okE 167) = true := by decide +kernel
theorem am_D_168 : (am_code 168).all (am_okE 168) = true := by decide +kernel
theorem am_D_169 : (am_code 169).all (am_okE 169) = true := by decide +kernel
theorem am_D_170 : (am_code 170).all (am_okE 170) = true := by decide +kernel
theorem am_D_171 : (am_code 171).all (am_okE 171) = true := by decide +kernel
theorem am_D_172 : (am_code 172).all (am_okE 172) = true := by decide +kernel
theorem am_D_173 : (am_code 173).all (am_okE 173) = true := by decide +kernel
theorem am_D_174 : (am_code 174).all (am_okE 174) = true := by decide +kernel
theorem am_D_175 : (am_code 175).all (am_okE 175) = true := by decide +kernel
theorem am_D_176 : (am_code 176).all (am_okE 176) = true := by decide +kernel
theorem am_D_177 : (am_code 177).all (am_okE 177) = true := by decide +kernel
theorem am_D_178 : (am_code 178).all (am_okE 178) = true := by decide +kernel
theorem am_D_179 : (am_code 179).all (am_okE 179) = true := by decide +kernel
theorem am_D_180 : (am_code 180).all (am_okE 180) = true := by decide +kernel
theorem am_D_181 : (am_code 181).all (am_okE 181) = true := by decide +kernel
theorem am_D_182_0 : (((am_code 182).drop 0).take 60).all (am_okE 182) = true := by decide +kernel
theorem am_D_182_1 : ((am_code 182).drop 60).all (am_okE 182) = true := by decide +kernel
theorem am_D_182 : (am_code 182).all (am_okE 182) = true := am_all_app 60 am_D_182_0 (am_D_182_1)
theorem am_D_183 : (am_code 183).all (am_okE 183) = true := by decide +kernel
theorem am_D_184 : (am_code 184).all (am_okE 184) = true := by decide +kernel
theorem am_D_185 : (am_code 185).all (am_okE 185) = true := by decide +kernel
theorem am_D_186 : (am_code 186).all (am_okE 186) = true := by decide +kernel
theorem am_D_187 : (am_code 187).all (am_okE 187) = true := by decide +kernel
theorem am_D_188 : (am_code 188).all (am_okE 188) = true := by decide +kernel
theorem am_D_189 : (am_code 189).all (am_okE 189) = true := by decide +kernel
theorem am_D_190 : (am_code 190).all (am_okE 190) = true := by decide +kernel
theorem am_D_191 : (am_code 191).all (am_okE 191) = true := by decide +kernel
theorem am_D_192_0 : (((am_code 192).drop 0).take 60).all (am_okE 192) = true := by decide +kernel
theorem am_D_192_1 : ((am_code 192).drop 60).all (am_okE 192) = true := by decide +kernel
theorem am_D_192 : (am_code 192).all (am_okE 192) = true := am_all_app 60 am_D_192_0 (am_D_192_1)
theorem am_D_193 : (am_code 193).all (am_okE 193) = true := by decide +kernel
theorem am_D_194 : (am_code 194).all (am_okE 194) = true := by decide +kernel
theorem am_D_195 : (am_code 195).all (am_okE 195) = true := by decide +kernel
theorem am_D_196_0 : (((am_code 196).drop 0).take 60).all (am_okE 196) = true := by decide +kernel
theorem am_D_196_1 : (((am_code 196).drop 60).take 60).all (am_okE 196) = true := by decide +kernel
theorem am_D_196_2 : ((am_code 196).drop 120).all (am_okE 196) = true := by decide +kernel
theorem am_D_196 : (am_code 196).all (am_okE 196) = true := am_all_app 60 am_D_196_0 (am_all_app 60 am_D_196_1 (by first | (rw [List.drop_drop]; exact am_D_196_2) | exact am_D_196_2))
theorem am_D_197 : (am_code 197).all (am_okE 197) = true := by decide +kernel
theorem am_D_198 : (am_code 198).all (am_okE 198) = true := by decide +kernel
theorem am_D_199 : (am_code 199).all (am_okE 199) = true := by decide +kernel
theorem am_D_200 : (am_code 200).all (am_okE 200) = true := by decide +kernel
theorem am_D_201 : (am_code 201).all (am_okE 201) = true := by decide +kernel
theorem am_D_202_0 : (((am_code 202).drop 0).take 60).all (am_okE 202) = true := by decide +kernel
theorem am_D_202_1 : ((am_code 202).drop 60).all (am_okE 202) = true := by decide +kernel
theorem am_D_202 : (am_code 202).all (am_okE 202) = true := am_all_app 60 am_D_202_0 (am_D_202_1)
theorem am_D_203 : (am_code 203).all (am_okE 203) = true := by decide +kernel
theorem am_D_204 : (am_code 204).all (am_okE 204) = true := by decide +kernel
theorem am_D_205 : (am_code 205).all (am_okE 205) = true := by decide +kernel
theorem am_D_206 : (am_code 206).all (am_okE 206) = true := by decide +kernel
theorem am_D_207 : (am_code 207).all (am_okE 207) = true := by decide +kernel
theorem am_D_208 : (am_code 208).all (am_okE 208) = true := by decide +kernel
theorem am_D_209 : (am_code 209).all (am_okE 209) = true := by decide +kernel
theorem am_D_210 : (am_code 210).all (am_okE 210) = true := by decide +kernel
theorem am_D_211 : (am_code 211).all (am_okE 211) = true := by decide +kernel
theorem am_D_212_0 : (((am_code 212).drop 0).take 60).all (am_okE 212) = true := by decide +kernel
theorem am_D_212_1 : ((am_code 212).drop 60).all (am_okE 212) = true := by decide +kernel
theorem am_D_212 : (am_code 212).all (am_okE 212) = true := am_all_app 60 am_D_212_0 (am_D_212_1)
theorem am_D_213_0 : (((am_code 213).drop 0).take 60).all (am_okE 213) = true := by decide +kernel
theorem am_D_213_1 : ((am_code 213).drop 60).all (am_okE 213) = true := by decide +kernel
theorem am_D_213 : (am_code 213).all (am_okE 213) = true := am_all_app 60 am_D_213_0 (am_D_213_1)
theorem am_D_214 : (am_code 214).all (am_okE 214) = true := by decide +kernel
theorem am_D_215 : (am_code 215).all (am_okE 215) = true := by decide +kernel
theorem am_D_216_0 : (((am_code 216).drop 0).take 60).all (am_okE 216) = true := by decide +kernel
theorem am_D_216_1 : (((am_code 216).drop 60).take 60).all (am_okE 216) = true := by decide +kernel
theorem am_D_216_2 : ((am_code 216).drop 120).all (am_okE 216) = true := by decide +kernel
theorem am_D_216 : (am_code 216).all (am_okE 216) = true := am_all_app 60 am_D_216_0 (am_all_app 60 am_D_216_1 (by first | (rw [List.drop_drop]; exact am_D_216_2) | exact am_D_216_2))
theorem am_D_217 : (am_code 217).all (am_okE 217) = true := by decide +kernel
theorem am_D_218_0 : (((am_code 218).drop 0).take 60).all (am_okE 218) = true := by decide +kernel
theorem am_D_218_1 : ((am_code 218).drop 60).all (am_okE 218) = true := by decide +kernel
theorem am_D_218 : (am_code 218).all (am_okE 218) = true := am_all_app 60 am_D_218_0 (am_D_218_1)
theorem am_D_219_0 : (((am_code 219).drop 0).take 60).all (am_okE 219) = true := by decide +kernel
theorem am_D_219_1 : ((am_code 219).drop 60).all (am_okE 219) = true := by decide +kernel
theorem am_D_219 : (am_code 219).all (am_okE 219) = true := am_all_app 60 am_D_219_0 (am_D_219_1)
theorem am_D_220 : (am_code 220).all (am_okE 220) = true := by decide +kernel
theorem am_D_221_0 : (((am_code 221).drop 0).take 60).all (am_okE 221) = true := by decide +kernel
theorem am_D_221_1 : (((am_code 221).drop 60).take 60).all (am_okE 221) = true := by decide +kernel
theorem am_D_221_2 : ((am_code 221).drop 120).all (am_okE 221) = true := by decide +kernel
theorem am_D_221 : (am_code 221).all (am_okE 221) = true := am_all_app 60 am_D_221_0 (am_all_app 60 am_D_221_1 (by first | (rw [List.drop_drop]; exact am_D_221_2) | exact am_D_221_2))
