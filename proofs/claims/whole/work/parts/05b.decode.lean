set_option maxRecDepth 100000 in
theorem okd_160 : kd_160.all (okE (mOwn 160) (mCd 160)) = true := by decide +kernel
set_option maxRecDepth 100000 in
theorem okd_161 : kd_161.all (okE (mOwn 161) (mCd 161)) = true := by decide +kernel
set_option maxRecDepth 100000 in
theorem okd_162 : kd_162.all (okE (mOwn 162) (mCd 162)) = true := by decide +kernel
set_option maxRecDepth 100000 in
theorem okd_163 : kd_163.all (okE (mOwn 163) (mCd 163)) = true := by decide +kernel
set_option maxRecDepth 100000 in
theorem okd_164 : kd_164.all (okE (mOwn 164) (mCd 164)) = true := by decide +kernel
set_option maxRecDepth 100000 in
theorem okd_165 : kd_165.all (okE (mOwn 165) (mCd 165)) = true := by decide +kernel
set_option maxRecDepth 100000 in
theorem okd_166 : kd_166.all (okE (mOwn 166) (mCd 166)) = true := by decide +kernel
set_option maxRecDepth 100000 in
theorem okd_167 : kd_167.all (okE (mOwn 167) (mCd 167)) = true := by decide +kernel
set_option maxRecDepth 100000 in
theorem okd_168 : kd_168.all (okE (mOwn 168) (mCd 168)) = true := by decide +kernel
set_option maxRecDepth 100000 in
theorem okd_169 : kd_169.all (okE (mOwn 169) (mCd 169)) = true := by decide +kernel
set_option maxRecDepth 100000 in
theorem okd_170 : kd_170.all (okE (mOwn 170) (mCd 170)) = true := by decide +kernel
set_option maxRecDepth 100000 in
theorem okd_171 : kd_171.all (okE (mOwn 171) (mCd 171)) = true := by decide +kernel
set_option maxRecDepth 100000 in
theorem okd_172 : kd_172.all (okE (mOwn 172) (mCd 172)) = true := by decide +kernel
set_option maxRecDepth 100000 in
theorem okd_173 : kd_173.all (okE (mOwn 173) (mCd 173)) = true := by decide +kernel
set_option maxRecDepth 100000 in
theorem okd_174 : kd_174.all (okE (mOwn 174) (mCd 174)) = true := by decide +kernel
set_option maxRecDepth 100000 in
theorem okd_175 : kd_175.all (okE (mOwn 175) (mCd 175)) = true := by decide +kernel
set_option maxRecDepth 100000 in
theorem okd_176 : kd_176.all (okE (mOwn 176) (mCd 176)) = true := by decide +kernel
set_option maxRecDepth 100000 in
theorem okd_177 : kd_177.all (okE (mOwn 177) (mCd 177)) = true := by decide +kernel
set_option maxRecDepth 100000 in
theorem okd_178 : kd_178.all (okE (mOwn 178) (mCd 178)) = true := by decide +kernel
set_option maxRecDepth 100000 in
theorem okd_179 : kd_179.all (okE (mOwn 179) (mCd 179)) = true := by decide +kernel
set_option maxRecDepth 100000 in
theorem okd_180 : kd_180.all (okE (mOwn 180) (mCd 180)) = true := by decide +kernel
set_option maxRecDepth 100000 in
theorem okd_181 : kd_181.all (okE (mOwn 181) (mCd 181)) = true := by decide +kernel
set_option maxRecDepth 100000 in
theorem okd_182 : kd_182.all (okE (mOwn 182) (mCd 182)) = true := by decide +kernel
set_option maxRecDepth 100000 in
theorem okd_183 : kd_183.all (okE (mOwn 183) (mCd 183)) = true := by decide +kernel
set_option maxRecDepth 100000 in
theorem okd_184 : kd_184.all (okE (mOwn 184) (mCd 184)) = true := by decide +kernel
set_option maxRecDepth 100000 in
theorem okd_185 : kd_185.all (okE (mOwn 185) (mCd 185)) = true := by decide +kernel
set_option maxRecDepth 100000 in
theorem okd_186 : kd_186.all (okE (mOwn 186) (mCd 186)) = true := by decide +kernel
set_option maxRecDepth 100000 in
theorem okd_187 : kd_187.all (okE (mOwn 187) (mCd 187)) = true := by decide +kernel
set_option maxRecDepth 100000 in
theorem okd_188 : kd_188.all (okE (mOwn 188) (mCd 188)) = true := by decide +kernel
set_option maxRecDepth 100000 in
theorem okd_189 : kd_189.all (okE (mOwn 189) (mCd 189)) = true := by decide +kernel
set_option maxRecDepth 100000 in
theorem okd_190 : kd_190.all (okE (mOwn 190) (mCd 190)) = true := by decide +kernel
set_option maxRecDepth 100000 in
theorem okd_191 : kd_191.all (okE (mOwn 191) (mCd 191)) = true := by decide +kernel
set_option maxRecDepth 100000 in
theorem okd_192 : kd_192.all (okE (mOwn 192) (mCd 192)) = true := by decide +kernel
set_option maxRecDepth 100000 in
theorem okd_193 : kd_193.all (okE (mOwn 193) (mCd 193)) = true := by decide +kernel
set_option maxRecDepth 100000 in
theorem okd_194 : kd_194.all (okE (mOwn 194) (mCd 194)) = true := by decide +kernel
set_option maxRecDepth 100000 in
theorem okd_195 : kd_195.all (okE (mOwn 195) (mCd 195)) = true := by decide +kernel
set_option maxRecDepth 100000 in
theorem okd_196 : kd_196.all (okE (mOwn 196) (mCd 196)) = true := by decide +kernel
set_option maxRecDepth 100000 in
theorem okd_197 : kd_197.all (okE (mOwn 197) (mCd 197)) = true := by decide +kernel
set_option maxRecDepth 100000 in
theorem okd_198 : kd_198.all (okE (mOwn 198) (mCd 198)) = true := by decide +kernel
set_option maxRecDepth 100000 in
theorem okd_199 : kd_199.all (okE (mOwn 199) (mCd 199)) = true := by decide +kernel
set_option maxRecDepth 100000 in
theorem okd_200 : kd_200.all (okE (mOwn 200) (mCd 200)) = true := by decide +kernel
set_option maxRecDepth 100000 in
theorem okd_201 : kd_201.all (okE (mOwn 201) (mCd 201)) = true := by decide +kernel
set_option maxRecDepth 100000 in
theorem okd_202 : kd_202.all (okE (mOwn 202) (mCd 202)) = true := by decide +kernel
set_option maxRecDepth 100000 in
theorem okd_203 : kd_203.all (okE (mOwn 203) (mCd 203)) = true := by decide +kernel
set_option maxRecDepth 100000 in
theorem okd_204 : kd_204.all (okE (mOwn 204) (mCd 204)) = true := by decide +kernel
set_option maxRecDepth 100000 in
theorem okd_205 : kd_205.all (okE (mOwn 205) (mCd 205)) = true := by decide +kernel
set_option maxRecDepth 100000 in
theorem okd_206 : kd_206.all (okE (mOwn 206) (mCd 206)) = true := by decide +kernel
set_option maxRecDepth 100000 in
theorem okd_207 : kd_207.all (okE (mOwn 207) (mCd 207)) = true := by decide +kernel
set_option maxRecDepth 100000 in
theorem okd_208 : kd_208.all (okE (mOwn 208) (mCd 208)) = true := by decide +kernel
set_option maxRecDepth 100000 in
theorem okd_209 : kd_209.all (okE (mOwn 209) (mCd 209)) = true := by decide +kernel
set_option maxRecDepth 100000 in
theorem okd_210 : kd_210.all (okE (mOwn 210) (mCd 210)) = true := by decide +kernel
set_option maxRecDepth 100000 in
theorem okd_211 : kd_211.all (okE (mOwn 211) (mCd 211)) = true := by decide +kernel
set_option maxRecDepth 100000 in
theorem okd_212 : kd_212.all (okE (mOwn 212) (mCd 212)) = true := by decide +kernel
set_option maxRecDepth 100000 in
theorem okd_213 : kd_213.all (okE (mOwn 213) (mCd 213)) = true := by decide +kernel
set_option maxRecDepth 100000 in
theorem okd_214 : kd_214.all (okE (mOwn 214) (mCd 214)) = true := by decide +kernel
set_option maxRecDepth 100000 in
theorem okd_215 : kd_215.all (okE (mOwn 215) (mCd 215)) = true := by decide +kernel
set_option maxRecDepth 100000 in
theorem okd_216 : kd_216.all (okE (mOwn 216) (mCd 216)) = true := by decide +kernel
set_option maxRecDepth 100000 in
theorem okd_217 : kd_217.all (okE (mOwn 217) (mCd 217)) = true := by decide +kernel
set_option maxRecDepth 100000 in
theorem okd_218_0 : kd_218_0.all (okE (mOwn 218) (mCd 218)) = true := by decide +kernel
set_option maxRecDepth 100000 in
theorem okd_218_1 : kd_218_1.all (okE (mOwn 218) (mCd 218)) = true := by decide +kernel
set_option maxRecDepth 100000 in
theorem okd_219 : kd_219.all (okE (mOwn 219) (mCd 219)) = true := by decide +kernel
set_option maxRecDepth 100000 in
theorem okd_220 : kd_220.all (okE (mOwn 220) (mCd 220)) = true := by decide +kernel
set_option maxRecDepth 100000 in
theorem okd_221 : kd_221.all (okE (mOwn 221) (mCd 221)) = true := by decide +kernel
set_option maxRecDepth 100000 in
theorem okd_222 : kd_222.all (okE (mOwn 222) (mCd 222)) = true := by decide +kernel
set_option maxRecDepth 100000 in
theorem okd_223 : kd_223.all (okE (mOwn 223) (mCd 223)) = true := by decide +kernel
set_option maxRecDepth 100000 in
theorem okd_224 : kd_224.all (okE (mOwn 224) (mCd 224)) = true := by decide +kernel
set_option maxRecDepth 100000 in
theorem okd_225 : kd_225.all (okE (mOwn 225) (mCd 225)) = true := by decide +kernel
set_option maxRecDepth 100000 in
theorem okd_226 : kd_226.all (okE (mOwn 226) (mCd 226)) = true := by decide +kernel
set_option maxRecDepth 100000 in
theorem okd_227 : kd_227.all (okE (mOwn 227) (mCd 227)) = true := by decide +kernel
set_option maxRecDepth 100000 in
theorem okd_228 : kd_228.all (okE (mOwn 228) (mCd 228)) = true := by decide +kernel
set_option maxRecDepth 100000 in
theorem okd_229 : kd_229.all (okE (mOwn 229) (mCd 229)) = true := by decide +kernel
set_option maxRecDepth 100000 in
theorem okd_230 : kd_230.all (okE (mOwn 230) (mCd 230)) = true := by decide +kernel
set_option maxRecDepth 100000 in
theorem okd_231 : kd_231.all (okE (mOwn 231) (mCd 231)) = true := by decide +kernel
set_option maxRecDepth 100000 in
theorem okd_232 : kd_232.all (okE (mOwn 232) (mCd 232)) = true := by decide +kernel
set_option maxRecDepth 100000 in
theorem okd_233 : kd_233.all (okE (mOwn 233) (mCd 233)) = true := by decide +kernel
set_option maxRecDepth 100000 in
theorem okd_234 : kd_234.all (okE (mOwn 234) (mCd 234)) = true := by decide +kernel
set_option maxRecDepth 100000 in
theorem okd_235 : kd_235.all (okE (mOwn 235) (mCd 235)) = true := by decide +kernel
set_option maxRecDepth 100000 in
theorem okd_236 : kd_236.all (okE (mOwn 236) (mCd 236)) = true := by decide +kernel
set_option maxRecDepth 100000 in
theorem okd_237 : kd_237.all (okE (mOwn 237) (mCd 237)) = true := by decide +kernel
set_option maxRecDepth 100000 in
theorem okd_238 : kd_238.all (okE (mOwn 238) (mCd 238)) = true := by decide +kernel
set_option maxRecDepth 100000 in
theorem okd_239 : kd_239.all (okE (mOwn 239) (mCd 239)) = true := by decide +kernel
set_option maxRecDepth 100000 in
theorem okd_240 : kd_240.all (okE (mOwn 240) (mCd 240)) = true := by decide +kernel
set_option maxRecDepth 100000 in
theorem okd_241 : kd_241.all (okE (mOwn 241) (mCd 241)) = true := by decide +kernel
set_option maxRecDepth 100000 in
theorem okd_242 : kd_242.all (okE (mOwn 242) (mCd 242)) = true := by decide +kernel
set_option maxRecDepth 100000 in
theorem okd_243 : kd_243.all (okE (mOwn 243) (mCd 243)) = true := by decide +kernel
set_option maxRecDepth 100000 in
theorem okd_244 : kd_244.all (okE (mOwn 244) (mCd 244)) = true := by decide +kernel
set_option maxRecDepth 100000 in
theorem okd_245 : kd_245.all (okE (mOwn 245) (mCd 245)) = true := by decide +kernel
set_option maxRecDepth 100000 in
theorem okd_246 : kd_246.all (okE (mOwn 246) (mCd 246)) = true := by decide +kernel
set_option maxRecDepth 100000 in
theorem okd_247 : kd_247.all (okE (mOwn 247) (mCd 247)) = true := by decide +kernel
set_option maxRecDepth 100000 in
theorem okd_248 : kd_248.all (okE (mOwn 248) (mCd 248)) = true := by decide +kernel
set_option maxRecDepth 100000 in
theorem okd_249 : kd_249.all (okE (mOwn 249) (mCd 249)) = true := by decide +kernel
