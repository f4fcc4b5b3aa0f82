set_option maxRecDepth 100000 in
theorem zzh_160 : q_okH q_D q_m160 = true := by decide +kernel
set_option maxRecDepth 100000 in
theorem zzc_160 : z_okC q_D q_m160 = true := by decide +kernel
set_option maxRecDepth 100000 in
theorem zzh_161 : q_okH q_D q_m161 = true := by decide +kernel
set_option maxRecDepth 100000 in
theorem zzc_161 : z_okC q_D q_m161 = true := by decide +kernel
set_option maxRecDepth 100000 in
theorem zzh_162 : q_okH q_D q_m162 = true := by decide +kernel
set_option maxRecDepth 100000 in
theorem zzc_162 : z_okC q_D q_m162 = true := by decide +kernel
set_option maxRecDepth 100000 in
theorem zzh_163 : q_okH q_D q_m163 = true := by decide +kernel
set_option maxRecDepth 100000 in
theorem zzc_163 : z_okC q_D q_m163 = true := by decide +kernel
set_option maxRecDepth 100000 in
theorem zzh_164 : q_okH q_D q_m164 = true := by decide +kernel
set_option maxRecDepth 100000 in
theorem zzc_164 : z_okC q_D q_m164 = true := by decide +kernel
set_option maxRecDepth 100000 in
theorem zzh_165 : q_okH q_D q_m165 = true := by decide +kernel
set_option maxRecDepth 100000 in
theorem zzc_165 : z_okC q_D q_m165 = true := by decide +kernel
set_option maxRecDepth 100000 in
theorem zzh_166 : q_okH q_D q_m166 = true := by decide +kernel
set_option maxRecDepth 100000 in
theorem zzc_166 : z_okC q_D q_m166 = true := by decide +kernel
set_option maxRecDepth 100000 in
theorem zzh_167 : q_okH q_D q_m167 = true := by decide +kernel
set_option maxRecDepth 100000 in
theorem zzc_167 : z_okC q_D q_m167 = true := by decide +kernel
set_option maxRecDepth 100000 in
theorem zzh_168 : q_okH q_D q_m168 = true := by decide +kernel
set_option maxRecDepth 100000 in
theorem zzc_168 : z_okC q_D q_m168 = true := by decide +kernel
set_option maxRecDepth 100000 in
theorem zzh_169 : q_okH q_D q_m169 = true := by decide +kernel
set_option maxRecDepth 100000 in
theorem zzc_169 : z_okC q_D q_m169 = true := by decide +kernel
set_option maxRecDepth 100000 in
theorem zzh_170 : q_okH q_D q_m170 = true := by decide +kernel
set_option maxRecDepth 100000 in
theorem zzc_170 : z_okC q_D q_m170 = true := by decide +kernel
set_option maxRecDepth 100000 in
theorem zzh_171 : q_okH q_D q_m171 = true := by decide +kernel
set_option maxRecDepth 100000 in
theorem zzc_171 : z_okC q_D q_m171 = true := by decide +kernel
set_option maxRecDepth 100000 in
theorem zzh_172 : q_okH q_D q_m172 = true := by decide +kernel
set_option maxRecDepth 100000 in
theorem zzc_172 : z_okC q_D q_m172 = true := by decide +kernel
set_option maxRecDepth 100000 in
theorem zzh_173 : q_okH q_D q_m173 = true := by decide +kernel
set_option maxRecDepth 100000 in
theorem zzc_173 : z_okC q_D q_m173 = true := by decide +kernel
set_option maxRecDepth 100000 in
theorem zzh_174 : q_okH q_D q_m174 = true := by decide +kernel
set_option maxRecDepth 100000 in
theorem zzc_174 : z_okC q_D q_m174 = true := by decide +kernel
set_option maxRecDepth 100000 in
theorem zzh_175 : q_okH q_D q_m175 = true := by decide +kernel
set_option maxRecDepth 100000 in
theorem zzc_175 : z_okC q_D q_m175 = true := by decide +kernel
set_option maxRecDepth 100000 in
theorem zzh_176 : q_okH q_D q_m176 = true := by decide +kernel
set_option maxRecDepth 100000 in
theorem zzc_176 : z_okC q_D q_m176 = true := by decide +kernel
set_option maxRecDepth 100000 in
theorem zzh_177 : q_okH q_D q_m177 = true := by decide +kernel
set_option maxRecDepth 100000 in
theorem zzc_177 : z_okC q_D q_m177 = true := by decide +kernel
set_option maxRecDepth 100000 in
theorem zzh_178 : q_okH q_D q_m178 = true := by decide +kernel
set_option maxRecDepth 100000 in
theorem zzc_178 : z_okC q_D q_m178 = true := by decide +kernel
set_option maxRecDepth 100000 in
theorem zzh_179 : q_okH q_D q_m179 = true := by decide +kernel
set_option maxRecDepth 100000 in
theorem zzc_179 : z_okC q_D q_m179 = true := by decide +kernel
set_option maxRecDepth 100000 in
theorem zzh_180 : q_okH q_D q_m180 = true := by decide +kernel
set_option maxRecDepth 100000 in
theorem zzc_180 : z_okC q_D q_m180 = true := by decide +kernel
set_option maxRecDepth 100000 in
theorem zzh_181 : q_okH q_D q_m181 = true := by decide +kernel
set_option maxRecDepth 100000 in
theorem zzc_181 : z_okC q_D q_m181 = true := by decide +kernel
set_option maxRecDepth 100000 in
theorem zzh_182 : q_okH q_D q_m182 = true := by decide +kernel
set_option maxRecDepth 100000 in
theorem zzc_182 : z_okC q_D q_m182 = true := by decide +kernel
set_option maxRecDepth 100000 in
theorem zzh_183 : q_okH q_D q_m183 = true := by decide +kernel
set_option maxRecDepth 100000 in
theorem zzc_183 : z_okC q_D q_m183 = true := by decide +kernel
set_option maxRecDepth 100000 in
theorem zzh_184 : q_okH q_D q_m184 = true := by decide +kernel
set_option maxRecDepth 100000 in
theorem zzc_184 : z_okC q_D q_m184 = true := by decide +kernel
set_option maxRecDepth 100000 in
theorem zzh_185 : q_okH q_D q_m185 = true := by decide +kernel
set_option maxRecDepth 100000 in
theorem zzc_185 : z_okC q_D q_m185 = true := by decide +kernel
set_option maxRecDepth 100000 in
theorem zzh_186 : q_okH q_D q_m186 = true := by decide +kernel
set_option maxRecDepth 100000 in
theorem zzc_186 : z_okC q_D q_m186 = true := by decide +kernel
set_option maxRecDepth 100000 in
theorem zzh_187 : q_okH q_D q_m187 = true := by decide +kernel
set_option maxRecDepth 100000 in
theorem zzc_187 : z_okC q_D q_m187 = true := by decide +kernel
set_option maxRecDepth 100000 in
theorem zzh_188 : q_okH q_D q_m188 = true := by decide +kernel
set_option maxRecDepth 100000 in
theorem zzc_188 : z_okC q_D q_m188 = true := by decide +kernel
set_option maxRecDepth 100000 in
theorem zzh_189 : q_okH q_D q_m189 = true := by decide +kernel
set_option maxRecDepth 100000 in
theorem zzc_189 : z_okC q_D q_m189 = true := by decide +kernel
set_option maxRecDepth 100000 in
theorem zzh_190 : q_okH q_D q_m190 = true := by decide +kernel
set_option maxRecDepth 100000 in
theorem zzc_190 : z_okC q_D q_m190 = true := by decide +kernel
set_option maxRecDepth 100000 in
theorem zzh_191 : q_okH q_D q_m191 = true := by decide +kernel
set_option maxRecDepth 100000 in
theorem zzc_191 : z_okC q_D q_m191 = true := by decide +kernel
set_option maxRecDepth 100000 in
theorem zzh_192 : q_okH q_D q_m192 = true := by decide +kernel
set_option maxRecDepth 100000 in
theorem zzc_192 : z_okC q_D q_m192 = true := by decide +kernel
set_option maxRecDepth 100000 in
theorem zzh_193 : q_okH q_D q_m193 = true := by decide +kernel
set_option maxRecDepth 100000 in
theorem zzc_193 : z_okC q_D q_m193 = true := by decide +kernel
set_option maxRecDepth 100000 in
theorem zzh_194 : q_okH q_D q_m194 = true := by decide +kernel
set_option maxRecDepth 100000 in
theorem zzc_194 : z_okC q_D q_m194 = true := by decide +kernel
set_option maxRecDepth 100000 in
theorem zzh_195 : q_okH q_D q_m195 = true := by decide +kernel
set_option maxRecDepth 100000 in
theorem zzc_195 : z_okC q_D q_m195 = true := by decide +kernel
set_option maxRecDepth 100000 in
theorem zzh_196 : q_okH q_D q_m196 = true := by decide +kernel
set_option maxRecDepth 100000 in
theorem zzc_196 : z_okC q_D q_m196 = true := by decide +kernel
set_option maxRecDepth 100000 in
theorem zzh_197 : q_okH q_D q_m197 = true := by decide +kernel
set_option maxRecDepth 100000 in
theorem zzc_197 : z_okC q_D q_m197 = true := by decide +kernel
set_option maxRecDepth 100000 in
theorem zzh_198 : q_okH q_D q_m198 = true := by decide +kernel
set_option maxRecDepth 100000 in
theorem zzc_198 : z_okC q_D q_m198 = true := by decide +kernel
set_option maxRecDepth 100000 in
theorem zzh_199 : q_okH q_D q_m199 = true := by decide +kernel
set_option maxRecDepth 100000 in
theorem zzc_199 : z_okC q_D q_m199 = true := by decide +kernel
set_option maxRecDepth 100000 in
theorem zzh_200 : q_okH q_D q_m200 = true := by decide +kernel
set_option maxRecDepth 100000 in
theorem zzc_200 : z_okC q_D q_m200 = true := by decide +kernel
set_option maxRecDepth 100000 in
theorem zzh_201 : q_okH q_D q_m201 = true := by decide +kernel
set_option maxRecDepth 100000 in
theorem zzc_201 : z_okC q_D q_m201 = true := by decide +kernel
set_option maxRecDepth 100000 in
theorem zzh_202 : q_okH q_D q_m202 = true := by decide +kernel
set_option maxRecDepth 100000 in
theorem zzc_202 : z_okC q_D q_m202 = true := by decide +kernel
set_option maxRecDepth 100000 in
theorem zzh_203 : q_okH q_D q_m203 = true := by decide +kernel
set_option maxRecDepth 100000 in
theorem zzc_203 : z_okC q_D q_m203 = true := by decide +kernel
set_option maxRecDepth 100000 in
theorem zzh_204 : q_okH q_D q_m204 = true := by decide +kernel
set_option maxRecDepth 100000 in
theorem zzc_204 : z_okC q_D q_m204 = true := by decide +kernel
set_option maxRecDepth 100000 in
theorem zzh_205 : q_okH q_D q_m205 = true := by decide +kernel
set_option maxRecDepth 100000 in
theorem zzc_205 : z_okC q_D q_m205 = true := by decide +kernel
set_option maxRecDepth 100000 in
theorem zzh_206 : q_okH q_D q_m206 = true := by decide +kernel
set_option maxRecDepth 100000 in
theorem zzc_206 : z_okC q_D q_m206 = true := by decide +kernel
set_option maxRecDepth 100000 in
theorem zzh_207 : q_okH q_D q_m207 = true := by decide +kernel
set_option maxRecDepth 100000 in
theorem zzc_207 : z_okC q_D q_m207 = true := by decide +kernel
set_option maxRecDepth 100000 in
theorem zzh_208 : q_okH q_D q_m208 = true := by decide +kernel
set_option maxRecDepth 100000 in
theorem zzc_208 : z_okC q_D q_m208 = true := by decide +kernel
set_option maxRecDepth 100000 in
theorem zzh_209 : q_okH q_D q_m209 = true := by decide +kernel
set_option maxRecDepth 100000 in
theorem zzc_209 : z_okC q_D q_m209 = true := by decide +kernel
set_option maxRecDepth 100000 in
theorem zzh_210 : q_okH q_D q_m210 = true := by decide +kernel
set_option maxRecDepth 100000 in
theorem zzc_210 : z_okC q_D q_m210 = true := by decide +kernel
set_option maxRecDepth 100000 in
theorem zzh_211 : q_okH q_D q_m211 = true := by decide +kernel
set_option maxRecDepth 100000 in
theorem zzc_211 : z_okC q_D q_m211 = true := by decide +kernel
set_option maxRecDepth 100000 in
theorem zzh_212 : q_okH q_D q_m212 = true := by decide +kernel
set_option maxRecDepth 100000 in
theorem zzc_212 : z_okC q_D q_m212 = true := by decide +kernel
set_option maxRecDepth 100000 in
theorem zzh_213 : q_okH q_D q_m213 = true := by decide +kernel
set_option maxRecDepth 100000 in
theorem zzc_213 : z_okC q_D q_m213 = true := by decide +kernel
set_option maxRecDepth 100000 in
theorem zzh_214 : q_okH q_D q_m214 = true := by decide +kernel
set_option maxRecDepth 100000 in
theorem zzc_214 : z_okC q_D q_m214 = true := by decide +kernel
set_option maxRecDepth 100000 in
theorem zzh_215 : q_okH q_D q_m215 = true := by decide +kernel
set_option maxRecDepth 100000 in
theorem zzc_215 : z_okC q_D q_m215 = true := by decide +kernel
set_option maxRecDepth 100000 in
theorem zzh_216 : q_okH q_D q_m216 = true := by decide +kernel
set_option maxRecDepth 100000 in
theorem zzc_216 : z_okC q_D q_m216 = true := by decide +kernel
set_option maxRecDepth 100000 in
theorem zzh_217 : q_okH q_D q_m217 = true := by decide +kernel
set_option maxRecDepth 100000 in
theorem zzc_217 : z_okC q_D q_m217 = true := by decide +kernel
set_option maxRecDepth 100000 in
theorem zzh_218 : q_okH q_D q_m218 = true := by decide +kernel
set_option maxRecDepth 100000 in
theorem zzc_218 : z_okC q_D q_m218 = true := by decide +kernel
set_option maxRecDepth 100000 in
theorem zzh_219 : q_okH q_D q_m219 = true := by decide +kernel
set_option maxRecDepth 100000 in
theorem zzc_219 : z_okC q_D q_m219 = true := by decide +kernel
set_option maxRecDepth 100000 in
theorem zzh_220 : q_okH q_D q_m220 = true := by decide +kernel
set_option maxRecDepth 100000 in
theorem zzc_220 : z_okC q_D q_m220 = true := by decide +kernel
set_option maxRecDepth 100000 in
theorem zzh_221 : q_okH q_D q_m221 = true := by decide +kernel
set_option maxRecDepth 100000 in
theorem zzc_221 : z_okC q_D q_m221 = true := by decide +kernel
set_option maxRecDepth 100000 in
theorem zzh_222 : q_okH q_D q_m222 = true := by decide +kernel
set_option maxRecDepth 100000 in
theorem zzc_222 : z_okC q_D q_m222 = true := by decide +kernel
set_option maxRecDepth 100000 in
theorem zzh_223 : q_okH q_D q_m223 = true := by decide +kernel
set_option maxRecDepth 100000 in
theorem zzc_223 : z_okC q_D q_m223 = true := by decide +kernel
set_option maxRecDepth 100000 in
theorem zzh_224 : q_okH q_D q_m224 = true := by decide +kernel
set_option maxRecDepth 100000 in
theorem zzc_224 : z_okC q_D q_m224 = true := by decide +kernel
set_option maxRecDepth 100000 in
theorem zzh_225 : q_okH q_D q_m225 = true := by decide +kernel
set_option maxRecDepth 100000 in
theorem zzc_225 : z_okC q_D q_m225 = true := by decide +kernel
set_option maxRecDepth 100000 in
theorem zzh_226 : q_okH q_D q_m226 = true := by decide +kernel
set_option maxRecDepth 100000 in
theorem zzc_226 : z_okC q_D q_m226 = true := by decide +kernel
set_option maxRecDepth 100000 in
theorem zzh_227 : q_okH q_D q_m227 = true := by decide +kernel
set_option maxRecDepth 100000 in
theorem zzc_227 : z_okC q_D q_m227 = true := by decide +kernel
set_option maxRecDepth 100000 in
theorem zzh_228 : q_okH q_D q_m228 = true := by decide +kernel
set_option maxRecDepth 100000 in
theorem zzc_228 : z_okC q_D q_m228 = true := by decide +kernel
set_option maxRecDepth 100000 in
theorem zzh_229 : q_okH q_D q_m229 = true := by decide +kernel
set_option maxRecDepth 100000 in
theorem zzc_229 : z_okC q_D q_m229 = true := by decide +kernel
set_option maxRecDepth 100000 in
theorem zzh_230 : q_okH q_D q_m230 = true := by decide +kernel
set_option maxRecDepth 100000 in
theorem zzc_230 : z_okC q_D q_m230 = true := by decide +kernel
set_option maxRecDepth 100000 in
theorem zzh_231 : q_okH q_D q_m231 = true := by decide +kernel
set_option maxRecDepth 100000 in
theorem zzc_231 : z_okC q_D q_m231 = true := by decide +kernel
set_option maxRecDepth 100000 in
theorem zzh_232 : q_okH q_D q_m232 = true := by decide +kernel
set_option maxRecDepth 100000 in
theorem zzc_232 : z_okC q_D q_m232 = true := by decide +kernel
set_option maxRecDepth 100000 in
theorem zzh_233 : q_okH q_D q_m233 = true := by decide +kernel
set_option maxRecDepth 100000 in
theorem zzc_233 : z_okC q_D q_m233 = true := by decide +kernel
set_option maxRecDepth 100000 in
theorem zzh_234 : q_okH q_D q_m234 = true := by decide +kernel
set_option maxRecDepth 100000 in
theorem zzc_234 : z_okC q_D q_m234 = true := by decide +kernel
set_option maxRecDepth 100000 in
theorem zzh_235 : q_okH q_D q_m235 = true := by decide +kernel
set_option maxRecDepth 100000 in
theorem zzc_235 : z_okC q_D q_m235 = true := by decide +kernel
set_option maxRecDepth 100000 in
theorem zzh_236 : q_okH q_D q_m236 = true := by decide +kernel
set_option maxRecDepth 100000 in
theorem zzc_236 : z_okC q_D q_m236 = true := by decide +kernel
set_option maxRecDepth 100000 in
theorem zzh_237 : q_okH q_D q_m237 = true := by decide +kernel
set_option maxRecDepth 100000 in
theorem zzc_237 : z_okC q_D q_m237 = true := by decide +kernel
set_option maxRecDepth 100000 in
theorem zzh_238 : q_okH q_D q_m238 = true := by decide +kernel
set_option maxRecDepth 100000 in
theorem zzc_238 : z_okC q_D q_m238 = true := by decide +kernel
set_option maxRecDepth 100000 in
theorem zzh_239 : q_okH q_D q_m239 = true := by decide +kernel
set_option maxRecDepth 100000 in
theorem zzc_239 : z_okC q_D q_m239 = true := by decide +kernel
