/-! The law's walk -/
section law
variable {X : en_X} {ρ σ : en_S} {ms me : Nat} {K M : Nat → Nat} {P0 P1 : Nat} {i : Nat} {Q : Option Value → en_S → Prop}
theorem law_c0 (hFF : FFok) (hFL : FLok) (hL : X.2.2.2.2.2.2.1 ≤ 2560) (hi : i + 5 ≤ X.2.2.2.2.2.2.1) (h : lwI X σ ms me K M P0 P1) (nx : ∀ σ', lwI X σ' ms me K M P0 P1 → WA X M_L_law ρ 701 [(3, .int (nI i)), (2, .ref (M 0)), (1, .ref (K 0)), (0, .ref X.2.2.2.2.2.1)] [] σ' Q) : WA X M_L_law ρ 124 [(3, .int (nI i)), (2, .ref (M 0)), (1, .ref (K 0)), (0, .ref X.2.2.2.2.2.1)] [] σ Q := by
  obtain ⟨l0, ob⟩ := h.obK
  refine wa_aload_n q_L_law_124 rfl ?_
  refine wa_aload_n q_L_law_125 rfl ?_
  refine wa_iload_n q_L_law_126 rfl ?_
  refine wa_iconst q_L_law_127 (v := nI 1) (by decide) ?_
  refine wn_iadd q_L_law_128 ?_
  refine wa_sld q_L_law_129 (vp_in_nI (by omega) (by omega)) ?_
  refine wa_i2l q_L_law_130 rfl ?_
  refine wa_bipush q_L_law_131 (v := nI 32) (by decide) ?_
  refine wa_lshl q_L_law_133 rfl ?_
  refine wa_aload_n q_L_law_134 rfl ?_
  refine wa_iload_n q_L_law_135 rfl ?_
  refine wa_iconst q_L_law_136 (v := nI 2) (by decide) ?_
  refine wn_iadd q_L_law_137 ?_
  refine wa_sld q_L_law_138 (vp_in_nI (by omega) (by omega)) ?_
  refine wa_i2l q_L_law_139 rfl ?_
  refine wa_ldc2 q_L_law_140 k_RL_13 ?_
  refine wa_land q_L_law_143 ?_
  refine wa_lor q_L_law_144 ?_
  refine wa_callV q_L_law_145 g_L_law_145 w_X6_whole ob rfl (av := [_]) rfl rfl (lk rfl) (Calls.mono (P_whole h) ?_)
  rintro _ τ1 ⟨v, l1, rfl, ol, hC⟩
  refine wa_aload_n q_L_law_148 rfl ?_
  refine wa_aload_n q_L_law_149 rfl ?_
  refine wa_iload_n q_L_law_150 rfl ?_
  refine wa_iconst q_L_law_151 (v := nI 1) (by decide) ?_
  refine wn_iadd q_L_law_152 ?_
  refine wa_sld q_L_law_153 (vp_in_nI (by omega) (by omega)) ?_
  refine wa_i2l q_L_law_154 rfl ?_
  refine wa_bipush q_L_law_155 (v := nI 32) (by decide) ?_
  refine wa_lshl q_L_law_157 rfl ?_
  refine wa_aload_n q_L_law_158 rfl ?_
  refine wa_iload_n q_L_law_159 rfl ?_
  refine wa_iconst q_L_law_160 (v := nI 2) (by decide) ?_
  refine wn_iadd q_L_law_161 ?_
  refine wa_sld q_L_law_162 (vp_in_nI (by omega) (by omega)) ?_
  refine wa_i2l q_L_law_163 rfl ?_
  refine wa_ldc2 q_L_law_164 k_RL_13 ?_
  refine wa_land q_L_law_167 ?_
  refine wa_lor q_L_law_168 ?_
  refine wa_callV q_L_law_169 g_L_law_169 w_X7_whole ol rfl (av := [_]) rfl rfl (lk rfl) (Calls.mono hC ?_)
  rintro _ τ2 ⟨rfl, h2⟩
  exact wa_icmp_eq q_L_law_172 (fun _ => wa_lv (nx τ2 h2) rfl) (fun hne => absurd rfl hne)
theorem law_c1 (hFF : FFok) (hFL : FLok) (hL : X.2.2.2.2.2.2.1 ≤ 2560) (hi : i + 5 ≤ X.2.2.2.2.2.2.1) (h : lwI X σ ms me K M P0 P1) (nx : ∀ σ', lwI X σ' ms me K M P0 P1 → WA X M_L_law ρ 701 [(3, .int (nI i)), (2, .ref (M 0)), (1, .ref (K 0)), (0, .ref X.2.2.2.2.2.1)] [] σ' Q) : WA X M_L_law ρ 177 [(3, .int (nI i)), (2, .ref (M 0)), (1, .ref (K 0)), (0, .ref X.2.2.2.2.2.1)] [] σ Q := by
  obtain ⟨l0, ob⟩ := h.obK
  refine wa_aload_n q_L_law_177 rfl ?_
  refine wa_aload_n q_L_law_178 rfl ?_
  refine wa_iload_n q_L_law_179 rfl ?_
  refine wa_iconst q_L_law_180 (v := nI 1) (by decide) ?_
  refine wn_iadd q_L_law_181 ?_
  refine wa_sld q_L_law_182 (vp_in_nI (by omega) (by omega)) ?_
  refine wa_i2l q_L_law_183 rfl ?_
  refine wa_bipush q_L_law_184 (v := nI 32) (by decide) ?_
  refine wa_lshl q_L_law_186 rfl ?_
  refine wa_aload_n q_L_law_187 rfl ?_
  refine wa_iload_n q_L_law_188 rfl ?_
  refine wa_iconst q_L_law_189 (v := nI 2) (by decide) ?_
  refine wn_iadd q_L_law_190 ?_
  refine wa_sld q_L_law_191 (vp_in_nI (by omega) (by omega)) ?_
  refine wa_i2l q_L_law_192 rfl ?_
  refine wa_ldc2 q_L_law_193 k_RL_13 ?_
  refine wa_land q_L_law_196 ?_
  refine wa_lor q_L_law_197 ?_
  refine wa_aload_n q_L_law_198 rfl ?_
  refine wa_iload_n q_L_law_199 rfl ?_
  refine wa_iconst q_L_law_200 (v := nI 3) (by decide) ?_
  refine wn_iadd q_L_law_201 ?_
  refine wa_sld q_L_law_202 (vp_in_nI (by omega) (by omega)) ?_
  refine wa_i2l q_L_law_203 rfl ?_
  refine wa_bipush q_L_law_204 (v := nI 32) (by decide) ?_
  refine wa_lshl q_L_law_206 rfl ?_
  refine wa_aload_n q_L_law_207 rfl ?_
  refine wa_iload_n q_L_law_208 rfl ?_
  refine wa_iconst q_L_law_209 (v := nI 4) (by decide) ?_
  refine wn_iadd q_L_law_210 ?_
  refine wa_sld q_L_law_211 (vp_in_nI (by omega) (by omega)) ?_
  refine wa_i2l q_L_law_212 rfl ?_
  refine wa_ldc2 q_L_law_213 k_RL_13 ?_
  refine wa_land q_L_law_216 ?_
  refine wa_lor q_L_law_217 ?_
  refine wa_callV q_L_law_218 g_L_law_218 w_X6_ratio ob rfl (av := [_, _]) rfl rfl (lk rfl) (Calls.mono (P_ratio h) ?_)
  rintro _ τ1 ⟨v, l1, rfl, ol, hC⟩
  refine wa_pop q_L_law_221 rfl ?_
  refine wa_aload_n q_L_law_222 rfl ?_
  refine wa_aload_n q_L_law_223 rfl ?_
  refine wa_iload_n q_L_law_224 rfl ?_
  refine wa_iconst q_L_law_225 (v := nI 1) (by decide) ?_
  refine wn_iadd q_L_law_226 ?_
  refine wa_sld q_L_law_227 (vp_in_nI (by omega) (by omega)) ?_
  refine wa_i2l q_L_law_228 rfl ?_
  refine wa_bipush q_L_law_229 (v := nI 32) (by decide) ?_
  refine wa_lshl q_L_law_231 rfl ?_
  refine wa_aload_n q_L_law_232 rfl ?_
  refine wa_iload_n q_L_law_233 rfl ?_
  refine wa_iconst q_L_law_234 (v := nI 2) (by decide) ?_
  refine wn_iadd q_L_law_235 ?_
  refine wa_sld q_L_law_236 (vp_in_nI (by omega) (by omega)) ?_
  refine wa_i2l q_L_law_237 rfl ?_
  refine wa_ldc2 q_L_law_238 k_RL_13 ?_
  refine wa_land q_L_law_241 ?_
  refine wa_lor q_L_law_242 ?_
  refine wa_aload_n q_L_law_243 rfl ?_
  refine wa_iload_n q_L_law_244 rfl ?_
  refine wa_iconst q_L_law_245 (v := nI 3) (by decide) ?_
  refine wn_iadd q_L_law_246 ?_
  refine wa_sld q_L_law_247 (vp_in_nI (by omega) (by omega)) ?_
  refine wa_i2l q_L_law_248 rfl ?_
  refine wa_bipush q_L_law_249 (v := nI 32) (by decide) ?_
  refine wa_lshl q_L_law_251 rfl ?_
  refine wa_aload_n q_L_law_252 rfl ?_
  refine wa_iload_n q_L_law_253 rfl ?_
  refine wa_iconst q_L_law_254 (v := nI 4) (by decide) ?_
  refine wn_iadd q_L_law_255 ?_
  refine wa_sld q_L_law_256 (vp_in_nI (by omega) (by omega)) ?_
  refine wa_i2l q_L_law_257 rfl ?_
  refine wa_ldc2 q_L_law_258 k_RL_13 ?_
  refine wa_land q_L_law_261 ?_
  refine wa_lor q_L_law_262 ?_
  refine wa_callV q_L_law_263 g_L_law_263 w_X7_ratio ol rfl (av := [_, _]) rfl rfl (lk rfl) (Calls.mono hC ?_)
  rintro _ τ2 ⟨rfl, h2⟩
  refine wa_pop q_L_law_266 rfl ?_
  refine wa_goto q_L_law_267 ?_
  exact wa_lv (nx τ2 h2) rfl
theorem law_c2 (hFF : FFok) (hFL : FLok) (hL : X.2.2.2.2.2.2.1 ≤ 2560) (hi : i + 5 ≤ X.2.2.2.2.2.2.1) (h : lwI X σ ms me K M P0 P1) (nx : ∀ σ', lwI X σ' ms me K M P0 P1 → WA X M_L_law ρ 701 [(3, .int (nI i)), (2, .ref (M 0)), (1, .ref (K 0)), (0, .ref X.2.2.2.2.2.1)] [] σ' Q) : WA X M_L_law ρ 270 [(3, .int (nI i)), (2, .ref (M 0)), (1, .ref (K 0)), (0, .ref X.2.2.2.2.2.1)] [] σ Q := by
  obtain ⟨l0, ob⟩ := h.obK
  refine wa_aload_n q_L_law_270 rfl ?_
  refine wa_aload_n q_L_law_271 rfl ?_
  refine wa_iload_n q_L_law_272 rfl ?_
  refine wa_iconst q_L_law_273 (v := nI 1) (by decide) ?_
  refine wn_iadd q_L_law_274 ?_
  refine wa_sld q_L_law_275 (vp_in_nI (by omega) (by omega)) ?_
  refine wa_callV q_L_law_276 g_L_law_276 w_X6_arctan ob rfl (av := [_]) rfl rfl (lk rfl) (Calls.mono (P_arctan h) ?_)
  rintro _ τ1 ⟨v, l1, rfl, ol, hC⟩
  refine wa_pop q_L_law_279 rfl ?_
  refine wa_aload_n q_L_law_280 rfl ?_
  refine wa_aload_n q_L_law_281 rfl ?_
  refine wa_iload_n q_L_law_282 rfl ?_
  refine wa_iconst q_L_law_283 (v := nI 1) (by decide) ?_
  refine wn_iadd q_L_law_284 ?_
  refine wa_sld q_L_law_285 (vp_in_nI (by omega) (by omega)) ?_
  refine wa_callV q_L_law_286 g_L_law_286 w_X7_arctan ol rfl (av := [_]) rfl rfl (lk rfl) (Calls.mono hC ?_)
  rintro _ τ2 ⟨rfl, h2⟩
  refine wa_pop q_L_law_289 rfl ?_
  refine wa_goto q_L_law_290 ?_
  exact wa_lv (nx τ2 h2) rfl
theorem law_c3 (hFF : FFok) (hFL : FLok) (hL : X.2.2.2.2.2.2.1 ≤ 2560) (hi : i + 5 ≤ X.2.2.2.2.2.2.1) (h : lwI X σ ms me K M P0 P1) (nx : ∀ σ', lwI X σ' ms me K M P0 P1 → WA X M_L_law ρ 701 [(3, .int (nI i)), (2, .ref (M 0)), (1, .ref (K 0)), (0, .ref X.2.2.2.2.2.1)] [] σ' Q) : WA X M_L_law ρ 293 [(3, .int (nI i)), (2, .ref (M 0)), (1, .ref (K 0)), (0, .ref X.2.2.2.2.2.1)] [] σ Q := by
  obtain ⟨l0, ob⟩ := h.obK
  refine wa_aload_n q_L_law_293 rfl ?_
  refine wa_aload_n q_L_law_294 rfl ?_
  refine wa_iload_n q_L_law_295 rfl ?_
  refine wa_iconst q_L_law_296 (v := nI 1) (by decide) ?_
  refine wn_iadd q_L_law_297 ?_
  refine wa_sld q_L_law_298 (vp_in_nI (by omega) (by omega)) ?_
  refine wa_callV q_L_law_299 g_L_law_299 w_X6_artanh ob rfl (av := [_]) rfl rfl (lk rfl) (Calls.mono (P_artanh h) ?_)
  rintro _ τ1 ⟨v, l1, rfl, ol, hC⟩
  refine wa_pop q_L_law_302 rfl ?_
  refine wa_aload_n q_L_law_303 rfl ?_
  refine wa_aload_n q_L_law_304 rfl ?_
  refine wa_iload_n q_L_law_305 rfl ?_
  refine wa_iconst q_L_law_306 (v := nI 1) (by decide) ?_
  refine wn_iadd q_L_law_307 ?_
  refine wa_sld q_L_law_308 (vp_in_nI (by omega) (by omega)) ?_
  refine wa_callV q_L_law_309 g_L_law_309 w_X7_artanh ol rfl (av := [_]) rfl rfl (lk rfl) (Calls.mono hC ?_)
  rintro _ τ2 ⟨rfl, h2⟩
  refine wa_pop q_L_law_312 rfl ?_
  refine wa_goto q_L_law_313 ?_
  exact wa_lv (nx τ2 h2) rfl
theorem law_c4 (hFF : FFok) (hFL : FLok) (hL : X.2.2.2.2.2.2.1 ≤ 2560) (hi : i + 5 ≤ X.2.2.2.2.2.2.1) (h : lwI X σ ms me K M P0 P1) (nx : ∀ σ', lwI X σ' ms me K M P0 P1 → WA X M_L_law ρ 701 [(3, .int (nI i)), (2, .ref (M 0)), (1, .ref (K 0)), (0, .ref X.2.2.2.2.2.1)] [] σ' Q) : WA X M_L_law ρ 316 [(3, .int (nI i)), (2, .ref (M 0)), (1, .ref (K 0)), (0, .ref X.2.2.2.2.2.1)] [] σ Q := by
  obtain ⟨l0, ob⟩ := h.obK
  refine wa_aload_n q_L_law_316 rfl ?_
  refine wa_aload_n q_L_law_317 rfl ?_
  refine wa_iload_n q_L_law_318 rfl ?_
  refine wa_iconst q_L_law_319 (v := nI 1) (by decide) ?_
  refine wn_iadd q_L_law_320 ?_
  refine wa_sld q_L_law_321 (vp_in_nI (by omega) (by omega)) ?_
  refine wa_aload_n q_L_law_322 rfl ?_
  refine wa_iload_n q_L_law_323 rfl ?_
  refine wa_iconst q_L_law_324 (v := nI 2) (by decide) ?_
  refine wn_iadd q_L_law_325 ?_
  refine wa_sld q_L_law_326 (vp_in_nI (by omega) (by omega)) ?_
  refine wa_callV q_L_law_327 g_L_law_327 w_X6_power ob rfl (av := [_, _]) rfl rfl (lk rfl) (Calls.mono (P_power h) ?_)
  rintro _ τ1 ⟨v, l1, rfl, ol, hC⟩
  refine wa_pop q_L_law_330 rfl ?_
  refine wa_aload_n q_L_law_331 rfl ?_
  refine wa_aload_n q_L_law_332 rfl ?_
  refine wa_iload_n q_L_law_333 rfl ?_
  refine wa_iconst q_L_law_334 (v := nI 1) (by decide) ?_
  refine wn_iadd q_L_law_335 ?_
  refine wa_sld q_L_law_336 (vp_in_nI (by omega) (by omega)) ?_
  refine wa_aload_n q_L_law_337 rfl ?_
  refine wa_iload_n q_L_law_338 rfl ?_
  refine wa_iconst q_L_law_339 (v := nI 2) (by decide) ?_
  refine wn_iadd q_L_law_340 ?_
  refine wa_sld q_L_law_341 (vp_in_nI (by omega) (by omega)) ?_
  refine wa_callV q_L_law_342 g_L_law_342 w_X7_power ol rfl (av := [_, _]) rfl rfl (lk rfl) (Calls.mono hC ?_)
  rintro _ τ2 ⟨rfl, h2⟩
  refine wa_pop q_L_law_345 rfl ?_
  refine wa_goto q_L_law_346 ?_
  exact wa_lv (nx τ2 h2) rfl
theorem law_c5 (hFF : FFok) (hFL : FLok) (hL : X.2.2.2.2.2.2.1 ≤ 2560) (hi : i + 5 ≤ X.2.2.2.2.2.2.1) (h : lwI X σ ms me K M P0 P1) (nx : ∀ σ', lwI X σ' ms me K M P0 P1 → WA X M_L_law ρ 701 [(3, .int (nI i)), (2, .ref (M 0)), (1, .ref (K 0)), (0, .ref X.2.2.2.2.2.1)] [] σ' Q) : WA X M_L_law ρ 349 [(3, .int (nI i)), (2, .ref (M 0)), (1, .ref (K 0)), (0, .ref X.2.2.2.2.2.1)] [] σ Q := by
  obtain ⟨l0, ob⟩ := h.obK
  refine wa_aload_n q_L_law_349 rfl ?_
  refine wa_aload_n q_L_law_350 rfl ?_
  refine wa_iload_n q_L_law_351 rfl ?_
  refine wa_iconst q_L_law_352 (v := nI 1) (by decide) ?_
  refine wn_iadd q_L_law_353 ?_
  refine wa_sld q_L_law_354 (vp_in_nI (by omega) (by omega)) ?_
  refine wa_callV q_L_law_355 g_L_law_355 w_X6_root ob rfl (av := [_]) rfl rfl (lk rfl) (Calls.mono (P_root h) ?_)
  rintro _ τ1 ⟨v, l1, rfl, ol, hC⟩
  refine wa_pop q_L_law_358 rfl ?_
  refine wa_aload_n q_L_law_359 rfl ?_
  refine wa_aload_n q_L_law_360 rfl ?_
  refine wa_iload_n q_L_law_361 rfl ?_
  refine wa_iconst q_L_law_362 (v := nI 1) (by decide) ?_
  refine wn_iadd q_L_law_363 ?_
  refine wa_sld q_L_law_364 (vp_in_nI (by omega) (by omega)) ?_
  refine wa_callV q_L_law_365 g_L_law_365 w_X7_root ol rfl (av := [_]) rfl rfl (lk rfl) (Calls.mono hC ?_)
  rintro _ τ2 ⟨rfl, h2⟩
  refine wa_pop q_L_law_368 rfl ?_
  refine wa_goto q_L_law_369 ?_
  exact wa_lv (nx τ2 h2) rfl
theorem law_c6 (hFF : FFok) (hFL : FLok) (hL : X.2.2.2.2.2.2.1 ≤ 2560) (hi : i + 5 ≤ X.2.2.2.2.2.2.1) (h : lwI X σ ms me K M P0 P1) (nx : ∀ σ', lwI X σ' ms me K M P0 P1 → WA X M_L_law ρ 701 [(3, .int (nI i)), (2, .ref (M 0)), (1, .ref (K 0)), (0, .ref X.2.2.2.2.2.1)] [] σ' Q) : WA X M_L_law ρ 372 [(3, .int (nI i)), (2, .ref (M 0)), (1, .ref (K 0)), (0, .ref X.2.2.2.2.2.1)] [] σ Q := by
  obtain ⟨l0, ob⟩ := h.obK
  refine wa_aload_n q_L_law_372 rfl ?_
  refine wa_aload_n q_L_law_373 rfl ?_
  refine wa_iload_n q_L_law_374 rfl ?_
  refine wa_iconst q_L_law_375 (v := nI 1) (by decide) ?_
  refine wn_iadd q_L_law_376 ?_
  refine wa_sld q_L_law_377 (vp_in_nI (by omega) (by omega)) ?_
  refine wa_aload_n q_L_law_378 rfl ?_
  refine wa_iload_n q_L_law_379 rfl ?_
  refine wa_iconst q_L_law_380 (v := nI 2) (by decide) ?_
  refine wn_iadd q_L_law_381 ?_
  refine wa_sld q_L_law_382 (vp_in_nI (by omega) (by omega)) ?_
  refine wa_aload_n q_L_law_383 rfl ?_
  refine wa_iload_n q_L_law_384 rfl ?_
  refine wa_iconst q_L_law_385 (v := nI 3) (by decide) ?_
  refine wn_iadd q_L_law_386 ?_
  refine wa_sld q_L_law_387 (vp_in_nI (by omega) (by omega)) ?_
  refine wa_callV q_L_law_388 g_L_law_388 w_X6_join ob rfl (av := [_, _, _]) rfl rfl (lk rfl) (Calls.mono (P_join h) ?_)
  rintro _ τ1 ⟨v, l1, rfl, ol, hC⟩
  refine wa_pop q_L_law_391 rfl ?_
  refine wa_aload_n q_L_law_392 rfl ?_
  refine wa_aload_n q_L_law_393 rfl ?_
  refine wa_iload_n q_L_law_394 rfl ?_
  refine wa_iconst q_L_law_395 (v := nI 1) (by decide) ?_
  refine wn_iadd q_L_law_396 ?_
  refine wa_sld q_L_law_397 (vp_in_nI (by omega) (by omega)) ?_
  refine wa_aload_n q_L_law_398 rfl ?_
  refine wa_iload_n q_L_law_399 rfl ?_
  refine wa_iconst q_L_law_400 (v := nI 2) (by decide) ?_
  refine wn_iadd q_L_law_401 ?_
  refine wa_sld q_L_law_402 (vp_in_nI (by omega) (by omega)) ?_
  refine wa_aload_n q_L_law_403 rfl ?_
  refine wa_iload_n q_L_law_404 rfl ?_
  refine wa_iconst q_L_law_405 (v := nI 3) (by decide) ?_
  refine wn_iadd q_L_law_406 ?_
  refine wa_sld q_L_law_407 (vp_in_nI (by omega) (by omega)) ?_
  refine wa_callV q_L_law_408 g_L_law_408 w_X7_join ol rfl (av := [_, _, _]) rfl rfl (lk rfl) (Calls.mono hC ?_)
  rintro _ τ2 ⟨rfl, h2⟩
  refine wa_pop q_L_law_411 rfl ?_
  refine wa_goto q_L_law_412 ?_
  exact wa_lv (nx τ2 h2) rfl
theorem law_c7 (hFF : FFok) (hFL : FLok) (hL : X.2.2.2.2.2.2.1 ≤ 2560) (hi : i + 5 ≤ X.2.2.2.2.2.2.1) (h : lwI X σ ms me K M P0 P1) (nx : ∀ σ', lwI X σ' ms me K M P0 P1 → WA X M_L_law ρ 701 [(3, .int (nI i)), (2, .ref (M 0)), (1, .ref (K 0)), (0, .ref X.2.2.2.2.2.1)] [] σ' Q) : WA X M_L_law ρ 415 [(3, .int (nI i)), (2, .ref (M 0)), (1, .ref (K 0)), (0, .ref X.2.2.2.2.2.1)] [] σ Q := by
  obtain ⟨l0, ob⟩ := h.obK
  refine wa_aload_n q_L_law_415 rfl ?_
  refine wa_aload_n q_L_law_416 rfl ?_
  refine wa_iload_n q_L_law_417 rfl ?_
  refine wa_iconst q_L_law_418 (v := nI 1) (by decide) ?_
  refine wn_iadd q_L_law_419 ?_
  refine wa_sld q_L_law_420 (vp_in_nI (by omega) (by omega)) ?_
  refine wa_callV q_L_law_421 g_L_law_421 w_X6_drop ob rfl (av := [_]) rfl rfl (lk rfl) (Calls.mono (P_drop h) ?_)
  rintro _ τ1 ⟨v, l1, rfl, ol, hC⟩
  refine wa_pop q_L_law_424 rfl ?_
  refine wa_aload_n q_L_law_425 rfl ?_
  refine wa_aload_n q_L_law_426 rfl ?_
  refine wa_iload_n q_L_law_427 rfl ?_
  refine wa_iconst q_L_law_428 (v := nI 1) (by decide) ?_
  refine wn_iadd q_L_law_429 ?_
  refine wa_sld q_L_law_430 (vp_in_nI (by omega) (by omega)) ?_
  refine wa_callV q_L_law_431 g_L_law_431 w_X7_drop ol rfl (av := [_]) rfl rfl (lk rfl) (Calls.mono hC ?_)
  rintro _ τ2 ⟨⟨v2, rfl⟩, h2⟩
  refine wa_pop q_L_law_434 rfl ?_
  refine wa_goto q_L_law_435 ?_
  exact wa_lv (nx τ2 h2) rfl
theorem law_c8 (hFF : FFok) (hFL : FLok) (hL : X.2.2.2.2.2.2.1 ≤ 2560) (hi : i + 5 ≤ X.2.2.2.2.2.2.1) (h : lwI X σ ms me K M P0 P1) (nx : ∀ σ', lwI X σ' ms me K M P0 P1 → WA X M_L_law ρ 701 [(3, .int (nI i)), (2, .ref (M 0)), (1, .ref (K 0)), (0, .ref X.2.2.2.2.2.1)] [] σ' Q) : WA X M_L_law ρ 438 [(3, .int (nI i)), (2, .ref (M 0)), (1, .ref (K 0)), (0, .ref X.2.2.2.2.2.1)] [] σ Q := by
  obtain ⟨l0, ob⟩ := h.obK
  refine wa_aload_n q_L_law_438 rfl ?_
  refine wa_callV q_L_law_439 g_L_law_439 w_X6_values ob rfl (av := []) rfl rfl (lk rfl) (Calls.mono (P_values h) ?_)
  rintro _ τ1 ⟨v, l1, rfl, ol, hC⟩
  refine wa_pop q_L_law_442 rfl ?_
  refine wa_aload_n q_L_law_443 rfl ?_
  refine wa_callV q_L_law_444 g_L_law_444 w_X7_values ol rfl (av := []) rfl rfl (lk rfl) (Calls.mono hC ?_)
  rintro _ τ2 ⟨rfl, h2⟩
  refine wa_pop q_L_law_447 rfl ?_
  refine wa_goto q_L_law_448 ?_
  exact wa_lv (nx τ2 h2) rfl
theorem law_c9 (hFF : FFok) (hFL : FLok) (hL : X.2.2.2.2.2.2.1 ≤ 2560) (hi : i + 5 ≤ X.2.2.2.2.2.2.1) (h : lwI X σ ms me K M P0 P1) (nx : ∀ σ', lwI X σ' ms me K M P0 P1 → WA X M_L_law ρ 701 [(3, .int (nI i)), (2, .ref (M 0)), (1, .ref (K 0)), (0, .ref X.2.2.2.2.2.1)] [] σ' Q) : WA X M_L_law ρ 451 [(3, .int (nI i)), (2, .ref (M 0)), (1, .ref (K 0)), (0, .ref X.2.2.2.2.2.1)] [] σ Q := by
  obtain ⟨l0, ob⟩ := h.obK
  refine wa_aload_n q_L_law_451 rfl ?_
  refine wa_aload_n q_L_law_452 rfl ?_
  refine wa_iload_n q_L_law_453 rfl ?_
  refine wa_iconst q_L_law_454 (v := nI 1) (by decide) ?_
  refine wn_iadd q_L_law_455 ?_
  refine wa_sld q_L_law_456 (vp_in_nI (by omega) (by omega)) ?_
  refine wa_aload_n q_L_law_457 rfl ?_
  refine wa_iload_n q_L_law_458 rfl ?_
  refine wa_iconst q_L_law_459 (v := nI 2) (by decide) ?_
  refine wn_iadd q_L_law_460 ?_
  refine wa_sld q_L_law_461 (vp_in_nI (by omega) (by omega)) ?_
  refine wa_callV q_L_law_462 g_L_law_462 w_X6_digits ob rfl (av := [_, _]) rfl rfl (lk rfl) (Calls.mono (P_digits hFF hFL h) ?_)
  rintro _ τ1 ⟨v, l1, rfl, ol, hC⟩
  refine wa_pop q_L_law_465 rfl ?_
  refine wa_aload_n q_L_law_466 rfl ?_
  refine wa_aload_n q_L_law_467 rfl ?_
  refine wa_iload_n q_L_law_468 rfl ?_
  refine wa_iconst q_L_law_469 (v := nI 1) (by decide) ?_
  refine wn_iadd q_L_law_470 ?_
  refine wa_sld q_L_law_471 (vp_in_nI (by omega) (by omega)) ?_
  refine wa_aload_n q_L_law_472 rfl ?_
  refine wa_iload_n q_L_law_473 rfl ?_
  refine wa_iconst q_L_law_474 (v := nI 2) (by decide) ?_
  refine wn_iadd q_L_law_475 ?_
  refine wa_sld q_L_law_476 (vp_in_nI (by omega) (by omega)) ?_
  refine wa_callV q_L_law_477 g_L_law_477 w_X7_digits ol rfl (av := [_, _]) rfl rfl (lk rfl) (Calls.mono hC ?_)
  rintro _ τ2 ⟨rfl, h2⟩
  refine wa_pop q_L_law_480 rfl ?_
  refine wa_goto q_L_law_481 ?_
  exact wa_lv (nx τ2 h2) rfl
theorem law_c10 (hFF : FFok) (hFL : FLok) (hL : X.2.2.2.2.2.2.1 ≤ 2560) (hi : i + 5 ≤ X.2.2.2.2.2.2.1) (h : lwI X σ ms me K M P0 P1) (nx : ∀ σ', lwI X σ' ms me K M P0 P1 → WA X M_L_law ρ 701 [(3, .int (nI i)), (2, .ref (M 0)), (1, .ref (K 0)), (0, .ref X.2.2.2.2.2.1)] [] σ' Q) : WA X M_L_law ρ 484 [(3, .int (nI i)), (2, .ref (M 0)), (1, .ref (K 0)), (0, .ref X.2.2.2.2.2.1)] [] σ Q := by
  obtain ⟨l0, ob⟩ := h.obK
  refine wa_aload_n q_L_law_484 rfl ?_
  refine wa_aload_n q_L_law_485 rfl ?_
  refine wa_iload_n q_L_law_486 rfl ?_
  refine wa_iconst q_L_law_487 (v := nI 1) (by decide) ?_
  refine wn_iadd q_L_law_488 ?_
  refine wa_sld q_L_law_489 (vp_in_nI (by omega) (by omega)) ?_
  refine wa_callV q_L_law_490 g_L_law_490 w_X6_digit ob rfl (av := [_]) rfl rfl (lk rfl) (Calls.mono (P_digit h) ?_)
  rintro _ τ1 ⟨v, l1, rfl, ol, hC⟩
  refine wa_pop q_L_law_493 rfl ?_
  refine wa_aload_n q_L_law_494 rfl ?_
  refine wa_aload_n q_L_law_495 rfl ?_
  refine wa_iload_n q_L_law_496 rfl ?_
  refine wa_iconst q_L_law_497 (v := nI 1) (by decide) ?_
  refine wn_iadd q_L_law_498 ?_
  refine wa_sld q_L_law_499 (vp_in_nI (by omega) (by omega)) ?_
  refine wa_callV q_L_law_500 g_L_law_500 w_X7_digit ol rfl (av := [_]) rfl rfl (lk rfl) (Calls.mono hC ?_)
  rintro _ τ2 ⟨rfl, h2⟩
  refine wa_pop q_L_law_503 rfl ?_
  refine wa_goto q_L_law_504 ?_
  exact wa_lv (nx τ2 h2) rfl
theorem law_c11 (hFF : FFok) (hFL : FLok) (hL : X.2.2.2.2.2.2.1 ≤ 2560) (hi : i + 5 ≤ X.2.2.2.2.2.2.1) (h : lwI X σ ms me K M P0 P1) (nx : ∀ σ', lwI X σ' ms me K M P0 P1 → WA X M_L_law ρ 701 [(3, .int (nI i)), (2, .ref (M 0)), (1, .ref (K 0)), (0, .ref X.2.2.2.2.2.1)] [] σ' Q) : WA X M_L_law ρ 507 [(3, .int (nI i)), (2, .ref (M 0)), (1, .ref (K 0)), (0, .ref X.2.2.2.2.2.1)] [] σ Q := by
  obtain ⟨l0, ob⟩ := h.obK
  refine wa_aload_n q_L_law_507 rfl ?_
  refine wa_callV q_L_law_508 g_L_law_508 w_X6_length ob rfl (av := []) rfl rfl (lk rfl) (Calls.mono (P_length h) ?_)
  rintro _ τ1 ⟨v, l1, rfl, ol, hC⟩
  refine wa_pop q_L_law_511 rfl ?_
  refine wa_aload_n q_L_law_512 rfl ?_
  refine wa_callV q_L_law_513 g_L_law_513 w_X7_length ol rfl (av := []) rfl rfl (lk rfl) (Calls.mono hC ?_)
  rintro _ τ2 ⟨rfl, h2⟩
  refine wa_pop q_L_law_516 rfl ?_
  refine wa_goto q_L_law_517 ?_
  exact wa_lv (nx τ2 h2) rfl
theorem law_c12 (hFF : FFok) (hFL : FLok) (hL : X.2.2.2.2.2.2.1 ≤ 2560) (hi : i + 5 ≤ X.2.2.2.2.2.2.1) (h : lwI X σ ms me K M P0 P1) (nx : ∀ σ', lwI X σ' ms me K M P0 P1 → WA X M_L_law ρ 701 [(3, .int (nI i)), (2, .ref (M 0)), (1, .ref (K 0)), (0, .ref X.2.2.2.2.2.1)] [] σ' Q) : WA X M_L_law ρ 520 [(3, .int (nI i)), (2, .ref (M 0)), (1, .ref (K 0)), (0, .ref X.2.2.2.2.2.1)] [] σ Q := by
  obtain ⟨l0, ob⟩ := h.obK
  refine wa_aload_n q_L_law_520 rfl ?_
  refine wa_aload_n q_L_law_521 rfl ?_
  refine wa_iload_n q_L_law_522 rfl ?_
  refine wa_iconst q_L_law_523 (v := nI 1) (by decide) ?_
  refine wn_iadd q_L_law_524 ?_
  refine wa_sld q_L_law_525 (vp_in_nI (by omega) (by omega)) ?_
  refine wa_aload_n q_L_law_526 rfl ?_
  refine wa_iload_n q_L_law_527 rfl ?_
  refine wa_iconst q_L_law_528 (v := nI 2) (by decide) ?_
  refine wn_iadd q_L_law_529 ?_
  refine wa_sld q_L_law_530 (vp_in_nI (by omega) (by omega)) ?_
  refine wa_callV q_L_law_531 g_L_law_531 w_X6_enclose ob rfl (av := [_, _]) rfl rfl (lk rfl) (Calls.mono (P_enclose hFF hFL h) ?_)
  rintro _ τ1 ⟨v, l1, rfl, ol, hC⟩
  refine wa_pop q_L_law_534 rfl ?_
  refine wa_aload_n q_L_law_535 rfl ?_
  refine wa_aload_n q_L_law_536 rfl ?_
  refine wa_iload_n q_L_law_537 rfl ?_
  refine wa_iconst q_L_law_538 (v := nI 1) (by decide) ?_
  refine wn_iadd q_L_law_539 ?_
  refine wa_sld q_L_law_540 (vp_in_nI (by omega) (by omega)) ?_
  refine wa_aload_n q_L_law_541 rfl ?_
  refine wa_iload_n q_L_law_542 rfl ?_
  refine wa_iconst q_L_law_543 (v := nI 2) (by decide) ?_
  refine wn_iadd q_L_law_544 ?_
  refine wa_sld q_L_law_545 (vp_in_nI (by omega) (by omega)) ?_
  refine wa_callV q_L_law_546 g_L_law_546 w_X7_enclose ol rfl (av := [_, _]) rfl rfl (lk rfl) (Calls.mono hC ?_)
  rintro _ τ2 ⟨rfl, h2⟩
  refine wa_pop q_L_law_549 rfl ?_
  refine wa_goto q_L_law_550 ?_
  exact wa_lv (nx τ2 h2) rfl
theorem law_c13 (hFF : FFok) (hFL : FLok) (hL : X.2.2.2.2.2.2.1 ≤ 2560) (hi : i + 5 ≤ X.2.2.2.2.2.2.1) (h : lwI X σ ms me K M P0 P1) (nx : ∀ σ', lwI X σ' ms me K M P0 P1 → WA X M_L_law ρ 701 [(3, .int (nI i)), (2, .ref (M 0)), (1, .ref (K 0)), (0, .ref X.2.2.2.2.2.1)] [] σ' Q) : WA X M_L_law ρ 553 [(3, .int (nI i)), (2, .ref (M 0)), (1, .ref (K 0)), (0, .ref X.2.2.2.2.2.1)] [] σ Q := by
  obtain ⟨l0, ob⟩ := h.obK
  refine wa_aload_n q_L_law_553 rfl ?_
  refine wa_aload_n q_L_law_554 rfl ?_
  refine wa_iload_n q_L_law_555 rfl ?_
  refine wa_iconst q_L_law_556 (v := nI 1) (by decide) ?_
  refine wn_iadd q_L_law_557 ?_
  refine wa_sld q_L_law_558 (vp_in_nI (by omega) (by omega)) ?_
  refine wa_aload_n q_L_law_559 rfl ?_
  refine wa_iload_n q_L_law_560 rfl ?_
  refine wa_iconst q_L_law_561 (v := nI 2) (by decide) ?_
  refine wn_iadd q_L_law_562 ?_
  refine wa_sld q_L_law_563 (vp_in_nI (by omega) (by omega)) ?_
  refine wa_callV q_L_law_564 g_L_law_564 w_X6_bound ob rfl (av := [_, _]) rfl rfl (lk rfl) (Calls.mono (P_bound h) ?_)
  rintro _ τ1 ⟨v, l1, rfl, ol, hC⟩
  refine wa_pop q_L_law_567 rfl ?_
  refine wa_aload_n q_L_law_568 rfl ?_
  refine wa_aload_n q_L_law_569 rfl ?_
  refine wa_iload_n q_L_law_570 rfl ?_
  refine wa_iconst q_L_law_571 (v := nI 1) (by decide) ?_
  refine wn_iadd q_L_law_572 ?_
  refine wa_sld q_L_law_573 (vp_in_nI (by omega) (by omega)) ?_
  refine wa_aload_n q_L_law_574 rfl ?_
  refine wa_iload_n q_L_law_575 rfl ?_
  refine wa_iconst q_L_law_576 (v := nI 2) (by decide) ?_
  refine wn_iadd q_L_law_577 ?_
  refine wa_sld q_L_law_578 (vp_in_nI (by omega) (by omega)) ?_
  refine wa_callV q_L_law_579 g_L_law_579 w_X7_bound ol rfl (av := [_, _]) rfl rfl (lk rfl) (Calls.mono hC ?_)
  rintro _ τ2 ⟨rfl, h2⟩
  refine wa_pop q_L_law_582 rfl ?_
  refine wa_goto q_L_law_583 ?_
  exact wa_lv (nx τ2 h2) rfl
theorem law_c14 (hFF : FFok) (hFL : FLok) (hL : X.2.2.2.2.2.2.1 ≤ 2560) (hi : i + 5 ≤ X.2.2.2.2.2.2.1) (h : lwI X σ ms me K M P0 P1) (nx : ∀ σ', lwI X σ' ms me K M P0 P1 → WA X M_L_law ρ 701 [(3, .int (nI i)), (2, .ref (M 0)), (1, .ref (K 0)), (0, .ref X.2.2.2.2.2.1)] [] σ' Q) : WA X M_L_law ρ 586 [(3, .int (nI i)), (2, .ref (M 0)), (1, .ref (K 0)), (0, .ref X.2.2.2.2.2.1)] [] σ Q := by
  obtain ⟨l0, ob⟩ := h.obK
  refine wa_aload_n q_L_law_586 rfl ?_
  refine wa_aload_n q_L_law_587 rfl ?_
  refine wa_iload_n q_L_law_588 rfl ?_
  refine wa_iconst q_L_law_589 (v := nI 1) (by decide) ?_
  refine wn_iadd q_L_law_590 ?_
  refine wa_sld q_L_law_591 (vp_in_nI (by omega) (by omega)) ?_
  refine wa_aload_n q_L_law_592 rfl ?_
  refine wa_iload_n q_L_law_593 rfl ?_
  refine wa_iconst q_L_law_594 (v := nI 2) (by decide) ?_
  refine wn_iadd q_L_law_595 ?_
  refine wa_sld q_L_law_596 (vp_in_nI (by omega) (by omega)) ?_
  refine wa_callV q_L_law_597 g_L_law_597 w_X6_order ob rfl (av := [_, _]) rfl rfl (lk rfl) (Calls.mono (P_order hFF hFL h) ?_)
  rintro _ τ1 ⟨v, l1, rfl, ol, hC⟩
  refine wa_pop q_L_law_600 rfl ?_
  refine wa_aload_n q_L_law_601 rfl ?_
  refine wa_aload_n q_L_law_602 rfl ?_
  refine wa_iload_n q_L_law_603 rfl ?_
  refine wa_iconst q_L_law_604 (v := nI 1) (by decide) ?_
  refine wn_iadd q_L_law_605 ?_
  refine wa_sld q_L_law_606 (vp_in_nI (by omega) (by omega)) ?_
  refine wa_aload_n q_L_law_607 rfl ?_
  refine wa_iload_n q_L_law_608 rfl ?_
  refine wa_iconst q_L_law_609 (v := nI 2) (by decide) ?_
  refine wn_iadd q_L_law_610 ?_
  refine wa_sld q_L_law_611 (vp_in_nI (by omega) (by omega)) ?_
  refine wa_callV q_L_law_612 g_L_law_612 w_X7_order ol rfl (av := [_, _]) rfl rfl (lk rfl) (Calls.mono hC ?_)
  rintro _ τ2 ⟨rfl, h2⟩
  refine wa_pop q_L_law_615 rfl ?_
  refine wa_goto q_L_law_616 ?_
  exact wa_lv (nx τ2 h2) rfl
theorem law_c15 (hFF : FFok) (hFL : FLok) (hL : X.2.2.2.2.2.2.1 ≤ 2560) (hi : i + 5 ≤ X.2.2.2.2.2.2.1) (h : lwI X σ ms me K M P0 P1) (nx : ∀ σ', lwI X σ' ms me K M P0 P1 → WA X M_L_law ρ 701 [(3, .int (nI i)), (2, .ref (M 0)), (1, .ref (K 0)), (0, .ref X.2.2.2.2.2.1)] [] σ' Q) : WA X M_L_law ρ 619 [(3, .int (nI i)), (2, .ref (M 0)), (1, .ref (K 0)), (0, .ref X.2.2.2.2.2.1)] [] σ Q := by
  obtain ⟨l0, ob⟩ := h.obK
  refine wa_aload_n q_L_law_619 rfl ?_
  refine wa_aload_n q_L_law_620 rfl ?_
  refine wa_iload_n q_L_law_621 rfl ?_
  refine wa_iconst q_L_law_622 (v := nI 1) (by decide) ?_
  refine wn_iadd q_L_law_623 ?_
  refine wa_sld q_L_law_624 (vp_in_nI (by omega) (by omega)) ?_
  refine wa_aload_n q_L_law_625 rfl ?_
  refine wa_iload_n q_L_law_626 rfl ?_
  refine wa_iconst q_L_law_627 (v := nI 2) (by decide) ?_
  refine wn_iadd q_L_law_628 ?_
  refine wa_sld q_L_law_629 (vp_in_nI (by omega) (by omega)) ?_
  refine wa_callV q_L_law_630 g_L_law_630 w_X6_quotients ob rfl (av := [_, _]) rfl rfl (lk rfl) (Calls.mono (P_quotients hFF hFL h) ?_)
  rintro _ τ1 ⟨v, l1, rfl, ol, hC⟩
  refine wa_pop q_L_law_633 rfl ?_
  refine wa_aload_n q_L_law_634 rfl ?_
  refine wa_aload_n q_L_law_635 rfl ?_
  refine wa_iload_n q_L_law_636 rfl ?_
  refine wa_iconst q_L_law_637 (v := nI 1) (by decide) ?_
  refine wn_iadd q_L_law_638 ?_
  refine wa_sld q_L_law_639 (vp_in_nI (by omega) (by omega)) ?_
  refine wa_aload_n q_L_law_640 rfl ?_
  refine wa_iload_n q_L_law_641 rfl ?_
  refine wa_iconst q_L_law_642 (v := nI 2) (by decide) ?_
  refine wn_iadd q_L_law_643 ?_
  refine wa_sld q_L_law_644 (vp_in_nI (by omega) (by omega)) ?_
  refine wa_callV q_L_law_645 g_L_law_645 w_X7_quotients ol rfl (av := [_, _]) rfl rfl (lk rfl) (Calls.mono hC ?_)
  rintro _ τ2 ⟨rfl, h2⟩
  refine wa_pop q_L_law_648 rfl ?_
  refine wa_goto q_L_law_649 ?_
  exact wa_lv (nx τ2 h2) rfl
theorem law_c16 (hFF : FFok) (hFL : FLok) (hL : X.2.2.2.2.2.2.1 ≤ 2560) (hi : i + 5 ≤ X.2.2.2.2.2.2.1) (h : lwI X σ ms me K M P0 P1) (nx : ∀ σ', lwI X σ' ms me K M P0 P1 → WA X M_L_law ρ 701 [(3, .int (nI i)), (2, .ref (M 0)), (1, .ref (K 0)), (0, .ref X.2.2.2.2.2.1)] [] σ' Q) : WA X M_L_law ρ 652 [(3, .int (nI i)), (2, .ref (M 0)), (1, .ref (K 0)), (0, .ref X.2.2.2.2.2.1)] [] σ Q := by
  obtain ⟨l0, ob⟩ := h.obK
  refine wa_aload_n q_L_law_652 rfl ?_
  refine wa_aload_n q_L_law_653 rfl ?_
  refine wa_iload_n q_L_law_654 rfl ?_
  refine wa_iconst q_L_law_655 (v := nI 1) (by decide) ?_
  refine wn_iadd q_L_law_656 ?_
  refine wa_sld q_L_law_657 (vp_in_nI (by omega) (by omega)) ?_
  refine wa_callV q_L_law_658 g_L_law_658 w_X6_quotient ob rfl (av := [_]) rfl rfl (lk rfl) (Calls.mono (P_quotient h) ?_)
  rintro _ τ1 ⟨v, l1, rfl, ol, hC⟩
  refine wa_pop2 q_L_law_661 rfl ?_
  refine wa_aload_n q_L_law_662 rfl ?_
  refine wa_aload_n q_L_law_663 rfl ?_
  refine wa_iload_n q_L_law_664 rfl ?_
  refine wa_iconst q_L_law_665 (v := nI 1) (by decide) ?_
  refine wn_iadd q_L_law_666 ?_
  refine wa_sld q_L_law_667 (vp_in_nI (by omega) (by omega)) ?_
  refine wa_callV q_L_law_668 g_L_law_668 w_X7_quotient ol rfl (av := [_]) rfl rfl (lk rfl) (Calls.mono hC ?_)
  rintro _ τ2 ⟨rfl, h2⟩
  refine wa_pop2 q_L_law_671 rfl ?_
  refine wa_goto q_L_law_672 ?_
  exact wa_lv (nx τ2 h2) rfl
theorem law_c17 (hFF : FFok) (hFL : FLok) (hL : X.2.2.2.2.2.2.1 ≤ 2560) (hi : i + 5 ≤ X.2.2.2.2.2.2.1) (h : lwI X σ ms me K M P0 P1) (nx : ∀ σ', lwI X σ' ms me K M P0 P1 → WA X M_L_law ρ 701 [(3, .int (nI i)), (2, .ref (M 0)), (1, .ref (K 0)), (0, .ref X.2.2.2.2.2.1)] [] σ' Q) : WA X M_L_law ρ 675 [(3, .int (nI i)), (2, .ref (M 0)), (1, .ref (K 0)), (0, .ref X.2.2.2.2.2.1)] [] σ Q := by
  obtain ⟨l0, ob⟩ := h.obK
  refine wa_aload_n q_L_law_675 rfl ?_
  refine wa_callV q_L_law_676 g_L_law_676 w_X6_many ob rfl (av := []) rfl rfl (lk rfl) (Calls.mono (P_many h) ?_)
  rintro _ τ1 ⟨v, l1, rfl, ol, hC⟩
  refine wa_pop q_L_law_679 rfl ?_
  refine wa_aload_n q_L_law_680 rfl ?_
  refine wa_callV q_L_law_681 g_L_law_681 w_X7_many ol rfl (av := []) rfl rfl (lk rfl) (Calls.mono hC ?_)
  rintro _ τ2 ⟨rfl, h2⟩
  refine wa_pop q_L_law_684 rfl ?_
  refine wa_goto q_L_law_685 ?_
  exact wa_lv (nx τ2 h2) rfl
theorem law_c18 (hFF : FFok) (hFL : FLok) (hL : X.2.2.2.2.2.2.1 ≤ 2560) (hi : i + 5 ≤ X.2.2.2.2.2.2.1) (h : lwI X σ ms me K M P0 P1) (nx : ∀ σ', lwI X σ' ms me K M P0 P1 → WA X M_L_law ρ 701 [(3, .int (nI i)), (2, .ref (M 0)), (1, .ref (K 0)), (0, .ref X.2.2.2.2.2.1)] [] σ' Q) : WA X M_L_law ρ 688 [(3, .int (nI i)), (2, .ref (M 0)), (1, .ref (K 0)), (0, .ref X.2.2.2.2.2.1)] [] σ Q := by
  obtain ⟨l0, ob⟩ := h.obK
  refine wa_aload_n q_L_law_688 rfl ?_
  refine wa_callV q_L_law_689 g_L_law_689 w_X6_precision ob rfl (av := []) rfl rfl (lk rfl) (Calls.mono (P_precision h) ?_)
  rintro _ τ1 ⟨v, l1, rfl, ol, hC⟩
  refine wa_pop q_L_law_692 rfl ?_
  refine wa_aload_n q_L_law_693 rfl ?_
  refine wa_callV q_L_law_694 g_L_law_694 w_X7_precision ol rfl (av := []) rfl rfl (lk rfl) (Calls.mono hC ?_)
  rintro _ τ2 ⟨rfl, h2⟩
  refine wa_pop q_L_law_697 rfl ?_
  refine wa_goto q_L_law_698 ?_
  exact wa_lv (nx τ2 h2) rfl
theorem law_pass (hFF : FFok) (hFL : FLok) (hL : X.2.2.2.2.2.2.1 ≤ 2560) (hi : i + 5 ≤ X.2.2.2.2.2.2.1) (h : lwI X σ ms me K M P0 P1) (nx : ∀ σ', lwI X σ' ms me K M P0 P1 → WA X M_L_law ρ 701 [(3, .int (nI i)), (2, .ref (M 0)), (1, .ref (K 0)), (0, .ref X.2.2.2.2.2.1)] [] σ' Q) : WA X M_L_law ρ 26 [(3, .int (nI i)), (2, .ref (M 0)), (1, .ref (K 0)), (0, .ref X.2.2.2.2.2.1)] [] σ Q := by
  refine wa_aload_n q_L_law_26 rfl ?_
  refine wa_iload_n q_L_law_27 rfl ?_
  refine wa_sld q_L_law_28 (vp_in_nI (by omega) (by omega)) ?_
  generalize X.2.2.2.2.2.2.2 (nI i).toNatClampNeg = s0
  refine wa_bipush q_L_law_29 (v := nI 31) (by decide) ?_
  refine wa_iand q_L_law_31 ?_
  generalize s0 &&& nI 31 = x
  by_cases hx : 0 ≤ x.toInt ∧ x.toInt ≤ 18
  · obtain ⟨k, hk, rfl⟩ : ∃ k : Nat, k ≤ 18 ∧ x = nI k := ⟨x.toInt.toNat, by omega, by rw [nI_iZ, Int.toNat_of_nonneg hx.1, iZ_back]⟩
    have hk2 : k = 0 ∨ k = 1 ∨ k = 2 ∨ k = 3 ∨ k = 4 ∨ k = 5 ∨ k = 6 ∨ k = 7 ∨ k = 8 ∨ k = 9 ∨ k = 10 ∨ k = 11 ∨ k = 12 ∨ k = 13 ∨ k = 14 ∨ k = 15 ∨ k = 16 ∨ k = 17 ∨ k = 18 := by omega
    rcases hk2 with e | e | e | e | e | e | e | e | e | e | e | e | e | e | e | e | e | e | e <;> subst e
    · exact wa_tabIn (tgt := 124) (off := 92) q_L_law_32 (by decide) (by decide) (by decide) (by decide) (law_c0 hFF hFL hL hi h nx)
    · exact wa_tabIn (tgt := 177) (off := 145) q_L_law_32 (by decide) (by decide) (by decide) (by decide) (law_c1 hFF hFL hL hi h nx)
    · exact wa_tabIn (tgt := 270) (off := 238) q_L_law_32 (by decide) (by decide) (by decide) (by decide) (law_c2 hFF hFL hL hi h nx)
    · exact wa_tabIn (tgt := 293) (off := 261) q_L_law_32 (by decide) (by decide) (by decide) (by decide) (law_c3 hFF hFL hL hi h nx)
    · exact wa_tabIn (tgt := 316) (off := 284) q_L_law_32 (by decide) (by decide) (by decide) (by decide) (law_c4 hFF hFL hL hi h nx)
    · exact wa_tabIn (tgt := 349) (off := 317) q_L_law_32 (by decide) (by decide) (by decide) (by decide) (law_c5 hFF hFL hL hi h nx)
    · exact wa_tabIn (tgt := 372) (off := 340) q_L_law_32 (by decide) (by decide) (by decide) (by decide) (law_c6 hFF hFL hL hi h nx)
    · exact wa_tabIn (tgt := 415) (off := 383) q_L_law_32 (by decide) (by decide) (by decide) (by decide) (law_c7 hFF hFL hL hi h nx)
    · exact wa_tabIn (tgt := 438) (off := 406) q_L_law_32 (by decide) (by decide) (by decide) (by decide) (law_c8 hFF hFL hL hi h nx)
    · exact wa_tabIn (tgt := 451) (off := 419) q_L_law_32 (by decide) (by decide) (by decide) (by decide) (law_c9 hFF hFL hL hi h nx)
    · exact wa_tabIn (tgt := 484) (off := 452) q_L_law_32 (by decide) (by decide) (by decide) (by decide) (law_c10 hFF hFL hL hi h nx)
    · exact wa_tabIn (tgt := 507) (off := 475) q_L_law_32 (by decide) (by decide) (by decide) (by decide) (law_c11 hFF hFL hL hi h nx)
    · exact wa_tabIn (tgt := 520) (off := 488) q_L_law_32 (by decide) (by decide) (by decide) (by decide) (law_c12 hFF hFL hL hi h nx)
    · exact wa_tabIn (tgt := 553) (off := 521) q_L_law_32 (by decide) (by decide) (by decide) (by decide) (law_c13 hFF hFL hL hi h nx)
    · exact wa_tabIn (tgt := 586) (off := 554) q_L_law_32 (by decide) (by decide) (by decide) (by decide) (law_c14 hFF hFL hL hi h nx)
    · exact wa_tabIn (tgt := 619) (off := 587) q_L_law_32 (by decide) (by decide) (by decide) (by decide) (law_c15 hFF hFL hL hi h nx)
    · exact wa_tabIn (tgt := 652) (off := 620) q_L_law_32 (by decide) (by decide) (by decide) (by decide) (law_c16 hFF hFL hL hi h nx)
    · exact wa_tabIn (tgt := 675) (off := 643) q_L_law_32 (by decide) (by decide) (by decide) (by decide) (law_c17 hFF hFL hL hi h nx)
    · exact wa_tabIn (tgt := 688) (off := 656) q_L_law_32 (by decide) (by decide) (by decide) (by decide) (law_c18 hFF hFL hL hi h nx)
  · exact wa_tabOut (tgt := 701) q_L_law_32 (by omega) (by decide) (nx σ h)
theorem law_loop {L : Nat} (hFF : FFok) (hFL : FLok) (hL : X.2.2.2.2.2.2.1 = L) (hL2 : L ≤ 2560) : ∀ (n i : Nat) (σ : en_S), L ≤ i + 5 * n + 4 → i ≤ L + 5 → lwI X σ ms me K M P0 P1 →
    WA X M_L_law ρ 18 [(3, .int (nI i)), (2, .ref (M 0)), (1, .ref (K 0)), (0, .ref X.2.2.2.2.2.1)] [] σ (fun r τ => r = some (.int 1) ∧ lwI X τ ms me K M P0 P1) := by
  have hcmp : ∀ i, i ≤ L + 5 → (nI L - nI 5 < nI i ↔ L < i + 5) := by
    intro i hi
    rw [nI_iZ, nI_iZ, nI_iZ, iZ_sub, iZ_lt (by omega) (by omega) (by omega) (by omega)]
    omega
  have leave : ∀ (i : Nat) (σ : en_S), lwI X σ ms me K M P0 P1 → WA X M_L_law ρ 707 [(3, .int (nI i)), (2, .ref (M 0)), (1, .ref (K 0)), (0, .ref X.2.2.2.2.2.1)] [] σ (fun r τ => r = some (.int 1) ∧ lwI X τ ms me K M P0 P1) := by
    intro i σ h
    refine wa_iconst q_L_law_707 (v := 1) (by decide) ?_
    refine wa_zret q_L_law_708 rfl rfl ?_
    exact ⟨rfl, h⟩
  intro n
  induction n with
  | zero =>
    intro i σ h1 h2 h
    refine wa_iload_n q_L_law_18 rfl ?_
    refine wa_aload_n q_L_law_19 rfl ?_
    refine wa_slen q_L_law_20 ?_
    rw [hL]
    refine wa_iconst q_L_law_21 (v := nI 5) (by decide) ?_
    refine wa_isub q_L_law_22 ?_
    refine wa_icmp_gt q_L_law_23 (fun _ => wa_lv (leave i σ h) rfl) (fun q => absurd ((hcmp i h2).mpr (by omega)) q)
  | succ n ih =>
    intro i σ h1 h2 h
    refine wa_iload_n q_L_law_18 rfl ?_
    refine wa_aload_n q_L_law_19 rfl ?_
    refine wa_slen q_L_law_20 ?_
    rw [hL]
    refine wa_iconst q_L_law_21 (v := nI 5) (by decide) ?_
    refine wa_isub q_L_law_22 ?_
    refine wa_icmp_gt q_L_law_23 (fun _ => wa_lv (leave i σ h) rfl) (fun q => ?_)
    have hlt : i + 5 ≤ L := by
      have := mt (hcmp i h2).mpr q
      omega
    refine wa_lv (law_pass hFF hFL (by omega) (by omega) h (fun σ' h' => ?_)) rfl
    refine wa_iinc q_L_law_701 rfl (v := nI (i + 5)) (show nI i + nI 5 = nI (i + 5) by rw [nI_add]) (by decide) ?_
    refine wa_goto q_L_law_704 ?_
    exact wa_lv (ih (i + 5) σ' (by omega) (by omega) h') rfl
theorem sum_le {l : List Nat} {c : Nat} (h : ∀ x, x ∈ l → x ≤ c) : l.sum ≤ l.length * c := by
  induction l with
  | nil => exact Nat.zero_le _
  | cons a l ih =>
    have h1 := ih (fun x hx => h x (List.mem_cons_of_mem _ hx))
    have h2 := h a List.mem_cons_self
    rw [List.sum_cons, List.length_cons, Nat.add_mul, Nat.one_mul]
    omega
theorem cW.room {cnt : Nat} {kd fs sn : Nat → Nat} {A B : Nat → Int} {tl : Nat} {td lo hi : Int} {qc : Nat} {qs : Nat → Int} {sa : Nat} (h : cW X σ ms me K cnt kd fs sn A B tl td lo hi qc qs sa P0 P1) : 8 * σ.1 ≤ P0 + 110000 ∧ σ.2.1 ≤ P1 + 220000 := by
  obtain ⟨z, va, mk, S, U, at', op, fa, o1, u1, r1, o2, u2, r2, g, h, -⟩ := h
  have hmk := h.2.1.2.2.2.1.2.2.2.2.1
  obtain ⟨-, ⟨w1, -⟩, -, -, -, -, p1, p2⟩ := h
  obtain ⟨-, V, ⟨g1, -⟩, -⟩ := w1
  have hs : bw_tot (zD z (28 + 3 * mk)) S ≤ (28 + 3 * mk) * 512 := by
    have := sum_le (l := (zD z (28 + 3 * mk)).map (fun a => (S a).2.1)) (c := 512) (fun x hx => by
      obtain ⟨d, hd, rfl⟩ := List.mem_map.mp hx
      obtain ⟨-, -, -, -, x5, -⟩ := g1.1 d hd
      exact x5)
    rw [List.length_map] at this
    have hl : (zD z (28 + 3 * mk)).length = 28 + 3 * mk := by simp [zD]
    rw [hl] at this
    exact this
  constructor <;> omega
theorem law_start {L : Nat} (hFF : FFok) (hFL : FLok) (hL : X.2.2.2.2.2.2.1 = L) (hL2 : L ≤ 2560) : WA X M_L_law σ 0 [(0, .ref X.2.2.2.2.2.1)] [] σ (fun r τ => r = some (.int 1) ∧ τ.1 ≤ σ.1 + 100000 ∧ τ.2.1 ≤ σ.2.1 + 1000000) := by
  refine wn_new q_L_law_0 n_RL_7 (fun σ1 a1 b1 c1 d1 => ?_)
  refine wa_dup q_L_law_3 rfl ?_
  refine wa_callI q_L_law_4 g_L_law_4 w_X6_init ⟨rfl, rfl⟩ (av := []) rfl rfl (lk rfl) (Calls.mono (C_X6_init (s := σ.1 + 1) a1 (by omega) c1) ?_)
  rintro _ σ2 ⟨rfl, e1, e2, cw⟩
  refine wa_astore_n q_L_law_7 (by decide) ?_
  refine wn_new q_L_law_8 n_RL_10 (fun σ3 a3 b3 c3 d3 => ?_)
  refine wa_dup q_L_law_11 rfl ?_
  refine wa_callI q_L_law_12 g_L_law_12 w_X7_init ⟨rfl, rfl⟩ (av := []) rfl rfl (lk rfl) (Calls.mono (C_X7_init (s := σ2.1 + 1) a3 (by omega) c3) ?_)
  rintro _ σ4 ⟨rfl, m1, m2, m3, mw⟩
  refine wa_astore_n q_L_law_15 (by decide) ?_
  refine wa_iconst q_L_law_16 (v := nI 0) (by decide) ?_
  refine wa_istore_n q_L_law_17 (by decide) ?_
  have hb : cW X σ4 σ2.1 σ4.1 (K0 σ.1 (σ.1 + 1)) 0 (fun _ => 0) (fun _ => 0) (fun _ => 0) (fun _ => 0) (fun _ => 0) 0 0 0 0 0 (fun _ => 0) 0 (8 * (σ.1 + 1) + 600 + 100) (σ1.2.1 + 600 + 45480) :=
    cw.base (fun q hq => (m3 q (by omega) (by omega)).trans (b3 q (by omega))) (by omega) (by omega) (by omega)
  have hR : inR σ2.1 σ4.1 (M0 σ2.1 (σ2.1 + 1)) := by
    intro i hi
    have hk2 : i = 0 ∨ i = 1 ∨ i = 2 ∨ i = 3 ∨ i = 4 ∨ i = 5 ∨ i = 6 ∨ i = 7 ∨ i = 8 ∨ i = 11 ∨ i = 14 := by
      rcases hi with q | q
      · exact Or.inl q
      · right; simpa [arrs] using q
    have hb2 : σ2.1 ≤ M0 σ2.1 (σ2.1 + 1) i ∧ M0 σ2.1 (σ2.1 + 1) i ≤ σ2.1 + 10 := by
      unfold M0
      rcases hk2 with q | q | q | q | q | q | q | q | q | q | q <;> subst q <;> simp <;> omega
    omega
  have hI : lwI X σ4 σ2.1 σ4.1 (K0 σ.1 (σ.1 + 1)) (M0 σ2.1 (σ2.1 + 1)) (8 * (σ.1 + 1) + 600 + 100) (σ1.2.1 + 600 + 45480) := ⟨hR, 0, _, _, _, _, _, false, 0, 0, 0, 0, 0, _, 0, hb, mw, Or.inl ⟨rfl, rfl⟩⟩
  refine WA.mono (wa_lv (law_loop hFF hFL hL hL2 (L + 1) 0 σ4 (by omega) (by omega) hI) rfl) ?_
  rintro r τ ⟨hr, -, cnt, kd, fs, sn, A, B, hd, tl, td, lo, hi, qc, qs, sa, hc, -⟩
  have hh := hc.room
  exact ⟨hr, by omega, by omega⟩
end law
