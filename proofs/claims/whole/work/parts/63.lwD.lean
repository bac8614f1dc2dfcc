/-! THE LAW, case by case: both are called with the same words of the script, and answer alike -/
section LWC
variable {p : Program} {l : Launch} {e : Env} {s : State} {m : MethodId} {below : List Frame} {meth : Method} {c : Code} {b : Nat} {D : va_G} {ca : Nat → ClassId} {ad : Nat → Nat} {L : Nat} {xs : Nat → Int32}
set_option maxHeartbeats 4000000 in
theorem lc_0 (X : tt_X tt_cl (lw_K p l e s m below meth c b D ca) code RL ret wsL_law) (hX : va_X b L xs s s.heap) (hbl : b < s.heap.size) (hb : ad 1000000 = b) (hL : L ≤ 3072) {i : Nat} (hi : i + 6 ≤ L) {h : tt_H} (hI : pp_Inv h) (kk : ∀ h2, pp_Inv h2 → tt_T tt_cl (lw_K p l e s m below meth c b D ca) ad 600000 7302250 1209 (lw_Lc i) [] h2) : tt_T tt_cl (lw_K p l e s m below meth c b D ca) ad 600000 7302250 168 (lw_Lc i) [] h := by
  obtain ⟨r, h1, h2, e1, e2, hI2, fs2, g2⟩ := E_cries hI (xs (i + 1)) (xs (i + 2)) (xs (i + 3)) (xs (i + 4))
  obtain ⟨fs1, g1⟩ := lw_obj hI
  refine tt_aload_n X dL_law_168 rfl ?_
  refine lw_arg (k := 1) (pc2 := 174) X hX hbl hb hL hi (by decide) dL_law_169 dL_law_170 dL_law_171 (by decide) dL_law_172 dL_law_173 rfl ?_
  refine lw_arg (k := 2) (pc2 := 179) X hX hbl hb hL hi (by decide) dL_law_174 dL_law_175 dL_law_176 (by decide) dL_law_177 dL_law_178 rfl ?_
  refine lw_arg (k := 3) (pc2 := 184) X hX hbl hb hL hi (by decide) dL_law_179 dL_law_180 dL_law_181 (by decide) dL_law_182 dL_law_183 rfl ?_
  refine lw_arg (k := 4) (pc2 := 189) X hX hbl hb hL hi (by decide) dL_law_184 dL_law_185 dL_law_186 (by decide) dL_law_187 dL_law_188 rfl ?_
  refine zr_callV X g1 rfl (c_X8_cries l e1) (fun hts => cwV 4 hts gL_law_X8_cries rfl rfl rfl (by decide +kernel) ⟨Nat.le_of_ble_eq_true rfl, Nat.le_of_ble_eq_true rfl⟩) rfl rfl (Nat.le_of_ble_eq_true rfl) dL_law_189 ⟨Nat.le_refl _, Nat.le_refl _⟩ ?_
  refine tt_aload_n X dL_law_192 rfl ?_
  refine lw_arg (k := 1) (pc2 := 198) X hX hbl hb hL hi (by decide) dL_law_193 dL_law_194 dL_law_195 (by decide) dL_law_196 dL_law_197 rfl ?_
  refine lw_arg (k := 2) (pc2 := 203) X hX hbl hb hL hi (by decide) dL_law_198 dL_law_199 dL_law_200 (by decide) dL_law_201 dL_law_202 rfl ?_
  refine lw_arg (k := 3) (pc2 := 208) X hX hbl hb hL hi (by decide) dL_law_203 dL_law_204 dL_law_205 (by decide) dL_law_206 dL_law_207 rfl ?_
  refine lw_arg (k := 4) (pc2 := 213) X hX hbl hb hL hi (by decide) dL_law_208 dL_law_209 dL_law_210 (by decide) dL_law_211 dL_law_212 rfl ?_
  refine zr_callV X g2 rfl (c_X9_cries l e2) (fun hts => cwV 4 hts gL_law_X9_cries rfl rfl rfl (by decide +kernel) ⟨Nat.le_of_ble_eq_true rfl, Nat.le_of_ble_eq_true rfl⟩) rfl rfl (Nat.le_of_ble_eq_true rfl) dL_law_213 ⟨Nat.le_refl _, Nat.le_refl _⟩ ?_
  exact tt_icmp_eq (tgt := 1209) X dL_law_216 (by decide) (fun _ => kk h2 hI2) (fun q => absurd rfl q)
set_option maxHeartbeats 4000000 in
theorem lc_1 (X : tt_X tt_cl (lw_K p l e s m below meth c b D ca) code RL ret wsL_law) (hX : va_X b L xs s s.heap) (hbl : b < s.heap.size) (hb : ad 1000000 = b) (hL : L ≤ 3072) {i : Nat} (hi : i + 6 ≤ L) {h : tt_H} (hI : pp_Inv h) (kk : ∀ h2, pp_Inv h2 → tt_T tt_cl (lw_K p l e s m below meth c b D ca) ad 600000 7302250 1209 (lw_Lc i) [] h2) : tt_T tt_cl (lw_K p l e s m below meth c b D ca) ad 600000 7302250 221 (lw_Lc i) [] h := by
  obtain ⟨r, h1, h2, e1, e2, hI2, fs2, g2⟩ := E_kind hI (xs (i + 1)) (xs (i + 2))
  obtain ⟨fs1, g1⟩ := lw_obj hI
  refine tt_aload_n X dL_law_221 rfl ?_
  refine lw_arg (k := 1) (pc2 := 227) X hX hbl hb hL hi (by decide) dL_law_222 dL_law_223 dL_law_224 (by decide) dL_law_225 dL_law_226 rfl ?_
  refine lw_arg (k := 2) (pc2 := 232) X hX hbl hb hL hi (by decide) dL_law_227 dL_law_228 dL_law_229 (by decide) dL_law_230 dL_law_231 rfl ?_
  refine zr_callV X g1 rfl (c_X8_kind l e1) (fun hts => cwV 2 hts gL_law_X8_kind rfl rfl rfl (by decide +kernel) ⟨Nat.le_of_ble_eq_true rfl, Nat.le_of_ble_eq_true rfl⟩) rfl rfl (Nat.le_of_ble_eq_true rfl) dL_law_232 ⟨Nat.le_refl _, Nat.le_refl _⟩ ?_
  refine tt_aload_n X dL_law_235 rfl ?_
  refine lw_arg (k := 1) (pc2 := 241) X hX hbl hb hL hi (by decide) dL_law_236 dL_law_237 dL_law_238 (by decide) dL_law_239 dL_law_240 rfl ?_
  refine lw_arg (k := 2) (pc2 := 246) X hX hbl hb hL hi (by decide) dL_law_241 dL_law_242 dL_law_243 (by decide) dL_law_244 dL_law_245 rfl ?_
  refine zr_callV X g2 rfl (c_X9_kind l e2) (fun hts => cwV 2 hts gL_law_X9_kind rfl rfl rfl (by decide +kernel) ⟨Nat.le_of_ble_eq_true rfl, Nat.le_of_ble_eq_true rfl⟩) rfl rfl (Nat.le_of_ble_eq_true rfl) dL_law_246 ⟨Nat.le_refl _, Nat.le_refl _⟩ ?_
  exact tt_icmp_eq (tgt := 1209) X dL_law_249 (by decide) (fun _ => kk h2 hI2) (fun q => absurd rfl q)
set_option maxHeartbeats 4000000 in
theorem lc_2 (X : tt_X tt_cl (lw_K p l e s m below meth c b D ca) code RL ret wsL_law) (hX : va_X b L xs s s.heap) (hbl : b < s.heap.size) (hb : ad 1000000 = b) (hL : L ≤ 3072) {i : Nat} (hi : i + 6 ≤ L) {h : tt_H} (hI : pp_Inv h) (kk : ∀ h2, pp_Inv h2 → tt_T tt_cl (lw_K p l e s m below meth c b D ca) ad 600000 7302250 1209 (lw_Lc i) [] h2) : tt_T tt_cl (lw_K p l e s m below meth c b D ca) ad 600000 7302250 254 (lw_Lc i) [] h := by
  obtain ⟨r, h1, h2, e1, e2, hI2, fs2, g2⟩ := E_ofDay hI (xs (i + 1)) (xs (i + 2))
  obtain ⟨fs1, g1⟩ := lw_obj hI
  refine tt_aload_n X dL_law_254 rfl ?_
  refine lw_arg (k := 1) (pc2 := 260) X hX hbl hb hL hi (by decide) dL_law_255 dL_law_256 dL_law_257 (by decide) dL_law_258 dL_law_259 rfl ?_
  refine lw_arg (k := 2) (pc2 := 265) X hX hbl hb hL hi (by decide) dL_law_260 dL_law_261 dL_law_262 (by decide) dL_law_263 dL_law_264 rfl ?_
  refine zr_callV X g1 rfl (c_X8_ofDay l e1) (fun hts => cwV 2 hts gL_law_X8_ofDay rfl rfl rfl (by decide +kernel) ⟨Nat.le_of_ble_eq_true rfl, Nat.le_of_ble_eq_true rfl⟩) rfl rfl (Nat.le_of_ble_eq_true rfl) dL_law_265 ⟨Nat.le_refl _, Nat.le_refl _⟩ ?_
  refine tt_aload_n X dL_law_268 rfl ?_
  refine lw_arg (k := 1) (pc2 := 274) X hX hbl hb hL hi (by decide) dL_law_269 dL_law_270 dL_law_271 (by decide) dL_law_272 dL_law_273 rfl ?_
  refine lw_arg (k := 2) (pc2 := 279) X hX hbl hb hL hi (by decide) dL_law_274 dL_law_275 dL_law_276 (by decide) dL_law_277 dL_law_278 rfl ?_
  refine zr_callV X g2 rfl (c_X9_ofDay l e2) (fun hts => cwV 2 hts gL_law_X9_ofDay rfl rfl rfl (by decide +kernel) ⟨Nat.le_of_ble_eq_true rfl, Nat.le_of_ble_eq_true rfl⟩) rfl rfl (Nat.le_of_ble_eq_true rfl) dL_law_279 ⟨Nat.le_refl _, Nat.le_refl _⟩ ?_
  exact tt_icmp_eq (tgt := 1209) X dL_law_282 (by decide) (fun _ => kk h2 hI2) (fun q => absurd rfl q)
set_option maxHeartbeats 4000000 in
theorem lc_3 (X : tt_X tt_cl (lw_K p l e s m below meth c b D ca) code RL ret wsL_law) (hX : va_X b L xs s s.heap) (hbl : b < s.heap.size) (hb : ad 1000000 = b) (hL : L ≤ 3072) {i : Nat} (hi : i + 6 ≤ L) {h : tt_H} (hI : pp_Inv h) (kk : ∀ h2, pp_Inv h2 → tt_T tt_cl (lw_K p l e s m below meth c b D ca) ad 600000 7302250 1209 (lw_Lc i) [] h2) : tt_T tt_cl (lw_K p l e s m below meth c b D ca) ad 600000 7302250 287 (lw_Lc i) [] h := by
  obtain ⟨r, h1, h2, e1, e2, hI2, fs2, g2⟩ := E_add hI (xs (i + 1)) (xs (i + 2))
  obtain ⟨fs1, g1⟩ := lw_obj hI
  refine tt_aload_n X dL_law_287 rfl ?_
  refine lw_arg (k := 1) (pc2 := 293) X hX hbl hb hL hi (by decide) dL_law_288 dL_law_289 dL_law_290 (by decide) dL_law_291 dL_law_292 rfl ?_
  refine lw_arg (k := 2) (pc2 := 298) X hX hbl hb hL hi (by decide) dL_law_293 dL_law_294 dL_law_295 (by decide) dL_law_296 dL_law_297 rfl ?_
  refine zr_callV X g1 rfl (c_X8_add l e1) (fun hts => cwV 2 hts gL_law_X8_add rfl rfl rfl (by decide +kernel) ⟨Nat.le_of_ble_eq_true rfl, Nat.le_of_ble_eq_true rfl⟩) rfl rfl (Nat.le_of_ble_eq_true rfl) dL_law_298 ⟨Nat.le_refl _, Nat.le_refl _⟩ ?_
  refine tt_aload_n X dL_law_301 rfl ?_
  refine lw_arg (k := 1) (pc2 := 307) X hX hbl hb hL hi (by decide) dL_law_302 dL_law_303 dL_law_304 (by decide) dL_law_305 dL_law_306 rfl ?_
  refine lw_arg (k := 2) (pc2 := 312) X hX hbl hb hL hi (by decide) dL_law_307 dL_law_308 dL_law_309 (by decide) dL_law_310 dL_law_311 rfl ?_
  refine zr_callV X g2 rfl (c_X9_add l e2) (fun hts => cwV 2 hts gL_law_X9_add rfl rfl rfl (by decide +kernel) ⟨Nat.le_of_ble_eq_true rfl, Nat.le_of_ble_eq_true rfl⟩) rfl rfl (Nat.le_of_ble_eq_true rfl) dL_law_312 ⟨Nat.le_refl _, Nat.le_refl _⟩ ?_
  exact tt_icmp_eq (tgt := 1209) X dL_law_315 (by decide) (fun _ => kk h2 hI2) (fun q => absurd rfl q)
set_option maxHeartbeats 4000000 in
theorem lc_4 (X : tt_X tt_cl (lw_K p l e s m below meth c b D ca) code RL ret wsL_law) (hX : va_X b L xs s s.heap) (hbl : b < s.heap.size) (hb : ad 1000000 = b) (hL : L ≤ 3072) {i : Nat} (hi : i + 6 ≤ L) {h : tt_H} (hI : pp_Inv h) (kk : ∀ h2, pp_Inv h2 → tt_T tt_cl (lw_K p l e s m below meth c b D ca) ad 600000 7302250 1209 (lw_Lc i) [] h2) : tt_T tt_cl (lw_K p l e s m below meth c b D ca) ad 600000 7302250 320 (lw_Lc i) [] h := by
  obtain ⟨r, h1, h2, e1, e2, hI2, fs2, g2⟩ := E_within hI (xs (i + 1)) (xs (i + 2))
  obtain ⟨fs1, g1⟩ := lw_obj hI
  refine tt_aload_n X dL_law_320 rfl ?_
  refine lw_arg (k := 1) (pc2 := 326) X hX hbl hb hL hi (by decide) dL_law_321 dL_law_322 dL_law_323 (by decide) dL_law_324 dL_law_325 rfl ?_
  refine lw_arg (k := 2) (pc2 := 331) X hX hbl hb hL hi (by decide) dL_law_326 dL_law_327 dL_law_328 (by decide) dL_law_329 dL_law_330 rfl ?_
  refine zr_callV X g1 rfl (c_X8_within l e1) (fun hts => cwV 2 hts gL_law_X8_within rfl rfl rfl (by decide +kernel) ⟨Nat.le_of_ble_eq_true rfl, Nat.le_of_ble_eq_true rfl⟩) rfl rfl (Nat.le_of_ble_eq_true rfl) dL_law_331 ⟨Nat.le_refl _, Nat.le_refl _⟩ ?_
  refine tt_aload_n X dL_law_334 rfl ?_
  refine lw_arg (k := 1) (pc2 := 340) X hX hbl hb hL hi (by decide) dL_law_335 dL_law_336 dL_law_337 (by decide) dL_law_338 dL_law_339 rfl ?_
  refine lw_arg (k := 2) (pc2 := 345) X hX hbl hb hL hi (by decide) dL_law_340 dL_law_341 dL_law_342 (by decide) dL_law_343 dL_law_344 rfl ?_
  refine zr_callV X g2 rfl (c_X9_within l e2) (fun hts => cwV 2 hts gL_law_X9_within rfl rfl rfl (by decide +kernel) ⟨Nat.le_of_ble_eq_true rfl, Nat.le_of_ble_eq_true rfl⟩) rfl rfl (Nat.le_of_ble_eq_true rfl) dL_law_345 ⟨Nat.le_refl _, Nat.le_refl _⟩ ?_
  exact tt_icmp_eq (tgt := 1209) X dL_law_348 (by decide) (fun _ => kk h2 hI2) (fun q => absurd rfl q)
set_option maxHeartbeats 4000000 in
theorem lc_5 (X : tt_X tt_cl (lw_K p l e s m below meth c b D ca) code RL ret wsL_law) (hX : va_X b L xs s s.heap) (hbl : b < s.heap.size) (hb : ad 1000000 = b) (hL : L ≤ 3072) {i : Nat} (hi : i + 6 ≤ L) {h : tt_H} (hI : pp_Inv h) (kk : ∀ h2, pp_Inv h2 → tt_T tt_cl (lw_K p l e s m below meth c b D ca) ad 600000 7302250 1209 (lw_Lc i) [] h2) : tt_T tt_cl (lw_K p l e s m below meth c b D ca) ad 600000 7302250 353 (lw_Lc i) [] h := by
  obtain ⟨r, h1, h2, e1, e2, hI2, fs2, g2⟩ := E_leftOut hI
  obtain ⟨fs1, g1⟩ := lw_obj hI
  refine tt_aload_n X dL_law_353 rfl ?_
  refine zr_callV X g1 rfl (c_X8_leftOut l e1) (fun hts => cwV 0 hts gL_law_X8_leftOut rfl rfl rfl (by decide +kernel) ⟨Nat.le_of_ble_eq_true rfl, Nat.le_of_ble_eq_true rfl⟩) rfl rfl (Nat.le_of_ble_eq_true rfl) dL_law_354 ⟨Nat.le_refl _, Nat.le_refl _⟩ ?_
  refine tt_aload_n X dL_law_357 rfl ?_
  refine zr_callV X g2 rfl (c_X9_leftOut l e2) (fun hts => cwV 0 hts gL_law_X9_leftOut rfl rfl rfl (by decide +kernel) ⟨Nat.le_of_ble_eq_true rfl, Nat.le_of_ble_eq_true rfl⟩) rfl rfl (Nat.le_of_ble_eq_true rfl) dL_law_358 ⟨Nat.le_refl _, Nat.le_refl _⟩ ?_
  exact tt_icmp_eq (tgt := 1209) X dL_law_361 (by decide) (fun _ => kk h2 hI2) (fun q => absurd rfl q)
set_option maxHeartbeats 4000000 in
theorem lc_6 (X : tt_X tt_cl (lw_K p l e s m below meth c b D ca) code RL ret wsL_law) (hX : va_X b L xs s s.heap) (hbl : b < s.heap.size) (hb : ad 1000000 = b) (hL : L ≤ 3072) {i : Nat} (hi : i + 6 ≤ L) {h : tt_H} (hI : pp_Inv h) (kk : ∀ h2, pp_Inv h2 → tt_T tt_cl (lw_K p l e s m below meth c b D ca) ad 600000 7302250 1209 (lw_Lc i) [] h2) : tt_T tt_cl (lw_K p l e s m below meth c b D ca) ad 600000 7302250 366 (lw_Lc i) [] h := by
  obtain ⟨r, h1, h2, e1, e2, hI2, fs2, g2⟩ := E_said hI (xs (i + 1))
  obtain ⟨fs1, g1⟩ := lw_obj hI
  refine tt_aload_n X dL_law_366 rfl ?_
  refine lw_arg (k := 1) (pc2 := 372) X hX hbl hb hL hi (by decide) dL_law_367 dL_law_368 dL_law_369 (by decide) dL_law_370 dL_law_371 rfl ?_
  refine zr_callV X g1 rfl (c_X8_said l e1) (fun hts => cwV 1 hts gL_law_X8_said rfl rfl rfl (by decide +kernel) ⟨Nat.le_of_ble_eq_true rfl, Nat.le_of_ble_eq_true rfl⟩) rfl rfl (Nat.le_of_ble_eq_true rfl) dL_law_372 ⟨Nat.le_refl _, Nat.le_refl _⟩ ?_
  refine tt_aload_n X dL_law_375 rfl ?_
  refine lw_arg (k := 1) (pc2 := 381) X hX hbl hb hL hi (by decide) dL_law_376 dL_law_377 dL_law_378 (by decide) dL_law_379 dL_law_380 rfl ?_
  refine zr_callV X g2 rfl (c_X9_said l e2) (fun hts => cwV 1 hts gL_law_X9_said rfl rfl rfl (by decide +kernel) ⟨Nat.le_of_ble_eq_true rfl, Nat.le_of_ble_eq_true rfl⟩) rfl rfl (Nat.le_of_ble_eq_true rfl) dL_law_381 ⟨Nat.le_refl _, Nat.le_refl _⟩ ?_
  exact tt_icmp_eq (tgt := 1209) X dL_law_384 (by decide) (fun _ => kk h2 hI2) (fun q => absurd rfl q)
set_option maxHeartbeats 4000000 in
theorem lc_7 (X : tt_X tt_cl (lw_K p l e s m below meth c b D ca) code RL ret wsL_law) (hX : va_X b L xs s s.heap) (hbl : b < s.heap.size) (hb : ad 1000000 = b) (hL : L ≤ 3072) {i : Nat} (hi : i + 6 ≤ L) {h : tt_H} (hI : pp_Inv h) (kk : ∀ h2, pp_Inv h2 → tt_T tt_cl (lw_K p l e s m below meth c b D ca) ad 600000 7302250 1209 (lw_Lc i) [] h2) : tt_T tt_cl (lw_K p l e s m below meth c b D ca) ad 600000 7302250 389 (lw_Lc i) [] h := by
  obtain ⟨r, h1, h2, e1, e2, hI2, fs2, g2⟩ := E_putIn hI (xs (i + 1)) (xs (i + 2)) (decide (xs (i + 3) ≠ 0)) (xs (i + 4))
  obtain ⟨fs1, g1⟩ := lw_obj hI
  refine tt_aload_n X dL_law_389 rfl ?_
  refine lw_arg (k := 1) (pc2 := 395) X hX hbl hb hL hi (by decide) dL_law_390 dL_law_391 dL_law_392 (by decide) dL_law_393 dL_law_394 rfl ?_
  refine lw_arg (k := 2) (pc2 := 400) X hX hbl hb hL hi (by decide) dL_law_395 dL_law_396 dL_law_397 (by decide) dL_law_398 dL_law_399 rfl ?_
  refine lw_arg (k := 3) (pc2 := 405) X hX hbl hb hL hi (by decide) dL_law_400 dL_law_401 dL_law_402 (by decide) dL_law_403 dL_law_404 rfl ?_
  refine lw_bool (pc1 := 412) (pc2 := 413) X dL_law_405 (by decide) dL_law_408 dL_law_409 (by decide) dL_law_412 rfl ?_
  refine lw_arg (k := 4) (pc2 := 418) X hX hbl hb hL hi (by decide) dL_law_413 dL_law_414 dL_law_415 (by decide) dL_law_416 dL_law_417 rfl ?_
  refine zr_callV X g1 rfl (c_X8_putIn l e1) (fun hts => cwV 4 hts gL_law_X8_putIn rfl rfl rfl (by decide +kernel) ⟨Nat.le_of_ble_eq_true rfl, Nat.le_of_ble_eq_true rfl⟩) rfl rfl (Nat.le_of_ble_eq_true rfl) dL_law_418 ⟨Nat.le_refl _, Nat.le_refl _⟩ ?_
  refine tt_aload_n X dL_law_421 rfl ?_
  refine lw_arg (k := 1) (pc2 := 427) X hX hbl hb hL hi (by decide) dL_law_422 dL_law_423 dL_law_424 (by decide) dL_law_425 dL_law_426 rfl ?_
  refine lw_arg (k := 2) (pc2 := 432) X hX hbl hb hL hi (by decide) dL_law_427 dL_law_428 dL_law_429 (by decide) dL_law_430 dL_law_431 rfl ?_
  refine lw_arg (k := 3) (pc2 := 437) X hX hbl hb hL hi (by decide) dL_law_432 dL_law_433 dL_law_434 (by decide) dL_law_435 dL_law_436 rfl ?_
  refine lw_bool (pc1 := 444) (pc2 := 445) X dL_law_437 (by decide) dL_law_440 dL_law_441 (by decide) dL_law_444 rfl ?_
  refine lw_arg (k := 4) (pc2 := 450) X hX hbl hb hL hi (by decide) dL_law_445 dL_law_446 dL_law_447 (by decide) dL_law_448 dL_law_449 rfl ?_
  refine zr_callV X g2 rfl (c_X9_putIn l e2) (fun hts => cwV 4 hts gL_law_X9_putIn rfl rfl rfl (by decide +kernel) ⟨Nat.le_of_ble_eq_true rfl, Nat.le_of_ble_eq_true rfl⟩) rfl rfl (Nat.le_of_ble_eq_true rfl) dL_law_450 ⟨Nat.le_refl _, Nat.le_refl _⟩ ?_
  exact tt_icmp_eq (tgt := 1209) X dL_law_453 (by decide) (fun _ => kk h2 hI2) (fun q => absurd rfl q)
set_option maxHeartbeats 4000000 in
theorem lc_8 (X : tt_X tt_cl (lw_K p l e s m below meth c b D ca) code RL ret wsL_law) (hX : va_X b L xs s s.heap) (hbl : b < s.heap.size) (hb : ad 1000000 = b) (hL : L ≤ 3072) {i : Nat} (hi : i + 6 ≤ L) {h : tt_H} (hI : pp_Inv h) (kk : ∀ h2, pp_Inv h2 → tt_T tt_cl (lw_K p l e s m below meth c b D ca) ad 600000 7302250 1209 (lw_Lc i) [] h2) : tt_T tt_cl (lw_K p l e s m below meth c b D ca) ad 600000 7302250 458 (lw_Lc i) [] h := by
  obtain ⟨r, h1, h2, e1, e2, hI2, fs2, g2⟩ := E_ways hI (xs (i + 1)) (xs (i + 2))
  obtain ⟨fs1, g1⟩ := lw_obj hI
  refine tt_aload_n X dL_law_458 rfl ?_
  refine lw_arg (k := 1) (pc2 := 464) X hX hbl hb hL hi (by decide) dL_law_459 dL_law_460 dL_law_461 (by decide) dL_law_462 dL_law_463 rfl ?_
  refine lw_arg (k := 2) (pc2 := 469) X hX hbl hb hL hi (by decide) dL_law_464 dL_law_465 dL_law_466 (by decide) dL_law_467 dL_law_468 rfl ?_
  refine zr_callV X g1 rfl (c_X8_ways l e1) (fun hts => cwV 2 hts gL_law_X8_ways rfl rfl rfl (by decide +kernel) ⟨Nat.le_of_ble_eq_true rfl, Nat.le_of_ble_eq_true rfl⟩) rfl rfl (Nat.le_of_ble_eq_true rfl) dL_law_469 ⟨Nat.le_refl _, Nat.le_refl _⟩ ?_
  refine tt_aload_n X dL_law_472 rfl ?_
  refine lw_arg (k := 1) (pc2 := 478) X hX hbl hb hL hi (by decide) dL_law_473 dL_law_474 dL_law_475 (by decide) dL_law_476 dL_law_477 rfl ?_
  refine lw_arg (k := 2) (pc2 := 483) X hX hbl hb hL hi (by decide) dL_law_478 dL_law_479 dL_law_480 (by decide) dL_law_481 dL_law_482 rfl ?_
  refine zr_callV X g2 rfl (c_X9_ways l e2) (fun hts => cwV 2 hts gL_law_X9_ways rfl rfl rfl (by decide +kernel) ⟨Nat.le_of_ble_eq_true rfl, Nat.le_of_ble_eq_true rfl⟩) rfl rfl (Nat.le_of_ble_eq_true rfl) dL_law_483 ⟨Nat.le_refl _, Nat.le_refl _⟩ ?_
  refine tt_lcmp X dL_law_486 ?_
  exact tt_if_eq (tgt := 1209) X dL_law_487 (by decide) (fun _ => kk h2 hI2) (fun q => absurd ((lg_cmp_eq r r).mpr rfl) q)
set_option maxHeartbeats 4000000 in
theorem lc_9 (X : tt_X tt_cl (lw_K p l e s m below meth c b D ca) code RL ret wsL_law) (hX : va_X b L xs s s.heap) (hbl : b < s.heap.size) (hb : ad 1000000 = b) (hL : L ≤ 3072) {i : Nat} (hi : i + 6 ≤ L) {h : tt_H} (hI : pp_Inv h) (kk : ∀ h2, pp_Inv h2 → tt_T tt_cl (lw_K p l e s m below meth c b D ca) ad 600000 7302250 1209 (lw_Lc i) [] h2) : tt_T tt_cl (lw_K p l e s m below meth c b D ca) ad 600000 7302250 492 (lw_Lc i) [] h := by
  obtain ⟨r, h1, h2, e1, e2, hI2, fs2, g2⟩ := E_place hI (xs (i + 1)) (xs (i + 2)) (xs (i + 3)) (xs (i + 4))
  obtain ⟨fs1, g1⟩ := lw_obj hI
  refine tt_aload_n X dL_law_492 rfl ?_
  refine lw_arg (k := 1) (pc2 := 498) X hX hbl hb hL hi (by decide) dL_law_493 dL_law_494 dL_law_495 (by decide) dL_law_496 dL_law_497 rfl ?_
  refine lw_arg (k := 2) (pc2 := 503) X hX hbl hb hL hi (by decide) dL_law_498 dL_law_499 dL_law_500 (by decide) dL_law_501 dL_law_502 rfl ?_
  refine lw_arg (k := 3) (pc2 := 508) X hX hbl hb hL hi (by decide) dL_law_503 dL_law_504 dL_law_505 (by decide) dL_law_506 dL_law_507 rfl ?_
  refine lw_arg (k := 4) (pc2 := 513) X hX hbl hb hL hi (by decide) dL_law_508 dL_law_509 dL_law_510 (by decide) dL_law_511 dL_law_512 rfl ?_
  refine zr_callV X g1 rfl (c_X8_place l e1) (fun hts => cwV 4 hts gL_law_X8_place rfl rfl rfl (by decide +kernel) ⟨Nat.le_of_ble_eq_true rfl, Nat.le_of_ble_eq_true rfl⟩) rfl rfl (Nat.le_of_ble_eq_true rfl) dL_law_513 ⟨Nat.le_refl _, Nat.le_refl _⟩ ?_
  refine tt_aload_n X dL_law_516 rfl ?_
  refine lw_arg (k := 1) (pc2 := 522) X hX hbl hb hL hi (by decide) dL_law_517 dL_law_518 dL_law_519 (by decide) dL_law_520 dL_law_521 rfl ?_
  refine lw_arg (k := 2) (pc2 := 527) X hX hbl hb hL hi (by decide) dL_law_522 dL_law_523 dL_law_524 (by decide) dL_law_525 dL_law_526 rfl ?_
  refine lw_arg (k := 3) (pc2 := 532) X hX hbl hb hL hi (by decide) dL_law_527 dL_law_528 dL_law_529 (by decide) dL_law_530 dL_law_531 rfl ?_
  refine lw_arg (k := 4) (pc2 := 537) X hX hbl hb hL hi (by decide) dL_law_532 dL_law_533 dL_law_534 (by decide) dL_law_535 dL_law_536 rfl ?_
  refine zr_callV X g2 rfl (c_X9_place l e2) (fun hts => cwV 4 hts gL_law_X9_place rfl rfl rfl (by decide +kernel) ⟨Nat.le_of_ble_eq_true rfl, Nat.le_of_ble_eq_true rfl⟩) rfl rfl (Nat.le_of_ble_eq_true rfl) dL_law_537 ⟨Nat.le_refl _, Nat.le_refl _⟩ ?_
  exact tt_icmp_eq (tgt := 1209) X dL_law_540 (by decide) (fun _ => kk h2 hI2) (fun q => absurd rfl q)
set_option maxHeartbeats 4000000 in
theorem lc_10 (X : tt_X tt_cl (lw_K p l e s m below meth c b D ca) code RL ret wsL_law) (hX : va_X b L xs s s.heap) (hbl : b < s.heap.size) (hb : ad 1000000 = b) (hL : L ≤ 3072) {i : Nat} (hi : i + 6 ≤ L) {h : tt_H} (hI : pp_Inv h) (kk : ∀ h2, pp_Inv h2 → tt_T tt_cl (lw_K p l e s m below meth c b D ca) ad 600000 7302250 1209 (lw_Lc i) [] h2) : tt_T tt_cl (lw_K p l e s m below meth c b D ca) ad 600000 7302250 545 (lw_Lc i) [] h := by
  obtain ⟨r, h1, h2, e1, e2, hI2, fs2, g2⟩ := E_mayBe hI (xs (i + 1))
  obtain ⟨fs1, g1⟩ := lw_obj hI
  refine tt_aload_n X dL_law_545 rfl ?_
  refine lw_arg (k := 1) (pc2 := 551) X hX hbl hb hL hi (by decide) dL_law_546 dL_law_547 dL_law_548 (by decide) dL_law_549 dL_law_550 rfl ?_
  refine zr_callV X g1 rfl (c_X8_mayBe l e1) (fun hts => cwV 1 hts gL_law_X8_mayBe rfl rfl rfl (by decide +kernel) ⟨Nat.le_of_ble_eq_true rfl, Nat.le_of_ble_eq_true rfl⟩) rfl rfl (Nat.le_of_ble_eq_true rfl) dL_law_551 ⟨Nat.le_refl _, Nat.le_refl _⟩ ?_
  refine tt_aload_n X dL_law_554 rfl ?_
  refine lw_arg (k := 1) (pc2 := 560) X hX hbl hb hL hi (by decide) dL_law_555 dL_law_556 dL_law_557 (by decide) dL_law_558 dL_law_559 rfl ?_
  refine zr_callV X g2 rfl (c_X9_mayBe l e2) (fun hts => cwV 1 hts gL_law_X9_mayBe rfl rfl rfl (by decide +kernel) ⟨Nat.le_of_ble_eq_true rfl, Nat.le_of_ble_eq_true rfl⟩) rfl rfl (Nat.le_of_ble_eq_true rfl) dL_law_560 ⟨Nat.le_refl _, Nat.le_refl _⟩ ?_
  exact tt_icmp_eq (tgt := 1209) X dL_law_563 (by decide) (fun _ => kk h2 hI2) (fun q => absurd rfl q)
set_option maxHeartbeats 4000000 in
theorem lc_11 (X : tt_X tt_cl (lw_K p l e s m below meth c b D ca) code RL ret wsL_law) (hX : va_X b L xs s s.heap) (hbl : b < s.heap.size) (hb : ad 1000000 = b) (hL : L ≤ 3072) {i : Nat} (hi : i + 6 ≤ L) {h : tt_H} (hI : pp_Inv h) (kk : ∀ h2, pp_Inv h2 → tt_T tt_cl (lw_K p l e s m below meth c b D ca) ad 600000 7302250 1209 (lw_Lc i) [] h2) : tt_T tt_cl (lw_K p l e s m below meth c b D ca) ad 600000 7302250 568 (lw_Lc i) [] h := by
  obtain ⟨r, h1, h2, e1, e2, hI2, fs2, g2⟩ := E_both hI (xs (i + 1)) (xs (i + 2)) (xs (i + 3))
  obtain ⟨fs1, g1⟩ := lw_obj hI
  refine tt_aload_n X dL_law_568 rfl ?_
  refine lw_arg (k := 1) (pc2 := 574) X hX hbl hb hL hi (by decide) dL_law_569 dL_law_570 dL_law_571 (by decide) dL_law_572 dL_law_573 rfl ?_
  refine lw_arg (k := 2) (pc2 := 579) X hX hbl hb hL hi (by decide) dL_law_574 dL_law_575 dL_law_576 (by decide) dL_law_577 dL_law_578 rfl ?_
  refine lw_arg (k := 3) (pc2 := 584) X hX hbl hb hL hi (by decide) dL_law_579 dL_law_580 dL_law_581 (by decide) dL_law_582 dL_law_583 rfl ?_
  refine zr_callV X g1 rfl (c_X8_both l e1) (fun hts => cwV 3 hts gL_law_X8_both rfl rfl rfl (by decide +kernel) ⟨Nat.le_of_ble_eq_true rfl, Nat.le_of_ble_eq_true rfl⟩) rfl rfl (Nat.le_of_ble_eq_true rfl) dL_law_584 ⟨Nat.le_refl _, Nat.le_refl _⟩ ?_
  refine tt_aload_n X dL_law_587 rfl ?_
  refine lw_arg (k := 1) (pc2 := 593) X hX hbl hb hL hi (by decide) dL_law_588 dL_law_589 dL_law_590 (by decide) dL_law_591 dL_law_592 rfl ?_
  refine lw_arg (k := 2) (pc2 := 598) X hX hbl hb hL hi (by decide) dL_law_593 dL_law_594 dL_law_595 (by decide) dL_law_596 dL_law_597 rfl ?_
  refine lw_arg (k := 3) (pc2 := 603) X hX hbl hb hL hi (by decide) dL_law_598 dL_law_599 dL_law_600 (by decide) dL_law_601 dL_law_602 rfl ?_
  refine zr_callV X g2 rfl (c_X9_both l e2) (fun hts => cwV 3 hts gL_law_X9_both rfl rfl rfl (by decide +kernel) ⟨Nat.le_of_ble_eq_true rfl, Nat.le_of_ble_eq_true rfl⟩) rfl rfl (Nat.le_of_ble_eq_true rfl) dL_law_603 ⟨Nat.le_refl _, Nat.le_refl _⟩ ?_
  exact tt_icmp_eq (tgt := 1209) X dL_law_606 (by decide) (fun _ => kk h2 hI2) (fun q => absurd rfl q)
set_option maxHeartbeats 4000000 in
theorem lc_12 (X : tt_X tt_cl (lw_K p l e s m below meth c b D ca) code RL ret wsL_law) (hX : va_X b L xs s s.heap) (hbl : b < s.heap.size) (hb : ad 1000000 = b) (hL : L ≤ 3072) {i : Nat} (hi : i + 6 ≤ L) {h : tt_H} (hI : pp_Inv h) (kk : ∀ h2, pp_Inv h2 → tt_T tt_cl (lw_K p l e s m below meth c b D ca) ad 600000 7302250 1209 (lw_Lc i) [] h2) : tt_T tt_cl (lw_K p l e s m below meth c b D ca) ad 600000 7302250 611 (lw_Lc i) [] h := by
  obtain ⟨r, h1, h2, e1, e2, hI2, fs2, g2⟩ := E_shortest hI (xs (i + 1)) (xs (i + 2)) (xs (i + 3))
  obtain ⟨fs1, g1⟩ := lw_obj hI
  refine tt_aload_n X dL_law_611 rfl ?_
  refine lw_arg (k := 1) (pc2 := 617) X hX hbl hb hL hi (by decide) dL_law_612 dL_law_613 dL_law_614 (by decide) dL_law_615 dL_law_616 rfl ?_
  refine lw_arg (k := 2) (pc2 := 622) X hX hbl hb hL hi (by decide) dL_law_617 dL_law_618 dL_law_619 (by decide) dL_law_620 dL_law_621 rfl ?_
  refine lw_arg (k := 3) (pc2 := 627) X hX hbl hb hL hi (by decide) dL_law_622 dL_law_623 dL_law_624 (by decide) dL_law_625 dL_law_626 rfl ?_
  refine zr_callV X g1 rfl (c_X8_shortest l e1) (fun hts => cwV 3 hts gL_law_X8_shortest rfl rfl rfl (by decide +kernel) ⟨Nat.le_of_ble_eq_true rfl, Nat.le_of_ble_eq_true rfl⟩) rfl rfl (Nat.le_of_ble_eq_true rfl) dL_law_627 ⟨Nat.le_refl _, Nat.le_refl _⟩ ?_
  refine tt_aload_n X dL_law_630 rfl ?_
  refine lw_arg (k := 1) (pc2 := 636) X hX hbl hb hL hi (by decide) dL_law_631 dL_law_632 dL_law_633 (by decide) dL_law_634 dL_law_635 rfl ?_
  refine lw_arg (k := 2) (pc2 := 641) X hX hbl hb hL hi (by decide) dL_law_636 dL_law_637 dL_law_638 (by decide) dL_law_639 dL_law_640 rfl ?_
  refine lw_arg (k := 3) (pc2 := 646) X hX hbl hb hL hi (by decide) dL_law_641 dL_law_642 dL_law_643 (by decide) dL_law_644 dL_law_645 rfl ?_
  refine zr_callV X g2 rfl (c_X9_shortest l e2) (fun hts => cwV 3 hts gL_law_X9_shortest rfl rfl rfl (by decide +kernel) ⟨Nat.le_of_ble_eq_true rfl, Nat.le_of_ble_eq_true rfl⟩) rfl rfl (Nat.le_of_ble_eq_true rfl) dL_law_646 ⟨Nat.le_refl _, Nat.le_refl _⟩ ?_
  refine tt_lcmp X dL_law_649 ?_
  exact tt_if_eq (tgt := 1209) X dL_law_650 (by decide) (fun _ => kk h2 hI2) (fun q => absurd ((lg_cmp_eq r r).mpr rfl) q)
set_option maxHeartbeats 4000000 in
theorem lc_13 (X : tt_X tt_cl (lw_K p l e s m below meth c b D ca) code RL ret wsL_law) (hX : va_X b L xs s s.heap) (hbl : b < s.heap.size) (hb : ad 1000000 = b) (hL : L ≤ 3072) {i : Nat} (hi : i + 6 ≤ L) {h : tt_H} (hI : pp_Inv h) (kk : ∀ h2, pp_Inv h2 → tt_T tt_cl (lw_K p l e s m below meth c b D ca) ad 600000 7302250 1209 (lw_Lc i) [] h2) : tt_T tt_cl (lw_K p l e s m below meth c b D ca) ad 600000 7302250 655 (lw_Lc i) [] h := by
  obtain ⟨r, h1, h2, e1, e2, hI2, fs2, g2⟩ := E_three hI (xs (i + 1)) (xs (i + 2)) (xs (i + 3))
  obtain ⟨fs1, g1⟩ := lw_obj hI
  refine tt_aload_n X dL_law_655 rfl ?_
  refine lw_arg (k := 1) (pc2 := 661) X hX hbl hb hL hi (by decide) dL_law_656 dL_law_657 dL_law_658 (by decide) dL_law_659 dL_law_660 rfl ?_
  refine lw_arg (k := 2) (pc2 := 666) X hX hbl hb hL hi (by decide) dL_law_661 dL_law_662 dL_law_663 (by decide) dL_law_664 dL_law_665 rfl ?_
  refine lw_arg (k := 3) (pc2 := 671) X hX hbl hb hL hi (by decide) dL_law_666 dL_law_667 dL_law_668 (by decide) dL_law_669 dL_law_670 rfl ?_
  refine zr_callV X g1 rfl (c_X8_three l e1) (fun hts => cwV 3 hts gL_law_X8_three rfl rfl rfl (by decide +kernel) ⟨Nat.le_of_ble_eq_true rfl, Nat.le_of_ble_eq_true rfl⟩) rfl rfl (Nat.le_of_ble_eq_true rfl) dL_law_671 ⟨Nat.le_refl _, Nat.le_refl _⟩ ?_
  refine tt_aload_n X dL_law_674 rfl ?_
  refine lw_arg (k := 1) (pc2 := 680) X hX hbl hb hL hi (by decide) dL_law_675 dL_law_676 dL_law_677 (by decide) dL_law_678 dL_law_679 rfl ?_
  refine lw_arg (k := 2) (pc2 := 685) X hX hbl hb hL hi (by decide) dL_law_680 dL_law_681 dL_law_682 (by decide) dL_law_683 dL_law_684 rfl ?_
  refine lw_arg (k := 3) (pc2 := 690) X hX hbl hb hL hi (by decide) dL_law_685 dL_law_686 dL_law_687 (by decide) dL_law_688 dL_law_689 rfl ?_
  refine zr_callV X g2 rfl (c_X9_three l e2) (fun hts => cwV 3 hts gL_law_X9_three rfl rfl rfl (by decide +kernel) ⟨Nat.le_of_ble_eq_true rfl, Nat.le_of_ble_eq_true rfl⟩) rfl rfl (Nat.le_of_ble_eq_true rfl) dL_law_690 ⟨Nat.le_refl _, Nat.le_refl _⟩ ?_
  exact tt_icmp_eq (tgt := 1209) X dL_law_693 (by decide) (fun _ => kk h2 hI2) (fun q => absurd rfl q)
set_option maxHeartbeats 4000000 in
theorem lc_14 (X : tt_X tt_cl (lw_K p l e s m below meth c b D ca) code RL ret wsL_law) (hX : va_X b L xs s s.heap) (hbl : b < s.heap.size) (hb : ad 1000000 = b) (hL : L ≤ 3072) {i : Nat} (hi : i + 6 ≤ L) {h : tt_H} (hI : pp_Inv h) (kk : ∀ h2, pp_Inv h2 → tt_T tt_cl (lw_K p l e s m below meth c b D ca) ad 600000 7302250 1209 (lw_Lc i) [] h2) : tt_T tt_cl (lw_K p l e s m below meth c b D ca) ad 600000 7302250 698 (lw_Lc i) [] h := by
  obtain ⟨r, h1, h2, e1, e2, hI2, fs2, g2⟩ := E_lostDay hI (xs (i + 1)) (xs (i + 2)) (xs (i + 3))
  obtain ⟨fs1, g1⟩ := lw_obj hI
  refine tt_aload_n X dL_law_698 rfl ?_
  refine lw_arg (k := 1) (pc2 := 704) X hX hbl hb hL hi (by decide) dL_law_699 dL_law_700 dL_law_701 (by decide) dL_law_702 dL_law_703 rfl ?_
  refine lw_arg (k := 2) (pc2 := 709) X hX hbl hb hL hi (by decide) dL_law_704 dL_law_705 dL_law_706 (by decide) dL_law_707 dL_law_708 rfl ?_
  refine lw_arg (k := 3) (pc2 := 714) X hX hbl hb hL hi (by decide) dL_law_709 dL_law_710 dL_law_711 (by decide) dL_law_712 dL_law_713 rfl ?_
  refine zr_callV X g1 rfl (c_X8_lostDay l e1) (fun hts => cwV 3 hts gL_law_X8_lostDay rfl rfl rfl (by decide +kernel) ⟨Nat.le_of_ble_eq_true rfl, Nat.le_of_ble_eq_true rfl⟩) rfl rfl (Nat.le_of_ble_eq_true rfl) dL_law_714 ⟨Nat.le_refl _, Nat.le_refl _⟩ ?_
  refine tt_aload_n X dL_law_717 rfl ?_
  refine lw_arg (k := 1) (pc2 := 723) X hX hbl hb hL hi (by decide) dL_law_718 dL_law_719 dL_law_720 (by decide) dL_law_721 dL_law_722 rfl ?_
  refine lw_arg (k := 2) (pc2 := 728) X hX hbl hb hL hi (by decide) dL_law_723 dL_law_724 dL_law_725 (by decide) dL_law_726 dL_law_727 rfl ?_
  refine lw_arg (k := 3) (pc2 := 733) X hX hbl hb hL hi (by decide) dL_law_728 dL_law_729 dL_law_730 (by decide) dL_law_731 dL_law_732 rfl ?_
  refine zr_callV X g2 rfl (c_X9_lostDay l e2) (fun hts => cwV 3 hts gL_law_X9_lostDay rfl rfl rfl (by decide +kernel) ⟨Nat.le_of_ble_eq_true rfl, Nat.le_of_ble_eq_true rfl⟩) rfl rfl (Nat.le_of_ble_eq_true rfl) dL_law_733 ⟨Nat.le_refl _, Nat.le_refl _⟩ ?_
  refine tt_lcmp X dL_law_736 ?_
  exact tt_if_eq (tgt := 1209) X dL_law_737 (by decide) (fun _ => kk h2 hI2) (fun q => absurd ((lg_cmp_eq r r).mpr rfl) q)
end LWC
