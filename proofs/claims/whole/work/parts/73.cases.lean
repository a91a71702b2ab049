theorem law_0 {l : Launch} {D : va_G} {cI cM : ClassId} {b L o o2 : Nat} {xs : Nat → Int32} {V : FMem → FMem → Nat → Nat → List Value → Prop} (hV : LwP l D cI cM b L o o2 xs V) {i : Nat} (hi : i + 6 ≤ L) {C M : FMem} (hR : Rel C M) (K : ∀ C' M', Rel C' M' → V C' M' 820 i []) : V C M 152 i [] := by
  obtain ⟨r, C', M', e1, e2, hR'⟩ := op_write (xs (i + 1)) C M hR
  refine w_aload hV dL_law_152 rfl ?_
  refine w_arg hV 1 (by omega) (by decide) dL_law_153 dL_law_154 dL_law_155 dL_law_156 dL_law_157 ?_
  refine w_call8 hV (m_X8_write l D cI cM o (xs (i + 1)) C r C' e1) mL_13 rfl rfl ⟨Nat.le_of_ble_eq_true rfl, Nat.le_of_ble_eq_true rfl⟩ rfl dL_law_158 ?_
  refine w_aload hV dL_law_161 rfl ?_
  refine w_arg hV 1 (by omega) (by decide) dL_law_162 dL_law_163 dL_law_164 dL_law_165 dL_law_166 ?_
  refine w_call9 hV (m_X9_write l D cI o2 (xs (i + 1)) M r M' e2) mL_17 rfl rfl ⟨Nat.le_of_ble_eq_true rfl, Nat.le_of_ble_eq_true rfl⟩ rfl dL_law_167 ?_
  exact w_icmpeq hV 820 dL_law_170 (by decide) (fun _ => K C' M' hR') (fun h => absurd rfl h)
theorem law_1 {l : Launch} {D : va_G} {cI cM : ClassId} {b L o o2 : Nat} {xs : Nat → Int32} {V : FMem → FMem → Nat → Nat → List Value → Prop} (hV : LwP l D cI cM b L o o2 xs V) {i : Nat} (hi : i + 6 ≤ L) {C M : FMem} (hR : Rel C M) (K : ∀ C' M', Rel C' M' → V C' M' 820 i []) : V C M 175 i [] := by
  obtain ⟨r, C', M', e1, e2, hR'⟩ := op_wipe C M hR
  refine w_aload hV dL_law_175 rfl ?_
  refine w_call8 hV (m_X8_wipe l D cI cM o  C r C' e1) mL_18 rfl rfl ⟨Nat.le_of_ble_eq_true rfl, Nat.le_of_ble_eq_true rfl⟩ rfl dL_law_176 ?_
  refine w_aload hV dL_law_179 rfl ?_
  refine w_call9 hV (m_X9_wipe l D cI o2  M r M' e2) mL_22 rfl rfl ⟨Nat.le_of_ble_eq_true rfl, Nat.le_of_ble_eq_true rfl⟩ rfl dL_law_180 ?_
  exact w_icmpeq hV 820 dL_law_183 (by decide) (fun _ => K C' M' hR') (fun h => absurd rfl h)
theorem law_2 {l : Launch} {D : va_G} {cI cM : ClassId} {b L o o2 : Nat} {xs : Nat → Int32} {V : FMem → FMem → Nat → Nat → List Value → Prop} (hV : LwP l D cI cM b L o o2 xs V) {i : Nat} (hi : i + 6 ≤ L) {C M : FMem} (hR : Rel C M) (K : ∀ C' M', Rel C' M' → V C' M' 820 i []) : V C M 188 i [] := by
  obtain ⟨r, C', M', e1, e2, hR'⟩ := op_fault C M hR
  refine w_aload hV dL_law_188 rfl ?_
  refine w_call8 hV (m_X8_fault l D cI cM o  C r C' e1) mL_23 rfl rfl ⟨Nat.le_of_ble_eq_true rfl, Nat.le_of_ble_eq_true rfl⟩ rfl dL_law_189 ?_
  refine w_aload hV dL_law_192 rfl ?_
  refine w_call9 hV (m_X9_fault l D cI o2  M r M' e2) mL_26 rfl rfl ⟨Nat.le_of_ble_eq_true rfl, Nat.le_of_ble_eq_true rfl⟩ rfl dL_law_193 ?_
  exact w_icmpeq hV 820 dL_law_196 (by decide) (fun _ => K C' M' hR') (fun h => absurd rfl h)
theorem law_3 {l : Launch} {D : va_G} {cI cM : ClassId} {b L o o2 : Nat} {xs : Nat → Int32} {V : FMem → FMem → Nat → Nat → List Value → Prop} (hV : LwP l D cI cM b L o o2 xs V) {i : Nat} (hi : i + 6 ≤ L) {C M : FMem} (hR : Rel C M) (K : ∀ C' M', Rel C' M' → V C' M' 820 i []) : V C M 201 i [] := by
  obtain ⟨r, C', M', e1, e2, hR'⟩ := op_lay C M hR
  refine w_aload hV dL_law_201 rfl ?_
  refine w_call8 hV (m_X8_lay l D cI cM o  C r C' e1) mL_27 rfl rfl ⟨Nat.le_of_ble_eq_true rfl, Nat.le_of_ble_eq_true rfl⟩ rfl dL_law_202 ?_
  refine w_aload hV dL_law_205 rfl ?_
  refine w_call9 hV (m_X9_lay l D cI o2  M r M' e2) mL_30 rfl rfl ⟨Nat.le_of_ble_eq_true rfl, Nat.le_of_ble_eq_true rfl⟩ rfl dL_law_206 ?_
  exact w_icmpeq hV 820 dL_law_209 (by decide) (fun _ => K C' M' hR') (fun h => absurd rfl h)
theorem law_4 {l : Launch} {D : va_G} {cI cM : ClassId} {b L o o2 : Nat} {xs : Nat → Int32} {V : FMem → FMem → Nat → Nat → List Value → Prop} (hV : LwP l D cI cM b L o o2 xs V) {i : Nat} (hi : i + 6 ≤ L) {C M : FMem} (hR : Rel C M) (K : ∀ C' M', Rel C' M' → V C' M' 820 i []) : V C M 214 i [] := by
  obtain ⟨r, C', M', e1, e2, hR'⟩ := op_person (xs (i + 1)) (xs (i + 2)) C M hR
  refine w_aload hV dL_law_214 rfl ?_
  refine w_arg hV 1 (by omega) (by decide) dL_law_215 dL_law_216 dL_law_217 dL_law_218 dL_law_219 ?_
  refine w_arg hV 2 (by omega) (by decide) dL_law_220 dL_law_221 dL_law_222 dL_law_223 dL_law_224 ?_
  refine w_call8 hV (m_X8_person l D cI cM o (xs (i + 1)) (xs (i + 2)) C r C' e1) mL_31 rfl rfl ⟨Nat.le_of_ble_eq_true rfl, Nat.le_of_ble_eq_true rfl⟩ rfl dL_law_225 ?_
  refine w_aload hV dL_law_228 rfl ?_
  refine w_arg hV 1 (by omega) (by decide) dL_law_229 dL_law_230 dL_law_231 dL_law_232 dL_law_233 ?_
  refine w_arg hV 2 (by omega) (by decide) dL_law_234 dL_law_235 dL_law_236 dL_law_237 dL_law_238 ?_
  refine w_call9 hV (m_X9_person l D cI o2 (xs (i + 1)) (xs (i + 2)) M r M' e2) mL_35 rfl rfl ⟨Nat.le_of_ble_eq_true rfl, Nat.le_of_ble_eq_true rfl⟩ rfl dL_law_239 ?_
  exact w_icmpeq hV 820 dL_law_242 (by decide) (fun _ => K C' M' hR') (fun h => absurd rfl h)
theorem law_5 {l : Launch} {D : va_G} {cI cM : ClassId} {b L o o2 : Nat} {xs : Nat → Int32} {V : FMem → FMem → Nat → Nat → List Value → Prop} (hV : LwP l D cI cM b L o o2 xs V) {i : Nat} (hi : i + 6 ≤ L) {C M : FMem} (hR : Rel C M) (K : ∀ C' M', Rel C' M' → V C' M' 820 i []) : V C M 247 i [] := by
  obtain ⟨r, C', M', e1, e2, hR'⟩ := op_thing (xs (i + 1)) (xs (i + 2)) C M hR
  refine w_aload hV dL_law_247 rfl ?_
  refine w_arg hV 1 (by omega) (by decide) dL_law_248 dL_law_249 dL_law_250 dL_law_251 dL_law_252 ?_
  refine w_arg hV 2 (by omega) (by decide) dL_law_253 dL_law_254 dL_law_255 dL_law_256 dL_law_257 ?_
  refine w_call8 hV (m_X8_thing l D cI cM o (xs (i + 1)) (xs (i + 2)) C r C' e1) mL_36 rfl rfl ⟨Nat.le_of_ble_eq_true rfl, Nat.le_of_ble_eq_true rfl⟩ rfl dL_law_258 ?_
  refine w_aload hV dL_law_261 rfl ?_
  refine w_arg hV 1 (by omega) (by decide) dL_law_262 dL_law_263 dL_law_264 dL_law_265 dL_law_266 ?_
  refine w_arg hV 2 (by omega) (by decide) dL_law_267 dL_law_268 dL_law_269 dL_law_270 dL_law_271 ?_
  refine w_call9 hV (m_X9_thing l D cI o2 (xs (i + 1)) (xs (i + 2)) M r M' e2) mL_39 rfl rfl ⟨Nat.le_of_ble_eq_true rfl, Nat.le_of_ble_eq_true rfl⟩ rfl dL_law_272 ?_
  exact w_icmpeq hV 820 dL_law_275 (by decide) (fun _ => K C' M' hR') (fun h => absurd rfl h)
theorem law_6 {l : Launch} {D : va_G} {cI cM : ClassId} {b L o o2 : Nat} {xs : Nat → Int32} {V : FMem → FMem → Nat → Nat → List Value → Prop} (hV : LwP l D cI cM b L o o2 xs V) {i : Nat} (hi : i + 6 ≤ L) {C M : FMem} (hR : Rel C M) (K : ∀ C' M', Rel C' M' → V C' M' 820 i []) : V C M 280 i [] := by
  obtain ⟨r, C', M', e1, e2, hR'⟩ := op_pass (xs (i + 1)) C M hR
  refine w_aload hV dL_law_280 rfl ?_
  refine w_arg hV 1 (by omega) (by decide) dL_law_281 dL_law_282 dL_law_283 dL_law_284 dL_law_285 ?_
  refine w_call8 hV (m_X8_pass l D cI cM o (xs (i + 1)) C r C' e1) mL_40 rfl rfl ⟨Nat.le_of_ble_eq_true rfl, Nat.le_of_ble_eq_true rfl⟩ rfl dL_law_286 ?_
  refine w_aload hV dL_law_289 rfl ?_
  refine w_arg hV 1 (by omega) (by decide) dL_law_290 dL_law_291 dL_law_292 dL_law_293 dL_law_294 ?_
  refine w_call9 hV (m_X9_pass l D cI o2 (xs (i + 1)) M r M' e2) mL_43 rfl rfl ⟨Nat.le_of_ble_eq_true rfl, Nat.le_of_ble_eq_true rfl⟩ rfl dL_law_295 ?_
  exact w_icmpeq hV 820 dL_law_298 (by decide) (fun _ => K C' M' hR') (fun h => absurd rfl h)
theorem law_7 {l : Launch} {D : va_G} {cI cM : ClassId} {b L o o2 : Nat} {xs : Nat → Int32} {V : FMem → FMem → Nat → Nat → List Value → Prop} (hV : LwP l D cI cM b L o o2 xs V) {i : Nat} (hi : i + 6 ≤ L) {C M : FMem} (hR : Rel C M) (K : ∀ C' M', Rel C' M' → V C' M' 820 i []) : V C M 303 i [] := by
  obtain ⟨r, C', M', e1, e2, hR'⟩ := op_hide (xs (i + 1)) C M hR
  refine w_aload hV dL_law_303 rfl ?_
  refine w_arg hV 1 (by omega) (by decide) dL_law_304 dL_law_305 dL_law_306 dL_law_307 dL_law_308 ?_
  refine w_call8 hV (m_X8_hide l D cI cM o (xs (i + 1)) C r C' e1) mL_44 rfl rfl ⟨Nat.le_of_ble_eq_true rfl, Nat.le_of_ble_eq_true rfl⟩ rfl dL_law_309 ?_
  refine w_aload hV dL_law_312 rfl ?_
  refine w_arg hV 1 (by omega) (by decide) dL_law_313 dL_law_314 dL_law_315 dL_law_316 dL_law_317 ?_
  refine w_call9 hV (m_X9_hide l D cI o2 (xs (i + 1)) M r M' e2) mL_47 rfl rfl ⟨Nat.le_of_ble_eq_true rfl, Nat.le_of_ble_eq_true rfl⟩ rfl dL_law_318 ?_
  exact w_icmpeq hV 820 dL_law_321 (by decide) (fun _ => K C' M' hR') (fun h => absurd rfl h)
theorem law_8 {l : Launch} {D : va_G} {cI cM : ClassId} {b L o o2 : Nat} {xs : Nat → Int32} {V : FMem → FMem → Nat → Nat → List Value → Prop} (hV : LwP l D cI cM b L o o2 xs V) {i : Nat} (hi : i + 6 ≤ L) {C M : FMem} (hR : Rel C M) (K : ∀ C' M', Rel C' M' → V C' M' 820 i []) : V C M 326 i [] := by
  obtain ⟨r, C', M', e1, e2, hR'⟩ := op_arrange (xs (i + 1)) (xs (i + 2)) (xs (i + 3)) C M hR
  refine w_aload hV dL_law_326 rfl ?_
  refine w_arg hV 1 (by omega) (by decide) dL_law_327 dL_law_328 dL_law_329 dL_law_330 dL_law_331 ?_
  refine w_arg hV 2 (by omega) (by decide) dL_law_332 dL_law_333 dL_law_334 dL_law_335 dL_law_336 ?_
  refine w_arg hV 3 (by omega) (by decide) dL_law_337 dL_law_338 dL_law_339 dL_law_340 dL_law_341 ?_
  refine w_call8 hV (m_X8_arrange l D cI cM o (xs (i + 1)) (xs (i + 2)) (xs (i + 3)) C r C' e1) mL_48 rfl rfl ⟨Nat.le_of_ble_eq_true rfl, Nat.le_of_ble_eq_true rfl⟩ rfl dL_law_342 ?_
  refine w_aload hV dL_law_345 rfl ?_
  refine w_arg hV 1 (by omega) (by decide) dL_law_346 dL_law_347 dL_law_348 dL_law_349 dL_law_350 ?_
  refine w_arg hV 2 (by omega) (by decide) dL_law_351 dL_law_352 dL_law_353 dL_law_354 dL_law_355 ?_
  refine w_arg hV 3 (by omega) (by decide) dL_law_356 dL_law_357 dL_law_358 dL_law_359 dL_law_360 ?_
  refine w_call9 hV (m_X9_arrange l D cI o2 (xs (i + 1)) (xs (i + 2)) (xs (i + 3)) M r M' e2) mL_52 rfl rfl ⟨Nat.le_of_ble_eq_true rfl, Nat.le_of_ble_eq_true rfl⟩ rfl dL_law_361 ?_
  exact w_icmpeq hV 820 dL_law_364 (by decide) (fun _ => K C' M' hR') (fun h => absurd rfl h)
theorem law_9 {l : Launch} {D : va_G} {cI cM : ClassId} {b L o o2 : Nat} {xs : Nat → Int32} {V : FMem → FMem → Nat → Nat → List Value → Prop} (hV : LwP l D cI cM b L o o2 xs V) {i : Nat} (hi : i + 6 ≤ L) {C M : FMem} (hR : Rel C M) (K : ∀ C' M', Rel C' M' → V C' M' 820 i []) : V C M 369 i [] := by
  obtain ⟨r, C', M', e1, e2, hR'⟩ := op_undo C M hR
  refine w_aload hV dL_law_369 rfl ?_
  refine w_call8 hV (m_X8_undo l D cI cM o  C r C' e1) mL_53 rfl rfl ⟨Nat.le_of_ble_eq_true rfl, Nat.le_of_ble_eq_true rfl⟩ rfl dL_law_370 ?_
  refine w_aload hV dL_law_373 rfl ?_
  refine w_call9 hV (m_X9_undo l D cI o2  M r M' e2) mL_56 rfl rfl ⟨Nat.le_of_ble_eq_true rfl, Nat.le_of_ble_eq_true rfl⟩ rfl dL_law_374 ?_
  exact w_icmpeq hV 820 dL_law_377 (by decide) (fun _ => K C' M' hR') (fun h => absurd rfl h)
theorem law_10 {l : Launch} {D : va_G} {cI cM : ClassId} {b L o o2 : Nat} {xs : Nat → Int32} {V : FMem → FMem → Nat → Nat → List Value → Prop} (hV : LwP l D cI cM b L o o2 xs V) {i : Nat} (hi : i + 6 ≤ L) {C M : FMem} (hR : Rel C M) (K : ∀ C' M', Rel C' M' → V C' M' 820 i []) : V C M 382 i [] := by
  obtain ⟨r, C', M', e1, e2, hR'⟩ := op_king (xs (i + 1)) (xs (i + 2)) C M hR
  refine w_aload hV dL_law_382 rfl ?_
  refine w_arg hV 1 (by omega) (by decide) dL_law_383 dL_law_384 dL_law_385 dL_law_386 dL_law_387 ?_
  refine w_arg hV 2 (by omega) (by decide) dL_law_388 dL_law_389 dL_law_390 dL_law_391 dL_law_392 ?_
  refine w_call8 hV (m_X8_king l D cI cM o (xs (i + 1)) (xs (i + 2)) C r C' e1) mL_57 rfl rfl ⟨Nat.le_of_ble_eq_true rfl, Nat.le_of_ble_eq_true rfl⟩ rfl dL_law_393 ?_
  refine w_aload hV dL_law_396 rfl ?_
  refine w_arg hV 1 (by omega) (by decide) dL_law_397 dL_law_398 dL_law_399 dL_law_400 dL_law_401 ?_
  refine w_arg hV 2 (by omega) (by decide) dL_law_402 dL_law_403 dL_law_404 dL_law_405 dL_law_406 ?_
  refine w_call9 hV (m_X9_king l D cI o2 (xs (i + 1)) (xs (i + 2)) M r M' e2) mL_60 rfl rfl ⟨Nat.le_of_ble_eq_true rfl, Nat.le_of_ble_eq_true rfl⟩ rfl dL_law_407 ?_
  exact w_icmpeq hV 820 dL_law_410 (by decide) (fun _ => K C' M' hR') (fun h => absurd rfl h)
theorem law_11 {l : Launch} {D : va_G} {cI cM : ClassId} {b L o o2 : Nat} {xs : Nat → Int32} {V : FMem → FMem → Nat → Nat → List Value → Prop} (hV : LwP l D cI cM b L o o2 xs V) {i : Nat} (hi : i + 6 ≤ L) {C M : FMem} (hR : Rel C M) (K : ∀ C' M', Rel C' M' → V C' M' 820 i []) : V C M 415 i [] := by
  obtain ⟨r, C', M', e1, e2, hR'⟩ := op_bell C M hR
  refine w_aload hV dL_law_415 rfl ?_
  refine w_call8 hV (m_X8_bell l D cI cM o  C r C' e1) mL_61 rfl rfl ⟨Nat.le_of_ble_eq_true rfl, Nat.le_of_ble_eq_true rfl⟩ rfl dL_law_416 ?_
  refine w_aload hV dL_law_419 rfl ?_
  refine w_call9 hV (m_X9_bell l D cI o2  M r M' e2) mL_64 rfl rfl ⟨Nat.le_of_ble_eq_true rfl, Nat.le_of_ble_eq_true rfl⟩ rfl dL_law_420 ?_
  exact w_icmpeq hV 820 dL_law_423 (by decide) (fun _ => K C' M' hR') (fun h => absurd rfl h)
theorem law_12 {l : Launch} {D : va_G} {cI cM : ClassId} {b L o o2 : Nat} {xs : Nat → Int32} {V : FMem → FMem → Nat → Nat → List Value → Prop} (hV : LwP l D cI cM b L o o2 xs V) {i : Nat} (hi : i + 6 ≤ L) {C M : FMem} (hR : Rel C M) (K : ∀ C' M', Rel C' M' → V C' M' 820 i []) : V C M 428 i [] := by
  obtain ⟨r, C', M', e1, e2, hR'⟩ := op_hides (xs (i + 1)) C M hR
  refine w_aload hV dL_law_428 rfl ?_
  refine w_arg hV 1 (by omega) (by decide) dL_law_429 dL_law_430 dL_law_431 dL_law_432 dL_law_433 ?_
  refine w_call8 hV (m_X8_hides l D cI cM o (xs (i + 1)) C r C' e1) mL_65 rfl rfl ⟨Nat.le_of_ble_eq_true rfl, Nat.le_of_ble_eq_true rfl⟩ rfl dL_law_434 ?_
  refine w_aload hV dL_law_437 rfl ?_
  refine w_arg hV 1 (by omega) (by decide) dL_law_438 dL_law_439 dL_law_440 dL_law_441 dL_law_442 ?_
  refine w_call9 hV (m_X9_hides l D cI o2 (xs (i + 1)) M r M' e2) mL_68 rfl rfl ⟨Nat.le_of_ble_eq_true rfl, Nat.le_of_ble_eq_true rfl⟩ rfl dL_law_443 ?_
  exact w_icmpeq hV 820 dL_law_446 (by decide) (fun _ => K C' M' hR') (fun h => absurd rfl h)
theorem law_13 {l : Launch} {D : va_G} {cI cM : ClassId} {b L o o2 : Nat} {xs : Nat → Int32} {V : FMem → FMem → Nat → Nat → List Value → Prop} (hV : LwP l D cI cM b L o o2 xs V) {i : Nat} (hi : i + 6 ≤ L) {C M : FMem} (hR : Rel C M) (K : ∀ C' M', Rel C' M' → V C' M' 820 i []) : V C M 451 i [] := by
  obtain ⟨r, C', M', e1, e2, hR'⟩ := op_raise (xs (i + 1)) (xs (i + 2)) C M hR
  refine w_aload hV dL_law_451 rfl ?_
  refine w_arg hV 1 (by omega) (by decide) dL_law_452 dL_law_453 dL_law_454 dL_law_455 dL_law_456 ?_
  refine w_arg hV 2 (by omega) (by decide) dL_law_457 dL_law_458 dL_law_459 dL_law_460 dL_law_461 ?_
  refine w_call8 hV (m_X8_raise l D cI cM o (xs (i + 1)) (xs (i + 2)) C r C' e1) mL_69 rfl rfl ⟨Nat.le_of_ble_eq_true rfl, Nat.le_of_ble_eq_true rfl⟩ rfl dL_law_462 ?_
  refine w_aload hV dL_law_465 rfl ?_
  refine w_arg hV 1 (by omega) (by decide) dL_law_466 dL_law_467 dL_law_468 dL_law_469 dL_law_470 ?_
  refine w_arg hV 2 (by omega) (by decide) dL_law_471 dL_law_472 dL_law_473 dL_law_474 dL_law_475 ?_
  refine w_call9 hV (m_X9_raise l D cI o2 (xs (i + 1)) (xs (i + 2)) M r M' e2) mL_72 rfl rfl ⟨Nat.le_of_ble_eq_true rfl, Nat.le_of_ble_eq_true rfl⟩ rfl dL_law_476 ?_
  exact w_icmpeq hV 820 dL_law_479 (by decide) (fun _ => K C' M' hR') (fun h => absurd rfl h)
theorem law_14 {l : Launch} {D : va_G} {cI cM : ClassId} {b L o o2 : Nat} {xs : Nat → Int32} {V : FMem → FMem → Nat → Nat → List Value → Prop} (hV : LwP l D cI cM b L o o2 xs V) {i : Nat} (hi : i + 6 ≤ L) {C M : FMem} (hR : Rel C M) (K : ∀ C' M', Rel C' M' → V C' M' 820 i []) : V C M 484 i [] := by
  obtain ⟨r, C', M', e1, e2, hR'⟩ := op_order (xs (i + 1)) (xs (i + 2)) C M hR
  refine w_aload hV dL_law_484 rfl ?_
  refine w_arg hV 1 (by omega) (by decide) dL_law_485 dL_law_486 dL_law_487 dL_law_488 dL_law_489 ?_
  refine w_arg hV 2 (by omega) (by decide) dL_law_490 dL_law_491 dL_law_492 dL_law_493 dL_law_494 ?_
  refine w_call8 hV (m_X8_order l D cI cM o (xs (i + 1)) (xs (i + 2)) C r C' e1) mL_73 rfl rfl ⟨Nat.le_of_ble_eq_true rfl, Nat.le_of_ble_eq_true rfl⟩ rfl dL_law_495 ?_
  refine w_aload hV dL_law_498 rfl ?_
  refine w_arg hV 1 (by omega) (by decide) dL_law_499 dL_law_500 dL_law_501 dL_law_502 dL_law_503 ?_
  refine w_arg hV 2 (by omega) (by decide) dL_law_504 dL_law_505 dL_law_506 dL_law_507 dL_law_508 ?_
  refine w_call9 hV (m_X9_order l D cI o2 (xs (i + 1)) (xs (i + 2)) M r M' e2) mL_76 rfl rfl ⟨Nat.le_of_ble_eq_true rfl, Nat.le_of_ble_eq_true rfl⟩ rfl dL_law_509 ?_
  exact w_icmpeq hV 820 dL_law_512 (by decide) (fun _ => K C' M' hR') (fun h => absurd rfl h)
theorem law_15 {l : Launch} {D : va_G} {cI cM : ClassId} {b L o o2 : Nat} {xs : Nat → Int32} {V : FMem → FMem → Nat → Nat → List Value → Prop} (hV : LwP l D cI cM b L o o2 xs V) {i : Nat} (hi : i + 6 ≤ L) {C M : FMem} (hR : Rel C M) (K : ∀ C' M', Rel C' M' → V C' M' 820 i []) : V C M 517 i [] := by
  obtain ⟨r, C', M', e1, e2, hR'⟩ := op_away (xs (i + 1)) C M hR
  refine w_aload hV dL_law_517 rfl ?_
  refine w_arg hV 1 (by omega) (by decide) dL_law_518 dL_law_519 dL_law_520 dL_law_521 dL_law_522 ?_
  refine w_call8 hV (m_X8_away l D cI cM o (xs (i + 1)) C r C' e1) mL_77 rfl rfl ⟨Nat.le_of_ble_eq_true rfl, Nat.le_of_ble_eq_true rfl⟩ rfl dL_law_523 ?_
  refine w_aload hV dL_law_526 rfl ?_
  refine w_arg hV 1 (by omega) (by decide) dL_law_527 dL_law_528 dL_law_529 dL_law_530 dL_law_531 ?_
  refine w_call9 hV (m_X9_away l D cI o2 (xs (i + 1)) M r M' e2) mL_80 rfl rfl ⟨Nat.le_of_ble_eq_true rfl, Nat.le_of_ble_eq_true rfl⟩ rfl dL_law_532 ?_
  exact w_icmpeq hV 820 dL_law_535 (by decide) (fun _ => K C' M' hR') (fun h => absurd rfl h)
theorem law_16 {l : Launch} {D : va_G} {cI cM : ClassId} {b L o o2 : Nat} {xs : Nat → Int32} {V : FMem → FMem → Nat → Nat → List Value → Prop} (hV : LwP l D cI cM b L o o2 xs V) {i : Nat} (hi : i + 6 ≤ L) {C M : FMem} (hR : Rel C M) (K : ∀ C' M', Rel C' M' → V C' M' 820 i []) : V C M 540 i [] := by
  obtain ⟨r, C', M', e1, e2, hR'⟩ := op_seen (xs (i + 1)) (xs (i + 2)) C M hR
  refine w_aload hV dL_law_540 rfl ?_
  refine w_arg hV 1 (by omega) (by decide) dL_law_541 dL_law_542 dL_law_543 dL_law_544 dL_law_545 ?_
  refine w_arg hV 2 (by omega) (by decide) dL_law_546 dL_law_547 dL_law_548 dL_law_549 dL_law_550 ?_
  refine w_call8 hV (m_X8_seen l D cI cM o (xs (i + 1)) (xs (i + 2)) C r C' e1) mL_81 rfl rfl ⟨Nat.le_of_ble_eq_true rfl, Nat.le_of_ble_eq_true rfl⟩ rfl dL_law_551 ?_
  refine w_aload hV dL_law_554 rfl ?_
  refine w_arg hV 1 (by omega) (by decide) dL_law_555 dL_law_556 dL_law_557 dL_law_558 dL_law_559 ?_
  refine w_arg hV 2 (by omega) (by decide) dL_law_560 dL_law_561 dL_law_562 dL_law_563 dL_law_564 ?_
  refine w_call9 hV (m_X9_seen l D cI o2 (xs (i + 1)) (xs (i + 2)) M r M' e2) mL_84 rfl rfl ⟨Nat.le_of_ble_eq_true rfl, Nat.le_of_ble_eq_true rfl⟩ rfl dL_law_565 ?_
  exact w_icmpeq hV 820 dL_law_568 (by decide) (fun _ => K C' M' hR') (fun h => absurd rfl h)
theorem law_17 {l : Launch} {D : va_G} {cI cM : ClassId} {b L o o2 : Nat} {xs : Nat → Int32} {V : FMem → FMem → Nat → Nat → List Value → Prop} (hV : LwP l D cI cM b L o o2 xs V) {i : Nat} (hi : i + 6 ≤ L) {C M : FMem} (hR : Rel C M) (K : ∀ C' M', Rel C' M' → V C' M' 820 i []) : V C M 573 i [] := by
  obtain ⟨r, C', M', e1, e2, hR'⟩ := op_forget C M hR
  refine w_aload hV dL_law_573 rfl ?_
  refine w_call8 hV (m_X8_forget l D cI cM o  C r C' e1) mL_85 rfl rfl ⟨Nat.le_of_ble_eq_true rfl, Nat.le_of_ble_eq_true rfl⟩ rfl dL_law_574 ?_
  refine w_aload hV dL_law_577 rfl ?_
  refine w_call9 hV (m_X9_forget l D cI o2  M r M' e2) mL_88 rfl rfl ⟨Nat.le_of_ble_eq_true rfl, Nat.le_of_ble_eq_true rfl⟩ rfl dL_law_578 ?_
  exact w_icmpeq hV 820 dL_law_581 (by decide) (fun _ => K C' M' hR') (fun h => absurd rfl h)
theorem law_18 {l : Launch} {D : va_G} {cI cM : ClassId} {b L o o2 : Nat} {xs : Nat → Int32} {V : FMem → FMem → Nat → Nat → List Value → Prop} (hV : LwP l D cI cM b L o o2 xs V) {i : Nat} (hi : i + 6 ≤ L) {C M : FMem} (hR : Rel C M) (K : ∀ C' M', Rel C' M' → V C' M' 820 i []) : V C M 586 i [] := by
  obtain ⟨r, C', M', e1, e2, hR'⟩ := op_tastes (xs (i + 1)) (xs (i + 2)) C M hR
  refine w_aload hV dL_law_586 rfl ?_
  refine w_arg hV 1 (by omega) (by decide) dL_law_587 dL_law_588 dL_law_589 dL_law_590 dL_law_591 ?_
  refine w_arg hV 2 (by omega) (by decide) dL_law_592 dL_law_593 dL_law_594 dL_law_595 dL_law_596 ?_
  refine w_call8 hV (m_X8_tastes l D cI cM o (xs (i + 1)) (xs (i + 2)) C r C' e1) mL_89 rfl rfl ⟨Nat.le_of_ble_eq_true rfl, Nat.le_of_ble_eq_true rfl⟩ rfl dL_law_597 ?_
  refine w_aload hV dL_law_600 rfl ?_
  refine w_arg hV 1 (by omega) (by decide) dL_law_601 dL_law_602 dL_law_603 dL_law_604 dL_law_605 ?_
  refine w_arg hV 2 (by omega) (by decide) dL_law_606 dL_law_607 dL_law_608 dL_law_609 dL_law_610 ?_
  refine w_call9 hV (m_X9_tastes l D cI o2 (xs (i + 1)) (xs (i + 2)) M r M' e2) mL_92 rfl rfl ⟨Nat.le_of_ble_eq_true rfl, Nat.le_of_ble_eq_true rfl⟩ rfl dL_law_611 ?_
  exact w_icmpeq hV 820 dL_law_614 (by decide) (fun _ => K C' M' hR') (fun h => absurd rfl h)
theorem law_19 {l : Launch} {D : va_G} {cI cM : ClassId} {b L o o2 : Nat} {xs : Nat → Int32} {V : FMem → FMem → Nat → Nat → List Value → Prop} (hV : LwP l D cI cM b L o o2 xs V) {i : Nat} (hi : i + 6 ≤ L) {C M : FMem} (hR : Rel C M) (K : ∀ C' M', Rel C' M' → V C' M' 820 i []) : V C M 619 i [] := by
  obtain ⟨r, C', M', e1, e2, hR'⟩ := op_lasts (xs (i + 1)) (xs (i + 2)) (xs (i + 3)) (xs (i + 4)) (xs (i + 5)) C M hR
  refine w_aload hV dL_law_619 rfl ?_
  refine w_arg hV 1 (by omega) (by decide) dL_law_620 dL_law_621 dL_law_622 dL_law_623 dL_law_624 ?_
  refine w_arg hV 2 (by omega) (by decide) dL_law_625 dL_law_626 dL_law_627 dL_law_628 dL_law_629 ?_
  refine w_arg hV 3 (by omega) (by decide) dL_law_630 dL_law_631 dL_law_632 dL_law_633 dL_law_634 ?_
  refine w_arg hV 4 (by omega) (by decide) dL_law_635 dL_law_636 dL_law_637 dL_law_638 dL_law_639 ?_
  refine w_arg hV 5 (by omega) (by decide) dL_law_640 dL_law_641 dL_law_642 dL_law_643 dL_law_644 ?_
  refine w_call8 hV (m_X8_lasts l D cI cM o (xs (i + 1)) (xs (i + 2)) (xs (i + 3)) (xs (i + 4)) (xs (i + 5)) C r C' e1) mL_93 rfl rfl ⟨Nat.le_of_ble_eq_true rfl, Nat.le_of_ble_eq_true rfl⟩ rfl dL_law_645 ?_
  refine w_aload hV dL_law_648 rfl ?_
  refine w_arg hV 1 (by omega) (by decide) dL_law_649 dL_law_650 dL_law_651 dL_law_652 dL_law_653 ?_
  refine w_arg hV 2 (by omega) (by decide) dL_law_654 dL_law_655 dL_law_656 dL_law_657 dL_law_658 ?_
  refine w_arg hV 3 (by omega) (by decide) dL_law_659 dL_law_660 dL_law_661 dL_law_662 dL_law_663 ?_
  refine w_arg hV 4 (by omega) (by decide) dL_law_664 dL_law_665 dL_law_666 dL_law_667 dL_law_668 ?_
  refine w_arg hV 5 (by omega) (by decide) dL_law_669 dL_law_670 dL_law_671 dL_law_672 dL_law_673 ?_
  refine w_call9 hV (m_X9_lasts l D cI o2 (xs (i + 1)) (xs (i + 2)) (xs (i + 3)) (xs (i + 4)) (xs (i + 5)) M r M' e2) mL_97 rfl rfl ⟨Nat.le_of_ble_eq_true rfl, Nat.le_of_ble_eq_true rfl⟩ rfl dL_law_674 ?_
  exact w_icmpeq hV 820 dL_law_677 (by decide) (fun _ => K C' M' hR') (fun h => absurd rfl h)
theorem law_20 {l : Launch} {D : va_G} {cI cM : ClassId} {b L o o2 : Nat} {xs : Nat → Int32} {V : FMem → FMem → Nat → Nat → List Value → Prop} (hV : LwP l D cI cM b L o o2 xs V) {i : Nat} (hi : i + 6 ≤ L) {C M : FMem} (hR : Rel C M) (K : ∀ C' M', Rel C' M' → V C' M' 820 i []) : V C M 682 i [] := by
  obtain ⟨r, C', M', e1, e2, hR'⟩ := op_content (xs (i + 1)) C M hR
  refine w_aload hV dL_law_682 rfl ?_
  refine w_arg hV 1 (by omega) (by decide) dL_law_683 dL_law_684 dL_law_685 dL_law_686 dL_law_687 ?_
  refine w_call8 hV (m_X8_content l D cI cM o (xs (i + 1)) C r C' e1) mL_98 rfl rfl ⟨Nat.le_of_ble_eq_true rfl, Nat.le_of_ble_eq_true rfl⟩ rfl dL_law_688 ?_
  refine w_aload hV dL_law_691 rfl ?_
  refine w_arg hV 1 (by omega) (by decide) dL_law_692 dL_law_693 dL_law_694 dL_law_695 dL_law_696 ?_
  refine w_call9 hV (m_X9_content l D cI o2 (xs (i + 1)) M r M' e2) mL_101 rfl rfl ⟨Nat.le_of_ble_eq_true rfl, Nat.le_of_ble_eq_true rfl⟩ rfl dL_law_697 ?_
  exact w_icmpeq hV 820 dL_law_700 (by decide) (fun _ => K C' M' hR') (fun h => absurd rfl h)
theorem law_21 {l : Launch} {D : va_G} {cI cM : ClassId} {b L o o2 : Nat} {xs : Nat → Int32} {V : FMem → FMem → Nat → Nat → List Value → Prop} (hV : LwP l D cI cM b L o o2 xs V) {i : Nat} (hi : i + 6 ≤ L) {C M : FMem} (hR : Rel C M) (K : ∀ C' M', Rel C' M' → V C' M' 820 i []) : V C M 705 i [] := by
  obtain ⟨r, C', M', e1, e2, hR'⟩ := op_dull (xs (i + 1)) C M hR
  refine w_aload hV dL_law_705 rfl ?_
  refine w_arg hV 1 (by omega) (by decide) dL_law_706 dL_law_707 dL_law_708 dL_law_709 dL_law_710 ?_
  refine w_call8 hV (m_X8_dull l D cI cM o (xs (i + 1)) C r C' e1) mL_102 rfl rfl ⟨Nat.le_of_ble_eq_true rfl, Nat.le_of_ble_eq_true rfl⟩ rfl dL_law_711 ?_
  refine w_aload hV dL_law_714 rfl ?_
  refine w_arg hV 1 (by omega) (by decide) dL_law_715 dL_law_716 dL_law_717 dL_law_718 dL_law_719 ?_
  refine w_call9 hV (m_X9_dull l D cI o2 (xs (i + 1)) M r M' e2) mL_105 rfl rfl ⟨Nat.le_of_ble_eq_true rfl, Nat.le_of_ble_eq_true rfl⟩ rfl dL_law_720 ?_
  exact w_icmpeq hV 820 dL_law_723 (by decide) (fun _ => K C' M' hR') (fun h => absurd rfl h)
theorem law_22 {l : Launch} {D : va_G} {cI cM : ClassId} {b L o o2 : Nat} {xs : Nat → Int32} {V : FMem → FMem → Nat → Nat → List Value → Prop} (hV : LwP l D cI cM b L o o2 xs V) {i : Nat} (hi : i + 6 ≤ L) {C M : FMem} (hR : Rel C M) (K : ∀ C' M', Rel C' M' → V C' M' 820 i []) : V C M 728 i [] := by
  obtain ⟨r, C', M', e1, e2, hR'⟩ := op_year (xs (i + 1)) (xs (i + 2)) (xs (i + 3)) C M hR
  refine w_aload hV dL_law_728 rfl ?_
  refine w_arg hV 1 (by omega) (by decide) dL_law_729 dL_law_730 dL_law_731 dL_law_732 dL_law_733 ?_
  refine w_arg hV 2 (by omega) (by decide) dL_law_734 dL_law_735 dL_law_736 dL_law_737 dL_law_738 ?_
  refine w_arg hV 3 (by omega) (by decide) dL_law_739 dL_law_740 dL_law_741 dL_law_742 dL_law_743 ?_
  refine w_call8 hV (m_X8_year l D cI cM o (xs (i + 1)) (xs (i + 2)) (xs (i + 3)) C r C' e1) mL_106 rfl rfl ⟨Nat.le_of_ble_eq_true rfl, Nat.le_of_ble_eq_true rfl⟩ rfl dL_law_744 ?_
  refine w_aload hV dL_law_747 rfl ?_
  refine w_arg hV 1 (by omega) (by decide) dL_law_748 dL_law_749 dL_law_750 dL_law_751 dL_law_752 ?_
  refine w_arg hV 2 (by omega) (by decide) dL_law_753 dL_law_754 dL_law_755 dL_law_756 dL_law_757 ?_
  refine w_arg hV 3 (by omega) (by decide) dL_law_758 dL_law_759 dL_law_760 dL_law_761 dL_law_762 ?_
  refine w_call9 hV (m_X9_year l D cI o2 (xs (i + 1)) (xs (i + 2)) (xs (i + 3)) M r M' e2) mL_109 rfl rfl ⟨Nat.le_of_ble_eq_true rfl, Nat.le_of_ble_eq_true rfl⟩ rfl dL_law_763 ?_
  exact w_icmpeq hV 820 dL_law_766 (by decide) (fun _ => K C' M' hR') (fun h => absurd rfl h)
theorem law_23 {l : Launch} {D : va_G} {cI cM : ClassId} {b L o o2 : Nat} {xs : Nat → Int32} {V : FMem → FMem → Nat → Nat → List Value → Prop} (hV : LwP l D cI cM b L o o2 xs V) {i : Nat} (hi : i + 6 ≤ L) {C M : FMem} (hR : Rel C M) (K : ∀ C' M', Rel C' M' → V C' M' 820 i []) : V C M 771 i [] := by
  obtain ⟨r, C', M', e1, e2, hR'⟩ := op_keep C M hR
  refine w_aload hV dL_law_771 rfl ?_
  refine w_call8 hV (m_X8_keep l D cI cM o  C r C' e1) mL_110 rfl rfl ⟨Nat.le_of_ble_eq_true rfl, Nat.le_of_ble_eq_true rfl⟩ rfl dL_law_772 ?_
  refine w_aload hV dL_law_775 rfl ?_
  refine w_call9 hV (m_X9_keep l D cI o2  M r M' e2) mL_113 rfl rfl ⟨Nat.le_of_ble_eq_true rfl, Nat.le_of_ble_eq_true rfl⟩ rfl dL_law_776 ?_
  exact w_icmpeq hV 820 dL_law_779 (by decide) (fun _ => K C' M' hR') (fun h => absurd rfl h)
theorem law_24 {l : Launch} {D : va_G} {cI cM : ClassId} {b L o o2 : Nat} {xs : Nat → Int32} {V : FMem → FMem → Nat → Nat → List Value → Prop} (hV : LwP l D cI cM b L o o2 xs V) {i : Nat} (hi : i + 6 ≤ L) {C M : FMem} (hR : Rel C M) (K : ∀ C' M', Rel C' M' → V C' M' 820 i []) : V C M 784 i [] := by
  obtain ⟨r, C', M', e1, e2, hR'⟩ := op_back C M hR
  refine w_aload hV dL_law_784 rfl ?_
  refine w_call8 hV (m_X8_back l D cI cM o  C r C' e1) mL_114 rfl rfl ⟨Nat.le_of_ble_eq_true rfl, Nat.le_of_ble_eq_true rfl⟩ rfl dL_law_785 ?_
  refine w_aload hV dL_law_788 rfl ?_
  refine w_call9 hV (m_X9_back l D cI o2  M r M' e2) mL_117 rfl rfl ⟨Nat.le_of_ble_eq_true rfl, Nat.le_of_ble_eq_true rfl⟩ rfl dL_law_789 ?_
  exact w_icmpeq hV 820 dL_law_792 (by decide) (fun _ => K C' M' hR') (fun h => absurd rfl h)
theorem law_25 {l : Launch} {D : va_G} {cI cM : ClassId} {b L o o2 : Nat} {xs : Nat → Int32} {V : FMem → FMem → Nat → Nat → List Value → Prop} (hV : LwP l D cI cM b L o o2 xs V) {i : Nat} (hi : i + 6 ≤ L) {C M : FMem} (hR : Rel C M) (K : ∀ C' M', Rel C' M' → V C' M' 820 i []) : V C M 797 i [] := by
  obtain ⟨r, C', M', e1, e2, hR'⟩ := op_count (xs (i + 1)) C M hR
  refine w_aload hV dL_law_797 rfl ?_
  refine w_arg hV 1 (by omega) (by decide) dL_law_798 dL_law_799 dL_law_800 dL_law_801 dL_law_802 ?_
  refine w_call8 hV (m_X8_count l D cI cM o (xs (i + 1)) C r C' e1) mL_118 rfl rfl ⟨Nat.le_of_ble_eq_true rfl, Nat.le_of_ble_eq_true rfl⟩ rfl dL_law_803 ?_
  refine w_aload hV dL_law_806 rfl ?_
  refine w_arg hV 1 (by omega) (by decide) dL_law_807 dL_law_808 dL_law_809 dL_law_810 dL_law_811 ?_
  refine w_call9 hV (m_X9_count l D cI o2 (xs (i + 1)) M r M' e2) mL_121 rfl rfl ⟨Nat.le_of_ble_eq_true rfl, Nat.le_of_ble_eq_true rfl⟩ rfl dL_law_812 ?_
  exact w_icmpeq hV 820 dL_law_815 (by decide) (fun _ => K C' M' hR') (fun h => absurd rfl h)
