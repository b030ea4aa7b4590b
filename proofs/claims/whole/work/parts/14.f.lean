theorem vin5 {i L : Nat} (hi : i + 6 ≤ L) (hL : L ≤ 3072) : vp_in (nI i + 1) L ∧ vp_in (nI i + 2) L ∧ vp_in (nI i + 3) L ∧ vp_in (nI i + 4) L ∧ vp_in (nI i + 5) L :=
  ⟨by rw [show nI i + 1 = nI (i + 1) from nI_add i 1]; exact vp_in_nI (by omega) (by omega), by rw [show nI i + 2 = nI (i + 2) from nI_add i 2]; exact vp_in_nI (by omega) (by omega), by rw [show nI i + 3 = nI (i + 3) from nI_add i 3]; exact vp_in_nI (by omega) (by omega), by rw [show nI i + 4 = nI (i + 4) from nI_add i 4]; exact vp_in_nI (by omega) (by omega), by rw [show nI i + 5 = nI (i + 5) from nI_add i 5]; exact vp_in_nI (by omega) (by omega)⟩
theorem law_c0 {Y : Yt} {EC EM : Ev} {b L : Nat} {xs : Nat → Int32} {i : Nat} {f g : Fn} (C : CY Y RL cL_law 4) (X : LX Y EC EM b L xs) (hi : i + 6 ≤ L) (hL : L ≤ 3072) (hC : Cpl f g) (hM : InvM g) (hcont : ∀ f' g' : Fn, Cpl f' g' → InvM g' → IG Y 68 sLW (WW EC EM f' g') (LV EC EM b (nI i)) 1549 []) : IG Y 68 sLW (WW EC EM f g) (LV EC EM b (nI i)) 208 [] := by
  obtain ⟨v1, v2, v3, v4, v5⟩ := vin5 hi hL
  refine i_aload_n C rfl dL_law_208 rfl ?_
  refine i_aload_n C rfl dL_law_209 rfl ?_
  refine i_iload_n C rfl dL_law_210 rfl ?_
  refine i_iconst (v := (1 : Int32)) C (by decide) dL_law_211 rfl ?_
  refine i_iadd C dL_law_212 rfl ?_
  refine i_cell C X v1 dL_law_213 rfl ?_
  refine i_aload_n C rfl dL_law_214 rfl ?_
  refine i_iload_n C rfl dL_law_215 rfl ?_
  refine i_iconst (v := (2 : Int32)) C (by decide) dL_law_216 rfl ?_
  refine i_iadd C dL_law_217 rfl ?_
  refine i_cell C X v2 dL_law_218 rfl ?_
  refine i_aload_n C rfl dL_law_219 rfl ?_
  refine i_iload_n C rfl dL_law_220 rfl ?_
  refine i_iconst (v := (3 : Int32)) C (by decide) dL_law_221 rfl ?_
  refine i_iadd C dL_law_222 rfl ?_
  refine i_cell C X v3 dL_law_223 rfl ?_
  refine i_callC (As := [.int (xs (nI i + 1).toNatClampNeg), .int (xs (nI i + 2).toNatClampNeg), .int (xs (nI i + 3).toNatClampNeg)]) (na := 3) C X (by decide) tw_309 tw_310 tw_311 tw_1 tw_312 (by decide) rfl (Nat.le_of_ble_eq_true rfl) rfl (ct_X8_swing VCt_l1 VCt_l2 VCt_m1 VCt_m2 VCt_x8 f (xs (nI i + 1).toNatClampNeg) (xs (nI i + 2).toNatClampNeg) (xs (nI i + 3).toNatClampNeg) ⟨g, hC, hM⟩) dL_law_224 rfl (fun v9 f1 p1 => ?_) rfl
  obtain ⟨r1, rfl, p1⟩ := p1
  have z1 := p1 g hC hM
  refine i_aload_n C rfl dL_law_227 rfl ?_
  refine i_aload_n C rfl dL_law_228 rfl ?_
  refine i_iload_n C rfl dL_law_229 rfl ?_
  refine i_iconst (v := (1 : Int32)) C (by decide) dL_law_230 rfl ?_
  refine i_iadd C dL_law_231 rfl ?_
  refine i_cell C X v1 dL_law_232 rfl ?_
  refine i_aload_n C rfl dL_law_233 rfl ?_
  refine i_iload_n C rfl dL_law_234 rfl ?_
  refine i_iconst (v := (2 : Int32)) C (by decide) dL_law_235 rfl ?_
  refine i_iadd C dL_law_236 rfl ?_
  refine i_cell C X v2 dL_law_237 rfl ?_
  refine i_aload_n C rfl dL_law_238 rfl ?_
  refine i_iload_n C rfl dL_law_239 rfl ?_
  refine i_iconst (v := (3 : Int32)) C (by decide) dL_law_240 rfl ?_
  refine i_iadd C dL_law_241 rfl ?_
  refine i_cell C X v3 dL_law_242 rfl ?_
  refine i_callM (As := [.int (xs (nI i + 1).toNatClampNeg), .int (xs (nI i + 2).toNatClampNeg), .int (xs (nI i + 3).toNatClampNeg)]) (na := 3) C X (by decide) tw_947 tw_948 tw_949 tw_10 tw_950 (by decide) rfl (Nat.le_of_ble_eq_true rfl) rfl (ct_X9_swing VCt_l1 VCt_l2 VCt_m1 g (xs (nI i + 1).toNatClampNeg) (xs (nI i + 2).toNatClampNeg) (xs (nI i + 3).toNatClampNeg) hM) dL_law_243 rfl (fun v9 g1 p2 => ?_) rfl
  obtain ⟨r2, rfl, p2⟩ := p2
  refine i_icmp_eq (tgt := 1549) C dL_law_246 (by decide) rfl (fun _ => ?_) (fun h9 => absurd (z1.1.trans p2.1.symm) h9)
  exact hcont f1 g1 (CplEqM z1.2 p2.2) (InvE (K_swing hM (xs (nI i + 1).toNatClampNeg) (xs (nI i + 2).toNatClampNeg) (xs (nI i + 3).toNatClampNeg)) p2.2)
theorem law_c1 {Y : Yt} {EC EM : Ev} {b L : Nat} {xs : Nat → Int32} {i : Nat} {f g : Fn} (C : CY Y RL cL_law 4) (X : LX Y EC EM b L xs) (hi : i + 6 ≤ L) (hL : L ≤ 3072) (hC : Cpl f g) (hM : InvM g) (hcont : ∀ f' g' : Fn, Cpl f' g' → InvM g' → IG Y 68 sLW (WW EC EM f' g') (LV EC EM b (nI i)) 1549 []) : IG Y 68 sLW (WW EC EM f g) (LV EC EM b (nI i)) 251 [] := by
  obtain ⟨v1, v2, v3, v4, v5⟩ := vin5 hi hL
  refine i_aload_n C rfl dL_law_251 rfl ?_
  refine i_aload_n C rfl dL_law_252 rfl ?_
  refine i_iload_n C rfl dL_law_253 rfl ?_
  refine i_iconst (v := (1 : Int32)) C (by decide) dL_law_254 rfl ?_
  refine i_iadd C dL_law_255 rfl ?_
  refine i_cell C X v1 dL_law_256 rfl ?_
  refine i_aload_n C rfl dL_law_257 rfl ?_
  refine i_iload_n C rfl dL_law_258 rfl ?_
  refine i_iconst (v := (2 : Int32)) C (by decide) dL_law_259 rfl ?_
  refine i_iadd C dL_law_260 rfl ?_
  refine i_cell C X v2 dL_law_261 rfl ?_
  refine i_callC (As := [.int (xs (nI i + 1).toNatClampNeg), .int (xs (nI i + 2).toNatClampNeg)]) (na := 2) C X (by decide) tw_337 tw_338 tw_339 tw_1 tw_340 (by decide) rfl (Nat.le_of_ble_eq_true rfl) rfl (ct_X8_bar VCt_l1 VCt_l2 VCt_m1 VCt_m2 VCt_x8 f (xs (nI i + 1).toNatClampNeg) (xs (nI i + 2).toNatClampNeg) ⟨g, hC, hM⟩) dL_law_262 rfl (fun v9 f1 p1 => ?_) rfl
  obtain ⟨r1, rfl, p1⟩ := p1
  have z1 := p1 g hC hM
  refine i_aload_n C rfl dL_law_265 rfl ?_
  refine i_aload_n C rfl dL_law_266 rfl ?_
  refine i_iload_n C rfl dL_law_267 rfl ?_
  refine i_iconst (v := (1 : Int32)) C (by decide) dL_law_268 rfl ?_
  refine i_iadd C dL_law_269 rfl ?_
  refine i_cell C X v1 dL_law_270 rfl ?_
  refine i_aload_n C rfl dL_law_271 rfl ?_
  refine i_iload_n C rfl dL_law_272 rfl ?_
  refine i_iconst (v := (2 : Int32)) C (by decide) dL_law_273 rfl ?_
  refine i_iadd C dL_law_274 rfl ?_
  refine i_cell C X v2 dL_law_275 rfl ?_
  refine i_callM (As := [.int (xs (nI i + 1).toNatClampNeg), .int (xs (nI i + 2).toNatClampNeg)]) (na := 2) C X (by decide) tw_958 tw_959 tw_960 tw_10 tw_961 (by decide) rfl (Nat.le_of_ble_eq_true rfl) rfl (ct_X9_bar VCt_l1 VCt_l2 VCt_m1 g (xs (nI i + 1).toNatClampNeg) (xs (nI i + 2).toNatClampNeg) hM) dL_law_276 rfl (fun v9 g1 p2 => ?_) rfl
  obtain ⟨r2, rfl, p2⟩ := p2
  refine i_icmp_eq (tgt := 1549) C dL_law_279 (by decide) rfl (fun _ => ?_) (fun h9 => absurd (z1.1.trans p2.1.symm) h9)
  exact hcont f1 g1 (CplEqM z1.2 p2.2) (InvE (K_bar hM (xs (nI i + 1).toNatClampNeg) (xs (nI i + 2).toNatClampNeg)) p2.2)
theorem law_c2 {Y : Yt} {EC EM : Ev} {b L : Nat} {xs : Nat → Int32} {i : Nat} {f g : Fn} (C : CY Y RL cL_law 4) (X : LX Y EC EM b L xs) (hi : i + 6 ≤ L) (hL : L ≤ 3072) (hC : Cpl f g) (hM : InvM g) (hcont : ∀ f' g' : Fn, Cpl f' g' → InvM g' → IG Y 68 sLW (WW EC EM f' g') (LV EC EM b (nI i)) 1549 []) : IG Y 68 sLW (WW EC EM f g) (LV EC EM b (nI i)) 284 [] := by
  obtain ⟨v1, v2, v3, v4, v5⟩ := vin5 hi hL
  refine i_aload_n C rfl dL_law_284 rfl ?_
  refine i_aload_n C rfl dL_law_285 rfl ?_
  refine i_iload_n C rfl dL_law_286 rfl ?_
  refine i_iconst (v := (1 : Int32)) C (by decide) dL_law_287 rfl ?_
  refine i_iadd C dL_law_288 rfl ?_
  refine i_cell C X v1 dL_law_289 rfl ?_
  refine i_aload_n C rfl dL_law_290 rfl ?_
  refine i_iload_n C rfl dL_law_291 rfl ?_
  refine i_iconst (v := (2 : Int32)) C (by decide) dL_law_292 rfl ?_
  refine i_iadd C dL_law_293 rfl ?_
  refine i_cell C X v2 dL_law_294 rfl ?_
  refine i_callC (As := [.int (xs (nI i + 1).toNatClampNeg), .int (xs (nI i + 2).toNatClampNeg)]) (na := 2) C X (by decide) tw_351 tw_352 tw_353 tw_1 tw_354 (by decide) rfl (Nat.le_of_ble_eq_true rfl) rfl (ct_X8_set VCt_l1 VCt_l2 VCt_m1 VCt_m2 VCt_x8 f (xs (nI i + 1).toNatClampNeg) (xs (nI i + 2).toNatClampNeg) ⟨g, hC, hM⟩) dL_law_295 rfl (fun v9 f1 p1 => ?_) rfl
  obtain ⟨r1, rfl, p1⟩ := p1
  have z1 := p1 g hC hM
  refine i_aload_n C rfl dL_law_298 rfl ?_
  refine i_aload_n C rfl dL_law_299 rfl ?_
  refine i_iload_n C rfl dL_law_300 rfl ?_
  refine i_iconst (v := (1 : Int32)) C (by decide) dL_law_301 rfl ?_
  refine i_iadd C dL_law_302 rfl ?_
  refine i_cell C X v1 dL_law_303 rfl ?_
  refine i_aload_n C rfl dL_law_304 rfl ?_
  refine i_iload_n C rfl dL_law_305 rfl ?_
  refine i_iconst (v := (2 : Int32)) C (by decide) dL_law_306 rfl ?_
  refine i_iadd C dL_law_307 rfl ?_
  refine i_cell C X v2 dL_law_308 rfl ?_
  refine i_callM (As := [.int (xs (nI i + 1).toNatClampNeg), .int (xs (nI i + 2).toNatClampNeg)]) (na := 2) C X (by decide) tw_967 tw_968 tw_969 tw_10 tw_970 (by decide) rfl (Nat.le_of_ble_eq_true rfl) rfl (ct_X9_set VCt_l1 VCt_l2 VCt_m1 g (xs (nI i + 1).toNatClampNeg) (xs (nI i + 2).toNatClampNeg) hM) dL_law_309 rfl (fun v9 g1 p2 => ?_) rfl
  obtain ⟨r2, rfl, p2⟩ := p2
  refine i_icmp_eq (tgt := 1549) C dL_law_312 (by decide) rfl (fun _ => ?_) (fun h9 => absurd (z1.1.trans p2.1.symm) h9)
  exact hcont f1 g1 (CplEqM z1.2 p2.2) (InvE (K_set hM (xs (nI i + 1).toNatClampNeg) (xs (nI i + 2).toNatClampNeg)) p2.2)
theorem law_c3 {Y : Yt} {EC EM : Ev} {b L : Nat} {xs : Nat → Int32} {i : Nat} {f g : Fn} (C : CY Y RL cL_law 4) (X : LX Y EC EM b L xs) (hi : i + 6 ≤ L) (hL : L ≤ 3072) (hC : Cpl f g) (hM : InvM g) (hcont : ∀ f' g' : Fn, Cpl f' g' → InvM g' → IG Y 68 sLW (WW EC EM f' g') (LV EC EM b (nI i)) 1549 []) : IG Y 68 sLW (WW EC EM f g) (LV EC EM b (nI i)) 317 [] := by
  obtain ⟨v1, v2, v3, v4, v5⟩ := vin5 hi hL
  refine i_aload_n C rfl dL_law_317 rfl ?_
  refine i_aload_n C rfl dL_law_318 rfl ?_
  refine i_iload_n C rfl dL_law_319 rfl ?_
  refine i_iconst (v := (1 : Int32)) C (by decide) dL_law_320 rfl ?_
  refine i_iadd C dL_law_321 rfl ?_
  refine i_cell C X v1 dL_law_322 rfl ?_
  refine i_callC (As := [.int (xs (nI i + 1).toNatClampNeg)]) (na := 1) C X (by decide) tw_355 tw_356 tw_357 tw_1 tw_358 (by decide) rfl (Nat.le_of_ble_eq_true rfl) rfl (ct_X8_flyer VCt_l1 VCt_l2 VCt_m1 VCt_m2 VCt_x8 f (xs (nI i + 1).toNatClampNeg) ⟨g, hC, hM⟩) dL_law_323 rfl (fun v9 f1 p1 => ?_) rfl
  obtain ⟨r1, rfl, p1⟩ := p1
  have z1 := p1 g hC hM
  refine i_aload_n C rfl dL_law_326 rfl ?_
  refine i_aload_n C rfl dL_law_327 rfl ?_
  refine i_iload_n C rfl dL_law_328 rfl ?_
  refine i_iconst (v := (1 : Int32)) C (by decide) dL_law_329 rfl ?_
  refine i_iadd C dL_law_330 rfl ?_
  refine i_cell C X v1 dL_law_331 rfl ?_
  refine i_callM (As := [.int (xs (nI i + 1).toNatClampNeg)]) (na := 1) C X (by decide) tw_975 tw_976 tw_977 tw_10 tw_978 (by decide) rfl (Nat.le_of_ble_eq_true rfl) rfl (ct_X9_flyer VCt_l1 VCt_l2 VCt_m1 g (xs (nI i + 1).toNatClampNeg) hM) dL_law_332 rfl (fun v9 g1 p2 => ?_) rfl
  obtain ⟨r2, rfl, p2⟩ := p2
  refine i_icmp_eq (tgt := 1549) C dL_law_335 (by decide) rfl (fun _ => ?_) (fun h9 => absurd (z1.1.trans p2.1.symm) h9)
  exact hcont f1 g1 (CplEqM z1.2 p2.2) (InvE (K_flyer hM (xs (nI i + 1).toNatClampNeg)) p2.2)
theorem law_c4 {Y : Yt} {EC EM : Ev} {b L : Nat} {xs : Nat → Int32} {i : Nat} {f g : Fn} (C : CY Y RL cL_law 4) (X : LX Y EC EM b L xs) (hi : i + 6 ≤ L) (hL : L ≤ 3072) (hC : Cpl f g) (hM : InvM g) (hcont : ∀ f' g' : Fn, Cpl f' g' → InvM g' → IG Y 68 sLW (WW EC EM f' g') (LV EC EM b (nI i)) 1549 []) : IG Y 68 sLW (WW EC EM f g) (LV EC EM b (nI i)) 340 [] := by
  obtain ⟨v1, v2, v3, v4, v5⟩ := vin5 hi hL
  refine i_aload_n C rfl dL_law_340 rfl ?_
  refine i_aload_n C rfl dL_law_341 rfl ?_
  refine i_iload_n C rfl dL_law_342 rfl ?_
  refine i_iconst (v := (1 : Int32)) C (by decide) dL_law_343 rfl ?_
  refine i_iadd C dL_law_344 rfl ?_
  refine i_cell C X v1 dL_law_345 rfl ?_
  refine i_aload_n C rfl dL_law_346 rfl ?_
  refine i_iload_n C rfl dL_law_347 rfl ?_
  refine i_iconst (v := (2 : Int32)) C (by decide) dL_law_348 rfl ?_
  refine i_iadd C dL_law_349 rfl ?_
  refine i_cell C X v2 dL_law_350 rfl ?_
  refine i_callC (As := [.int (xs (nI i + 1).toNatClampNeg), .int (xs (nI i + 2).toNatClampNeg)]) (na := 2) C X (by decide) tw_374 tw_375 tw_376 tw_1 tw_377 (by decide) rfl (Nat.le_of_ble_eq_true rfl) rfl (ct_X8_ofFlyer VCt_l1 VCt_l2 VCt_m1 VCt_m2 VCt_x8 f (xs (nI i + 1).toNatClampNeg) (xs (nI i + 2).toNatClampNeg) ⟨g, hC, hM⟩) dL_law_351 rfl (fun v9 f1 p1 => ?_) rfl
  obtain ⟨r1, rfl, p1⟩ := p1
  have z1 := p1 g hC hM
  refine i_aload_n C rfl dL_law_354 rfl ?_
  refine i_aload_n C rfl dL_law_355 rfl ?_
  refine i_iload_n C rfl dL_law_356 rfl ?_
  refine i_iconst (v := (1 : Int32)) C (by decide) dL_law_357 rfl ?_
  refine i_iadd C dL_law_358 rfl ?_
  refine i_cell C X v1 dL_law_359 rfl ?_
  refine i_aload_n C rfl dL_law_360 rfl ?_
  refine i_iload_n C rfl dL_law_361 rfl ?_
  refine i_iconst (v := (2 : Int32)) C (by decide) dL_law_362 rfl ?_
  refine i_iadd C dL_law_363 rfl ?_
  refine i_cell C X v2 dL_law_364 rfl ?_
  refine i_callM (As := [.int (xs (nI i + 1).toNatClampNeg), .int (xs (nI i + 2).toNatClampNeg)]) (na := 2) C X (by decide) tw_984 tw_985 tw_986 tw_10 tw_987 (by decide) rfl (Nat.le_of_ble_eq_true rfl) rfl (ct_X9_ofFlyer VCt_l1 VCt_l2 VCt_m1 g (xs (nI i + 1).toNatClampNeg) (xs (nI i + 2).toNatClampNeg) hM) dL_law_365 rfl (fun v9 g1 p2 => ?_) rfl
  obtain ⟨r2, rfl, p2⟩ := p2
  refine i_icmp_eq (tgt := 1549) C dL_law_368 (by decide) rfl (fun _ => ?_) (fun h9 => absurd (z1.1.trans p2.1.symm) h9)
  exact hcont f1 g1 (CplEqM z1.2 p2.2) (InvE (K_ofFlyer hM (xs (nI i + 1).toNatClampNeg) (xs (nI i + 2).toNatClampNeg)) p2.2)
theorem law_c5 {Y : Yt} {EC EM : Ev} {b L : Nat} {xs : Nat → Int32} {i : Nat} {f g : Fn} (C : CY Y RL cL_law 4) (X : LX Y EC EM b L xs) (hi : i + 6 ≤ L) (hL : L ≤ 3072) (hC : Cpl f g) (hM : InvM g) (hcont : ∀ f' g' : Fn, Cpl f' g' → InvM g' → IG Y 68 sLW (WW EC EM f' g') (LV EC EM b (nI i)) 1549 []) : IG Y 68 sLW (WW EC EM f g) (LV EC EM b (nI i)) 373 [] := by
  obtain ⟨v1, v2, v3, v4, v5⟩ := vin5 hi hL
  refine i_aload_n C rfl dL_law_373 rfl ?_
  refine i_aload_n C rfl dL_law_374 rfl ?_
  refine i_iload_n C rfl dL_law_375 rfl ?_
  refine i_iconst (v := (1 : Int32)) C (by decide) dL_law_376 rfl ?_
  refine i_iadd C dL_law_377 rfl ?_
  refine i_cell C X v1 dL_law_378 rfl ?_
  refine i_aload_n C rfl dL_law_379 rfl ?_
  refine i_iload_n C rfl dL_law_380 rfl ?_
  refine i_iconst (v := (2 : Int32)) C (by decide) dL_law_381 rfl ?_
  refine i_iadd C dL_law_382 rfl ?_
  refine i_cell C X v2 dL_law_383 rfl ?_
  refine i_callC (As := [.int (xs (nI i + 1).toNatClampNeg), .int (xs (nI i + 2).toNatClampNeg)]) (na := 2) C X (by decide) tw_391 tw_392 tw_393 tw_1 tw_394 (by decide) rfl (Nat.le_of_ble_eq_true rfl) rfl (ct_X8_become VCt_l1 VCt_l2 VCt_m1 VCt_m2 VCt_x8 f (xs (nI i + 1).toNatClampNeg) (xs (nI i + 2).toNatClampNeg) ⟨g, hC, hM⟩) dL_law_384 rfl (fun v9 f1 p1 => ?_) rfl
  obtain ⟨r1, rfl, p1⟩ := p1
  have z1 := p1 g hC hM
  refine i_aload_n C rfl dL_law_387 rfl ?_
  refine i_aload_n C rfl dL_law_388 rfl ?_
  refine i_iload_n C rfl dL_law_389 rfl ?_
  refine i_iconst (v := (1 : Int32)) C (by decide) dL_law_390 rfl ?_
  refine i_iadd C dL_law_391 rfl ?_
  refine i_cell C X v1 dL_law_392 rfl ?_
  refine i_aload_n C rfl dL_law_393 rfl ?_
  refine i_iload_n C rfl dL_law_394 rfl ?_
  refine i_iconst (v := (2 : Int32)) C (by decide) dL_law_395 rfl ?_
  refine i_iadd C dL_law_396 rfl ?_
  refine i_cell C X v2 dL_law_397 rfl ?_
  refine i_callM (As := [.int (xs (nI i + 1).toNatClampNeg), .int (xs (nI i + 2).toNatClampNeg)]) (na := 2) C X (by decide) tw_1009 tw_1010 tw_1011 tw_10 tw_1012 (by decide) rfl (Nat.le_of_ble_eq_true rfl) rfl (ct_X9_become VCt_l1 VCt_l2 VCt_m1 g (xs (nI i + 1).toNatClampNeg) (xs (nI i + 2).toNatClampNeg) hM) dL_law_398 rfl (fun v9 g1 p2 => ?_) rfl
  obtain ⟨r2, rfl, p2⟩ := p2
  refine i_icmp_eq (tgt := 1549) C dL_law_401 (by decide) rfl (fun _ => ?_) (fun h9 => absurd (z1.1.trans p2.1.symm) h9)
  exact hcont f1 g1 (CplEqM z1.2 p2.2) (InvE (K_become hM (xs (nI i + 1).toNatClampNeg) (xs (nI i + 2).toNatClampNeg)) p2.2)
theorem law_c6 {Y : Yt} {EC EM : Ev} {b L : Nat} {xs : Nat → Int32} {i : Nat} {f g : Fn} (C : CY Y RL cL_law 4) (X : LX Y EC EM b L xs) (hi : i + 6 ≤ L) (hL : L ≤ 3072) (hC : Cpl f g) (hM : InvM g) (hcont : ∀ f' g' : Fn, Cpl f' g' → InvM g' → IG Y 68 sLW (WW EC EM f' g') (LV EC EM b (nI i)) 1549 []) : IG Y 68 sLW (WW EC EM f g) (LV EC EM b (nI i)) 406 [] := by
  obtain ⟨v1, v2, v3, v4, v5⟩ := vin5 hi hL
  refine i_aload_n C rfl dL_law_406 rfl ?_
  refine i_aload_n C rfl dL_law_407 rfl ?_
  refine i_iload_n C rfl dL_law_408 rfl ?_
  refine i_iconst (v := (1 : Int32)) C (by decide) dL_law_409 rfl ?_
  refine i_iadd C dL_law_410 rfl ?_
  refine i_cell C X v1 dL_law_411 rfl ?_
  refine i_aload_n C rfl dL_law_412 rfl ?_
  refine i_iload_n C rfl dL_law_413 rfl ?_
  refine i_iconst (v := (2 : Int32)) C (by decide) dL_law_414 rfl ?_
  refine i_iadd C dL_law_415 rfl ?_
  refine i_cell C X v2 dL_law_416 rfl ?_
  refine i_callC (As := [.int (xs (nI i + 1).toNatClampNeg), .int (xs (nI i + 2).toNatClampNeg)]) (na := 2) C X (by decide) tw_396 tw_397 tw_398 tw_1 tw_399 (by decide) rfl (Nat.le_of_ble_eq_true rfl) rfl (ct_X8_as VCt_l1 VCt_l2 VCt_m1 VCt_m2 VCt_x8 f (xs (nI i + 1).toNatClampNeg) (xs (nI i + 2).toNatClampNeg) ⟨g, hC, hM⟩) dL_law_417 rfl (fun v9 f1 p1 => ?_) rfl
  obtain ⟨r1, rfl, p1⟩ := p1
  have z1 := p1 g hC hM
  refine i_aload_n C rfl dL_law_420 rfl ?_
  refine i_aload_n C rfl dL_law_421 rfl ?_
  refine i_iload_n C rfl dL_law_422 rfl ?_
  refine i_iconst (v := (1 : Int32)) C (by decide) dL_law_423 rfl ?_
  refine i_iadd C dL_law_424 rfl ?_
  refine i_cell C X v1 dL_law_425 rfl ?_
  refine i_aload_n C rfl dL_law_426 rfl ?_
  refine i_iload_n C rfl dL_law_427 rfl ?_
  refine i_iconst (v := (2 : Int32)) C (by decide) dL_law_428 rfl ?_
  refine i_iadd C dL_law_429 rfl ?_
  refine i_cell C X v2 dL_law_430 rfl ?_
  refine i_callM (As := [.int (xs (nI i + 1).toNatClampNeg), .int (xs (nI i + 2).toNatClampNeg)]) (na := 2) C X (by decide) tw_1013 tw_1014 tw_1015 tw_10 tw_1016 (by decide) rfl (Nat.le_of_ble_eq_true rfl) rfl (ct_X9_as VCt_l1 VCt_l2 VCt_m1 g (xs (nI i + 1).toNatClampNeg) (xs (nI i + 2).toNatClampNeg) hM) dL_law_431 rfl (fun v9 g1 p2 => ?_) rfl
  obtain ⟨r2, rfl, p2⟩ := p2
  refine i_icmp_eq (tgt := 1549) C dL_law_434 (by decide) rfl (fun _ => ?_) (fun h9 => absurd (z1.1.trans p2.1.symm) h9)
  exact hcont f1 g1 (CplEqM z1.2 p2.2) (InvE (K_as hM (xs (nI i + 1).toNatClampNeg) (xs (nI i + 2).toNatClampNeg)) p2.2)
theorem law_c7 {Y : Yt} {EC EM : Ev} {b L : Nat} {xs : Nat → Int32} {i : Nat} {f g : Fn} (C : CY Y RL cL_law 4) (X : LX Y EC EM b L xs) (hi : i + 6 ≤ L) (hL : L ≤ 3072) (hC : Cpl f g) (hM : InvM g) (hcont : ∀ f' g' : Fn, Cpl f' g' → InvM g' → IG Y 68 sLW (WW EC EM f' g') (LV EC EM b (nI i)) 1549 []) : IG Y 68 sLW (WW EC EM f g) (LV EC EM b (nI i)) 439 [] := by
  obtain ⟨v1, v2, v3, v4, v5⟩ := vin5 hi hL
  refine i_aload_n C rfl dL_law_439 rfl ?_
  refine i_aload_n C rfl dL_law_440 rfl ?_
  refine i_iload_n C rfl dL_law_441 rfl ?_
  refine i_iconst (v := (1 : Int32)) C (by decide) dL_law_442 rfl ?_
  refine i_iadd C dL_law_443 rfl ?_
  refine i_cell C X v1 dL_law_444 rfl ?_
  refine i_aload_n C rfl dL_law_445 rfl ?_
  refine i_iload_n C rfl dL_law_446 rfl ?_
  refine i_iconst (v := (2 : Int32)) C (by decide) dL_law_447 rfl ?_
  refine i_iadd C dL_law_448 rfl ?_
  refine i_cell C X v2 dL_law_449 rfl ?_
  refine i_callC (As := [.int (xs (nI i + 1).toNatClampNeg), .int (xs (nI i + 2).toNatClampNeg)]) (na := 2) C X (by decide) tw_407 tw_408 tw_409 tw_1 tw_410 (by decide) rfl (Nat.le_of_ble_eq_true rfl) rfl (ct_X8_turn VCt_l1 VCt_l2 VCt_m1 VCt_m2 VCt_x8 f (xs (nI i + 1).toNatClampNeg) (xs (nI i + 2).toNatClampNeg) ⟨g, hC, hM⟩) dL_law_450 rfl (fun v9 f1 p1 => ?_) rfl
  obtain ⟨r1, rfl, p1⟩ := p1
  have z1 := p1 g hC hM
  refine i_aload_n C rfl dL_law_453 rfl ?_
  refine i_aload_n C rfl dL_law_454 rfl ?_
  refine i_iload_n C rfl dL_law_455 rfl ?_
  refine i_iconst (v := (1 : Int32)) C (by decide) dL_law_456 rfl ?_
  refine i_iadd C dL_law_457 rfl ?_
  refine i_cell C X v1 dL_law_458 rfl ?_
  refine i_aload_n C rfl dL_law_459 rfl ?_
  refine i_iload_n C rfl dL_law_460 rfl ?_
  refine i_iconst (v := (2 : Int32)) C (by decide) dL_law_461 rfl ?_
  refine i_iadd C dL_law_462 rfl ?_
  refine i_cell C X v2 dL_law_463 rfl ?_
  refine i_callM (As := [.int (xs (nI i + 1).toNatClampNeg), .int (xs (nI i + 2).toNatClampNeg)]) (na := 2) C X (by decide) tw_1020 tw_1021 tw_1022 tw_10 tw_1023 (by decide) rfl (Nat.le_of_ble_eq_true rfl) rfl (ct_X9_turn VCt_l1 VCt_l2 VCt_m1 g (xs (nI i + 1).toNatClampNeg) (xs (nI i + 2).toNatClampNeg) hM) dL_law_464 rfl (fun v9 g1 p2 => ?_) rfl
  obtain ⟨r2, rfl, p2⟩ := p2
  refine i_icmp_eq (tgt := 1549) C dL_law_467 (by decide) rfl (fun _ => ?_) (fun h9 => absurd (z1.1.trans p2.1.symm) h9)
  exact hcont f1 g1 (CplEqM z1.2 p2.2) (InvE (K_turn hM (xs (nI i + 1).toNatClampNeg) (xs (nI i + 2).toNatClampNeg)) p2.2)
theorem law_c8 {Y : Yt} {EC EM : Ev} {b L : Nat} {xs : Nat → Int32} {i : Nat} {f g : Fn} (C : CY Y RL cL_law 4) (X : LX Y EC EM b L xs) (hi : i + 6 ≤ L) (hL : L ≤ 3072) (hC : Cpl f g) (hM : InvM g) (hcont : ∀ f' g' : Fn, Cpl f' g' → InvM g' → IG Y 68 sLW (WW EC EM f' g') (LV EC EM b (nI i)) 1549 []) : IG Y 68 sLW (WW EC EM f g) (LV EC EM b (nI i)) 472 [] := by
  obtain ⟨v1, v2, v3, v4, v5⟩ := vin5 hi hL
  refine i_aload_n C rfl dL_law_472 rfl ?_
  refine i_aload_n C rfl dL_law_473 rfl ?_
  refine i_iload_n C rfl dL_law_474 rfl ?_
  refine i_iconst (v := (1 : Int32)) C (by decide) dL_law_475 rfl ?_
  refine i_iadd C dL_law_476 rfl ?_
  refine i_cell C X v1 dL_law_477 rfl ?_
  refine i_i2l C dL_law_478 rfl ?_
  refine i_bipush (v := (32 : Int32)) C (by decide) dL_law_479 rfl ?_
  refine i_lshl C dL_law_481 rfl ?_
  refine i_aload_n C rfl dL_law_482 rfl ?_
  refine i_iload_n C rfl dL_law_483 rfl ?_
  refine i_iconst (v := (2 : Int32)) C (by decide) dL_law_484 rfl ?_
  refine i_iadd C dL_law_485 rfl ?_
  refine i_cell C X v2 dL_law_486 rfl ?_
  refine i_i2l C dL_law_487 rfl ?_
  refine i_ldc2 C tw_1247 dL_law_488 rfl ?_
  refine i_land C dL_law_491 rfl ?_
  refine i_lor C dL_law_492 rfl ?_
  refine i_aload_n C rfl dL_law_493 rfl ?_
  refine i_iload_n C rfl dL_law_494 rfl ?_
  refine i_iconst (v := (3 : Int32)) C (by decide) dL_law_495 rfl ?_
  refine i_iadd C dL_law_496 rfl ?_
  refine i_cell C X v3 dL_law_497 rfl ?_
  refine i_callC (As := [.long (((xs (nI i + 1).toNatClampNeg).toInt64 <<< ((32 : Int32).toInt64 &&& 63)) ||| ((xs (nI i + 2).toNatClampNeg).toInt64 &&& (4294967295 : Int64))), .int (xs (nI i + 3).toNatClampNeg)]) (na := 2) C X (by decide) tw_411 tw_412 tw_413 tw_1 tw_414 (by decide) rfl (Nat.le_of_ble_eq_true rfl) rfl (ct_X8_feed VCt_l1 VCt_l2 VCt_m1 VCt_m2 VCt_x8 f (((xs (nI i + 1).toNatClampNeg).toInt64 <<< ((32 : Int32).toInt64 &&& 63)) ||| ((xs (nI i + 2).toNatClampNeg).toInt64 &&& (4294967295 : Int64))) (xs (nI i + 3).toNatClampNeg) ⟨g, hC, hM⟩) dL_law_498 rfl (fun v9 f1 p1 => ?_) rfl
  obtain ⟨r1, rfl, p1⟩ := p1
  have z1 := p1 g hC hM
  refine i_aload_n C rfl dL_law_501 rfl ?_
  refine i_aload_n C rfl dL_law_502 rfl ?_
  refine i_iload_n C rfl dL_law_503 rfl ?_
  refine i_iconst (v := (1 : Int32)) C (by decide) dL_law_504 rfl ?_
  refine i_iadd C dL_law_505 rfl ?_
  refine i_cell C X v1 dL_law_506 rfl ?_
  refine i_i2l C dL_law_507 rfl ?_
  refine i_bipush (v := (32 : Int32)) C (by decide) dL_law_508 rfl ?_
  refine i_lshl C dL_law_510 rfl ?_
  refine i_aload_n C rfl dL_law_511 rfl ?_
  refine i_iload_n C rfl dL_law_512 rfl ?_
  refine i_iconst (v := (2 : Int32)) C (by decide) dL_law_513 rfl ?_
  refine i_iadd C dL_law_514 rfl ?_
  refine i_cell C X v2 dL_law_515 rfl ?_
  refine i_i2l C dL_law_516 rfl ?_
  refine i_ldc2 C tw_1247 dL_law_517 rfl ?_
  refine i_land C dL_law_520 rfl ?_
  refine i_lor C dL_law_521 rfl ?_
  refine i_aload_n C rfl dL_law_522 rfl ?_
  refine i_iload_n C rfl dL_law_523 rfl ?_
  refine i_iconst (v := (3 : Int32)) C (by decide) dL_law_524 rfl ?_
  refine i_iadd C dL_law_525 rfl ?_
  refine i_cell C X v3 dL_law_526 rfl ?_
  refine i_callM (As := [.long (((xs (nI i + 1).toNatClampNeg).toInt64 <<< ((32 : Int32).toInt64 &&& 63)) ||| ((xs (nI i + 2).toNatClampNeg).toInt64 &&& (4294967295 : Int64))), .int (xs (nI i + 3).toNatClampNeg)]) (na := 2) C X (by decide) tw_873 tw_874 tw_875 tw_10 tw_876 (by decide) rfl (Nat.le_of_ble_eq_true rfl) rfl (ct_X9_feed VCt_l1 VCt_l2 VCt_m1 g (((xs (nI i + 1).toNatClampNeg).toInt64 <<< ((32 : Int32).toInt64 &&& 63)) ||| ((xs (nI i + 2).toNatClampNeg).toInt64 &&& (4294967295 : Int64))) (xs (nI i + 3).toNatClampNeg) hM) dL_law_527 rfl (fun v9 g1 p2 => ?_) rfl
  obtain ⟨r2, rfl, p2⟩ := p2
  refine i_icmp_eq (tgt := 1549) C dL_law_530 (by decide) rfl (fun _ => ?_) (fun h9 => absurd (z1.1.trans p2.1.symm) h9)
  exact hcont f1 g1 (CplEqM z1.2 p2.2) (InvE (K_feed hM (((xs (nI i + 1).toNatClampNeg).toInt64 <<< ((32 : Int32).toInt64 &&& 63)) ||| ((xs (nI i + 2).toNatClampNeg).toInt64 &&& (4294967295 : Int64))) (xs (nI i + 3).toNatClampNeg)) p2.2)
theorem law_c9 {Y : Yt} {EC EM : Ev} {b L : Nat} {xs : Nat → Int32} {i : Nat} {f g : Fn} (C : CY Y RL cL_law 4) (X : LX Y EC EM b L xs) (hi : i + 6 ≤ L) (hL : L ≤ 3072) (hC : Cpl f g) (hM : InvM g) (hcont : ∀ f' g' : Fn, Cpl f' g' → InvM g' → IG Y 68 sLW (WW EC EM f' g') (LV EC EM b (nI i)) 1549 []) : IG Y 68 sLW (WW EC EM f g) (LV EC EM b (nI i)) 535 [] := by
  obtain ⟨v1, v2, v3, v4, v5⟩ := vin5 hi hL
  refine i_aload_n C rfl dL_law_535 rfl ?_
  refine i_aload_n C rfl dL_law_536 rfl ?_
  refine i_iload_n C rfl dL_law_537 rfl ?_
  refine i_iconst (v := (1 : Int32)) C (by decide) dL_law_538 rfl ?_
  refine i_iadd C dL_law_539 rfl ?_
  refine i_cell C X v1 dL_law_540 rfl ?_
  refine i_callC (As := [.int (xs (nI i + 1).toNatClampNeg)]) (na := 1) C X (by decide) tw_419 tw_420 tw_421 tw_1 tw_422 (by decide) rfl (Nat.le_of_ble_eq_true rfl) rfl (ct_X8_text VCt_l1 VCt_l2 VCt_m1 VCt_m2 VCt_x8 f (xs (nI i + 1).toNatClampNeg) ⟨g, hC, hM⟩) dL_law_541 rfl (fun v9 f1 p1 => ?_) rfl
  obtain ⟨r1, rfl, p1⟩ := p1
  have z1 := p1 g hC hM
  refine i_aload_n C rfl dL_law_544 rfl ?_
  refine i_aload_n C rfl dL_law_545 rfl ?_
  refine i_iload_n C rfl dL_law_546 rfl ?_
  refine i_iconst (v := (1 : Int32)) C (by decide) dL_law_547 rfl ?_
  refine i_iadd C dL_law_548 rfl ?_
  refine i_cell C X v1 dL_law_549 rfl ?_
  refine i_callM (As := [.int (xs (nI i + 1).toNatClampNeg)]) (na := 1) C X (by decide) tw_887 tw_888 tw_889 tw_10 tw_890 (by decide) rfl (Nat.le_of_ble_eq_true rfl) rfl (ct_X9_text VCt_l1 VCt_l2 VCt_m1 g (xs (nI i + 1).toNatClampNeg) hM) dL_law_550 rfl (fun v9 g1 p2 => ?_) rfl
  obtain ⟨r2, rfl, p2⟩ := p2
  refine i_icmp_eq (tgt := 1549) C dL_law_553 (by decide) rfl (fun _ => ?_) (fun h9 => absurd (z1.1.trans p2.1.symm) h9)
  exact hcont f1 g1 (CplEqM z1.2 p2.2) (InvE (K_text hM (xs (nI i + 1).toNatClampNeg)) p2.2)
theorem law_c10 {Y : Yt} {EC EM : Ev} {b L : Nat} {xs : Nat → Int32} {i : Nat} {f g : Fn} (C : CY Y RL cL_law 4) (X : LX Y EC EM b L xs) (hi : i + 6 ≤ L) (hL : L ≤ 3072) (hC : Cpl f g) (hM : InvM g) (hcont : ∀ f' g' : Fn, Cpl f' g' → InvM g' → IG Y 68 sLW (WW EC EM f' g') (LV EC EM b (nI i)) 1549 []) : IG Y 68 sLW (WW EC EM f g) (LV EC EM b (nI i)) 558 [] := by
  obtain ⟨v1, v2, v3, v4, v5⟩ := vin5 hi hL
  refine i_aload_n C rfl dL_law_558 rfl ?_
  refine i_aload_n C rfl dL_law_559 rfl ?_
  refine i_iload_n C rfl dL_law_560 rfl ?_
  refine i_iconst (v := (1 : Int32)) C (by decide) dL_law_561 rfl ?_
  refine i_iadd C dL_law_562 rfl ?_
  refine i_cell C X v1 dL_law_563 rfl ?_
  refine i_aload_n C rfl dL_law_564 rfl ?_
  refine i_iload_n C rfl dL_law_565 rfl ?_
  refine i_iconst (v := (2 : Int32)) C (by decide) dL_law_566 rfl ?_
  refine i_iadd C dL_law_567 rfl ?_
  refine i_cell C X v2 dL_law_568 rfl ?_
  refine i_aload_n C rfl dL_law_569 rfl ?_
  refine i_iload_n C rfl dL_law_570 rfl ?_
  refine i_iconst (v := (3 : Int32)) C (by decide) dL_law_571 rfl ?_
  refine i_iadd C dL_law_572 rfl ?_
  refine i_cell C X v3 dL_law_573 rfl ?_
  refine i_aload_n C rfl dL_law_574 rfl ?_
  refine i_iload_n C rfl dL_law_575 rfl ?_
  refine i_iconst (v := (4 : Int32)) C (by decide) dL_law_576 rfl ?_
  refine i_iadd C dL_law_577 rfl ?_
  refine i_cell C X v4 dL_law_578 rfl ?_
  refine i_callC (As := [.int (xs (nI i + 1).toNatClampNeg), .int (xs (nI i + 2).toNatClampNeg), .int (xs (nI i + 3).toNatClampNeg), .int (xs (nI i + 4).toNatClampNeg)]) (na := 4) C X (by decide) tw_464 tw_465 tw_466 tw_1 tw_467 (by decide) rfl (Nat.le_of_ble_eq_true rfl) rfl (ct_X8_law VCt_l1 VCt_l2 VCt_m1 VCt_m2 VCt_x8 f (xs (nI i + 1).toNatClampNeg) (xs (nI i + 2).toNatClampNeg) (xs (nI i + 3).toNatClampNeg) (xs (nI i + 4).toNatClampNeg) ⟨g, hC, hM⟩) dL_law_579 rfl (fun v9 f1 p1 => ?_) rfl
  obtain ⟨r1, rfl, p1⟩ := p1
  have z1 := p1 g hC hM
  refine i_aload_n C rfl dL_law_582 rfl ?_
  refine i_aload_n C rfl dL_law_583 rfl ?_
  refine i_iload_n C rfl dL_law_584 rfl ?_
  refine i_iconst (v := (1 : Int32)) C (by decide) dL_law_585 rfl ?_
  refine i_iadd C dL_law_586 rfl ?_
  refine i_cell C X v1 dL_law_587 rfl ?_
  refine i_aload_n C rfl dL_law_588 rfl ?_
  refine i_iload_n C rfl dL_law_589 rfl ?_
  refine i_iconst (v := (2 : Int32)) C (by decide) dL_law_590 rfl ?_
  refine i_iadd C dL_law_591 rfl ?_
  refine i_cell C X v2 dL_law_592 rfl ?_
  refine i_aload_n C rfl dL_law_593 rfl ?_
  refine i_iload_n C rfl dL_law_594 rfl ?_
  refine i_iconst (v := (3 : Int32)) C (by decide) dL_law_595 rfl ?_
  refine i_iadd C dL_law_596 rfl ?_
  refine i_cell C X v3 dL_law_597 rfl ?_
  refine i_aload_n C rfl dL_law_598 rfl ?_
  refine i_iload_n C rfl dL_law_599 rfl ?_
  refine i_iconst (v := (4 : Int32)) C (by decide) dL_law_600 rfl ?_
  refine i_iadd C dL_law_601 rfl ?_
  refine i_cell C X v4 dL_law_602 rfl ?_
  refine i_callM (As := [.int (xs (nI i + 1).toNatClampNeg), .int (xs (nI i + 2).toNatClampNeg), .int (xs (nI i + 3).toNatClampNeg), .int (xs (nI i + 4).toNatClampNeg)]) (na := 4) C X (by decide) tw_936 tw_937 tw_938 tw_10 tw_939 (by decide) rfl (Nat.le_of_ble_eq_true rfl) rfl (ct_X9_law VCt_l1 VCt_l2 VCt_m1 g (xs (nI i + 1).toNatClampNeg) (xs (nI i + 2).toNatClampNeg) (xs (nI i + 3).toNatClampNeg) (xs (nI i + 4).toNatClampNeg) hM) dL_law_603 rfl (fun v9 g1 p2 => ?_) rfl
  obtain ⟨r2, rfl, p2⟩ := p2
  refine i_icmp_eq (tgt := 1549) C dL_law_606 (by decide) rfl (fun _ => ?_) (fun h9 => absurd (z1.1.trans p2.1.symm) h9)
  exact hcont f1 g1 (CplEqM z1.2 p2.2) (InvE (K_law hM (xs (nI i + 1).toNatClampNeg) (xs (nI i + 2).toNatClampNeg) (xs (nI i + 3).toNatClampNeg) (xs (nI i + 4).toNatClampNeg)) p2.2)
theorem law_c11 {Y : Yt} {EC EM : Ev} {b L : Nat} {xs : Nat → Int32} {i : Nat} {f g : Fn} (C : CY Y RL cL_law 4) (X : LX Y EC EM b L xs) (hi : i + 6 ≤ L) (hL : L ≤ 3072) (hC : Cpl f g) (hM : InvM g) (hcont : ∀ f' g' : Fn, Cpl f' g' → InvM g' → IG Y 68 sLW (WW EC EM f' g') (LV EC EM b (nI i)) 1549 []) : IG Y 68 sLW (WW EC EM f g) (LV EC EM b (nI i)) 611 [] := by
  obtain ⟨v1, v2, v3, v4, v5⟩ := vin5 hi hL
  refine i_aload_n C rfl dL_law_611 rfl ?_
  refine i_aload_n C rfl dL_law_612 rfl ?_
  refine i_iload_n C rfl dL_law_613 rfl ?_
  refine i_iconst (v := (1 : Int32)) C (by decide) dL_law_614 rfl ?_
  refine i_iadd C dL_law_615 rfl ?_
  refine i_cell C X v1 dL_law_616 rfl ?_
  refine i_callC (As := [.int (xs (nI i + 1).toNatClampNeg)]) (na := 1) C X (by decide) tw_479 tw_480 tw_481 tw_1 tw_482 (by decide) rfl (Nat.le_of_ble_eq_true rfl) rfl (ct_X8_go VCt_l1 VCt_l2 VCt_m1 VCt_m2 VCt_x8 f (xs (nI i + 1).toNatClampNeg) ⟨g, hC, hM⟩) dL_law_617 rfl (fun v9 f1 p1 => ?_) rfl
  obtain ⟨r1, rfl, p1⟩ := p1
  have z1 := p1 g hC hM
  refine i_aload_n C rfl dL_law_620 rfl ?_
  refine i_aload_n C rfl dL_law_621 rfl ?_
  refine i_iload_n C rfl dL_law_622 rfl ?_
  refine i_iconst (v := (1 : Int32)) C (by decide) dL_law_623 rfl ?_
  refine i_iadd C dL_law_624 rfl ?_
  refine i_cell C X v1 dL_law_625 rfl ?_
  refine i_callM (As := [.int (xs (nI i + 1).toNatClampNeg)]) (na := 1) C X (by decide) tw_1025 tw_1026 tw_1027 tw_10 tw_1028 (by decide) rfl (Nat.le_of_ble_eq_true rfl) rfl (ct_X9_go VCt_l1 VCt_l2 VCt_m1 g (xs (nI i + 1).toNatClampNeg) hM) dL_law_626 rfl (fun v9 g1 p2 => ?_) rfl
  obtain ⟨r2, rfl, p2⟩ := p2
  refine i_icmp_eq (tgt := 1549) C dL_law_629 (by decide) rfl (fun _ => ?_) (fun h9 => absurd (z1.1.trans p2.1.symm) h9)
  exact hcont f1 g1 (CplEqM z1.2 p2.2) (InvE (K_go hM (xs (nI i + 1).toNatClampNeg)) p2.2)
theorem law_c12 {Y : Yt} {EC EM : Ev} {b L : Nat} {xs : Nat → Int32} {i : Nat} {f g : Fn} (C : CY Y RL cL_law 4) (X : LX Y EC EM b L xs) (hi : i + 6 ≤ L) (hL : L ≤ 3072) (hC : Cpl f g) (hM : InvM g) (hcont : ∀ f' g' : Fn, Cpl f' g' → InvM g' → IG Y 68 sLW (WW EC EM f' g') (LV EC EM b (nI i)) 1549 []) : IG Y 68 sLW (WW EC EM f g) (LV EC EM b (nI i)) 634 [] := by
  obtain ⟨v1, v2, v3, v4, v5⟩ := vin5 hi hL
  refine i_aload_n C rfl dL_law_634 rfl ?_
  refine i_aload_n C rfl dL_law_635 rfl ?_
  refine i_iload_n C rfl dL_law_636 rfl ?_
  refine i_iconst (v := (1 : Int32)) C (by decide) dL_law_637 rfl ?_
  refine i_iadd C dL_law_638 rfl ?_
  refine i_cell C X v1 dL_law_639 rfl ?_
  refine i_callC (As := [.int (xs (nI i + 1).toNatClampNeg)]) (na := 1) C X (by decide) tw_523 tw_524 tw_525 tw_1 tw_526 (by decide) rfl (Nat.le_of_ble_eq_true rfl) rfl (ct_X8_ticks VCt_l1 VCt_l2 VCt_m1 VCt_m2 VCt_x8 f (xs (nI i + 1).toNatClampNeg) ⟨g, hC, hM⟩) dL_law_640 rfl (fun v9 f1 p1 => ?_) rfl
  obtain ⟨r1, rfl, p1⟩ := p1
  have z1 := p1 g hC hM
  refine i_aload_n C rfl dL_law_643 rfl ?_
  refine i_aload_n C rfl dL_law_644 rfl ?_
  refine i_iload_n C rfl dL_law_645 rfl ?_
  refine i_iconst (v := (1 : Int32)) C (by decide) dL_law_646 rfl ?_
  refine i_iadd C dL_law_647 rfl ?_
  refine i_cell C X v1 dL_law_648 rfl ?_
  refine i_callM (As := [.int (xs (nI i + 1).toNatClampNeg)]) (na := 1) C X (by decide) tw_1061 tw_1062 tw_1063 tw_10 tw_1064 (by decide) rfl (Nat.le_of_ble_eq_true rfl) rfl (ct_X9_ticks VCt_l1 VCt_l2 VCt_m1 g (xs (nI i + 1).toNatClampNeg) hM) dL_law_649 rfl (fun v9 g1 p2 => ?_) rfl
  obtain ⟨r2, rfl, p2⟩ := p2
  refine i_icmp_eq (tgt := 1549) C dL_law_652 (by decide) rfl (fun _ => ?_) (fun h9 => absurd (z1.1.trans p2.1.symm) h9)
  exact hcont f1 g1 (CplEqM z1.2 p2.2) (InvE (K_ticks hM (xs (nI i + 1).toNatClampNeg)) p2.2)
theorem law_c13 {Y : Yt} {EC EM : Ev} {b L : Nat} {xs : Nat → Int32} {i : Nat} {f g : Fn} (C : CY Y RL cL_law 4) (X : LX Y EC EM b L xs) (hi : i + 6 ≤ L) (hL : L ≤ 3072) (hC : Cpl f g) (hM : InvM g) (hcont : ∀ f' g' : Fn, Cpl f' g' → InvM g' → IG Y 68 sLW (WW EC EM f' g') (LV EC EM b (nI i)) 1549 []) : IG Y 68 sLW (WW EC EM f g) (LV EC EM b (nI i)) 657 [] := by
  obtain ⟨v1, v2, v3, v4, v5⟩ := vin5 hi hL
  refine i_aload_n C rfl dL_law_657 rfl ?_
  refine i_aload_n C rfl dL_law_658 rfl ?_
  refine i_iload_n C rfl dL_law_659 rfl ?_
  refine i_iconst (v := (1 : Int32)) C (by decide) dL_law_660 rfl ?_
  refine i_iadd C dL_law_661 rfl ?_
  refine i_cell C X v1 dL_law_662 rfl ?_
  refine i_callC (As := [.int (xs (nI i + 1).toNatClampNeg)]) (na := 1) C X (by decide) tw_527 tw_528 tw_529 tw_1 tw_530 (by decide) rfl (Nat.le_of_ble_eq_true rfl) rfl (ct_X8_evenings VCt_l1 VCt_l2 VCt_m1 VCt_m2 VCt_x8 f (xs (nI i + 1).toNatClampNeg) ⟨g, hC, hM⟩) dL_law_663 rfl (fun v9 f1 p1 => ?_) rfl
  obtain ⟨r1, rfl, p1⟩ := p1
  have z1 := p1 g hC hM
  refine i_aload_n C rfl dL_law_666 rfl ?_
  refine i_aload_n C rfl dL_law_667 rfl ?_
  refine i_iload_n C rfl dL_law_668 rfl ?_
  refine i_iconst (v := (1 : Int32)) C (by decide) dL_law_669 rfl ?_
  refine i_iadd C dL_law_670 rfl ?_
  refine i_cell C X v1 dL_law_671 rfl ?_
  refine i_callM (As := [.int (xs (nI i + 1).toNatClampNeg)]) (na := 1) C X (by decide) tw_1065 tw_1066 tw_1067 tw_10 tw_1068 (by decide) rfl (Nat.le_of_ble_eq_true rfl) rfl (ct_X9_evenings VCt_l1 VCt_l2 VCt_m1 g (xs (nI i + 1).toNatClampNeg) hM) dL_law_672 rfl (fun v9 g1 p2 => ?_) rfl
  obtain ⟨r2, rfl, p2⟩ := p2
  refine i_icmp_eq (tgt := 1549) C dL_law_675 (by decide) rfl (fun _ => ?_) (fun h9 => absurd (z1.1.trans p2.1.symm) h9)
  exact hcont f1 g1 (CplEqM z1.2 p2.2) (InvE (K_evenings hM (xs (nI i + 1).toNatClampNeg)) p2.2)
theorem law_c14 {Y : Yt} {EC EM : Ev} {b L : Nat} {xs : Nat → Int32} {i : Nat} {f g : Fn} (C : CY Y RL cL_law 4) (X : LX Y EC EM b L xs) (hi : i + 6 ≤ L) (hL : L ≤ 3072) (hC : Cpl f g) (hM : InvM g) (hcont : ∀ f' g' : Fn, Cpl f' g' → InvM g' → IG Y 68 sLW (WW EC EM f' g') (LV EC EM b (nI i)) 1549 []) : IG Y 68 sLW (WW EC EM f g) (LV EC EM b (nI i)) 680 [] := by
  obtain ⟨v1, v2, v3, v4, v5⟩ := vin5 hi hL
  refine i_aload_n C rfl dL_law_680 rfl ?_
  refine i_callC (As := []) (na := 0) C X (by decide) tw_540 tw_541 tw_542 tw_1 tw_543 (by decide) rfl (Nat.le_of_ble_eq_true rfl) rfl (ct_X8_rest VCt_l1 VCt_l2 VCt_m1 VCt_m2 VCt_x8 f  ⟨g, hC, hM⟩) dL_law_681 rfl (fun v9 f1 p1 => ?_) rfl
  obtain ⟨r1, rfl, p1⟩ := p1
  have z1 := p1 g hC hM
  refine i_aload_n C rfl dL_law_684 rfl ?_
  refine i_callM (As := []) (na := 0) C X (by decide) tw_1074 tw_1075 tw_1076 tw_10 tw_1077 (by decide) rfl (Nat.le_of_ble_eq_true rfl) rfl (ct_X9_rest VCt_l1 VCt_l2 VCt_m1 g  hM) dL_law_685 rfl (fun v9 g1 p2 => ?_) rfl
  obtain ⟨r2, rfl, p2⟩ := p2
  refine i_icmp_eq (tgt := 1549) C dL_law_688 (by decide) rfl (fun _ => ?_) (fun h9 => absurd (z1.1.trans p2.1.symm) h9)
  exact hcont f1 g1 (CplEqM z1.2 p2.2) (InvE (K_rest hM ) p2.2)
theorem law_c15 {Y : Yt} {EC EM : Ev} {b L : Nat} {xs : Nat → Int32} {i : Nat} {f g : Fn} (C : CY Y RL cL_law 4) (X : LX Y EC EM b L xs) (hi : i + 6 ≤ L) (hL : L ≤ 3072) (hC : Cpl f g) (hM : InvM g) (hcont : ∀ f' g' : Fn, Cpl f' g' → InvM g' → IG Y 68 sLW (WW EC EM f' g') (LV EC EM b (nI i)) 1549 []) : IG Y 68 sLW (WW EC EM f g) (LV EC EM b (nI i)) 693 [] := by
  obtain ⟨v1, v2, v3, v4, v5⟩ := vin5 hi hL
  refine i_aload_n C rfl dL_law_693 rfl ?_
  refine i_aload_n C rfl dL_law_694 rfl ?_
  refine i_iload_n C rfl dL_law_695 rfl ?_
  refine i_iconst (v := (1 : Int32)) C (by decide) dL_law_696 rfl ?_
  refine i_iadd C dL_law_697 rfl ?_
  refine i_cell C X v1 dL_law_698 rfl ?_
  refine i_aload_n C rfl dL_law_699 rfl ?_
  refine i_iload_n C rfl dL_law_700 rfl ?_
  refine i_iconst (v := (2 : Int32)) C (by decide) dL_law_701 rfl ?_
  refine i_iadd C dL_law_702 rfl ?_
  refine i_cell C X v2 dL_law_703 rfl ?_
  refine i_aload_n C rfl dL_law_704 rfl ?_
  refine i_iload_n C rfl dL_law_705 rfl ?_
  refine i_iconst (v := (3 : Int32)) C (by decide) dL_law_706 rfl ?_
  refine i_iadd C dL_law_707 rfl ?_
  refine i_cell C X v3 dL_law_708 rfl ?_
  refine i_callC (As := [.int (xs (nI i + 1).toNatClampNeg), .int (xs (nI i + 2).toNatClampNeg), .int (xs (nI i + 3).toNatClampNeg)]) (na := 3) C X (by decide) tw_544 tw_545 tw_546 tw_1 tw_547 (by decide) rfl (Nat.le_of_ble_eq_true rfl) rfl (ct_X8_then VCt_l1 VCt_l2 VCt_m1 VCt_m2 VCt_x8 f (xs (nI i + 1).toNatClampNeg) (xs (nI i + 2).toNatClampNeg) (xs (nI i + 3).toNatClampNeg) ⟨g, hC, hM⟩) dL_law_709 rfl (fun v9 f1 p1 => ?_) rfl
  obtain ⟨r1, rfl, p1⟩ := p1
  have z1 := p1 g hC hM
  refine i_aload_n C rfl dL_law_712 rfl ?_
  refine i_aload_n C rfl dL_law_713 rfl ?_
  refine i_iload_n C rfl dL_law_714 rfl ?_
  refine i_iconst (v := (1 : Int32)) C (by decide) dL_law_715 rfl ?_
  refine i_iadd C dL_law_716 rfl ?_
  refine i_cell C X v1 dL_law_717 rfl ?_
  refine i_aload_n C rfl dL_law_718 rfl ?_
  refine i_iload_n C rfl dL_law_719 rfl ?_
  refine i_iconst (v := (2 : Int32)) C (by decide) dL_law_720 rfl ?_
  refine i_iadd C dL_law_721 rfl ?_
  refine i_cell C X v2 dL_law_722 rfl ?_
  refine i_aload_n C rfl dL_law_723 rfl ?_
  refine i_iload_n C rfl dL_law_724 rfl ?_
  refine i_iconst (v := (3 : Int32)) C (by decide) dL_law_725 rfl ?_
  refine i_iadd C dL_law_726 rfl ?_
  refine i_cell C X v3 dL_law_727 rfl ?_
  refine i_callM (As := [.int (xs (nI i + 1).toNatClampNeg), .int (xs (nI i + 2).toNatClampNeg), .int (xs (nI i + 3).toNatClampNeg)]) (na := 3) C X (by decide) tw_1078 tw_1079 tw_1080 tw_10 tw_1081 (by decide) rfl (Nat.le_of_ble_eq_true rfl) rfl (ct_X9_then VCt_l1 VCt_l2 VCt_m1 g (xs (nI i + 1).toNatClampNeg) (xs (nI i + 2).toNatClampNeg) (xs (nI i + 3).toNatClampNeg) hM) dL_law_728 rfl (fun v9 g1 p2 => ?_) rfl
  obtain ⟨r2, rfl, p2⟩ := p2
  refine i_icmp_eq (tgt := 1549) C dL_law_731 (by decide) rfl (fun _ => ?_) (fun h9 => absurd (z1.1.trans p2.1.symm) h9)
  exact hcont f1 g1 (CplEqM z1.2 p2.2) (InvE (K_then hM (xs (nI i + 1).toNatClampNeg) (xs (nI i + 2).toNatClampNeg) (xs (nI i + 3).toNatClampNeg)) p2.2)
theorem law_c16 {Y : Yt} {EC EM : Ev} {b L : Nat} {xs : Nat → Int32} {i : Nat} {f g : Fn} (C : CY Y RL cL_law 4) (X : LX Y EC EM b L xs) (hi : i + 6 ≤ L) (hL : L ≤ 3072) (hC : Cpl f g) (hM : InvM g) (hcont : ∀ f' g' : Fn, Cpl f' g' → InvM g' → IG Y 68 sLW (WW EC EM f' g') (LV EC EM b (nI i)) 1549 []) : IG Y 68 sLW (WW EC EM f g) (LV EC EM b (nI i)) 736 [] := by
  obtain ⟨v1, v2, v3, v4, v5⟩ := vin5 hi hL
  refine i_aload_n C rfl dL_law_736 rfl ?_
  refine i_aload_n C rfl dL_law_737 rfl ?_
  refine i_iload_n C rfl dL_law_738 rfl ?_
  refine i_iconst (v := (1 : Int32)) C (by decide) dL_law_739 rfl ?_
  refine i_iadd C dL_law_740 rfl ?_
  refine i_cell C X v1 dL_law_741 rfl ?_
  refine i_aload_n C rfl dL_law_742 rfl ?_
  refine i_iload_n C rfl dL_law_743 rfl ?_
  refine i_iconst (v := (2 : Int32)) C (by decide) dL_law_744 rfl ?_
  refine i_iadd C dL_law_745 rfl ?_
  refine i_cell C X v2 dL_law_746 rfl ?_
  refine i_aload_n C rfl dL_law_747 rfl ?_
  refine i_iload_n C rfl dL_law_748 rfl ?_
  refine i_iconst (v := (3 : Int32)) C (by decide) dL_law_749 rfl ?_
  refine i_iadd C dL_law_750 rfl ?_
  refine i_cell C X v3 dL_law_751 rfl ?_
  refine i_callC (As := [.int (xs (nI i + 1).toNatClampNeg), .int (xs (nI i + 2).toNatClampNeg), .int (xs (nI i + 3).toNatClampNeg)]) (na := 3) C X (by decide) tw_549 tw_550 tw_551 tw_1 tw_552 (by decide) rfl (Nat.le_of_ble_eq_true rfl) rfl (ct_X8_can VCt_l1 VCt_l2 VCt_m1 VCt_m2 VCt_x8 f (xs (nI i + 1).toNatClampNeg) (xs (nI i + 2).toNatClampNeg) (xs (nI i + 3).toNatClampNeg) ⟨g, hC, hM⟩) dL_law_752 rfl (fun v9 f1 p1 => ?_) rfl
  obtain ⟨r1, rfl, p1⟩ := p1
  have z1 := p1 g hC hM
  refine i_aload_n C rfl dL_law_755 rfl ?_
  refine i_aload_n C rfl dL_law_756 rfl ?_
  refine i_iload_n C rfl dL_law_757 rfl ?_
  refine i_iconst (v := (1 : Int32)) C (by decide) dL_law_758 rfl ?_
  refine i_iadd C dL_law_759 rfl ?_
  refine i_cell C X v1 dL_law_760 rfl ?_
  refine i_aload_n C rfl dL_law_761 rfl ?_
  refine i_iload_n C rfl dL_law_762 rfl ?_
  refine i_iconst (v := (2 : Int32)) C (by decide) dL_law_763 rfl ?_
  refine i_iadd C dL_law_764 rfl ?_
  refine i_cell C X v2 dL_law_765 rfl ?_
  refine i_aload_n C rfl dL_law_766 rfl ?_
  refine i_iload_n C rfl dL_law_767 rfl ?_
  refine i_iconst (v := (3 : Int32)) C (by decide) dL_law_768 rfl ?_
  refine i_iadd C dL_law_769 rfl ?_
  refine i_cell C X v3 dL_law_770 rfl ?_
  refine i_callM (As := [.int (xs (nI i + 1).toNatClampNeg), .int (xs (nI i + 2).toNatClampNeg), .int (xs (nI i + 3).toNatClampNeg)]) (na := 3) C X (by decide) tw_1085 tw_1086 tw_1087 tw_10 tw_1088 (by decide) rfl (Nat.le_of_ble_eq_true rfl) rfl (ct_X9_can VCt_l1 VCt_l2 VCt_m1 g (xs (nI i + 1).toNatClampNeg) (xs (nI i + 2).toNatClampNeg) (xs (nI i + 3).toNatClampNeg) hM) dL_law_771 rfl (fun v9 g1 p2 => ?_) rfl
  obtain ⟨r2, rfl, p2⟩ := p2
  refine i_icmp_eq (tgt := 1549) C dL_law_774 (by decide) rfl (fun _ => ?_) (fun h9 => absurd (z1.1.trans p2.1.symm) h9)
  exact hcont f1 g1 (CplEqM z1.2 p2.2) (InvE (K_can hM (xs (nI i + 1).toNatClampNeg) (xs (nI i + 2).toNatClampNeg) (xs (nI i + 3).toNatClampNeg)) p2.2)
theorem law_c17 {Y : Yt} {EC EM : Ev} {b L : Nat} {xs : Nat → Int32} {i : Nat} {f g : Fn} (C : CY Y RL cL_law 4) (X : LX Y EC EM b L xs) (hi : i + 6 ≤ L) (hL : L ≤ 3072) (hC : Cpl f g) (hM : InvM g) (hcont : ∀ f' g' : Fn, Cpl f' g' → InvM g' → IG Y 68 sLW (WW EC EM f' g') (LV EC EM b (nI i)) 1549 []) : IG Y 68 sLW (WW EC EM f g) (LV EC EM b (nI i)) 779 [] := by
  obtain ⟨v1, v2, v3, v4, v5⟩ := vin5 hi hL
  refine i_aload_n C rfl dL_law_779 rfl ?_
  refine i_aload_n C rfl dL_law_780 rfl ?_
  refine i_iload_n C rfl dL_law_781 rfl ?_
  refine i_iconst (v := (1 : Int32)) C (by decide) dL_law_782 rfl ?_
  refine i_iadd C dL_law_783 rfl ?_
  refine i_cell C X v1 dL_law_784 rfl ?_
  refine i_aload_n C rfl dL_law_785 rfl ?_
  refine i_iload_n C rfl dL_law_786 rfl ?_
  refine i_iconst (v := (2 : Int32)) C (by decide) dL_law_787 rfl ?_
  refine i_iadd C dL_law_788 rfl ?_
  refine i_cell C X v2 dL_law_789 rfl ?_
  refine i_callC (As := [.int (xs (nI i + 1).toNatClampNeg), .int (xs (nI i + 2).toNatClampNeg)]) (na := 2) C X (by decide) tw_569 tw_570 tw_571 tw_1 tw_572 (by decide) rfl (Nat.le_of_ble_eq_true rfl) rfl (ct_X8_surest VCt_l1 VCt_l2 VCt_m1 VCt_m2 VCt_x8 f (xs (nI i + 1).toNatClampNeg) (xs (nI i + 2).toNatClampNeg) ⟨g, hC, hM⟩) dL_law_790 rfl (fun v9 f1 p1 => ?_) rfl
  obtain ⟨r1, rfl, p1⟩ := p1
  have z1 := p1 g hC hM
  refine i_aload_n C rfl dL_law_793 rfl ?_
  refine i_aload_n C rfl dL_law_794 rfl ?_
  refine i_iload_n C rfl dL_law_795 rfl ?_
  refine i_iconst (v := (1 : Int32)) C (by decide) dL_law_796 rfl ?_
  refine i_iadd C dL_law_797 rfl ?_
  refine i_cell C X v1 dL_law_798 rfl ?_
  refine i_aload_n C rfl dL_law_799 rfl ?_
  refine i_iload_n C rfl dL_law_800 rfl ?_
  refine i_iconst (v := (2 : Int32)) C (by decide) dL_law_801 rfl ?_
  refine i_iadd C dL_law_802 rfl ?_
  refine i_cell C X v2 dL_law_803 rfl ?_
  refine i_callM (As := [.int (xs (nI i + 1).toNatClampNeg), .int (xs (nI i + 2).toNatClampNeg)]) (na := 2) C X (by decide) tw_1096 tw_1097 tw_1098 tw_10 tw_1099 (by decide) rfl (Nat.le_of_ble_eq_true rfl) rfl (ct_X9_surest VCt_l1 VCt_l2 VCt_m1 g (xs (nI i + 1).toNatClampNeg) (xs (nI i + 2).toNatClampNeg) hM) dL_law_804 rfl (fun v9 g1 p2 => ?_) rfl
  obtain ⟨r2, rfl, p2⟩ := p2
  refine i_icmp_eq (tgt := 1549) C dL_law_807 (by decide) rfl (fun _ => ?_) (fun h9 => absurd (z1.1.trans p2.1.symm) h9)
  exact hcont f1 g1 (CplEqM z1.2 p2.2) (InvE (K_surest hM (xs (nI i + 1).toNatClampNeg) (xs (nI i + 2).toNatClampNeg)) p2.2)
theorem law_c18 {Y : Yt} {EC EM : Ev} {b L : Nat} {xs : Nat → Int32} {i : Nat} {f g : Fn} (C : CY Y RL cL_law 4) (X : LX Y EC EM b L xs) (hi : i + 6 ≤ L) (hL : L ≤ 3072) (hC : Cpl f g) (hM : InvM g) (hcont : ∀ f' g' : Fn, Cpl f' g' → InvM g' → IG Y 68 sLW (WW EC EM f' g') (LV EC EM b (nI i)) 1549 []) : IG Y 68 sLW (WW EC EM f g) (LV EC EM b (nI i)) 812 [] := by
  obtain ⟨v1, v2, v3, v4, v5⟩ := vin5 hi hL
  refine i_aload_n C rfl dL_law_812 rfl ?_
  refine i_aload_n C rfl dL_law_813 rfl ?_
  refine i_iload_n C rfl dL_law_814 rfl ?_
  refine i_iconst (v := (1 : Int32)) C (by decide) dL_law_815 rfl ?_
  refine i_iadd C dL_law_816 rfl ?_
  refine i_cell C X v1 dL_law_817 rfl ?_
  refine i_aload_n C rfl dL_law_818 rfl ?_
  refine i_iload_n C rfl dL_law_819 rfl ?_
  refine i_iconst (v := (2 : Int32)) C (by decide) dL_law_820 rfl ?_
  refine i_iadd C dL_law_821 rfl ?_
  refine i_cell C X v2 dL_law_822 rfl ?_
  refine i_aload_n C rfl dL_law_823 rfl ?_
  refine i_iload_n C rfl dL_law_824 rfl ?_
  refine i_iconst (v := (3 : Int32)) C (by decide) dL_law_825 rfl ?_
  refine i_iadd C dL_law_826 rfl ?_
  refine i_cell C X v3 dL_law_827 rfl ?_
  refine i_callC (As := [.int (xs (nI i + 1).toNatClampNeg), .int (xs (nI i + 2).toNatClampNeg), .int (xs (nI i + 3).toNatClampNeg)]) (na := 3) C X (by decide) tw_581 tw_582 tw_583 tw_1 tw_584 (by decide) rfl (Nat.le_of_ble_eq_true rfl) rfl (ct_X8_odds VCt_l1 VCt_l2 VCt_m1 VCt_m2 VCt_x8 f (xs (nI i + 1).toNatClampNeg) (xs (nI i + 2).toNatClampNeg) (xs (nI i + 3).toNatClampNeg) ⟨g, hC, hM⟩) dL_law_828 rfl (fun v9 f1 p1 => ?_) rfl
  obtain ⟨r1, rfl, p1⟩ := p1
  have z1 := p1 g hC hM
  refine i_aload_n C rfl dL_law_831 rfl ?_
  refine i_aload_n C rfl dL_law_832 rfl ?_
  refine i_iload_n C rfl dL_law_833 rfl ?_
  refine i_iconst (v := (1 : Int32)) C (by decide) dL_law_834 rfl ?_
  refine i_iadd C dL_law_835 rfl ?_
  refine i_cell C X v1 dL_law_836 rfl ?_
  refine i_aload_n C rfl dL_law_837 rfl ?_
  refine i_iload_n C rfl dL_law_838 rfl ?_
  refine i_iconst (v := (2 : Int32)) C (by decide) dL_law_839 rfl ?_
  refine i_iadd C dL_law_840 rfl ?_
  refine i_cell C X v2 dL_law_841 rfl ?_
  refine i_aload_n C rfl dL_law_842 rfl ?_
  refine i_iload_n C rfl dL_law_843 rfl ?_
  refine i_iconst (v := (3 : Int32)) C (by decide) dL_law_844 rfl ?_
  refine i_iadd C dL_law_845 rfl ?_
  refine i_cell C X v3 dL_law_846 rfl ?_
  refine i_callM (As := [.int (xs (nI i + 1).toNatClampNeg), .int (xs (nI i + 2).toNatClampNeg), .int (xs (nI i + 3).toNatClampNeg)]) (na := 3) C X (by decide) tw_1108 tw_1109 tw_1110 tw_10 tw_1111 (by decide) rfl (Nat.le_of_ble_eq_true rfl) rfl (ct_X9_odds VCt_l1 VCt_l2 VCt_m1 g (xs (nI i + 1).toNatClampNeg) (xs (nI i + 2).toNatClampNeg) (xs (nI i + 3).toNatClampNeg) hM) dL_law_847 rfl (fun v9 g1 p2 => ?_) rfl
  obtain ⟨r2, rfl, p2⟩ := p2
  refine i_icmp_eq (tgt := 1549) C dL_law_850 (by decide) rfl (fun _ => ?_) (fun h9 => absurd (z1.1.trans p2.1.symm) h9)
  exact hcont f1 g1 (CplEqM z1.2 p2.2) (InvE (K_odds hM (xs (nI i + 1).toNatClampNeg) (xs (nI i + 2).toNatClampNeg) (xs (nI i + 3).toNatClampNeg)) p2.2)
theorem law_c19 {Y : Yt} {EC EM : Ev} {b L : Nat} {xs : Nat → Int32} {i : Nat} {f g : Fn} (C : CY Y RL cL_law 4) (X : LX Y EC EM b L xs) (hi : i + 6 ≤ L) (hL : L ≤ 3072) (hC : Cpl f g) (hM : InvM g) (hcont : ∀ f' g' : Fn, Cpl f' g' → InvM g' → IG Y 68 sLW (WW EC EM f' g') (LV EC EM b (nI i)) 1549 []) : IG Y 68 sLW (WW EC EM f g) (LV EC EM b (nI i)) 855 [] := by
  obtain ⟨v1, v2, v3, v4, v5⟩ := vin5 hi hL
  refine i_aload_n C rfl dL_law_855 rfl ?_
  refine i_aload_n C rfl dL_law_856 rfl ?_
  refine i_iload_n C rfl dL_law_857 rfl ?_
  refine i_iconst (v := (1 : Int32)) C (by decide) dL_law_858 rfl ?_
  refine i_iadd C dL_law_859 rfl ?_
  refine i_cell C X v1 dL_law_860 rfl ?_
  refine i_aload_n C rfl dL_law_861 rfl ?_
  refine i_iload_n C rfl dL_law_862 rfl ?_
  refine i_iconst (v := (2 : Int32)) C (by decide) dL_law_863 rfl ?_
  refine i_iadd C dL_law_864 rfl ?_
  refine i_cell C X v2 dL_law_865 rfl ?_
  refine i_callC (As := [.int (xs (nI i + 1).toNatClampNeg), .int (xs (nI i + 2).toNatClampNeg)]) (na := 2) C X (by decide) tw_590 tw_591 tw_592 tw_1 tw_593 (by decide) rfl (Nat.le_of_ble_eq_true rfl) rfl (ct_X8_pumped VCt_l1 VCt_l2 VCt_m1 VCt_m2 VCt_x8 f (xs (nI i + 1).toNatClampNeg) (xs (nI i + 2).toNatClampNeg) ⟨g, hC, hM⟩) dL_law_866 rfl (fun v9 f1 p1 => ?_) rfl
  obtain ⟨r1, rfl, p1⟩ := p1
  have z1 := p1 g hC hM
  refine i_aload_n C rfl dL_law_869 rfl ?_
  refine i_aload_n C rfl dL_law_870 rfl ?_
  refine i_iload_n C rfl dL_law_871 rfl ?_
  refine i_iconst (v := (1 : Int32)) C (by decide) dL_law_872 rfl ?_
  refine i_iadd C dL_law_873 rfl ?_
  refine i_cell C X v1 dL_law_874 rfl ?_
  refine i_aload_n C rfl dL_law_875 rfl ?_
  refine i_iload_n C rfl dL_law_876 rfl ?_
  refine i_iconst (v := (2 : Int32)) C (by decide) dL_law_877 rfl ?_
  refine i_iadd C dL_law_878 rfl ?_
  refine i_cell C X v2 dL_law_879 rfl ?_
  refine i_callM (As := [.int (xs (nI i + 1).toNatClampNeg), .int (xs (nI i + 2).toNatClampNeg)]) (na := 2) C X (by decide) tw_1116 tw_1117 tw_1118 tw_10 tw_1119 (by decide) rfl (Nat.le_of_ble_eq_true rfl) rfl (ct_X9_pumped VCt_l1 VCt_l2 VCt_m1 g (xs (nI i + 1).toNatClampNeg) (xs (nI i + 2).toNatClampNeg) hM) dL_law_880 rfl (fun v9 g1 p2 => ?_) rfl
  obtain ⟨r2, rfl, p2⟩ := p2
  refine i_icmp_eq (tgt := 1549) C dL_law_883 (by decide) rfl (fun _ => ?_) (fun h9 => absurd (z1.1.trans p2.1.symm) h9)
  exact hcont f1 g1 (CplEqM z1.2 p2.2) (InvE (K_pumped hM (xs (nI i + 1).toNatClampNeg) (xs (nI i + 2).toNatClampNeg)) p2.2)
theorem law_c20 {Y : Yt} {EC EM : Ev} {b L : Nat} {xs : Nat → Int32} {i : Nat} {f g : Fn} (C : CY Y RL cL_law 4) (X : LX Y EC EM b L xs) (hi : i + 6 ≤ L) (hL : L ≤ 3072) (hC : Cpl f g) (hM : InvM g) (hcont : ∀ f' g' : Fn, Cpl f' g' → InvM g' → IG Y 68 sLW (WW EC EM f' g') (LV EC EM b (nI i)) 1549 []) : IG Y 68 sLW (WW EC EM f g) (LV EC EM b (nI i)) 888 [] := by
  obtain ⟨v1, v2, v3, v4, v5⟩ := vin5 hi hL
  refine i_aload_n C rfl dL_law_888 rfl ?_
  refine i_aload_n C rfl dL_law_889 rfl ?_
  refine i_iload_n C rfl dL_law_890 rfl ?_
  refine i_iconst (v := (1 : Int32)) C (by decide) dL_law_891 rfl ?_
  refine i_iadd C dL_law_892 rfl ?_
  refine i_cell C X v1 dL_law_893 rfl ?_
  refine i_aload_n C rfl dL_law_894 rfl ?_
  refine i_iload_n C rfl dL_law_895 rfl ?_
  refine i_iconst (v := (2 : Int32)) C (by decide) dL_law_896 rfl ?_
  refine i_iadd C dL_law_897 rfl ?_
  refine i_cell C X v2 dL_law_898 rfl ?_
  refine i_callC (As := [.int (xs (nI i + 1).toNatClampNeg), .int (xs (nI i + 2).toNatClampNeg)]) (na := 2) C X (by decide) tw_599 tw_600 tw_601 tw_1 tw_602 (by decide) rfl (Nat.le_of_ble_eq_true rfl) rfl (ct_X8_inStep VCt_l1 VCt_l2 VCt_m1 VCt_m2 VCt_x8 f (xs (nI i + 1).toNatClampNeg) (xs (nI i + 2).toNatClampNeg) ⟨g, hC, hM⟩) dL_law_899 rfl (fun v9 f1 p1 => ?_) rfl
  obtain ⟨r1, rfl, p1⟩ := p1
  have z1 := p1 g hC hM
  refine i_aload_n C rfl dL_law_902 rfl ?_
  refine i_aload_n C rfl dL_law_903 rfl ?_
  refine i_iload_n C rfl dL_law_904 rfl ?_
  refine i_iconst (v := (1 : Int32)) C (by decide) dL_law_905 rfl ?_
  refine i_iadd C dL_law_906 rfl ?_
  refine i_cell C X v1 dL_law_907 rfl ?_
  refine i_aload_n C rfl dL_law_908 rfl ?_
  refine i_iload_n C rfl dL_law_909 rfl ?_
  refine i_iconst (v := (2 : Int32)) C (by decide) dL_law_910 rfl ?_
  refine i_iadd C dL_law_911 rfl ?_
  refine i_cell C X v2 dL_law_912 rfl ?_
  refine i_callM (As := [.int (xs (nI i + 1).toNatClampNeg), .int (xs (nI i + 2).toNatClampNeg)]) (na := 2) C X (by decide) tw_1124 tw_1125 tw_1126 tw_10 tw_1127 (by decide) rfl (Nat.le_of_ble_eq_true rfl) rfl (ct_X9_inStep VCt_l1 VCt_l2 VCt_m1 g (xs (nI i + 1).toNatClampNeg) (xs (nI i + 2).toNatClampNeg) hM) dL_law_913 rfl (fun v9 g1 p2 => ?_) rfl
  obtain ⟨r2, rfl, p2⟩ := p2
  refine i_icmp_eq (tgt := 1549) C dL_law_916 (by decide) rfl (fun _ => ?_) (fun h9 => absurd (z1.1.trans p2.1.symm) h9)
  exact hcont f1 g1 (CplEqM z1.2 p2.2) (InvE (K_inStep hM (xs (nI i + 1).toNatClampNeg) (xs (nI i + 2).toNatClampNeg)) p2.2)
theorem law_c21 {Y : Yt} {EC EM : Ev} {b L : Nat} {xs : Nat → Int32} {i : Nat} {f g : Fn} (C : CY Y RL cL_law 4) (X : LX Y EC EM b L xs) (hi : i + 6 ≤ L) (hL : L ≤ 3072) (hC : Cpl f g) (hM : InvM g) (hcont : ∀ f' g' : Fn, Cpl f' g' → InvM g' → IG Y 68 sLW (WW EC EM f' g') (LV EC EM b (nI i)) 1549 []) : IG Y 68 sLW (WW EC EM f g) (LV EC EM b (nI i)) 921 [] := by
  obtain ⟨v1, v2, v3, v4, v5⟩ := vin5 hi hL
  refine i_aload_n C rfl dL_law_921 rfl ?_
  refine i_aload_n C rfl dL_law_922 rfl ?_
  refine i_iload_n C rfl dL_law_923 rfl ?_
  refine i_iconst (v := (1 : Int32)) C (by decide) dL_law_924 rfl ?_
  refine i_iadd C dL_law_925 rfl ?_
  refine i_cell C X v1 dL_law_926 rfl ?_
  refine i_aload_n C rfl dL_law_927 rfl ?_
  refine i_iload_n C rfl dL_law_928 rfl ?_
  refine i_iconst (v := (2 : Int32)) C (by decide) dL_law_929 rfl ?_
  refine i_iadd C dL_law_930 rfl ?_
  refine i_cell C X v2 dL_law_931 rfl ?_
  refine i_aload_n C rfl dL_law_932 rfl ?_
  refine i_iload_n C rfl dL_law_933 rfl ?_
  refine i_iconst (v := (3 : Int32)) C (by decide) dL_law_934 rfl ?_
  refine i_iadd C dL_law_935 rfl ?_
  refine i_cell C X v3 dL_law_936 rfl ?_
  refine i_aload_n C rfl dL_law_937 rfl ?_
  refine i_iload_n C rfl dL_law_938 rfl ?_
  refine i_iconst (v := (4 : Int32)) C (by decide) dL_law_939 rfl ?_
  refine i_iadd C dL_law_940 rfl ?_
  refine i_cell C X v4 dL_law_941 rfl ?_
  refine i_callC (As := [.int (xs (nI i + 1).toNatClampNeg), .int (xs (nI i + 2).toNatClampNeg), .int (xs (nI i + 3).toNatClampNeg), .int (xs (nI i + 4).toNatClampNeg)]) (na := 4) C X (by decide) tw_607 tw_608 tw_609 tw_1 tw_610 (by decide) rfl (Nat.le_of_ble_eq_true rfl) rfl (ct_X8_mend VCt_l1 VCt_l2 VCt_m1 VCt_m2 VCt_x8 f (xs (nI i + 1).toNatClampNeg) (xs (nI i + 2).toNatClampNeg) (xs (nI i + 3).toNatClampNeg) (xs (nI i + 4).toNatClampNeg) ⟨g, hC, hM⟩) dL_law_942 rfl (fun v9 f1 p1 => ?_) rfl
  obtain ⟨r1, rfl, p1⟩ := p1
  have z1 := p1 g hC hM
  refine i_aload_n C rfl dL_law_945 rfl ?_
  refine i_aload_n C rfl dL_law_946 rfl ?_
  refine i_iload_n C rfl dL_law_947 rfl ?_
  refine i_iconst (v := (1 : Int32)) C (by decide) dL_law_948 rfl ?_
  refine i_iadd C dL_law_949 rfl ?_
  refine i_cell C X v1 dL_law_950 rfl ?_
  refine i_aload_n C rfl dL_law_951 rfl ?_
  refine i_iload_n C rfl dL_law_952 rfl ?_
  refine i_iconst (v := (2 : Int32)) C (by decide) dL_law_953 rfl ?_
  refine i_iadd C dL_law_954 rfl ?_
  refine i_cell C X v2 dL_law_955 rfl ?_
  refine i_aload_n C rfl dL_law_956 rfl ?_
  refine i_iload_n C rfl dL_law_957 rfl ?_
  refine i_iconst (v := (3 : Int32)) C (by decide) dL_law_958 rfl ?_
  refine i_iadd C dL_law_959 rfl ?_
  refine i_cell C X v3 dL_law_960 rfl ?_
  refine i_aload_n C rfl dL_law_961 rfl ?_
  refine i_iload_n C rfl dL_law_962 rfl ?_
  refine i_iconst (v := (4 : Int32)) C (by decide) dL_law_963 rfl ?_
  refine i_iadd C dL_law_964 rfl ?_
  refine i_cell C X v4 dL_law_965 rfl ?_
  refine i_callM (As := [.int (xs (nI i + 1).toNatClampNeg), .int (xs (nI i + 2).toNatClampNeg), .int (xs (nI i + 3).toNatClampNeg), .int (xs (nI i + 4).toNatClampNeg)]) (na := 4) C X (by decide) tw_1128 tw_1129 tw_1130 tw_10 tw_1131 (by decide) rfl (Nat.le_of_ble_eq_true rfl) rfl (ct_X9_mend VCt_l1 VCt_l2 VCt_m1 g (xs (nI i + 1).toNatClampNeg) (xs (nI i + 2).toNatClampNeg) (xs (nI i + 3).toNatClampNeg) (xs (nI i + 4).toNatClampNeg) hM) dL_law_966 rfl (fun v9 g1 p2 => ?_) rfl
  obtain ⟨r2, rfl, p2⟩ := p2
  refine i_icmp_eq (tgt := 1549) C dL_law_969 (by decide) rfl (fun _ => ?_) (fun h9 => absurd (z1.1.trans p2.1.symm) h9)
  exact hcont f1 g1 (CplEqM z1.2 p2.2) (InvE (K_mend hM (xs (nI i + 1).toNatClampNeg) (xs (nI i + 2).toNatClampNeg) (xs (nI i + 3).toNatClampNeg) (xs (nI i + 4).toNatClampNeg)) p2.2)
theorem law_c22 {Y : Yt} {EC EM : Ev} {b L : Nat} {xs : Nat → Int32} {i : Nat} {f g : Fn} (C : CY Y RL cL_law 4) (X : LX Y EC EM b L xs) (hi : i + 6 ≤ L) (hL : L ≤ 3072) (hC : Cpl f g) (hM : InvM g) (hcont : ∀ f' g' : Fn, Cpl f' g' → InvM g' → IG Y 68 sLW (WW EC EM f' g') (LV EC EM b (nI i)) 1549 []) : IG Y 68 sLW (WW EC EM f g) (LV EC EM b (nI i)) 974 [] := by
  obtain ⟨v1, v2, v3, v4, v5⟩ := vin5 hi hL
  refine i_aload_n C rfl dL_law_974 rfl ?_
  refine i_aload_n C rfl dL_law_975 rfl ?_
  refine i_iload_n C rfl dL_law_976 rfl ?_
  refine i_iconst (v := (1 : Int32)) C (by decide) dL_law_977 rfl ?_
  refine i_iadd C dL_law_978 rfl ?_
  refine i_cell C X v1 dL_law_979 rfl ?_
  refine i_aload_n C rfl dL_law_980 rfl ?_
  refine i_iload_n C rfl dL_law_981 rfl ?_
  refine i_iconst (v := (2 : Int32)) C (by decide) dL_law_982 rfl ?_
  refine i_iadd C dL_law_983 rfl ?_
  refine i_cell C X v2 dL_law_984 rfl ?_
  refine i_aload_n C rfl dL_law_985 rfl ?_
  refine i_iload_n C rfl dL_law_986 rfl ?_
  refine i_iconst (v := (3 : Int32)) C (by decide) dL_law_987 rfl ?_
  refine i_iadd C dL_law_988 rfl ?_
  refine i_cell C X v3 dL_law_989 rfl ?_
  refine i_aload_n C rfl dL_law_990 rfl ?_
  refine i_iload_n C rfl dL_law_991 rfl ?_
  refine i_iconst (v := (4 : Int32)) C (by decide) dL_law_992 rfl ?_
  refine i_iadd C dL_law_993 rfl ?_
  refine i_cell C X v4 dL_law_994 rfl ?_
  refine i_aload_n C rfl dL_law_995 rfl ?_
  refine i_iload_n C rfl dL_law_996 rfl ?_
  refine i_iconst (v := (5 : Int32)) C (by decide) dL_law_997 rfl ?_
  refine i_iadd C dL_law_998 rfl ?_
  refine i_cell C X v5 dL_law_999 rfl ?_
  refine i_callC (As := [.int (xs (nI i + 1).toNatClampNeg), .int (xs (nI i + 2).toNatClampNeg), .int (xs (nI i + 3).toNatClampNeg), .int (xs (nI i + 4).toNatClampNeg), .int (xs (nI i + 5).toNatClampNeg)]) (na := 5) C X (by decide) tw_612 tw_613 tw_614 tw_1 tw_615 (by decide) rfl (Nat.le_of_ble_eq_true rfl) rfl (ct_X8_again VCt_l1 VCt_l2 VCt_m1 VCt_m2 VCt_x8 f (xs (nI i + 1).toNatClampNeg) (xs (nI i + 2).toNatClampNeg) (xs (nI i + 3).toNatClampNeg) (xs (nI i + 4).toNatClampNeg) (xs (nI i + 5).toNatClampNeg) ⟨g, hC, hM⟩) dL_law_1000 rfl (fun v9 f1 p1 => ?_) rfl
  obtain ⟨r1, rfl, p1⟩ := p1
  have z1 := p1 g hC hM
  refine i_aload_n C rfl dL_law_1003 rfl ?_
  refine i_aload_n C rfl dL_law_1004 rfl ?_
  refine i_iload_n C rfl dL_law_1005 rfl ?_
  refine i_iconst (v := (1 : Int32)) C (by decide) dL_law_1006 rfl ?_
  refine i_iadd C dL_law_1007 rfl ?_
  refine i_cell C X v1 dL_law_1008 rfl ?_
  refine i_aload_n C rfl dL_law_1009 rfl ?_
  refine i_iload_n C rfl dL_law_1010 rfl ?_
  refine i_iconst (v := (2 : Int32)) C (by decide) dL_law_1011 rfl ?_
  refine i_iadd C dL_law_1012 rfl ?_
  refine i_cell C X v2 dL_law_1013 rfl ?_
  refine i_aload_n C rfl dL_law_1014 rfl ?_
  refine i_iload_n C rfl dL_law_1015 rfl ?_
  refine i_iconst (v := (3 : Int32)) C (by decide) dL_law_1016 rfl ?_
  refine i_iadd C dL_law_1017 rfl ?_
  refine i_cell C X v3 dL_law_1018 rfl ?_
  refine i_aload_n C rfl dL_law_1019 rfl ?_
  refine i_iload_n C rfl dL_law_1020 rfl ?_
  refine i_iconst (v := (4 : Int32)) C (by decide) dL_law_1021 rfl ?_
  refine i_iadd C dL_law_1022 rfl ?_
  refine i_cell C X v4 dL_law_1023 rfl ?_
  refine i_aload_n C rfl dL_law_1024 rfl ?_
  refine i_iload_n C rfl dL_law_1025 rfl ?_
  refine i_iconst (v := (5 : Int32)) C (by decide) dL_law_1026 rfl ?_
  refine i_iadd C dL_law_1027 rfl ?_
  refine i_cell C X v5 dL_law_1028 rfl ?_
  refine i_callM (As := [.int (xs (nI i + 1).toNatClampNeg), .int (xs (nI i + 2).toNatClampNeg), .int (xs (nI i + 3).toNatClampNeg), .int (xs (nI i + 4).toNatClampNeg), .int (xs (nI i + 5).toNatClampNeg)]) (na := 5) C X (by decide) tw_1132 tw_1133 tw_1134 tw_10 tw_1135 (by decide) rfl (Nat.le_of_ble_eq_true rfl) rfl (ct_X9_again VCt_l1 VCt_l2 VCt_m1 g (xs (nI i + 1).toNatClampNeg) (xs (nI i + 2).toNatClampNeg) (xs (nI i + 3).toNatClampNeg) (xs (nI i + 4).toNatClampNeg) (xs (nI i + 5).toNatClampNeg) hM) dL_law_1029 rfl (fun v9 g1 p2 => ?_) rfl
  obtain ⟨r2, rfl, p2⟩ := p2
  refine i_lcmp C dL_law_1032 rfl ?_
  refine i_if_eq (tgt := 1549) C dL_law_1033 (by decide) rfl (fun _ => ?_) (fun h9 => absurd (lg_eq (z1.1.trans p2.1.symm)) h9)
  exact hcont f1 g1 (CplEqM z1.2 p2.2) (InvE (K_again hM (xs (nI i + 1).toNatClampNeg) (xs (nI i + 2).toNatClampNeg) (xs (nI i + 3).toNatClampNeg) (xs (nI i + 4).toNatClampNeg) (xs (nI i + 5).toNatClampNeg)) p2.2)
theorem law_c23 {Y : Yt} {EC EM : Ev} {b L : Nat} {xs : Nat → Int32} {i : Nat} {f g : Fn} (C : CY Y RL cL_law 4) (X : LX Y EC EM b L xs) (hi : i + 6 ≤ L) (hL : L ≤ 3072) (hC : Cpl f g) (hM : InvM g) (hcont : ∀ f' g' : Fn, Cpl f' g' → InvM g' → IG Y 68 sLW (WW EC EM f' g') (LV EC EM b (nI i)) 1549 []) : IG Y 68 sLW (WW EC EM f g) (LV EC EM b (nI i)) 1038 [] := by
  obtain ⟨v1, v2, v3, v4, v5⟩ := vin5 hi hL
  refine i_aload_n C rfl dL_law_1038 rfl ?_
  refine i_aload_n C rfl dL_law_1039 rfl ?_
  refine i_iload_n C rfl dL_law_1040 rfl ?_
  refine i_iconst (v := (1 : Int32)) C (by decide) dL_law_1041 rfl ?_
  refine i_iadd C dL_law_1042 rfl ?_
  refine i_cell C X v1 dL_law_1043 rfl ?_
  refine i_aload_n C rfl dL_law_1044 rfl ?_
  refine i_iload_n C rfl dL_law_1045 rfl ?_
  refine i_iconst (v := (2 : Int32)) C (by decide) dL_law_1046 rfl ?_
  refine i_iadd C dL_law_1047 rfl ?_
  refine i_cell C X v2 dL_law_1048 rfl ?_
  refine i_aload_n C rfl dL_law_1049 rfl ?_
  refine i_iload_n C rfl dL_law_1050 rfl ?_
  refine i_iconst (v := (3 : Int32)) C (by decide) dL_law_1051 rfl ?_
  refine i_iadd C dL_law_1052 rfl ?_
  refine i_cell C X v3 dL_law_1053 rfl ?_
  refine i_callC (As := [.int (xs (nI i + 1).toNatClampNeg), .int (xs (nI i + 2).toNatClampNeg), .int (xs (nI i + 3).toNatClampNeg)]) (na := 3) C X (by decide) tw_616 tw_617 tw_618 tw_1 tw_619 (by decide) rfl (Nat.le_of_ble_eq_true rfl) rfl (ct_X8_net VCt_l1 VCt_l2 VCt_m1 VCt_m2 VCt_x8 f (xs (nI i + 1).toNatClampNeg) (xs (nI i + 2).toNatClampNeg) (xs (nI i + 3).toNatClampNeg) ⟨g, hC, hM⟩) dL_law_1054 rfl (fun v9 f1 p1 => ?_) rfl
  obtain ⟨r1, rfl, p1⟩ := p1
  have z1 := p1 g hC hM
  refine i_aload_n C rfl dL_law_1057 rfl ?_
  refine i_aload_n C rfl dL_law_1058 rfl ?_
  refine i_iload_n C rfl dL_law_1059 rfl ?_
  refine i_iconst (v := (1 : Int32)) C (by decide) dL_law_1060 rfl ?_
  refine i_iadd C dL_law_1061 rfl ?_
  refine i_cell C X v1 dL_law_1062 rfl ?_
  refine i_aload_n C rfl dL_law_1063 rfl ?_
  refine i_iload_n C rfl dL_law_1064 rfl ?_
  refine i_iconst (v := (2 : Int32)) C (by decide) dL_law_1065 rfl ?_
  refine i_iadd C dL_law_1066 rfl ?_
  refine i_cell C X v2 dL_law_1067 rfl ?_
  refine i_aload_n C rfl dL_law_1068 rfl ?_
  refine i_iload_n C rfl dL_law_1069 rfl ?_
  refine i_iconst (v := (3 : Int32)) C (by decide) dL_law_1070 rfl ?_
  refine i_iadd C dL_law_1071 rfl ?_
  refine i_cell C X v3 dL_law_1072 rfl ?_
  refine i_callM (As := [.int (xs (nI i + 1).toNatClampNeg), .int (xs (nI i + 2).toNatClampNeg), .int (xs (nI i + 3).toNatClampNeg)]) (na := 3) C X (by decide) tw_1138 tw_1139 tw_1140 tw_10 tw_1141 (by decide) rfl (Nat.le_of_ble_eq_true rfl) rfl (ct_X9_net VCt_l1 VCt_l2 VCt_m1 g (xs (nI i + 1).toNatClampNeg) (xs (nI i + 2).toNatClampNeg) (xs (nI i + 3).toNatClampNeg) hM) dL_law_1073 rfl (fun v9 g1 p2 => ?_) rfl
  obtain ⟨r2, rfl, p2⟩ := p2
  refine i_icmp_eq (tgt := 1549) C dL_law_1076 (by decide) rfl (fun _ => ?_) (fun h9 => absurd (z1.1.trans p2.1.symm) h9)
  exact hcont f1 g1 (CplEqM z1.2 p2.2) (InvE (K_net hM (xs (nI i + 1).toNatClampNeg) (xs (nI i + 2).toNatClampNeg) (xs (nI i + 3).toNatClampNeg)) p2.2)
theorem law_c24 {Y : Yt} {EC EM : Ev} {b L : Nat} {xs : Nat → Int32} {i : Nat} {f g : Fn} (C : CY Y RL cL_law 4) (X : LX Y EC EM b L xs) (hi : i + 6 ≤ L) (hL : L ≤ 3072) (hC : Cpl f g) (hM : InvM g) (hcont : ∀ f' g' : Fn, Cpl f' g' → InvM g' → IG Y 68 sLW (WW EC EM f' g') (LV EC EM b (nI i)) 1549 []) : IG Y 68 sLW (WW EC EM f g) (LV EC EM b (nI i)) 1081 [] := by
  obtain ⟨v1, v2, v3, v4, v5⟩ := vin5 hi hL
  refine i_aload_n C rfl dL_law_1081 rfl ?_
  refine i_aload_n C rfl dL_law_1082 rfl ?_
  refine i_iload_n C rfl dL_law_1083 rfl ?_
  refine i_iconst (v := (1 : Int32)) C (by decide) dL_law_1084 rfl ?_
  refine i_iadd C dL_law_1085 rfl ?_
  refine i_cell C X v1 dL_law_1086 rfl ?_
  refine i_aload_n C rfl dL_law_1087 rfl ?_
  refine i_iload_n C rfl dL_law_1088 rfl ?_
  refine i_iconst (v := (2 : Int32)) C (by decide) dL_law_1089 rfl ?_
  refine i_iadd C dL_law_1090 rfl ?_
  refine i_cell C X v2 dL_law_1091 rfl ?_
  refine i_aload_n C rfl dL_law_1092 rfl ?_
  refine i_iload_n C rfl dL_law_1093 rfl ?_
  refine i_iconst (v := (3 : Int32)) C (by decide) dL_law_1094 rfl ?_
  refine i_iadd C dL_law_1095 rfl ?_
  refine i_cell C X v3 dL_law_1096 rfl ?_
  refine i_callC (As := [.int (xs (nI i + 1).toNatClampNeg), .int (xs (nI i + 2).toNatClampNeg), .int (xs (nI i + 3).toNatClampNeg)]) (na := 3) C X (by decide) tw_634 tw_635 tw_636 tw_1 tw_637 (by decide) rfl (Nat.le_of_ble_eq_true rfl) rfl (ct_X8_phases VCt_l1 VCt_l2 VCt_m1 VCt_m2 VCt_x8 f (xs (nI i + 1).toNatClampNeg) (xs (nI i + 2).toNatClampNeg) (xs (nI i + 3).toNatClampNeg) ⟨g, hC, hM⟩) dL_law_1097 rfl (fun v9 f1 p1 => ?_) rfl
  obtain ⟨r1, rfl, p1⟩ := p1
  have z1 := p1 g hC hM
  refine i_aload_n C rfl dL_law_1100 rfl ?_
  refine i_aload_n C rfl dL_law_1101 rfl ?_
  refine i_iload_n C rfl dL_law_1102 rfl ?_
  refine i_iconst (v := (1 : Int32)) C (by decide) dL_law_1103 rfl ?_
  refine i_iadd C dL_law_1104 rfl ?_
  refine i_cell C X v1 dL_law_1105 rfl ?_
  refine i_aload_n C rfl dL_law_1106 rfl ?_
  refine i_iload_n C rfl dL_law_1107 rfl ?_
  refine i_iconst (v := (2 : Int32)) C (by decide) dL_law_1108 rfl ?_
  refine i_iadd C dL_law_1109 rfl ?_
  refine i_cell C X v2 dL_law_1110 rfl ?_
  refine i_aload_n C rfl dL_law_1111 rfl ?_
  refine i_iload_n C rfl dL_law_1112 rfl ?_
  refine i_iconst (v := (3 : Int32)) C (by decide) dL_law_1113 rfl ?_
  refine i_iadd C dL_law_1114 rfl ?_
  refine i_cell C X v3 dL_law_1115 rfl ?_
  refine i_callM (As := [.int (xs (nI i + 1).toNatClampNeg), .int (xs (nI i + 2).toNatClampNeg), .int (xs (nI i + 3).toNatClampNeg)]) (na := 3) C X (by decide) tw_1151 tw_1152 tw_1153 tw_10 tw_1154 (by decide) rfl (Nat.le_of_ble_eq_true rfl) rfl (ct_X9_phases VCt_l1 VCt_l2 VCt_m1 VCt_m2 g (xs (nI i + 1).toNatClampNeg) (xs (nI i + 2).toNatClampNeg) (xs (nI i + 3).toNatClampNeg) hM) dL_law_1116 rfl (fun v9 g1 p2 => ?_) rfl
  obtain ⟨r2, rfl, p2⟩ := p2
  refine i_icmp_eq (tgt := 1549) C dL_law_1119 (by decide) rfl (fun _ => ?_) (fun h9 => absurd (z1.1.trans p2.1.symm) h9)
  exact hcont f1 g1 (CplEqM z1.2 p2.2) (InvE (K_phases hM (xs (nI i + 1).toNatClampNeg) (xs (nI i + 2).toNatClampNeg) (xs (nI i + 3).toNatClampNeg)) p2.2)
theorem law_c25 {Y : Yt} {EC EM : Ev} {b L : Nat} {xs : Nat → Int32} {i : Nat} {f g : Fn} (C : CY Y RL cL_law 4) (X : LX Y EC EM b L xs) (hi : i + 6 ≤ L) (hL : L ≤ 3072) (hC : Cpl f g) (hM : InvM g) (hcont : ∀ f' g' : Fn, Cpl f' g' → InvM g' → IG Y 68 sLW (WW EC EM f' g') (LV EC EM b (nI i)) 1549 []) : IG Y 68 sLW (WW EC EM f g) (LV EC EM b (nI i)) 1124 [] := by
  obtain ⟨v1, v2, v3, v4, v5⟩ := vin5 hi hL
  refine i_aload_n C rfl dL_law_1124 rfl ?_
  refine i_aload_n C rfl dL_law_1125 rfl ?_
  refine i_iload_n C rfl dL_law_1126 rfl ?_
  refine i_iconst (v := (1 : Int32)) C (by decide) dL_law_1127 rfl ?_
  refine i_iadd C dL_law_1128 rfl ?_
  refine i_cell C X v1 dL_law_1129 rfl ?_
  refine i_aload_n C rfl dL_law_1130 rfl ?_
  refine i_iload_n C rfl dL_law_1131 rfl ?_
  refine i_iconst (v := (2 : Int32)) C (by decide) dL_law_1132 rfl ?_
  refine i_iadd C dL_law_1133 rfl ?_
  refine i_cell C X v2 dL_law_1134 rfl ?_
  refine i_callC (As := [.int (xs (nI i + 1).toNatClampNeg), .int (xs (nI i + 2).toNatClampNeg)]) (na := 2) C X (by decide) tw_663 tw_664 tw_665 tw_1 tw_666 (by decide) rfl (Nat.le_of_ble_eq_true rfl) rfl (ct_X8_late VCt_l1 VCt_l2 VCt_m1 VCt_m2 VCt_x8 f (xs (nI i + 1).toNatClampNeg) (xs (nI i + 2).toNatClampNeg) ⟨g, hC, hM⟩) dL_law_1135 rfl (fun v9 f1 p1 => ?_) rfl
  obtain ⟨r1, rfl, p1⟩ := p1
  have z1 := p1 g hC hM
  refine i_aload_n C rfl dL_law_1138 rfl ?_
  refine i_aload_n C rfl dL_law_1139 rfl ?_
  refine i_iload_n C rfl dL_law_1140 rfl ?_
  refine i_iconst (v := (1 : Int32)) C (by decide) dL_law_1141 rfl ?_
  refine i_iadd C dL_law_1142 rfl ?_
  refine i_cell C X v1 dL_law_1143 rfl ?_
  refine i_aload_n C rfl dL_law_1144 rfl ?_
  refine i_iload_n C rfl dL_law_1145 rfl ?_
  refine i_iconst (v := (2 : Int32)) C (by decide) dL_law_1146 rfl ?_
  refine i_iadd C dL_law_1147 rfl ?_
  refine i_cell C X v2 dL_law_1148 rfl ?_
  refine i_callM (As := [.int (xs (nI i + 1).toNatClampNeg), .int (xs (nI i + 2).toNatClampNeg)]) (na := 2) C X (by decide) tw_1162 tw_1163 tw_1164 tw_10 tw_1165 (by decide) rfl (Nat.le_of_ble_eq_true rfl) rfl (ct_X9_late VCt_l1 VCt_l2 VCt_m1 VCt_m2 g (xs (nI i + 1).toNatClampNeg) (xs (nI i + 2).toNatClampNeg) hM) dL_law_1149 rfl (fun v9 g1 p2 => ?_) rfl
  obtain ⟨r2, rfl, p2⟩ := p2
  refine i_icmp_eq (tgt := 1549) C dL_law_1152 (by decide) rfl (fun _ => ?_) (fun h9 => absurd (z1.1.trans p2.1.symm) h9)
  exact hcont f1 g1 (CplEqM z1.2 p2.2) (InvE (K_late hM (xs (nI i + 1).toNatClampNeg) (xs (nI i + 2).toNatClampNeg)) p2.2)
theorem law_c26 {Y : Yt} {EC EM : Ev} {b L : Nat} {xs : Nat → Int32} {i : Nat} {f g : Fn} (C : CY Y RL cL_law 4) (X : LX Y EC EM b L xs) (hi : i + 6 ≤ L) (hL : L ≤ 3072) (hC : Cpl f g) (hM : InvM g) (hcont : ∀ f' g' : Fn, Cpl f' g' → InvM g' → IG Y 68 sLW (WW EC EM f' g') (LV EC EM b (nI i)) 1549 []) : IG Y 68 sLW (WW EC EM f g) (LV EC EM b (nI i)) 1157 [] := by
  obtain ⟨v1, v2, v3, v4, v5⟩ := vin5 hi hL
  refine i_aload_n C rfl dL_law_1157 rfl ?_
  refine i_aload_n C rfl dL_law_1158 rfl ?_
  refine i_iload_n C rfl dL_law_1159 rfl ?_
  refine i_iconst (v := (1 : Int32)) C (by decide) dL_law_1160 rfl ?_
  refine i_iadd C dL_law_1161 rfl ?_
  refine i_cell C X v1 dL_law_1162 rfl ?_
  refine i_callC (As := [.int (xs (nI i + 1).toNatClampNeg)]) (na := 1) C X (by decide) tw_671 tw_672 tw_673 tw_1 tw_674 (by decide) rfl (Nat.le_of_ble_eq_true rfl) rfl (ct_X8_seed VCt_l1 VCt_l2 VCt_m1 VCt_m2 VCt_x8 f (xs (nI i + 1).toNatClampNeg) ⟨g, hC, hM⟩) dL_law_1163 rfl (fun v9 f1 p1 => ?_) rfl
  obtain ⟨r1, rfl, p1⟩ := p1
  have z1 := p1 g hC hM
  refine i_aload_n C rfl dL_law_1166 rfl ?_
  refine i_aload_n C rfl dL_law_1167 rfl ?_
  refine i_iload_n C rfl dL_law_1168 rfl ?_
  refine i_iconst (v := (1 : Int32)) C (by decide) dL_law_1169 rfl ?_
  refine i_iadd C dL_law_1170 rfl ?_
  refine i_cell C X v1 dL_law_1171 rfl ?_
  refine i_callM (As := [.int (xs (nI i + 1).toNatClampNeg)]) (na := 1) C X (by decide) tw_1166 tw_1167 tw_1168 tw_10 tw_1169 (by decide) rfl (Nat.le_of_ble_eq_true rfl) rfl (ct_X9_seed VCt_l1 VCt_l2 VCt_m1 VCt_m2 g (xs (nI i + 1).toNatClampNeg) hM) dL_law_1172 rfl (fun v9 g1 p2 => ?_) rfl
  obtain ⟨r2, rfl, p2⟩ := p2
  refine i_icmp_eq (tgt := 1549) C dL_law_1175 (by decide) rfl (fun _ => ?_) (fun h9 => absurd (z1.1.trans p2.1.symm) h9)
  exact hcont f1 g1 (CplEqM z1.2 p2.2) (InvE (K_seed hM (xs (nI i + 1).toNatClampNeg)) p2.2)
theorem law_c27 {Y : Yt} {EC EM : Ev} {b L : Nat} {xs : Nat → Int32} {i : Nat} {f g : Fn} (C : CY Y RL cL_law 4) (X : LX Y EC EM b L xs) (hi : i + 6 ≤ L) (hL : L ≤ 3072) (hC : Cpl f g) (hM : InvM g) (hcont : ∀ f' g' : Fn, Cpl f' g' → InvM g' → IG Y 68 sLW (WW EC EM f' g') (LV EC EM b (nI i)) 1549 []) : IG Y 68 sLW (WW EC EM f g) (LV EC EM b (nI i)) 1180 [] := by
  obtain ⟨v1, v2, v3, v4, v5⟩ := vin5 hi hL
  refine i_aload_n C rfl dL_law_1180 rfl ?_
  refine i_aload_n C rfl dL_law_1181 rfl ?_
  refine i_iload_n C rfl dL_law_1182 rfl ?_
  refine i_iconst (v := (1 : Int32)) C (by decide) dL_law_1183 rfl ?_
  refine i_iadd C dL_law_1184 rfl ?_
  refine i_cell C X v1 dL_law_1185 rfl ?_
  refine i_aload_n C rfl dL_law_1186 rfl ?_
  refine i_iload_n C rfl dL_law_1187 rfl ?_
  refine i_iconst (v := (2 : Int32)) C (by decide) dL_law_1188 rfl ?_
  refine i_iadd C dL_law_1189 rfl ?_
  refine i_cell C X v2 dL_law_1190 rfl ?_
  refine i_aload_n C rfl dL_law_1191 rfl ?_
  refine i_iload_n C rfl dL_law_1192 rfl ?_
  refine i_iconst (v := (3 : Int32)) C (by decide) dL_law_1193 rfl ?_
  refine i_iadd C dL_law_1194 rfl ?_
  refine i_cell C X v3 dL_law_1195 rfl ?_
  refine i_callC (As := [.int (xs (nI i + 1).toNatClampNeg), .int (xs (nI i + 2).toNatClampNeg), .int (xs (nI i + 3).toNatClampNeg)]) (na := 3) C X (by decide) tw_675 tw_676 tw_677 tw_1 tw_678 (by decide) rfl (Nat.le_of_ble_eq_true rfl) rfl (ct_X8_voice VCt_l1 VCt_l2 VCt_m1 VCt_m2 VCt_x8 f (xs (nI i + 1).toNatClampNeg) (xs (nI i + 2).toNatClampNeg) (xs (nI i + 3).toNatClampNeg) ⟨g, hC, hM⟩) dL_law_1196 rfl (fun v9 f1 p1 => ?_) rfl
  obtain ⟨r1, rfl, p1⟩ := p1
  have z1 := p1 g hC hM
  refine i_aload_n C rfl dL_law_1199 rfl ?_
  refine i_aload_n C rfl dL_law_1200 rfl ?_
  refine i_iload_n C rfl dL_law_1201 rfl ?_
  refine i_iconst (v := (1 : Int32)) C (by decide) dL_law_1202 rfl ?_
  refine i_iadd C dL_law_1203 rfl ?_
  refine i_cell C X v1 dL_law_1204 rfl ?_
  refine i_aload_n C rfl dL_law_1205 rfl ?_
  refine i_iload_n C rfl dL_law_1206 rfl ?_
  refine i_iconst (v := (2 : Int32)) C (by decide) dL_law_1207 rfl ?_
  refine i_iadd C dL_law_1208 rfl ?_
  refine i_cell C X v2 dL_law_1209 rfl ?_
  refine i_aload_n C rfl dL_law_1210 rfl ?_
  refine i_iload_n C rfl dL_law_1211 rfl ?_
  refine i_iconst (v := (3 : Int32)) C (by decide) dL_law_1212 rfl ?_
  refine i_iadd C dL_law_1213 rfl ?_
  refine i_cell C X v3 dL_law_1214 rfl ?_
  refine i_callM (As := [.int (xs (nI i + 1).toNatClampNeg), .int (xs (nI i + 2).toNatClampNeg), .int (xs (nI i + 3).toNatClampNeg)]) (na := 3) C X (by decide) tw_1170 tw_1171 tw_1172 tw_10 tw_1173 (by decide) rfl (Nat.le_of_ble_eq_true rfl) rfl (ct_X9_voice VCt_l1 VCt_l2 VCt_m1 VCt_m2 g (xs (nI i + 1).toNatClampNeg) (xs (nI i + 2).toNatClampNeg) (xs (nI i + 3).toNatClampNeg) hM) dL_law_1215 rfl (fun v9 g1 p2 => ?_) rfl
  obtain ⟨r2, rfl, p2⟩ := p2
  refine i_icmp_eq (tgt := 1549) C dL_law_1218 (by decide) rfl (fun _ => ?_) (fun h9 => absurd (z1.1.trans p2.1.symm) h9)
  exact hcont f1 g1 (CplEqM z1.2 p2.2) (InvE (K_voice hM (xs (nI i + 1).toNatClampNeg) (xs (nI i + 2).toNatClampNeg) (xs (nI i + 3).toNatClampNeg)) p2.2)
theorem law_c28 {Y : Yt} {EC EM : Ev} {b L : Nat} {xs : Nat → Int32} {i : Nat} {f g : Fn} (C : CY Y RL cL_law 4) (X : LX Y EC EM b L xs) (hi : i + 6 ≤ L) (hL : L ≤ 3072) (hC : Cpl f g) (hM : InvM g) (hcont : ∀ f' g' : Fn, Cpl f' g' → InvM g' → IG Y 68 sLW (WW EC EM f' g') (LV EC EM b (nI i)) 1549 []) : IG Y 68 sLW (WW EC EM f g) (LV EC EM b (nI i)) 1223 [] := by
  obtain ⟨v1, v2, v3, v4, v5⟩ := vin5 hi hL
  refine i_aload_n C rfl dL_law_1223 rfl ?_
  refine i_aload_n C rfl dL_law_1224 rfl ?_
  refine i_iload_n C rfl dL_law_1225 rfl ?_
  refine i_iconst (v := (1 : Int32)) C (by decide) dL_law_1226 rfl ?_
  refine i_iadd C dL_law_1227 rfl ?_
  refine i_cell C X v1 dL_law_1228 rfl ?_
  refine i_callC (As := [.int (xs (nI i + 1).toNatClampNeg)]) (na := 1) C X (by decide) tw_702 tw_703 tw_704 tw_1 tw_705 (by decide) rfl (Nat.le_of_ble_eq_true rfl) rfl (ct_X8_trace VCt_l1 VCt_l2 VCt_m1 VCt_m2 VCt_x8 f (xs (nI i + 1).toNatClampNeg) ⟨g, hC, hM⟩) dL_law_1229 rfl (fun v9 f1 p1 => ?_) rfl
  obtain ⟨r1, rfl, p1⟩ := p1
  have z1 := p1 g hC hM
  refine i_aload_n C rfl dL_law_1232 rfl ?_
  refine i_aload_n C rfl dL_law_1233 rfl ?_
  refine i_iload_n C rfl dL_law_1234 rfl ?_
  refine i_iconst (v := (1 : Int32)) C (by decide) dL_law_1235 rfl ?_
  refine i_iadd C dL_law_1236 rfl ?_
  refine i_cell C X v1 dL_law_1237 rfl ?_
  refine i_callM (As := [.int (xs (nI i + 1).toNatClampNeg)]) (na := 1) C X (by decide) tw_1198 tw_1199 tw_1200 tw_10 tw_1201 (by decide) rfl (Nat.le_of_ble_eq_true rfl) rfl (ct_X9_trace VCt_l1 VCt_l2 VCt_m1 VCt_m2 g (xs (nI i + 1).toNatClampNeg) hM) dL_law_1238 rfl (fun v9 g1 p2 => ?_) rfl
  obtain ⟨r2, rfl, p2⟩ := p2
  refine i_icmp_eq (tgt := 1549) C dL_law_1241 (by decide) rfl (fun _ => ?_) (fun h9 => absurd (z1.1.trans p2.1.symm) h9)
  exact hcont f1 g1 (CplEqM z1.2 p2.2) (InvE (K_trace hM (xs (nI i + 1).toNatClampNeg)) p2.2)
theorem law_c29 {Y : Yt} {EC EM : Ev} {b L : Nat} {xs : Nat → Int32} {i : Nat} {f g : Fn} (C : CY Y RL cL_law 4) (X : LX Y EC EM b L xs) (hi : i + 6 ≤ L) (hL : L ≤ 3072) (hC : Cpl f g) (hM : InvM g) (hcont : ∀ f' g' : Fn, Cpl f' g' → InvM g' → IG Y 68 sLW (WW EC EM f' g') (LV EC EM b (nI i)) 1549 []) : IG Y 68 sLW (WW EC EM f g) (LV EC EM b (nI i)) 1246 [] := by
  obtain ⟨v1, v2, v3, v4, v5⟩ := vin5 hi hL
  refine i_aload_n C rfl dL_law_1246 rfl ?_
  refine i_aload_n C rfl dL_law_1247 rfl ?_
  refine i_iload_n C rfl dL_law_1248 rfl ?_
  refine i_iconst (v := (1 : Int32)) C (by decide) dL_law_1249 rfl ?_
  refine i_iadd C dL_law_1250 rfl ?_
  refine i_cell C X v1 dL_law_1251 rfl ?_
  refine i_aload_n C rfl dL_law_1252 rfl ?_
  refine i_iload_n C rfl dL_law_1253 rfl ?_
  refine i_iconst (v := (2 : Int32)) C (by decide) dL_law_1254 rfl ?_
  refine i_iadd C dL_law_1255 rfl ?_
  refine i_cell C X v2 dL_law_1256 rfl ?_
  refine i_aload_n C rfl dL_law_1257 rfl ?_
  refine i_iload_n C rfl dL_law_1258 rfl ?_
  refine i_iconst (v := (3 : Int32)) C (by decide) dL_law_1259 rfl ?_
  refine i_iadd C dL_law_1260 rfl ?_
  refine i_cell C X v3 dL_law_1261 rfl ?_
  refine i_callC (As := [.int (xs (nI i + 1).toNatClampNeg), .int (xs (nI i + 2).toNatClampNeg), .int (xs (nI i + 3).toNatClampNeg)]) (na := 3) C X (by decide) tw_710 tw_711 tw_712 tw_1 tw_713 (by decide) rfl (Nat.le_of_ble_eq_true rfl) rfl (ct_X8_sheet VCt_l1 VCt_l2 VCt_m1 VCt_m2 VCt_x8 f (xs (nI i + 1).toNatClampNeg) (xs (nI i + 2).toNatClampNeg) (xs (nI i + 3).toNatClampNeg) ⟨g, hC, hM⟩) dL_law_1262 rfl (fun v9 f1 p1 => ?_) rfl
  obtain ⟨r1, rfl, p1⟩ := p1
  have z1 := p1 g hC hM
  refine i_aload_n C rfl dL_law_1265 rfl ?_
  refine i_aload_n C rfl dL_law_1266 rfl ?_
  refine i_iload_n C rfl dL_law_1267 rfl ?_
  refine i_iconst (v := (1 : Int32)) C (by decide) dL_law_1268 rfl ?_
  refine i_iadd C dL_law_1269 rfl ?_
  refine i_cell C X v1 dL_law_1270 rfl ?_
  refine i_aload_n C rfl dL_law_1271 rfl ?_
  refine i_iload_n C rfl dL_law_1272 rfl ?_
  refine i_iconst (v := (2 : Int32)) C (by decide) dL_law_1273 rfl ?_
  refine i_iadd C dL_law_1274 rfl ?_
  refine i_cell C X v2 dL_law_1275 rfl ?_
  refine i_aload_n C rfl dL_law_1276 rfl ?_
  refine i_iload_n C rfl dL_law_1277 rfl ?_
  refine i_iconst (v := (3 : Int32)) C (by decide) dL_law_1278 rfl ?_
  refine i_iadd C dL_law_1279 rfl ?_
  refine i_cell C X v3 dL_law_1280 rfl ?_
  refine i_callM (As := [.int (xs (nI i + 1).toNatClampNeg), .int (xs (nI i + 2).toNatClampNeg), .int (xs (nI i + 3).toNatClampNeg)]) (na := 3) C X (by decide) tw_1202 tw_1203 tw_1204 tw_10 tw_1205 (by decide) rfl (Nat.le_of_ble_eq_true rfl) rfl (ct_X9_sheet VCt_l1 VCt_l2 VCt_m1 VCt_m2 g (xs (nI i + 1).toNatClampNeg) (xs (nI i + 2).toNatClampNeg) (xs (nI i + 3).toNatClampNeg) hM) dL_law_1281 rfl (fun v9 g1 p2 => ?_) rfl
  obtain ⟨r2, rfl, p2⟩ := p2
  refine i_icmp_eq (tgt := 1549) C dL_law_1284 (by decide) rfl (fun _ => ?_) (fun h9 => absurd (z1.1.trans p2.1.symm) h9)
  exact hcont f1 g1 (CplEqM z1.2 p2.2) (InvE (K_sheet hM (xs (nI i + 1).toNatClampNeg) (xs (nI i + 2).toNatClampNeg) (xs (nI i + 3).toNatClampNeg)) p2.2)
theorem law_c30 {Y : Yt} {EC EM : Ev} {b L : Nat} {xs : Nat → Int32} {i : Nat} {f g : Fn} (C : CY Y RL cL_law 4) (X : LX Y EC EM b L xs) (hi : i + 6 ≤ L) (hL : L ≤ 3072) (hC : Cpl f g) (hM : InvM g) (hcont : ∀ f' g' : Fn, Cpl f' g' → InvM g' → IG Y 68 sLW (WW EC EM f' g') (LV EC EM b (nI i)) 1549 []) : IG Y 68 sLW (WW EC EM f g) (LV EC EM b (nI i)) 1289 [] := by
  obtain ⟨v1, v2, v3, v4, v5⟩ := vin5 hi hL
  refine i_aload_n C rfl dL_law_1289 rfl ?_
  refine i_aload_n C rfl dL_law_1290 rfl ?_
  refine i_iload_n C rfl dL_law_1291 rfl ?_
  refine i_iconst (v := (1 : Int32)) C (by decide) dL_law_1292 rfl ?_
  refine i_iadd C dL_law_1293 rfl ?_
  refine i_cell C X v1 dL_law_1294 rfl ?_
  refine i_aload_n C rfl dL_law_1295 rfl ?_
  refine i_iload_n C rfl dL_law_1296 rfl ?_
  refine i_iconst (v := (2 : Int32)) C (by decide) dL_law_1297 rfl ?_
  refine i_iadd C dL_law_1298 rfl ?_
  refine i_cell C X v2 dL_law_1299 rfl ?_
  refine i_aload_n C rfl dL_law_1300 rfl ?_
  refine i_iload_n C rfl dL_law_1301 rfl ?_
  refine i_iconst (v := (3 : Int32)) C (by decide) dL_law_1302 rfl ?_
  refine i_iadd C dL_law_1303 rfl ?_
  refine i_cell C X v3 dL_law_1304 rfl ?_
  refine i_callC (As := [.int (xs (nI i + 1).toNatClampNeg), .int (xs (nI i + 2).toNatClampNeg), .int (xs (nI i + 3).toNatClampNeg)]) (na := 3) C X (by decide) tw_720 tw_721 tw_722 tw_1 tw_723 (by decide) rfl (Nat.le_of_ble_eq_true rfl) rfl (ct_X8_put VCt_l1 VCt_l2 VCt_m1 VCt_m2 VCt_x8 f (xs (nI i + 1).toNatClampNeg) (xs (nI i + 2).toNatClampNeg) (xs (nI i + 3).toNatClampNeg) ⟨g, hC, hM⟩) dL_law_1305 rfl (fun v9 f1 p1 => ?_) rfl
  obtain ⟨r1, rfl, p1⟩ := p1
  have z1 := p1 g hC hM
  refine i_aload_n C rfl dL_law_1308 rfl ?_
  refine i_aload_n C rfl dL_law_1309 rfl ?_
  refine i_iload_n C rfl dL_law_1310 rfl ?_
  refine i_iconst (v := (1 : Int32)) C (by decide) dL_law_1311 rfl ?_
  refine i_iadd C dL_law_1312 rfl ?_
  refine i_cell C X v1 dL_law_1313 rfl ?_
  refine i_aload_n C rfl dL_law_1314 rfl ?_
  refine i_iload_n C rfl dL_law_1315 rfl ?_
  refine i_iconst (v := (2 : Int32)) C (by decide) dL_law_1316 rfl ?_
  refine i_iadd C dL_law_1317 rfl ?_
  refine i_cell C X v2 dL_law_1318 rfl ?_
  refine i_aload_n C rfl dL_law_1319 rfl ?_
  refine i_iload_n C rfl dL_law_1320 rfl ?_
  refine i_iconst (v := (3 : Int32)) C (by decide) dL_law_1321 rfl ?_
  refine i_iadd C dL_law_1322 rfl ?_
  refine i_cell C X v3 dL_law_1323 rfl ?_
  refine i_callM (As := [.int (xs (nI i + 1).toNatClampNeg), .int (xs (nI i + 2).toNatClampNeg), .int (xs (nI i + 3).toNatClampNeg)]) (na := 3) C X (by decide) tw_1206 tw_1207 tw_1208 tw_10 tw_1209 (by decide) rfl (Nat.le_of_ble_eq_true rfl) rfl (ct_X9_put VCt_l1 VCt_l2 VCt_m1 VCt_m2 g (xs (nI i + 1).toNatClampNeg) (xs (nI i + 2).toNatClampNeg) (xs (nI i + 3).toNatClampNeg) hM) dL_law_1324 rfl (fun v9 g1 p2 => ?_) rfl
  obtain ⟨r2, rfl, p2⟩ := p2
  refine i_icmp_eq (tgt := 1549) C dL_law_1327 (by decide) rfl (fun _ => ?_) (fun h9 => absurd (z1.1.trans p2.1.symm) h9)
  exact hcont f1 g1 (CplEqM z1.2 p2.2) (InvE (K_put hM (xs (nI i + 1).toNatClampNeg) (xs (nI i + 2).toNatClampNeg) (xs (nI i + 3).toNatClampNeg)) p2.2)
theorem law_c31 {Y : Yt} {EC EM : Ev} {b L : Nat} {xs : Nat → Int32} {i : Nat} {f g : Fn} (C : CY Y RL cL_law 4) (X : LX Y EC EM b L xs) (hi : i + 6 ≤ L) (hL : L ≤ 3072) (hC : Cpl f g) (hM : InvM g) (hcont : ∀ f' g' : Fn, Cpl f' g' → InvM g' → IG Y 68 sLW (WW EC EM f' g') (LV EC EM b (nI i)) 1549 []) : IG Y 68 sLW (WW EC EM f g) (LV EC EM b (nI i)) 1332 [] := by
  obtain ⟨v1, v2, v3, v4, v5⟩ := vin5 hi hL
  refine i_aload_n C rfl dL_law_1332 rfl ?_
  refine i_aload_n C rfl dL_law_1333 rfl ?_
  refine i_iload_n C rfl dL_law_1334 rfl ?_
  refine i_iconst (v := (1 : Int32)) C (by decide) dL_law_1335 rfl ?_
  refine i_iadd C dL_law_1336 rfl ?_
  refine i_cell C X v1 dL_law_1337 rfl ?_
  refine i_aload_n C rfl dL_law_1338 rfl ?_
  refine i_iload_n C rfl dL_law_1339 rfl ?_
  refine i_iconst (v := (2 : Int32)) C (by decide) dL_law_1340 rfl ?_
  refine i_iadd C dL_law_1341 rfl ?_
  refine i_cell C X v2 dL_law_1342 rfl ?_
  refine i_aload_n C rfl dL_law_1343 rfl ?_
  refine i_iload_n C rfl dL_law_1344 rfl ?_
  refine i_iconst (v := (3 : Int32)) C (by decide) dL_law_1345 rfl ?_
  refine i_iadd C dL_law_1346 rfl ?_
  refine i_cell C X v3 dL_law_1347 rfl ?_
  refine i_aload_n C rfl dL_law_1348 rfl ?_
  refine i_iload_n C rfl dL_law_1349 rfl ?_
  refine i_iconst (v := (4 : Int32)) C (by decide) dL_law_1350 rfl ?_
  refine i_iadd C dL_law_1351 rfl ?_
  refine i_cell C X v4 dL_law_1352 rfl ?_
  refine i_aload_n C rfl dL_law_1353 rfl ?_
  refine i_iload_n C rfl dL_law_1354 rfl ?_
  refine i_iconst (v := (5 : Int32)) C (by decide) dL_law_1355 rfl ?_
  refine i_iadd C dL_law_1356 rfl ?_
  refine i_cell C X v5 dL_law_1357 rfl ?_
  refine i_callC (As := [.int (xs (nI i + 1).toNatClampNeg), .int (xs (nI i + 2).toNatClampNeg), .int (xs (nI i + 3).toNatClampNeg), .int (xs (nI i + 4).toNatClampNeg), .int (xs (nI i + 5).toNatClampNeg)]) (na := 5) C X (by decide) tw_728 tw_729 tw_730 tw_1 tw_731 (by decide) rfl (Nat.le_of_ble_eq_true rfl) rfl (ct_X8_move VCt_l1 VCt_l2 VCt_m1 VCt_m2 VCt_x8 f (xs (nI i + 1).toNatClampNeg) (xs (nI i + 2).toNatClampNeg) (xs (nI i + 3).toNatClampNeg) (xs (nI i + 4).toNatClampNeg) (xs (nI i + 5).toNatClampNeg) ⟨g, hC, hM⟩) dL_law_1358 rfl (fun v9 f1 p1 => ?_) rfl
  obtain ⟨r1, rfl, p1⟩ := p1
  have z1 := p1 g hC hM
  refine i_aload_n C rfl dL_law_1361 rfl ?_
  refine i_aload_n C rfl dL_law_1362 rfl ?_
  refine i_iload_n C rfl dL_law_1363 rfl ?_
  refine i_iconst (v := (1 : Int32)) C (by decide) dL_law_1364 rfl ?_
  refine i_iadd C dL_law_1365 rfl ?_
  refine i_cell C X v1 dL_law_1366 rfl ?_
  refine i_aload_n C rfl dL_law_1367 rfl ?_
  refine i_iload_n C rfl dL_law_1368 rfl ?_
  refine i_iconst (v := (2 : Int32)) C (by decide) dL_law_1369 rfl ?_
  refine i_iadd C dL_law_1370 rfl ?_
  refine i_cell C X v2 dL_law_1371 rfl ?_
  refine i_aload_n C rfl dL_law_1372 rfl ?_
  refine i_iload_n C rfl dL_law_1373 rfl ?_
  refine i_iconst (v := (3 : Int32)) C (by decide) dL_law_1374 rfl ?_
  refine i_iadd C dL_law_1375 rfl ?_
  refine i_cell C X v3 dL_law_1376 rfl ?_
  refine i_aload_n C rfl dL_law_1377 rfl ?_
  refine i_iload_n C rfl dL_law_1378 rfl ?_
  refine i_iconst (v := (4 : Int32)) C (by decide) dL_law_1379 rfl ?_
  refine i_iadd C dL_law_1380 rfl ?_
  refine i_cell C X v4 dL_law_1381 rfl ?_
  refine i_aload_n C rfl dL_law_1382 rfl ?_
  refine i_iload_n C rfl dL_law_1383 rfl ?_
  refine i_iconst (v := (5 : Int32)) C (by decide) dL_law_1384 rfl ?_
  refine i_iadd C dL_law_1385 rfl ?_
  refine i_cell C X v5 dL_law_1386 rfl ?_
  refine i_callM (As := [.int (xs (nI i + 1).toNatClampNeg), .int (xs (nI i + 2).toNatClampNeg), .int (xs (nI i + 3).toNatClampNeg), .int (xs (nI i + 4).toNatClampNeg), .int (xs (nI i + 5).toNatClampNeg)]) (na := 5) C X (by decide) tw_1210 tw_1211 tw_1212 tw_10 tw_1213 (by decide) rfl (Nat.le_of_ble_eq_true rfl) rfl (ct_X9_move VCt_l1 VCt_l2 VCt_m1 VCt_m2 g (xs (nI i + 1).toNatClampNeg) (xs (nI i + 2).toNatClampNeg) (xs (nI i + 3).toNatClampNeg) (xs (nI i + 4).toNatClampNeg) (xs (nI i + 5).toNatClampNeg) hM) dL_law_1387 rfl (fun v9 g1 p2 => ?_) rfl
  obtain ⟨r2, rfl, p2⟩ := p2
  refine i_icmp_eq (tgt := 1549) C dL_law_1390 (by decide) rfl (fun _ => ?_) (fun h9 => absurd (z1.1.trans p2.1.symm) h9)
  exact hcont f1 g1 (CplEqM z1.2 p2.2) (InvE (K_move hM (xs (nI i + 1).toNatClampNeg) (xs (nI i + 2).toNatClampNeg) (xs (nI i + 3).toNatClampNeg) (xs (nI i + 4).toNatClampNeg) (xs (nI i + 5).toNatClampNeg)) p2.2)
theorem law_c32 {Y : Yt} {EC EM : Ev} {b L : Nat} {xs : Nat → Int32} {i : Nat} {f g : Fn} (C : CY Y RL cL_law 4) (X : LX Y EC EM b L xs) (hi : i + 6 ≤ L) (hL : L ≤ 3072) (hC : Cpl f g) (hM : InvM g) (hcont : ∀ f' g' : Fn, Cpl f' g' → InvM g' → IG Y 68 sLW (WW EC EM f' g') (LV EC EM b (nI i)) 1549 []) : IG Y 68 sLW (WW EC EM f g) (LV EC EM b (nI i)) 1395 [] := by
  obtain ⟨v1, v2, v3, v4, v5⟩ := vin5 hi hL
  refine i_aload_n C rfl dL_law_1395 rfl ?_
  refine i_aload_n C rfl dL_law_1396 rfl ?_
  refine i_iload_n C rfl dL_law_1397 rfl ?_
  refine i_iconst (v := (1 : Int32)) C (by decide) dL_law_1398 rfl ?_
  refine i_iadd C dL_law_1399 rfl ?_
  refine i_cell C X v1 dL_law_1400 rfl ?_
  refine i_callC (As := [.int (xs (nI i + 1).toNatClampNeg)]) (na := 1) C X (by decide) tw_739 tw_740 tw_741 tw_1 tw_742 (by decide) rfl (Nat.le_of_ble_eq_true rfl) rfl (ct_X8_turns VCt_l1 VCt_l2 VCt_m1 VCt_m2 VCt_x8 f (xs (nI i + 1).toNatClampNeg) ⟨g, hC, hM⟩) dL_law_1401 rfl (fun v9 f1 p1 => ?_) rfl
  obtain ⟨r1, rfl, p1⟩ := p1
  have z1 := p1 g hC hM
  refine i_aload_n C rfl dL_law_1404 rfl ?_
  refine i_aload_n C rfl dL_law_1405 rfl ?_
  refine i_iload_n C rfl dL_law_1406 rfl ?_
  refine i_iconst (v := (1 : Int32)) C (by decide) dL_law_1407 rfl ?_
  refine i_iadd C dL_law_1408 rfl ?_
  refine i_cell C X v1 dL_law_1409 rfl ?_
  refine i_callM (As := [.int (xs (nI i + 1).toNatClampNeg)]) (na := 1) C X (by decide) tw_1214 tw_1215 tw_1216 tw_10 tw_1217 (by decide) rfl (Nat.le_of_ble_eq_true rfl) rfl (ct_X9_turns VCt_l1 VCt_l2 VCt_m1 VCt_m2 g (xs (nI i + 1).toNatClampNeg) hM) dL_law_1410 rfl (fun v9 g1 p2 => ?_) rfl
  obtain ⟨r2, rfl, p2⟩ := p2
  refine i_icmp_eq (tgt := 1549) C dL_law_1413 (by decide) rfl (fun _ => ?_) (fun h9 => absurd (z1.1.trans p2.1.symm) h9)
  exact hcont f1 g1 (CplEqM z1.2 p2.2) (InvE (K_turns hM (xs (nI i + 1).toNatClampNeg)) p2.2)
theorem law_c33 {Y : Yt} {EC EM : Ev} {b L : Nat} {xs : Nat → Int32} {i : Nat} {f g : Fn} (C : CY Y RL cL_law 4) (X : LX Y EC EM b L xs) (hi : i + 6 ≤ L) (hL : L ≤ 3072) (hC : Cpl f g) (hM : InvM g) (hcont : ∀ f' g' : Fn, Cpl f' g' → InvM g' → IG Y 68 sLW (WW EC EM f' g') (LV EC EM b (nI i)) 1549 []) : IG Y 68 sLW (WW EC EM f g) (LV EC EM b (nI i)) 1418 [] := by
  obtain ⟨v1, v2, v3, v4, v5⟩ := vin5 hi hL
  refine i_aload_n C rfl dL_law_1418 rfl ?_
  refine i_aload_n C rfl dL_law_1419 rfl ?_
  refine i_iload_n C rfl dL_law_1420 rfl ?_
  refine i_iconst (v := (1 : Int32)) C (by decide) dL_law_1421 rfl ?_
  refine i_iadd C dL_law_1422 rfl ?_
  refine i_cell C X v1 dL_law_1423 rfl ?_
  refine i_callC (As := [.int (xs (nI i + 1).toNatClampNeg)]) (na := 1) C X (by decide) tw_744 tw_745 tw_746 tw_1 tw_747 (by decide) rfl (Nat.le_of_ble_eq_true rfl) rfl (ct_X8_judge VCt_l1 VCt_l2 VCt_m1 VCt_m2 VCt_x8 f (xs (nI i + 1).toNatClampNeg) ⟨g, hC, hM⟩) dL_law_1424 rfl (fun v9 f1 p1 => ?_) rfl
  obtain ⟨r1, rfl, p1⟩ := p1
  have z1 := p1 g hC hM
  refine i_aload_n C rfl dL_law_1427 rfl ?_
  refine i_aload_n C rfl dL_law_1428 rfl ?_
  refine i_iload_n C rfl dL_law_1429 rfl ?_
  refine i_iconst (v := (1 : Int32)) C (by decide) dL_law_1430 rfl ?_
  refine i_iadd C dL_law_1431 rfl ?_
  refine i_cell C X v1 dL_law_1432 rfl ?_
  refine i_callM (As := [.int (xs (nI i + 1).toNatClampNeg)]) (na := 1) C X (by decide) tw_1218 tw_1219 tw_1220 tw_10 tw_1221 (by decide) rfl (Nat.le_of_ble_eq_true rfl) rfl (ct_X9_judge VCt_l1 VCt_l2 VCt_m1 VCt_m2 g (xs (nI i + 1).toNatClampNeg) hM) dL_law_1433 rfl (fun v9 g1 p2 => ?_) rfl
  obtain ⟨r2, rfl, p2⟩ := p2
  refine i_icmp_eq (tgt := 1549) C dL_law_1436 (by decide) rfl (fun _ => ?_) (fun h9 => absurd (z1.1.trans p2.1.symm) h9)
  exact hcont f1 g1 (CplEqM z1.2 p2.2) (InvE (K_judge hM (xs (nI i + 1).toNatClampNeg)) p2.2)
theorem law_c34 {Y : Yt} {EC EM : Ev} {b L : Nat} {xs : Nat → Int32} {i : Nat} {f g : Fn} (C : CY Y RL cL_law 4) (X : LX Y EC EM b L xs) (hi : i + 6 ≤ L) (hL : L ≤ 3072) (hC : Cpl f g) (hM : InvM g) (hcont : ∀ f' g' : Fn, Cpl f' g' → InvM g' → IG Y 68 sLW (WW EC EM f' g') (LV EC EM b (nI i)) 1549 []) : IG Y 68 sLW (WW EC EM f g) (LV EC EM b (nI i)) 1441 [] := by
  obtain ⟨v1, v2, v3, v4, v5⟩ := vin5 hi hL
  refine i_aload_n C rfl dL_law_1441 rfl ?_
  refine i_callC (As := []) (na := 0) C X (by decide) tw_748 tw_749 tw_750 tw_1 tw_751 (by decide) rfl (Nat.le_of_ble_eq_true rfl) rfl (ct_X8_image VCt_l1 VCt_l2 VCt_m1 VCt_m2 VCt_x8 f  ⟨g, hC, hM⟩) dL_law_1442 rfl (fun v9 f1 p1 => ?_) rfl
  obtain ⟨r1, rfl, p1⟩ := p1
  have z1 := p1 g hC hM
  refine i_aload_n C rfl dL_law_1445 rfl ?_
  refine i_callM (As := []) (na := 0) C X (by decide) tw_1222 tw_1223 tw_1224 tw_10 tw_1225 (by decide) rfl (Nat.le_of_ble_eq_true rfl) rfl (ct_X9_image VCt_l1 VCt_l2 VCt_m1 VCt_m2 g  hM) dL_law_1446 rfl (fun v9 g1 p2 => ?_) rfl
  obtain ⟨r2, rfl, p2⟩ := p2
  refine i_icmp_eq (tgt := 1549) C dL_law_1449 (by decide) rfl (fun _ => ?_) (fun h9 => absurd (z1.1.trans p2.1.symm) h9)
  exact hcont f1 g1 (CplEqM z1.2 p2.2) (InvE (K_image hM ) p2.2)
theorem law_c35 {Y : Yt} {EC EM : Ev} {b L : Nat} {xs : Nat → Int32} {i : Nat} {f g : Fn} (C : CY Y RL cL_law 4) (X : LX Y EC EM b L xs) (hi : i + 6 ≤ L) (hL : L ≤ 3072) (hC : Cpl f g) (hM : InvM g) (hcont : ∀ f' g' : Fn, Cpl f' g' → InvM g' → IG Y 68 sLW (WW EC EM f' g') (LV EC EM b (nI i)) 1549 []) : IG Y 68 sLW (WW EC EM f g) (LV EC EM b (nI i)) 1454 [] := by
  obtain ⟨v1, v2, v3, v4, v5⟩ := vin5 hi hL
  refine i_aload_n C rfl dL_law_1454 rfl ?_
  refine i_callC (As := []) (na := 0) C X (by decide) tw_764 tw_765 tw_766 tw_1 tw_767 (by decide) rfl (Nat.le_of_ble_eq_true rfl) rfl (ct_X8_restore VCt_l1 VCt_l2 VCt_m1 VCt_m2 VCt_x8 f  ⟨g, hC, hM⟩) dL_law_1455 rfl (fun v9 f1 p1 => ?_) rfl
  obtain ⟨r1, rfl, p1⟩ := p1
  have z1 := p1 g hC hM
  refine i_aload_n C rfl dL_law_1458 rfl ?_
  refine i_callM (As := []) (na := 0) C X (by decide) tw_1226 tw_1227 tw_1228 tw_10 tw_1229 (by decide) rfl (Nat.le_of_ble_eq_true rfl) rfl (ct_X9_restore VCt_l1 VCt_l2 VCt_m1 VCt_m2 g  hM) dL_law_1459 rfl (fun v9 g1 p2 => ?_) rfl
  obtain ⟨r2, rfl, p2⟩ := p2
  refine i_icmp_eq (tgt := 1549) C dL_law_1462 (by decide) rfl (fun _ => ?_) (fun h9 => absurd (z1.1.trans p2.1.symm) h9)
  exact hcont f1 g1 (CplEqM z1.2 p2.2) (InvE (K_restore hM ) p2.2)
theorem law_c36 {Y : Yt} {EC EM : Ev} {b L : Nat} {xs : Nat → Int32} {i : Nat} {f g : Fn} (C : CY Y RL cL_law 4) (X : LX Y EC EM b L xs) (hi : i + 6 ≤ L) (hL : L ≤ 3072) (hC : Cpl f g) (hM : InvM g) (hcont : ∀ f' g' : Fn, Cpl f' g' → InvM g' → IG Y 68 sLW (WW EC EM f' g') (LV EC EM b (nI i)) 1549 []) : IG Y 68 sLW (WW EC EM f g) (LV EC EM b (nI i)) 1467 [] := by
  obtain ⟨v1, v2, v3, v4, v5⟩ := vin5 hi hL
  refine i_aload_n C rfl dL_law_1467 rfl ?_
  refine i_aload_n C rfl dL_law_1468 rfl ?_
  refine i_iload_n C rfl dL_law_1469 rfl ?_
  refine i_iconst (v := (1 : Int32)) C (by decide) dL_law_1470 rfl ?_
  refine i_iadd C dL_law_1471 rfl ?_
  refine i_cell C X v1 dL_law_1472 rfl ?_
  refine i_callC (As := [.int (xs (nI i + 1).toNatClampNeg)]) (na := 1) C X (by decide) tw_768 tw_769 tw_770 tw_1 tw_771 (by decide) rfl (Nat.le_of_ble_eq_true rfl) rfl (ct_X8_tell VCt_l1 VCt_l2 VCt_m1 VCt_m2 VCt_x8 f (xs (nI i + 1).toNatClampNeg) ⟨g, hC, hM⟩) dL_law_1473 rfl (fun v9 f1 p1 => ?_) rfl
  obtain ⟨r1, rfl, p1⟩ := p1
  have z1 := p1 g hC hM
  refine i_aload_n C rfl dL_law_1476 rfl ?_
  refine i_aload_n C rfl dL_law_1477 rfl ?_
  refine i_iload_n C rfl dL_law_1478 rfl ?_
  refine i_iconst (v := (1 : Int32)) C (by decide) dL_law_1479 rfl ?_
  refine i_iadd C dL_law_1480 rfl ?_
  refine i_cell C X v1 dL_law_1481 rfl ?_
  refine i_callM (As := [.int (xs (nI i + 1).toNatClampNeg)]) (na := 1) C X (by decide) tw_1230 tw_1231 tw_1232 tw_10 tw_1233 (by decide) rfl (Nat.le_of_ble_eq_true rfl) rfl (ct_X9_tell VCt_l1 VCt_l2 VCt_m1 VCt_m2 g (xs (nI i + 1).toNatClampNeg) hM) dL_law_1482 rfl (fun v9 g1 p2 => ?_) rfl
  obtain ⟨r2, rfl, p2⟩ := p2
  refine i_icmp_eq (tgt := 1549) C dL_law_1485 (by decide) rfl (fun _ => ?_) (fun h9 => absurd (z1.1.trans p2.1.symm) h9)
  exact hcont f1 g1 (CplEqM z1.2 p2.2) (InvE (K_tell hM (xs (nI i + 1).toNatClampNeg)) p2.2)
theorem law_c37 {Y : Yt} {EC EM : Ev} {b L : Nat} {xs : Nat → Int32} {i : Nat} {f g : Fn} (C : CY Y RL cL_law 4) (X : LX Y EC EM b L xs) (hi : i + 6 ≤ L) (hL : L ≤ 3072) (hC : Cpl f g) (hM : InvM g) (hcont : ∀ f' g' : Fn, Cpl f' g' → InvM g' → IG Y 68 sLW (WW EC EM f' g') (LV EC EM b (nI i)) 1549 []) : IG Y 68 sLW (WW EC EM f g) (LV EC EM b (nI i)) 1490 [] := by
  obtain ⟨v1, v2, v3, v4, v5⟩ := vin5 hi hL
  refine i_aload_n C rfl dL_law_1490 rfl ?_
  refine i_callC (As := []) (na := 0) C X (by decide) tw_776 tw_777 tw_778 tw_1 tw_779 (by decide) rfl (Nat.le_of_ble_eq_true rfl) rfl (ct_X8_check VCt_l1 VCt_l2 VCt_m1 VCt_m2 VCt_x8 f  ⟨g, hC, hM⟩) dL_law_1491 rfl (fun v9 f1 p1 => ?_) rfl
  obtain ⟨r1, rfl, p1⟩ := p1
  have z1 := p1 g hC hM
  refine i_aload_n C rfl dL_law_1494 rfl ?_
  refine i_callM (As := []) (na := 0) C X (by decide) tw_1234 tw_1235 tw_1236 tw_10 tw_1237 (by decide) rfl (Nat.le_of_ble_eq_true rfl) rfl (ct_X9_check VCt_l1 VCt_l2 VCt_m1 VCt_m2 g  hM) dL_law_1495 rfl (fun v9 g1 p2 => ?_) rfl
  obtain ⟨r2, rfl, p2⟩ := p2
  refine i_icmp_eq (tgt := 1549) C dL_law_1498 (by decide) rfl (fun _ => ?_) (fun h9 => absurd (z1.1.trans p2.1.symm) h9)
  exact hcont f1 g1 (CplEqM z1.2 p2.2) (InvE (K_check hM ) p2.2)
theorem law_c38 {Y : Yt} {EC EM : Ev} {b L : Nat} {xs : Nat → Int32} {i : Nat} {f g : Fn} (C : CY Y RL cL_law 4) (X : LX Y EC EM b L xs) (hi : i + 6 ≤ L) (hL : L ≤ 3072) (hC : Cpl f g) (hM : InvM g) (hcont : ∀ f' g' : Fn, Cpl f' g' → InvM g' → IG Y 68 sLW (WW EC EM f' g') (LV EC EM b (nI i)) 1549 []) : IG Y 68 sLW (WW EC EM f g) (LV EC EM b (nI i)) 1503 [] := by
  obtain ⟨v1, v2, v3, v4, v5⟩ := vin5 hi hL
  refine i_aload_n C rfl dL_law_1503 rfl ?_
  refine i_aload_n C rfl dL_law_1504 rfl ?_
  refine i_iload_n C rfl dL_law_1505 rfl ?_
  refine i_iconst (v := (1 : Int32)) C (by decide) dL_law_1506 rfl ?_
  refine i_iadd C dL_law_1507 rfl ?_
  refine i_cell C X v1 dL_law_1508 rfl ?_
  refine i_callC (As := [.int (xs (nI i + 1).toNatClampNeg)]) (na := 1) C X (by decide) tw_780 tw_781 tw_782 tw_1 tw_783 (by decide) rfl (Nat.le_of_ble_eq_true rfl) rfl (ct_X8_count VCt_l1 VCt_l2 VCt_m1 VCt_m2 VCt_x8 f (xs (nI i + 1).toNatClampNeg) ⟨g, hC, hM⟩) dL_law_1509 rfl (fun v9 f1 p1 => ?_) rfl
  obtain ⟨r1, rfl, p1⟩ := p1
  have z1 := p1 g hC hM
  refine i_aload_n C rfl dL_law_1512 rfl ?_
  refine i_aload_n C rfl dL_law_1513 rfl ?_
  refine i_iload_n C rfl dL_law_1514 rfl ?_
  refine i_iconst (v := (1 : Int32)) C (by decide) dL_law_1515 rfl ?_
  refine i_iadd C dL_law_1516 rfl ?_
  refine i_cell C X v1 dL_law_1517 rfl ?_
  refine i_callM (As := [.int (xs (nI i + 1).toNatClampNeg)]) (na := 1) C X (by decide) tw_1238 tw_1239 tw_1240 tw_10 tw_1241 (by decide) rfl (Nat.le_of_ble_eq_true rfl) rfl (ct_X9_count VCt_l1 VCt_l2 VCt_m1 VCt_m2 g (xs (nI i + 1).toNatClampNeg) hM) dL_law_1518 rfl (fun v9 g1 p2 => ?_) rfl
  obtain ⟨r2, rfl, p2⟩ := p2
  refine i_icmp_eq (tgt := 1549) C dL_law_1521 (by decide) rfl (fun _ => ?_) (fun h9 => absurd (z1.1.trans p2.1.symm) h9)
  exact hcont f1 g1 (CplEqM z1.2 p2.2) (InvE (K_count hM (xs (nI i + 1).toNatClampNeg)) p2.2)
theorem law_c39 {Y : Yt} {EC EM : Ev} {b L : Nat} {xs : Nat → Int32} {i : Nat} {f g : Fn} (C : CY Y RL cL_law 4) (X : LX Y EC EM b L xs) (hi : i + 6 ≤ L) (hL : L ≤ 3072) (hC : Cpl f g) (hM : InvM g) (hcont : ∀ f' g' : Fn, Cpl f' g' → InvM g' → IG Y 68 sLW (WW EC EM f' g') (LV EC EM b (nI i)) 1549 []) : IG Y 68 sLW (WW EC EM f g) (LV EC EM b (nI i)) 1526 [] := by
  obtain ⟨v1, v2, v3, v4, v5⟩ := vin5 hi hL
  refine i_aload_n C rfl dL_law_1526 rfl ?_
  refine i_aload_n C rfl dL_law_1527 rfl ?_
  refine i_iload_n C rfl dL_law_1528 rfl ?_
  refine i_iconst (v := (1 : Int32)) C (by decide) dL_law_1529 rfl ?_
  refine i_iadd C dL_law_1530 rfl ?_
  refine i_cell C X v1 dL_law_1531 rfl ?_
  refine i_callC (As := [.int (xs (nI i + 1).toNatClampNeg)]) (na := 1) C X (by decide) tw_784 tw_785 tw_786 tw_1 tw_787 (by decide) rfl (Nat.le_of_ble_eq_true rfl) rfl (ct_X8_told VCt_l1 VCt_l2 VCt_m1 VCt_m2 VCt_x8 f (xs (nI i + 1).toNatClampNeg) ⟨g, hC, hM⟩) dL_law_1532 rfl (fun v9 f1 p1 => ?_) rfl
  obtain ⟨r1, rfl, p1⟩ := p1
  have z1 := p1 g hC hM
  refine i_aload_n C rfl dL_law_1535 rfl ?_
  refine i_aload_n C rfl dL_law_1536 rfl ?_
  refine i_iload_n C rfl dL_law_1537 rfl ?_
  refine i_iconst (v := (1 : Int32)) C (by decide) dL_law_1538 rfl ?_
  refine i_iadd C dL_law_1539 rfl ?_
  refine i_cell C X v1 dL_law_1540 rfl ?_
  refine i_callM (As := [.int (xs (nI i + 1).toNatClampNeg)]) (na := 1) C X (by decide) tw_1242 tw_1243 tw_1244 tw_10 tw_1245 (by decide) rfl (Nat.le_of_ble_eq_true rfl) rfl (ct_X9_told VCt_l1 VCt_l2 VCt_m1 VCt_m2 g (xs (nI i + 1).toNatClampNeg) hM) dL_law_1541 rfl (fun v9 g1 p2 => ?_) rfl
  obtain ⟨r2, rfl, p2⟩ := p2
  refine i_icmp_eq (tgt := 1549) C dL_law_1544 (by decide) rfl (fun _ => ?_) (fun h9 => absurd (z1.1.trans p2.1.symm) h9)
  exact hcont f1 g1 (CplEqM z1.2 p2.2) (InvE (K_told hM (xs (nI i + 1).toNatClampNeg)) p2.2)
