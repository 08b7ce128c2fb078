theorem lc_0 {l : Launch} {D : va_G} {ci : ClassId} {ad : Nat → Nat → Nat} {t b Ln : Nat} {xs : Nat → Int32} (hL : Ln < 2 ^ 31) {i : Nat} (hi : i + 6 ≤ Ln) {c0 m0 : jx_M} (h : Inv c0 m0) (K : ∀ c1 m1, Inv c1 m1 → LG l D ci ad t b Ln xs 1261 [(3, .int (nI i)), (2, .ref (ad 8 0)), (1, .ref (ad 0 0)), (0, .ref b)] [] (c1, m1)) : LG l D ci ad t b Ln xs 188 [(3, .int (nI i)), (2, .ref (ad 8 0)), (1, .ref (ad 0 0)), (0, .ref b)] [] (c0, m0) := by
  obtain ⟨r, c1, m1, hc, hm, hI⟩ := st_land (xs (i + 1)) (xs (i + 2)) (xs (i + 3)) (xs (i + 4)) c0 m0 h
  refine jr_aload_n 2 dL_law_188 rfl rfl rfl ?_
  refine jr_aload_n 3 dL_law_189 rfl rfl rfl ?_
  refine jr_iload_n 0 dL_law_190 rfl rfl rfl ?_
  refine jr_iconst (v := 1) dL_law_191 rfl rfl ?_
  refine jr_iadd dL_law_192 rfl ?_
  refine jl_rd (q := i + 1) (nI_add i 1) (by omega) hL dL_law_193 rfl ?_
  refine jr_aload_n 3 dL_law_194 rfl rfl rfl ?_
  refine jr_iload_n 0 dL_law_195 rfl rfl rfl ?_
  refine jr_iconst (v := 2) dL_law_196 rfl rfl ?_
  refine jr_iadd dL_law_197 rfl ?_
  refine jl_rd (q := i + 2) (nI_add i 2) (by omega) hL dL_law_198 rfl ?_
  refine jr_aload_n 3 dL_law_199 rfl rfl rfl ?_
  refine jr_iload_n 0 dL_law_200 rfl rfl rfl ?_
  refine jr_iconst (v := 3) dL_law_201 rfl rfl ?_
  refine jr_iadd dL_law_202 rfl ?_
  refine jl_rd (q := i + 3) (nI_add i 3) (by omega) hL dL_law_203 rfl ?_
  refine jr_aload_n 3 dL_law_204 rfl rfl rfl ?_
  refine jr_iload_n 0 dL_law_205 rfl rfl rfl ?_
  refine jr_iconst (v := 4) dL_law_206 rfl rfl ?_
  refine jr_iadd dL_law_207 rfl ?_
  refine jl_rd (q := i + 4) (nI_add i 4) (by omega) hL dL_law_208 rfl ?_
  refine jl_c (as := [.int (xs (i + 1)), .int (xs (i + 2)), .int (xs (i + 3)), .int (xs (i + 4))]) (st := []) (v := .int r) (JF_X5_land (E := eC l D ci ad t) (fun o h => h) hc) cw_L_13 ivL_X5_land ⟨rfl, rfl, by decide, by decide⟩ rfl rfl (Nat.le_of_ble_eq_true rfl) dL_law_209 rfl ?_
  refine jr_aload_n 1 dL_law_212 rfl rfl rfl ?_
  refine jr_aload_n 3 dL_law_213 rfl rfl rfl ?_
  refine jr_iload_n 0 dL_law_214 rfl rfl rfl ?_
  refine jr_iconst (v := 1) dL_law_215 rfl rfl ?_
  refine jr_iadd dL_law_216 rfl ?_
  refine jl_rd (q := i + 1) (nI_add i 1) (by omega) hL dL_law_217 rfl ?_
  refine jr_aload_n 3 dL_law_218 rfl rfl rfl ?_
  refine jr_iload_n 0 dL_law_219 rfl rfl rfl ?_
  refine jr_iconst (v := 2) dL_law_220 rfl rfl ?_
  refine jr_iadd dL_law_221 rfl ?_
  refine jl_rd (q := i + 2) (nI_add i 2) (by omega) hL dL_law_222 rfl ?_
  refine jr_aload_n 3 dL_law_223 rfl rfl rfl ?_
  refine jr_iload_n 0 dL_law_224 rfl rfl rfl ?_
  refine jr_iconst (v := 3) dL_law_225 rfl rfl ?_
  refine jr_iadd dL_law_226 rfl ?_
  refine jl_rd (q := i + 3) (nI_add i 3) (by omega) hL dL_law_227 rfl ?_
  refine jr_aload_n 3 dL_law_228 rfl rfl rfl ?_
  refine jr_iload_n 0 dL_law_229 rfl rfl rfl ?_
  refine jr_iconst (v := 4) dL_law_230 rfl rfl ?_
  refine jr_iadd dL_law_231 rfl ?_
  refine jl_rd (q := i + 4) (nI_add i 4) (by omega) hL dL_law_232 rfl ?_
  refine jl_m (as := [.int (xs (i + 1)), .int (xs (i + 2)), .int (xs (i + 3)), .int (xs (i + 4))]) (st := [.int r]) (v := .int r) (JF_X6_land (E := eM l D ci ad t) rfl hm) cw_L_17 ivL_X6_land ⟨rfl, rfl, by decide, by decide⟩ rfl rfl (Nat.le_of_ble_eq_true rfl) dL_law_233 rfl ?_
  exact jr_icmp_eq 1261 dL_law_236 rfl rfl (fun _ => K c1 m1 hI) (fun z => absurd rfl z)
theorem lc_1 {l : Launch} {D : va_G} {ci : ClassId} {ad : Nat → Nat → Nat} {t b Ln : Nat} {xs : Nat → Int32} (hL : Ln < 2 ^ 31) {i : Nat} (hi : i + 6 ≤ Ln) {c0 m0 : jx_M} (h : Inv c0 m0) (K : ∀ c1 m1, Inv c1 m1 → LG l D ci ad t b Ln xs 1261 [(3, .int (nI i)), (2, .ref (ad 8 0)), (1, .ref (ad 0 0)), (0, .ref b)] [] (c1, m1)) : LG l D ci ad t b Ln xs 241 [(3, .int (nI i)), (2, .ref (ad 8 0)), (1, .ref (ad 0 0)), (0, .ref b)] [] (c0, m0) := by
  obtain ⟨r, c1, m1, hc, hm, hI⟩ := st_ofPerson (xs (i + 1)) (xs (i + 2)) c0 m0 h
  refine jr_aload_n 2 dL_law_241 rfl rfl rfl ?_
  refine jr_aload_n 3 dL_law_242 rfl rfl rfl ?_
  refine jr_iload_n 0 dL_law_243 rfl rfl rfl ?_
  refine jr_iconst (v := 1) dL_law_244 rfl rfl ?_
  refine jr_iadd dL_law_245 rfl ?_
  refine jl_rd (q := i + 1) (nI_add i 1) (by omega) hL dL_law_246 rfl ?_
  refine jr_aload_n 3 dL_law_247 rfl rfl rfl ?_
  refine jr_iload_n 0 dL_law_248 rfl rfl rfl ?_
  refine jr_iconst (v := 2) dL_law_249 rfl rfl ?_
  refine jr_iadd dL_law_250 rfl ?_
  refine jl_rd (q := i + 2) (nI_add i 2) (by omega) hL dL_law_251 rfl ?_
  refine jl_c (as := [.int (xs (i + 1)), .int (xs (i + 2))]) (st := []) (v := .int r) (JF_X5_ofPerson (E := eC l D ci ad t) (fun o h => h) hc) cw_L_18 ivL_X5_ofPerson ⟨rfl, rfl, by decide, by decide⟩ rfl rfl (Nat.le_of_ble_eq_true rfl) dL_law_252 rfl ?_
  refine jr_aload_n 1 dL_law_255 rfl rfl rfl ?_
  refine jr_aload_n 3 dL_law_256 rfl rfl rfl ?_
  refine jr_iload_n 0 dL_law_257 rfl rfl rfl ?_
  refine jr_iconst (v := 1) dL_law_258 rfl rfl ?_
  refine jr_iadd dL_law_259 rfl ?_
  refine jl_rd (q := i + 1) (nI_add i 1) (by omega) hL dL_law_260 rfl ?_
  refine jr_aload_n 3 dL_law_261 rfl rfl rfl ?_
  refine jr_iload_n 0 dL_law_262 rfl rfl rfl ?_
  refine jr_iconst (v := 2) dL_law_263 rfl rfl ?_
  refine jr_iadd dL_law_264 rfl ?_
  refine jl_rd (q := i + 2) (nI_add i 2) (by omega) hL dL_law_265 rfl ?_
  refine jl_m (as := [.int (xs (i + 1)), .int (xs (i + 2))]) (st := [.int r]) (v := .int r) (JF_X6_ofPerson (E := eM l D ci ad t) rfl hm) cw_L_22 ivL_X6_ofPerson ⟨rfl, rfl, by decide, by decide⟩ rfl rfl (Nat.le_of_ble_eq_true rfl) dL_law_266 rfl ?_
  exact jr_icmp_eq 1261 dL_law_269 rfl rfl (fun _ => K c1 m1 hI) (fun z => absurd rfl z)
theorem lc_2 {l : Launch} {D : va_G} {ci : ClassId} {ad : Nat → Nat → Nat} {t b Ln : Nat} {xs : Nat → Int32} (hL : Ln < 2 ^ 31) {i : Nat} (hi : i + 6 ≤ Ln) {c0 m0 : jx_M} (h : Inv c0 m0) (K : ∀ c1 m1, Inv c1 m1 → LG l D ci ad t b Ln xs 1261 [(3, .int (nI i)), (2, .ref (ad 8 0)), (1, .ref (ad 0 0)), (0, .ref b)] [] (c1, m1)) : LG l D ci ad t b Ln xs 274 [(3, .int (nI i)), (2, .ref (ad 8 0)), (1, .ref (ad 0 0)), (0, .ref b)] [] (c0, m0) := by
  obtain ⟨r, c1, m1, hc, hm, hI⟩ := st_law (xs (i + 1)) c0 m0 h
  refine jr_aload_n 2 dL_law_274 rfl rfl rfl ?_
  refine jr_aload_n 3 dL_law_275 rfl rfl rfl ?_
  refine jr_iload_n 0 dL_law_276 rfl rfl rfl ?_
  refine jr_iconst (v := 1) dL_law_277 rfl rfl ?_
  refine jr_iadd dL_law_278 rfl ?_
  refine jl_rd (q := i + 1) (nI_add i 1) (by omega) hL dL_law_279 rfl ?_
  refine jl_c (as := [.int (xs (i + 1))]) (st := []) (v := .int r) (JF_X5_law (E := eC l D ci ad t) (fun o h => h) hc) cw_L_23 ivL_X5_law ⟨rfl, rfl, by decide, by decide⟩ rfl rfl (Nat.le_of_ble_eq_true rfl) dL_law_280 rfl ?_
  refine jr_aload_n 1 dL_law_283 rfl rfl rfl ?_
  refine jr_aload_n 3 dL_law_284 rfl rfl rfl ?_
  refine jr_iload_n 0 dL_law_285 rfl rfl rfl ?_
  refine jr_iconst (v := 1) dL_law_286 rfl rfl ?_
  refine jr_iadd dL_law_287 rfl ?_
  refine jl_rd (q := i + 1) (nI_add i 1) (by omega) hL dL_law_288 rfl ?_
  refine jl_m (as := [.int (xs (i + 1))]) (st := [.int r]) (v := .int r) (JF_X6_law (E := eM l D ci ad t) rfl hm) cw_L_27 ivL_X6_law ⟨rfl, rfl, by decide, by decide⟩ rfl rfl (Nat.le_of_ble_eq_true rfl) dL_law_289 rfl ?_
  exact jr_icmp_eq 1261 dL_law_292 rfl rfl (fun _ => K c1 m1 hI) (fun z => absurd rfl z)
theorem lc_3 {l : Launch} {D : va_G} {ci : ClassId} {ad : Nat → Nat → Nat} {t b Ln : Nat} {xs : Nat → Int32} (hL : Ln < 2 ^ 31) {i : Nat} (hi : i + 6 ≤ Ln) {c0 m0 : jx_M} (h : Inv c0 m0) (K : ∀ c1 m1, Inv c1 m1 → LG l D ci ad t b Ln xs 1261 [(3, .int (nI i)), (2, .ref (ad 8 0)), (1, .ref (ad 0 0)), (0, .ref b)] [] (c1, m1)) : LG l D ci ad t b Ln xs 297 [(3, .int (nI i)), (2, .ref (ad 8 0)), (1, .ref (ad 0 0)), (0, .ref b)] [] (c0, m0) := by
  refine jr_aload_n 2 dL_law_297 rfl rfl rfl ?_
  refine jr_aload_n 3 dL_law_298 rfl rfl rfl ?_
  refine jr_iload_n 0 dL_law_299 rfl rfl rfl ?_
  refine jr_iconst (v := 1) dL_law_300 rfl rfl ?_
  refine jr_iadd dL_law_301 rfl ?_
  refine jl_rd (q := i + 1) (nI_add i 1) (by omega) hL dL_law_302 rfl ?_
  refine jr_aload_n 3 dL_law_303 rfl rfl rfl ?_
  refine jr_iload_n 0 dL_law_304 rfl rfl rfl ?_
  refine jr_iconst (v := 2) dL_law_305 rfl rfl ?_
  refine jr_iadd dL_law_306 rfl ?_
  refine jl_rd (q := i + 2) (nI_add i 2) (by omega) hL dL_law_307 rfl ?_
  by_cases hz : xs (i + 2) = 0
  · obtain ⟨r, c1, m1, hc, hm, hI⟩ := st_refuse (xs (i + 1)) 0 (by decide) c0 m0 h
    refine jr_if_eq 315 dL_law_308 rfl rfl (fun _ => ?_) (fun z => absurd hz z)
    refine jr_iconst (v := 0) dL_law_315 rfl rfl ?_
    refine jl_c (as := [.int (xs (i + 1)), .int 0]) (st := []) (v := .int r) (JF_X5_refuse (E := eC l D ci ad t) (fun o h => h) hc) cw_L_28 ivL_X5_refuse ⟨rfl, rfl, by decide, by decide⟩ rfl rfl (Nat.le_of_ble_eq_true rfl) dL_law_316 rfl ?_
    refine jr_aload_n 1 dL_law_319 rfl rfl rfl ?_
    refine jr_aload_n 3 dL_law_320 rfl rfl rfl ?_
    refine jr_iload_n 0 dL_law_321 rfl rfl rfl ?_
    refine jr_iconst (v := 1) dL_law_322 rfl rfl ?_
    refine jr_iadd dL_law_323 rfl ?_
    refine jl_rd (q := i + 1) (nI_add i 1) (by omega) hL dL_law_324 rfl ?_
    refine jr_aload_n 3 dL_law_325 rfl rfl rfl ?_
    refine jr_iload_n 0 dL_law_326 rfl rfl rfl ?_
    refine jr_iconst (v := 2) dL_law_327 rfl rfl ?_
    refine jr_iadd dL_law_328 rfl ?_
    refine jl_rd (q := i + 2) (nI_add i 2) (by omega) hL dL_law_329 rfl ?_
    refine jr_if_eq 337 dL_law_330 rfl rfl (fun _ => ?_) (fun z => absurd hz z)
    refine jr_iconst (v := 0) dL_law_337 rfl rfl ?_
    refine jl_m (as := [.int (xs (i + 1)), .int 0]) (st := [.int r]) (v := .int r) (JF_X6_refuse (E := eM l D ci ad t) rfl hm) cw_L_32 ivL_X6_refuse ⟨rfl, rfl, by decide, by decide⟩ rfl rfl (Nat.le_of_ble_eq_true rfl) dL_law_338 rfl ?_
    exact jr_icmp_eq 1261 dL_law_341 rfl rfl (fun _ => K c1 m1 hI) (fun z => absurd rfl z)
  · obtain ⟨r, c1, m1, hc, hm, hI⟩ := st_refuse (xs (i + 1)) 1 (by decide) c0 m0 h
    refine jr_if_eq 315 dL_law_308 rfl rfl (fun z => absurd z hz) (fun _ => ?_)
    refine jr_iconst (v := 1) dL_law_311 rfl rfl ?_
    refine jr_goto 316 dL_law_312 rfl ?_
    refine jl_c (as := [.int (xs (i + 1)), .int 1]) (st := []) (v := .int r) (JF_X5_refuse (E := eC l D ci ad t) (fun o h => h) hc) cw_L_28 ivL_X5_refuse ⟨rfl, rfl, by decide, by decide⟩ rfl rfl (Nat.le_of_ble_eq_true rfl) dL_law_316 rfl ?_
    refine jr_aload_n 1 dL_law_319 rfl rfl rfl ?_
    refine jr_aload_n 3 dL_law_320 rfl rfl rfl ?_
    refine jr_iload_n 0 dL_law_321 rfl rfl rfl ?_
    refine jr_iconst (v := 1) dL_law_322 rfl rfl ?_
    refine jr_iadd dL_law_323 rfl ?_
    refine jl_rd (q := i + 1) (nI_add i 1) (by omega) hL dL_law_324 rfl ?_
    refine jr_aload_n 3 dL_law_325 rfl rfl rfl ?_
    refine jr_iload_n 0 dL_law_326 rfl rfl rfl ?_
    refine jr_iconst (v := 2) dL_law_327 rfl rfl ?_
    refine jr_iadd dL_law_328 rfl ?_
    refine jl_rd (q := i + 2) (nI_add i 2) (by omega) hL dL_law_329 rfl ?_
    refine jr_if_eq 337 dL_law_330 rfl rfl (fun z => absurd z hz) (fun _ => ?_)
    refine jr_iconst (v := 1) dL_law_333 rfl rfl ?_
    refine jr_goto 338 dL_law_334 rfl ?_
    refine jl_m (as := [.int (xs (i + 1)), .int 1]) (st := [.int r]) (v := .int r) (JF_X6_refuse (E := eM l D ci ad t) rfl hm) cw_L_32 ivL_X6_refuse ⟨rfl, rfl, by decide, by decide⟩ rfl rfl (Nat.le_of_ble_eq_true rfl) dL_law_338 rfl ?_
    exact jr_icmp_eq 1261 dL_law_341 rfl rfl (fun _ => K c1 m1 hI) (fun z => absurd rfl z)
theorem lc_4 {l : Launch} {D : va_G} {ci : ClassId} {ad : Nat → Nat → Nat} {t b Ln : Nat} {xs : Nat → Int32} (hL : Ln < 2 ^ 31) {i : Nat} (hi : i + 6 ≤ Ln) {c0 m0 : jx_M} (h : Inv c0 m0) (K : ∀ c1 m1, Inv c1 m1 → LG l D ci ad t b Ln xs 1261 [(3, .int (nI i)), (2, .ref (ad 8 0)), (1, .ref (ad 0 0)), (0, .ref b)] [] (c1, m1)) : LG l D ci ad t b Ln xs 346 [(3, .int (nI i)), (2, .ref (ad 8 0)), (1, .ref (ad 0 0)), (0, .ref b)] [] (c0, m0) := by
  obtain ⟨r, c1, m1, hc, hm, hI⟩ := st_will (xs (i + 1)) (xs (i + 2)) (xs (i + 3)) c0 m0 h
  refine jr_aload_n 2 dL_law_346 rfl rfl rfl ?_
  refine jr_aload_n 3 dL_law_347 rfl rfl rfl ?_
  refine jr_iload_n 0 dL_law_348 rfl rfl rfl ?_
  refine jr_iconst (v := 1) dL_law_349 rfl rfl ?_
  refine jr_iadd dL_law_350 rfl ?_
  refine jl_rd (q := i + 1) (nI_add i 1) (by omega) hL dL_law_351 rfl ?_
  refine jr_aload_n 3 dL_law_352 rfl rfl rfl ?_
  refine jr_iload_n 0 dL_law_353 rfl rfl rfl ?_
  refine jr_iconst (v := 2) dL_law_354 rfl rfl ?_
  refine jr_iadd dL_law_355 rfl ?_
  refine jl_rd (q := i + 2) (nI_add i 2) (by omega) hL dL_law_356 rfl ?_
  refine jr_aload_n 3 dL_law_357 rfl rfl rfl ?_
  refine jr_iload_n 0 dL_law_358 rfl rfl rfl ?_
  refine jr_iconst (v := 3) dL_law_359 rfl rfl ?_
  refine jr_iadd dL_law_360 rfl ?_
  refine jl_rd (q := i + 3) (nI_add i 3) (by omega) hL dL_law_361 rfl ?_
  refine jl_c (as := [.int (xs (i + 1)), .int (xs (i + 2)), .int (xs (i + 3))]) (st := []) (v := .int r) (JF_X5_will (E := eC l D ci ad t) (fun o h => h) hc) cw_L_33 ivL_X5_will ⟨rfl, rfl, by decide, by decide⟩ rfl rfl (Nat.le_of_ble_eq_true rfl) dL_law_362 rfl ?_
  refine jr_aload_n 1 dL_law_365 rfl rfl rfl ?_
  refine jr_aload_n 3 dL_law_366 rfl rfl rfl ?_
  refine jr_iload_n 0 dL_law_367 rfl rfl rfl ?_
  refine jr_iconst (v := 1) dL_law_368 rfl rfl ?_
  refine jr_iadd dL_law_369 rfl ?_
  refine jl_rd (q := i + 1) (nI_add i 1) (by omega) hL dL_law_370 rfl ?_
  refine jr_aload_n 3 dL_law_371 rfl rfl rfl ?_
  refine jr_iload_n 0 dL_law_372 rfl rfl rfl ?_
  refine jr_iconst (v := 2) dL_law_373 rfl rfl ?_
  refine jr_iadd dL_law_374 rfl ?_
  refine jl_rd (q := i + 2) (nI_add i 2) (by omega) hL dL_law_375 rfl ?_
  refine jr_aload_n 3 dL_law_376 rfl rfl rfl ?_
  refine jr_iload_n 0 dL_law_377 rfl rfl rfl ?_
  refine jr_iconst (v := 3) dL_law_378 rfl rfl ?_
  refine jr_iadd dL_law_379 rfl ?_
  refine jl_rd (q := i + 3) (nI_add i 3) (by omega) hL dL_law_380 rfl ?_
  refine jl_m (as := [.int (xs (i + 1)), .int (xs (i + 2)), .int (xs (i + 3))]) (st := [.int r]) (v := .int r) (JF_X6_will (E := eM l D ci ad t) rfl hm) cw_L_37 ivL_X6_will ⟨rfl, rfl, by decide, by decide⟩ rfl rfl (Nat.le_of_ble_eq_true rfl) dL_law_381 rfl ?_
  exact jr_icmp_eq 1261 dL_law_384 rfl rfl (fun _ => K c1 m1 hI) (fun z => absurd rfl z)
theorem lc_5 {l : Launch} {D : va_G} {ci : ClassId} {ad : Nat → Nat → Nat} {t b Ln : Nat} {xs : Nat → Int32} (hL : Ln < 2 ^ 31) {i : Nat} (hi : i + 6 ≤ Ln) {c0 m0 : jx_M} (h : Inv c0 m0) (K : ∀ c1 m1, Inv c1 m1 → LG l D ci ad t b Ln xs 1261 [(3, .int (nI i)), (2, .ref (ad 8 0)), (1, .ref (ad 0 0)), (0, .ref b)] [] (c1, m1)) : LG l D ci ad t b Ln xs 389 [(3, .int (nI i)), (2, .ref (ad 8 0)), (1, .ref (ad 0 0)), (0, .ref b)] [] (c0, m0) := by
  obtain ⟨r, c1, m1, hc, hm, hI⟩ := st_burn (xs (i + 1)) c0 m0 h
  refine jr_aload_n 2 dL_law_389 rfl rfl rfl ?_
  refine jr_aload_n 3 dL_law_390 rfl rfl rfl ?_
  refine jr_iload_n 0 dL_law_391 rfl rfl rfl ?_
  refine jr_iconst (v := 1) dL_law_392 rfl rfl ?_
  refine jr_iadd dL_law_393 rfl ?_
  refine jl_rd (q := i + 1) (nI_add i 1) (by omega) hL dL_law_394 rfl ?_
  refine jl_c (as := [.int (xs (i + 1))]) (st := []) (v := .int r) (JF_X5_burn (E := eC l D ci ad t) (fun o h => h) hc) cw_L_38 ivL_X5_burn ⟨rfl, rfl, by decide, by decide⟩ rfl rfl (Nat.le_of_ble_eq_true rfl) dL_law_395 rfl ?_
  refine jr_aload_n 1 dL_law_398 rfl rfl rfl ?_
  refine jr_aload_n 3 dL_law_399 rfl rfl rfl ?_
  refine jr_iload_n 0 dL_law_400 rfl rfl rfl ?_
  refine jr_iconst (v := 1) dL_law_401 rfl rfl ?_
  refine jr_iadd dL_law_402 rfl ?_
  refine jl_rd (q := i + 1) (nI_add i 1) (by omega) hL dL_law_403 rfl ?_
  refine jl_m (as := [.int (xs (i + 1))]) (st := [.int r]) (v := .int r) (JF_X6_burn (E := eM l D ci ad t) rfl hm) cw_L_41 ivL_X6_burn ⟨rfl, rfl, by decide, by decide⟩ rfl rfl (Nat.le_of_ble_eq_true rfl) dL_law_404 rfl ?_
  exact jr_icmp_eq 1261 dL_law_407 rfl rfl (fun _ => K c1 m1 hI) (fun z => absurd rfl z)
theorem lc_6 {l : Launch} {D : va_G} {ci : ClassId} {ad : Nat → Nat → Nat} {t b Ln : Nat} {xs : Nat → Int32} (hL : Ln < 2 ^ 31) {i : Nat} (hi : i + 6 ≤ Ln) {c0 m0 : jx_M} (h : Inv c0 m0) (K : ∀ c1 m1, Inv c1 m1 → LG l D ci ad t b Ln xs 1261 [(3, .int (nI i)), (2, .ref (ad 8 0)), (1, .ref (ad 0 0)), (0, .ref b)] [] (c1, m1)) : LG l D ci ad t b Ln xs 412 [(3, .int (nI i)), (2, .ref (ad 8 0)), (1, .ref (ad 0 0)), (0, .ref b)] [] (c0, m0) := by
  obtain ⟨r, c1, m1, hc, hm, hI⟩ := st_giveUp (xs (i + 1)) (xs (i + 2)) c0 m0 h
  refine jr_aload_n 2 dL_law_412 rfl rfl rfl ?_
  refine jr_aload_n 3 dL_law_413 rfl rfl rfl ?_
  refine jr_iload_n 0 dL_law_414 rfl rfl rfl ?_
  refine jr_iconst (v := 1) dL_law_415 rfl rfl ?_
  refine jr_iadd dL_law_416 rfl ?_
  refine jl_rd (q := i + 1) (nI_add i 1) (by omega) hL dL_law_417 rfl ?_
  refine jr_aload_n 3 dL_law_418 rfl rfl rfl ?_
  refine jr_iload_n 0 dL_law_419 rfl rfl rfl ?_
  refine jr_iconst (v := 2) dL_law_420 rfl rfl ?_
  refine jr_iadd dL_law_421 rfl ?_
  refine jl_rd (q := i + 2) (nI_add i 2) (by omega) hL dL_law_422 rfl ?_
  refine jl_c (as := [.int (xs (i + 1)), .int (xs (i + 2))]) (st := []) (v := .int r) (JF_X5_giveUp (E := eC l D ci ad t) (fun o h => h) hc) cw_L_42 ivL_X5_giveUp ⟨rfl, rfl, by decide, by decide⟩ rfl rfl (Nat.le_of_ble_eq_true rfl) dL_law_423 rfl ?_
  refine jr_aload_n 1 dL_law_426 rfl rfl rfl ?_
  refine jr_aload_n 3 dL_law_427 rfl rfl rfl ?_
  refine jr_iload_n 0 dL_law_428 rfl rfl rfl ?_
  refine jr_iconst (v := 1) dL_law_429 rfl rfl ?_
  refine jr_iadd dL_law_430 rfl ?_
  refine jl_rd (q := i + 1) (nI_add i 1) (by omega) hL dL_law_431 rfl ?_
  refine jr_aload_n 3 dL_law_432 rfl rfl rfl ?_
  refine jr_iload_n 0 dL_law_433 rfl rfl rfl ?_
  refine jr_iconst (v := 2) dL_law_434 rfl rfl ?_
  refine jr_iadd dL_law_435 rfl ?_
  refine jl_rd (q := i + 2) (nI_add i 2) (by omega) hL dL_law_436 rfl ?_
  refine jl_m (as := [.int (xs (i + 1)), .int (xs (i + 2))]) (st := [.int r]) (v := .int r) (JF_X6_giveUp (E := eM l D ci ad t) rfl hm) cw_L_45 ivL_X6_giveUp ⟨rfl, rfl, by decide, by decide⟩ rfl rfl (Nat.le_of_ble_eq_true rfl) dL_law_437 rfl ?_
  exact jr_icmp_eq 1261 dL_law_440 rfl rfl (fun _ => K c1 m1 hI) (fun z => absurd rfl z)
theorem lc_7 {l : Launch} {D : va_G} {ci : ClassId} {ad : Nat → Nat → Nat} {t b Ln : Nat} {xs : Nat → Int32} (hL : Ln < 2 ^ 31) {i : Nat} (hi : i + 6 ≤ Ln) {c0 m0 : jx_M} (h : Inv c0 m0) (K : ∀ c1 m1, Inv c1 m1 → LG l D ci ad t b Ln xs 1261 [(3, .int (nI i)), (2, .ref (ad 8 0)), (1, .ref (ad 0 0)), (0, .ref b)] [] (c1, m1)) : LG l D ci ad t b Ln xs 445 [(3, .int (nI i)), (2, .ref (ad 8 0)), (1, .ref (ad 0 0)), (0, .ref b)] [] (c0, m0) := by
  obtain ⟨r, c1, m1, hc, hm, hI⟩ := st_guard (xs (i + 1)) (xs (i + 2)) c0 m0 h
  refine jr_aload_n 2 dL_law_445 rfl rfl rfl ?_
  refine jr_aload_n 3 dL_law_446 rfl rfl rfl ?_
  refine jr_iload_n 0 dL_law_447 rfl rfl rfl ?_
  refine jr_iconst (v := 1) dL_law_448 rfl rfl ?_
  refine jr_iadd dL_law_449 rfl ?_
  refine jl_rd (q := i + 1) (nI_add i 1) (by omega) hL dL_law_450 rfl ?_
  refine jr_aload_n 3 dL_law_451 rfl rfl rfl ?_
  refine jr_iload_n 0 dL_law_452 rfl rfl rfl ?_
  refine jr_iconst (v := 2) dL_law_453 rfl rfl ?_
  refine jr_iadd dL_law_454 rfl ?_
  refine jl_rd (q := i + 2) (nI_add i 2) (by omega) hL dL_law_455 rfl ?_
  refine jl_c (as := [.int (xs (i + 1)), .int (xs (i + 2))]) (st := []) (v := .int r) (JF_X5_guard (E := eC l D ci ad t) (fun o h => h) hc) cw_L_46 ivL_X5_guard ⟨rfl, rfl, by decide, by decide⟩ rfl rfl (Nat.le_of_ble_eq_true rfl) dL_law_456 rfl ?_
  refine jr_aload_n 1 dL_law_459 rfl rfl rfl ?_
  refine jr_aload_n 3 dL_law_460 rfl rfl rfl ?_
  refine jr_iload_n 0 dL_law_461 rfl rfl rfl ?_
  refine jr_iconst (v := 1) dL_law_462 rfl rfl ?_
  refine jr_iadd dL_law_463 rfl ?_
  refine jl_rd (q := i + 1) (nI_add i 1) (by omega) hL dL_law_464 rfl ?_
  refine jr_aload_n 3 dL_law_465 rfl rfl rfl ?_
  refine jr_iload_n 0 dL_law_466 rfl rfl rfl ?_
  refine jr_iconst (v := 2) dL_law_467 rfl rfl ?_
  refine jr_iadd dL_law_468 rfl ?_
  refine jl_rd (q := i + 2) (nI_add i 2) (by omega) hL dL_law_469 rfl ?_
  refine jl_m (as := [.int (xs (i + 1)), .int (xs (i + 2))]) (st := [.int r]) (v := .int r) (JF_X6_guard (E := eM l D ci ad t) rfl hm) cw_L_49 ivL_X6_guard ⟨rfl, rfl, by decide, by decide⟩ rfl rfl (Nat.le_of_ble_eq_true rfl) dL_law_470 rfl ?_
  exact jr_icmp_eq 1261 dL_law_473 rfl rfl (fun _ => K c1 m1 hI) (fun z => absurd rfl z)
theorem lc_8 {l : Launch} {D : va_G} {ci : ClassId} {ad : Nat → Nat → Nat} {t b Ln : Nat} {xs : Nat → Int32} (hL : Ln < 2 ^ 31) {i : Nat} (hi : i + 6 ≤ Ln) {c0 m0 : jx_M} (h : Inv c0 m0) (K : ∀ c1 m1, Inv c1 m1 → LG l D ci ad t b Ln xs 1261 [(3, .int (nI i)), (2, .ref (ad 8 0)), (1, .ref (ad 0 0)), (0, .ref b)] [] (c1, m1)) : LG l D ci ad t b Ln xs 478 [(3, .int (nI i)), (2, .ref (ad 8 0)), (1, .ref (ad 0 0)), (0, .ref b)] [] (c0, m0) := by
  obtain ⟨r, c1, m1, hc, hm, hI⟩ := st_how (xs (i + 1)) (xs (i + 2)) c0 m0 h
  refine jr_aload_n 2 dL_law_478 rfl rfl rfl ?_
  refine jr_aload_n 3 dL_law_479 rfl rfl rfl ?_
  refine jr_iload_n 0 dL_law_480 rfl rfl rfl ?_
  refine jr_iconst (v := 1) dL_law_481 rfl rfl ?_
  refine jr_iadd dL_law_482 rfl ?_
  refine jl_rd (q := i + 1) (nI_add i 1) (by omega) hL dL_law_483 rfl ?_
  refine jr_aload_n 3 dL_law_484 rfl rfl rfl ?_
  refine jr_iload_n 0 dL_law_485 rfl rfl rfl ?_
  refine jr_iconst (v := 2) dL_law_486 rfl rfl ?_
  refine jr_iadd dL_law_487 rfl ?_
  refine jl_rd (q := i + 2) (nI_add i 2) (by omega) hL dL_law_488 rfl ?_
  refine jl_c (as := [.int (xs (i + 1)), .int (xs (i + 2))]) (st := []) (v := .int r) (JF_X5_how (E := eC l D ci ad t) (fun o h => h) hc) cw_L_50 ivL_X5_how ⟨rfl, rfl, by decide, by decide⟩ rfl rfl (Nat.le_of_ble_eq_true rfl) dL_law_489 rfl ?_
  refine jr_aload_n 1 dL_law_492 rfl rfl rfl ?_
  refine jr_aload_n 3 dL_law_493 rfl rfl rfl ?_
  refine jr_iload_n 0 dL_law_494 rfl rfl rfl ?_
  refine jr_iconst (v := 1) dL_law_495 rfl rfl ?_
  refine jr_iadd dL_law_496 rfl ?_
  refine jl_rd (q := i + 1) (nI_add i 1) (by omega) hL dL_law_497 rfl ?_
  refine jr_aload_n 3 dL_law_498 rfl rfl rfl ?_
  refine jr_iload_n 0 dL_law_499 rfl rfl rfl ?_
  refine jr_iconst (v := 2) dL_law_500 rfl rfl ?_
  refine jr_iadd dL_law_501 rfl ?_
  refine jl_rd (q := i + 2) (nI_add i 2) (by omega) hL dL_law_502 rfl ?_
  refine jl_m (as := [.int (xs (i + 1)), .int (xs (i + 2))]) (st := [.int r]) (v := .int r) (JF_X6_how (E := eM l D ci ad t) rfl hm) cw_L_53 ivL_X6_how ⟨rfl, rfl, by decide, by decide⟩ rfl rfl (Nat.le_of_ble_eq_true rfl) dL_law_503 rfl ?_
  exact jr_icmp_eq 1261 dL_law_506 rfl rfl (fun _ => K c1 m1 hI) (fun z => absurd rfl z)
theorem lc_9 {l : Launch} {D : va_G} {ci : ClassId} {ad : Nat → Nat → Nat} {t b Ln : Nat} {xs : Nat → Int32} (hL : Ln < 2 ^ 31) {i : Nat} (hi : i + 6 ≤ Ln) {c0 m0 : jx_M} (h : Inv c0 m0) (K : ∀ c1 m1, Inv c1 m1 → LG l D ci ad t b Ln xs 1261 [(3, .int (nI i)), (2, .ref (ad 8 0)), (1, .ref (ad 0 0)), (0, .ref b)] [] (c1, m1)) : LG l D ci ad t b Ln xs 511 [(3, .int (nI i)), (2, .ref (ad 8 0)), (1, .ref (ad 0 0)), (0, .ref b)] [] (c0, m0) := by
  obtain ⟨r, c1, m1, hc, hm, hI⟩ := st_age (xs (i + 1)) (xs (i + 2)) c0 m0 h
  refine jr_aload_n 2 dL_law_511 rfl rfl rfl ?_
  refine jr_aload_n 3 dL_law_512 rfl rfl rfl ?_
  refine jr_iload_n 0 dL_law_513 rfl rfl rfl ?_
  refine jr_iconst (v := 1) dL_law_514 rfl rfl ?_
  refine jr_iadd dL_law_515 rfl ?_
  refine jl_rd (q := i + 1) (nI_add i 1) (by omega) hL dL_law_516 rfl ?_
  refine jr_aload_n 3 dL_law_517 rfl rfl rfl ?_
  refine jr_iload_n 0 dL_law_518 rfl rfl rfl ?_
  refine jr_iconst (v := 2) dL_law_519 rfl rfl ?_
  refine jr_iadd dL_law_520 rfl ?_
  refine jl_rd (q := i + 2) (nI_add i 2) (by omega) hL dL_law_521 rfl ?_
  refine jl_c (as := [.int (xs (i + 1)), .int (xs (i + 2))]) (st := []) (v := .int r) (JF_X5_age (E := eC l D ci ad t) (fun o h => h) hc) cw_L_54 ivL_X5_age ⟨rfl, rfl, by decide, by decide⟩ rfl rfl (Nat.le_of_ble_eq_true rfl) dL_law_522 rfl ?_
  refine jr_aload_n 1 dL_law_525 rfl rfl rfl ?_
  refine jr_aload_n 3 dL_law_526 rfl rfl rfl ?_
  refine jr_iload_n 0 dL_law_527 rfl rfl rfl ?_
  refine jr_iconst (v := 1) dL_law_528 rfl rfl ?_
  refine jr_iadd dL_law_529 rfl ?_
  refine jl_rd (q := i + 1) (nI_add i 1) (by omega) hL dL_law_530 rfl ?_
  refine jr_aload_n 3 dL_law_531 rfl rfl rfl ?_
  refine jr_iload_n 0 dL_law_532 rfl rfl rfl ?_
  refine jr_iconst (v := 2) dL_law_533 rfl rfl ?_
  refine jr_iadd dL_law_534 rfl ?_
  refine jl_rd (q := i + 2) (nI_add i 2) (by omega) hL dL_law_535 rfl ?_
  refine jl_m (as := [.int (xs (i + 1)), .int (xs (i + 2))]) (st := [.int r]) (v := .int r) (JF_X6_age (E := eM l D ci ad t) rfl hm) cw_L_57 ivL_X6_age ⟨rfl, rfl, by decide, by decide⟩ rfl rfl (Nat.le_of_ble_eq_true rfl) dL_law_536 rfl ?_
  exact jr_icmp_eq 1261 dL_law_539 rfl rfl (fun _ => K c1 m1 hI) (fun z => absurd rfl z)
theorem lc_10 {l : Launch} {D : va_G} {ci : ClassId} {ad : Nat → Nat → Nat} {t b Ln : Nat} {xs : Nat → Int32} (hL : Ln < 2 ^ 31) {i : Nat} (hi : i + 6 ≤ Ln) {c0 m0 : jx_M} (h : Inv c0 m0) (K : ∀ c1 m1, Inv c1 m1 → LG l D ci ad t b Ln xs 1261 [(3, .int (nI i)), (2, .ref (ad 8 0)), (1, .ref (ad 0 0)), (0, .ref b)] [] (c1, m1)) : LG l D ci ad t b Ln xs 544 [(3, .int (nI i)), (2, .ref (ad 8 0)), (1, .ref (ad 0 0)), (0, .ref b)] [] (c0, m0) := by
  obtain ⟨r, c1, m1, hc, hm, hI⟩ := st_empty (xs (i + 1)) c0 m0 h
  refine jr_aload_n 2 dL_law_544 rfl rfl rfl ?_
  refine jr_aload_n 3 dL_law_545 rfl rfl rfl ?_
  refine jr_iload_n 0 dL_law_546 rfl rfl rfl ?_
  refine jr_iconst (v := 1) dL_law_547 rfl rfl ?_
  refine jr_iadd dL_law_548 rfl ?_
  refine jl_rd (q := i + 1) (nI_add i 1) (by omega) hL dL_law_549 rfl ?_
  refine jl_c (as := [.int (xs (i + 1))]) (st := []) (v := .int r) (JF_X5_empty (E := eC l D ci ad t) (fun o h => h) hc) cw_L_58 ivL_X5_empty ⟨rfl, rfl, by decide, by decide⟩ rfl rfl (Nat.le_of_ble_eq_true rfl) dL_law_550 rfl ?_
  refine jr_aload_n 1 dL_law_553 rfl rfl rfl ?_
  refine jr_aload_n 3 dL_law_554 rfl rfl rfl ?_
  refine jr_iload_n 0 dL_law_555 rfl rfl rfl ?_
  refine jr_iconst (v := 1) dL_law_556 rfl rfl ?_
  refine jr_iadd dL_law_557 rfl ?_
  refine jl_rd (q := i + 1) (nI_add i 1) (by omega) hL dL_law_558 rfl ?_
  refine jl_m (as := [.int (xs (i + 1))]) (st := [.int r]) (v := .int r) (JF_X6_empty (E := eM l D ci ad t) rfl hm) cw_L_61 ivL_X6_empty ⟨rfl, rfl, by decide, by decide⟩ rfl rfl (Nat.le_of_ble_eq_true rfl) dL_law_559 rfl ?_
  exact jr_icmp_eq 1261 dL_law_562 rfl rfl (fun _ => K c1 m1 hI) (fun z => absurd rfl z)
theorem lc_11 {l : Launch} {D : va_G} {ci : ClassId} {ad : Nat → Nat → Nat} {t b Ln : Nat} {xs : Nat → Int32} (hL : Ln < 2 ^ 31) {i : Nat} (hi : i + 6 ≤ Ln) {c0 m0 : jx_M} (h : Inv c0 m0) (K : ∀ c1 m1, Inv c1 m1 → LG l D ci ad t b Ln xs 1261 [(3, .int (nI i)), (2, .ref (ad 8 0)), (1, .ref (ad 0 0)), (0, .ref b)] [] (c1, m1)) : LG l D ci ad t b Ln xs 567 [(3, .int (nI i)), (2, .ref (ad 8 0)), (1, .ref (ad 0 0)), (0, .ref b)] [] (c0, m0) := by
  obtain ⟨r, c1, m1, hc, hm, hI⟩ := st_empties (xs (i + 1)) c0 m0 h
  refine jr_aload_n 2 dL_law_567 rfl rfl rfl ?_
  refine jr_aload_n 3 dL_law_568 rfl rfl rfl ?_
  refine jr_iload_n 0 dL_law_569 rfl rfl rfl ?_
  refine jr_iconst (v := 1) dL_law_570 rfl rfl ?_
  refine jr_iadd dL_law_571 rfl ?_
  refine jl_rd (q := i + 1) (nI_add i 1) (by omega) hL dL_law_572 rfl ?_
  refine jl_c (as := [.int (xs (i + 1))]) (st := []) (v := .int r) (JF_X5_empties (E := eC l D ci ad t) (fun o h => h) hc) cw_L_62 ivL_X5_empties ⟨rfl, rfl, by decide, by decide⟩ rfl rfl (Nat.le_of_ble_eq_true rfl) dL_law_573 rfl ?_
  refine jr_aload_n 1 dL_law_576 rfl rfl rfl ?_
  refine jr_aload_n 3 dL_law_577 rfl rfl rfl ?_
  refine jr_iload_n 0 dL_law_578 rfl rfl rfl ?_
  refine jr_iconst (v := 1) dL_law_579 rfl rfl ?_
  refine jr_iadd dL_law_580 rfl ?_
  refine jl_rd (q := i + 1) (nI_add i 1) (by omega) hL dL_law_581 rfl ?_
  refine jl_m (as := [.int (xs (i + 1))]) (st := [.int r]) (v := .int r) (JF_X6_empties (E := eM l D ci ad t) rfl hm) cw_L_65 ivL_X6_empties ⟨rfl, rfl, by decide, by decide⟩ rfl rfl (Nat.le_of_ble_eq_true rfl) dL_law_582 rfl ?_
  exact jr_icmp_eq 1261 dL_law_585 rfl rfl (fun _ => K c1 m1 hI) (fun z => absurd rfl z)
theorem lc_12 {l : Launch} {D : va_G} {ci : ClassId} {ad : Nat → Nat → Nat} {t b Ln : Nat} {xs : Nat → Int32} (hL : Ln < 2 ^ 31) {i : Nat} (hi : i + 6 ≤ Ln) {c0 m0 : jx_M} (h : Inv c0 m0) (K : ∀ c1 m1, Inv c1 m1 → LG l D ci ad t b Ln xs 1261 [(3, .int (nI i)), (2, .ref (ad 8 0)), (1, .ref (ad 0 0)), (0, .ref b)] [] (c1, m1)) : LG l D ci ad t b Ln xs 590 [(3, .int (nI i)), (2, .ref (ad 8 0)), (1, .ref (ad 0 0)), (0, .ref b)] [] (c0, m0) := by
  obtain ⟨r, c1, m1, hc, hm, hI⟩ := st_awake (xs (i + 1)) c0 m0 h
  refine jr_aload_n 2 dL_law_590 rfl rfl rfl ?_
  refine jr_aload_n 3 dL_law_591 rfl rfl rfl ?_
  refine jr_iload_n 0 dL_law_592 rfl rfl rfl ?_
  refine jr_iconst (v := 1) dL_law_593 rfl rfl ?_
  refine jr_iadd dL_law_594 rfl ?_
  refine jl_rd (q := i + 1) (nI_add i 1) (by omega) hL dL_law_595 rfl ?_
  refine jl_c (as := [.int (xs (i + 1))]) (st := []) (v := .int r) (JF_X5_awake (E := eC l D ci ad t) (fun o h => h) hc) cw_L_66 ivL_X5_awake ⟨rfl, rfl, by decide, by decide⟩ rfl rfl (Nat.le_of_ble_eq_true rfl) dL_law_596 rfl ?_
  refine jr_aload_n 1 dL_law_599 rfl rfl rfl ?_
  refine jr_aload_n 3 dL_law_600 rfl rfl rfl ?_
  refine jr_iload_n 0 dL_law_601 rfl rfl rfl ?_
  refine jr_iconst (v := 1) dL_law_602 rfl rfl ?_
  refine jr_iadd dL_law_603 rfl ?_
  refine jl_rd (q := i + 1) (nI_add i 1) (by omega) hL dL_law_604 rfl ?_
  refine jl_m (as := [.int (xs (i + 1))]) (st := [.int r]) (v := .int r) (JF_X6_awake (E := eM l D ci ad t) rfl hm) cw_L_69 ivL_X6_awake ⟨rfl, rfl, by decide, by decide⟩ rfl rfl (Nat.le_of_ble_eq_true rfl) dL_law_605 rfl ?_
  exact jr_icmp_eq 1261 dL_law_608 rfl rfl (fun _ => K c1 m1 hI) (fun z => absurd rfl z)
theorem lc_13 {l : Launch} {D : va_G} {ci : ClassId} {ad : Nat → Nat → Nat} {t b Ln : Nat} {xs : Nat → Int32} (hL : Ln < 2 ^ 31) {i : Nat} (hi : i + 6 ≤ Ln) {c0 m0 : jx_M} (h : Inv c0 m0) (K : ∀ c1 m1, Inv c1 m1 → LG l D ci ad t b Ln xs 1261 [(3, .int (nI i)), (2, .ref (ad 8 0)), (1, .ref (ad 0 0)), (0, .ref b)] [] (c1, m1)) : LG l D ci ad t b Ln xs 613 [(3, .int (nI i)), (2, .ref (ad 8 0)), (1, .ref (ad 0 0)), (0, .ref b)] [] (c0, m0) := by
  obtain ⟨r, c1, m1, hc, hm, hI⟩ := st_slept (xs (i + 1)) (xs (i + 2)) c0 m0 h
  refine jr_aload_n 2 dL_law_613 rfl rfl rfl ?_
  refine jr_aload_n 3 dL_law_614 rfl rfl rfl ?_
  refine jr_iload_n 0 dL_law_615 rfl rfl rfl ?_
  refine jr_iconst (v := 1) dL_law_616 rfl rfl ?_
  refine jr_iadd dL_law_617 rfl ?_
  refine jl_rd (q := i + 1) (nI_add i 1) (by omega) hL dL_law_618 rfl ?_
  refine jr_aload_n 3 dL_law_619 rfl rfl rfl ?_
  refine jr_iload_n 0 dL_law_620 rfl rfl rfl ?_
  refine jr_iconst (v := 2) dL_law_621 rfl rfl ?_
  refine jr_iadd dL_law_622 rfl ?_
  refine jl_rd (q := i + 2) (nI_add i 2) (by omega) hL dL_law_623 rfl ?_
  refine jl_c (as := [.int (xs (i + 1)), .int (xs (i + 2))]) (st := []) (v := .int r) (JF_X5_slept (E := eC l D ci ad t) (fun o h => h) hc) cw_L_70 ivL_X5_slept ⟨rfl, rfl, by decide, by decide⟩ rfl rfl (Nat.le_of_ble_eq_true rfl) dL_law_624 rfl ?_
  refine jr_aload_n 1 dL_law_627 rfl rfl rfl ?_
  refine jr_aload_n 3 dL_law_628 rfl rfl rfl ?_
  refine jr_iload_n 0 dL_law_629 rfl rfl rfl ?_
  refine jr_iconst (v := 1) dL_law_630 rfl rfl ?_
  refine jr_iadd dL_law_631 rfl ?_
  refine jl_rd (q := i + 1) (nI_add i 1) (by omega) hL dL_law_632 rfl ?_
  refine jr_aload_n 3 dL_law_633 rfl rfl rfl ?_
  refine jr_iload_n 0 dL_law_634 rfl rfl rfl ?_
  refine jr_iconst (v := 2) dL_law_635 rfl rfl ?_
  refine jr_iadd dL_law_636 rfl ?_
  refine jl_rd (q := i + 2) (nI_add i 2) (by omega) hL dL_law_637 rfl ?_
  refine jl_m (as := [.int (xs (i + 1)), .int (xs (i + 2))]) (st := [.int r]) (v := .int r) (JF_X6_slept (E := eM l D ci ad t) rfl hm) cw_L_73 ivL_X6_slept ⟨rfl, rfl, by decide, by decide⟩ rfl rfl (Nat.le_of_ble_eq_true rfl) dL_law_638 rfl ?_
  exact jr_icmp_eq 1261 dL_law_641 rfl rfl (fun _ => K c1 m1 hI) (fun z => absurd rfl z)
theorem lc_14 {l : Launch} {D : va_G} {ci : ClassId} {ad : Nat → Nat → Nat} {t b Ln : Nat} {xs : Nat → Int32} (hL : Ln < 2 ^ 31) {i : Nat} (hi : i + 6 ≤ Ln) {c0 m0 : jx_M} (h : Inv c0 m0) (K : ∀ c1 m1, Inv c1 m1 → LG l D ci ad t b Ln xs 1261 [(3, .int (nI i)), (2, .ref (ad 8 0)), (1, .ref (ad 0 0)), (0, .ref b)] [] (c1, m1)) : LG l D ci ad t b Ln xs 646 [(3, .int (nI i)), (2, .ref (ad 8 0)), (1, .ref (ad 0 0)), (0, .ref b)] [] (c0, m0) := by
  obtain ⟨r, c1, m1, hc, hm, hI⟩ := st_fewest (xs (i + 1)) c0 m0 h
  refine jr_aload_n 2 dL_law_646 rfl rfl rfl ?_
  refine jr_aload_n 3 dL_law_647 rfl rfl rfl ?_
  refine jr_iload_n 0 dL_law_648 rfl rfl rfl ?_
  refine jr_iconst (v := 1) dL_law_649 rfl rfl ?_
  refine jr_iadd dL_law_650 rfl ?_
  refine jl_rd (q := i + 1) (nI_add i 1) (by omega) hL dL_law_651 rfl ?_
  refine jl_c (as := [.int (xs (i + 1))]) (st := []) (v := .int r) (JF_X5_fewest (E := eC l D ci ad t) (fun o h => h) hc) cw_L_74 ivL_X5_fewest ⟨rfl, rfl, by decide, by decide⟩ rfl rfl (Nat.le_of_ble_eq_true rfl) dL_law_652 rfl ?_
  refine jr_aload_n 1 dL_law_655 rfl rfl rfl ?_
  refine jr_aload_n 3 dL_law_656 rfl rfl rfl ?_
  refine jr_iload_n 0 dL_law_657 rfl rfl rfl ?_
  refine jr_iconst (v := 1) dL_law_658 rfl rfl ?_
  refine jr_iadd dL_law_659 rfl ?_
  refine jl_rd (q := i + 1) (nI_add i 1) (by omega) hL dL_law_660 rfl ?_
  refine jl_m (as := [.int (xs (i + 1))]) (st := [.int r]) (v := .int r) (JF_X6_fewest (E := eM l D ci ad t) rfl hm) cw_L_77 ivL_X6_fewest ⟨rfl, rfl, by decide, by decide⟩ rfl rfl (Nat.le_of_ble_eq_true rfl) dL_law_661 rfl ?_
  exact jr_icmp_eq 1261 dL_law_664 rfl rfl (fun _ => K c1 m1 hI) (fun z => absurd rfl z)
theorem lc_15 {l : Launch} {D : va_G} {ci : ClassId} {ad : Nat → Nat → Nat} {t b Ln : Nat} {xs : Nat → Int32} (hL : Ln < 2 ^ 31) {i : Nat} (hi : i + 6 ≤ Ln) {c0 m0 : jx_M} (h : Inv c0 m0) (K : ∀ c1 m1, Inv c1 m1 → LG l D ci ad t b Ln xs 1261 [(3, .int (nI i)), (2, .ref (ad 8 0)), (1, .ref (ad 0 0)), (0, .ref b)] [] (c1, m1)) : LG l D ci ad t b Ln xs 669 [(3, .int (nI i)), (2, .ref (ad 8 0)), (1, .ref (ad 0 0)), (0, .ref b)] [] (c0, m0) := by
  obtain ⟨r, c1, m1, hc, hm, hI⟩ := st_help (xs (i + 1)) c0 m0 h
  refine jr_aload_n 2 dL_law_669 rfl rfl rfl ?_
  refine jr_aload_n 3 dL_law_670 rfl rfl rfl ?_
  refine jr_iload_n 0 dL_law_671 rfl rfl rfl ?_
  refine jr_iconst (v := 1) dL_law_672 rfl rfl ?_
  refine jr_iadd dL_law_673 rfl ?_
  refine jl_rd (q := i + 1) (nI_add i 1) (by omega) hL dL_law_674 rfl ?_
  refine jl_c (as := [.int (xs (i + 1))]) (st := []) (v := .int r) (JF_X5_help (E := eC l D ci ad t) (fun o h => h) hc) cw_L_78 ivL_X5_help ⟨rfl, rfl, by decide, by decide⟩ rfl rfl (Nat.le_of_ble_eq_true rfl) dL_law_675 rfl ?_
  refine jr_aload_n 1 dL_law_678 rfl rfl rfl ?_
  refine jr_aload_n 3 dL_law_679 rfl rfl rfl ?_
  refine jr_iload_n 0 dL_law_680 rfl rfl rfl ?_
  refine jr_iconst (v := 1) dL_law_681 rfl rfl ?_
  refine jr_iadd dL_law_682 rfl ?_
  refine jl_rd (q := i + 1) (nI_add i 1) (by omega) hL dL_law_683 rfl ?_
  refine jl_m (as := [.int (xs (i + 1))]) (st := [.int r]) (v := .int r) (JF_X6_help (E := eM l D ci ad t) rfl hm) cw_L_81 ivL_X6_help ⟨rfl, rfl, by decide, by decide⟩ rfl rfl (Nat.le_of_ble_eq_true rfl) dL_law_684 rfl ?_
  exact jr_icmp_eq 1261 dL_law_687 rfl rfl (fun _ => K c1 m1 hI) (fun z => absurd rfl z)
theorem lc_16 {l : Launch} {D : va_G} {ci : ClassId} {ad : Nat → Nat → Nat} {t b Ln : Nat} {xs : Nat → Int32} (hL : Ln < 2 ^ 31) {i : Nat} (hi : i + 6 ≤ Ln) {c0 m0 : jx_M} (h : Inv c0 m0) (K : ∀ c1 m1, Inv c1 m1 → LG l D ci ad t b Ln xs 1261 [(3, .int (nI i)), (2, .ref (ad 8 0)), (1, .ref (ad 0 0)), (0, .ref b)] [] (c1, m1)) : LG l D ci ad t b Ln xs 692 [(3, .int (nI i)), (2, .ref (ad 8 0)), (1, .ref (ad 0 0)), (0, .ref b)] [] (c0, m0) := by
  obtain ⟨r, c1, m1, hc, hm, hI⟩ := st_wills (xs (i + 1)) (xs (i + 2)) (xs (i + 3)) (xs (i + 4)) c0 m0 h
  refine jr_aload_n 2 dL_law_692 rfl rfl rfl ?_
  refine jr_aload_n 3 dL_law_693 rfl rfl rfl ?_
  refine jr_iload_n 0 dL_law_694 rfl rfl rfl ?_
  refine jr_iconst (v := 1) dL_law_695 rfl rfl ?_
  refine jr_iadd dL_law_696 rfl ?_
  refine jl_rd (q := i + 1) (nI_add i 1) (by omega) hL dL_law_697 rfl ?_
  refine jr_aload_n 3 dL_law_698 rfl rfl rfl ?_
  refine jr_iload_n 0 dL_law_699 rfl rfl rfl ?_
  refine jr_iconst (v := 2) dL_law_700 rfl rfl ?_
  refine jr_iadd dL_law_701 rfl ?_
  refine jl_rd (q := i + 2) (nI_add i 2) (by omega) hL dL_law_702 rfl ?_
  refine jr_aload_n 3 dL_law_703 rfl rfl rfl ?_
  refine jr_iload_n 0 dL_law_704 rfl rfl rfl ?_
  refine jr_iconst (v := 3) dL_law_705 rfl rfl ?_
  refine jr_iadd dL_law_706 rfl ?_
  refine jl_rd (q := i + 3) (nI_add i 3) (by omega) hL dL_law_707 rfl ?_
  refine jr_aload_n 3 dL_law_708 rfl rfl rfl ?_
  refine jr_iload_n 0 dL_law_709 rfl rfl rfl ?_
  refine jr_iconst (v := 4) dL_law_710 rfl rfl ?_
  refine jr_iadd dL_law_711 rfl ?_
  refine jl_rd (q := i + 4) (nI_add i 4) (by omega) hL dL_law_712 rfl ?_
  refine jl_c (as := [.int (xs (i + 1)), .int (xs (i + 2)), .int (xs (i + 3)), .int (xs (i + 4))]) (st := []) (v := .int r) (JF_X5_wills (E := eC l D ci ad t) (fun o h => h) hc) cw_L_82 ivL_X5_wills ⟨rfl, rfl, by decide, by decide⟩ rfl rfl (Nat.le_of_ble_eq_true rfl) dL_law_713 rfl ?_
  refine jr_aload_n 1 dL_law_716 rfl rfl rfl ?_
  refine jr_aload_n 3 dL_law_717 rfl rfl rfl ?_
  refine jr_iload_n 0 dL_law_718 rfl rfl rfl ?_
  refine jr_iconst (v := 1) dL_law_719 rfl rfl ?_
  refine jr_iadd dL_law_720 rfl ?_
  refine jl_rd (q := i + 1) (nI_add i 1) (by omega) hL dL_law_721 rfl ?_
  refine jr_aload_n 3 dL_law_722 rfl rfl rfl ?_
  refine jr_iload_n 0 dL_law_723 rfl rfl rfl ?_
  refine jr_iconst (v := 2) dL_law_724 rfl rfl ?_
  refine jr_iadd dL_law_725 rfl ?_
  refine jl_rd (q := i + 2) (nI_add i 2) (by omega) hL dL_law_726 rfl ?_
  refine jr_aload_n 3 dL_law_727 rfl rfl rfl ?_
  refine jr_iload_n 0 dL_law_728 rfl rfl rfl ?_
  refine jr_iconst (v := 3) dL_law_729 rfl rfl ?_
  refine jr_iadd dL_law_730 rfl ?_
  refine jl_rd (q := i + 3) (nI_add i 3) (by omega) hL dL_law_731 rfl ?_
  refine jr_aload_n 3 dL_law_732 rfl rfl rfl ?_
  refine jr_iload_n 0 dL_law_733 rfl rfl rfl ?_
  refine jr_iconst (v := 4) dL_law_734 rfl rfl ?_
  refine jr_iadd dL_law_735 rfl ?_
  refine jl_rd (q := i + 4) (nI_add i 4) (by omega) hL dL_law_736 rfl ?_
  refine jl_m (as := [.int (xs (i + 1)), .int (xs (i + 2)), .int (xs (i + 3)), .int (xs (i + 4))]) (st := [.int r]) (v := .int r) (JF_X6_wills (E := eM l D ci ad t) rfl hm) cw_L_85 ivL_X6_wills ⟨rfl, rfl, by decide, by decide⟩ rfl rfl (Nat.le_of_ble_eq_true rfl) dL_law_737 rfl ?_
  exact jr_icmp_eq 1261 dL_law_740 rfl rfl (fun _ => K c1 m1 hI) (fun z => absurd rfl z)
theorem lc_17 {l : Launch} {D : va_G} {ci : ClassId} {ad : Nat → Nat → Nat} {t b Ln : Nat} {xs : Nat → Int32} (hL : Ln < 2 ^ 31) {i : Nat} (hi : i + 6 ≤ Ln) {c0 m0 : jx_M} (h : Inv c0 m0) (K : ∀ c1 m1, Inv c1 m1 → LG l D ci ad t b Ln xs 1261 [(3, .int (nI i)), (2, .ref (ad 8 0)), (1, .ref (ad 0 0)), (0, .ref b)] [] (c1, m1)) : LG l D ci ad t b Ln xs 745 [(3, .int (nI i)), (2, .ref (ad 8 0)), (1, .ref (ad 0 0)), (0, .ref b)] [] (c0, m0) := by
  obtain ⟨r, c1, m1, hc, hm, hI⟩ := st_reading (xs (i + 1)) (xs (i + 2)) (xs (i + 3)) c0 m0 h
  refine jr_aload_n 2 dL_law_745 rfl rfl rfl ?_
  refine jr_aload_n 3 dL_law_746 rfl rfl rfl ?_
  refine jr_iload_n 0 dL_law_747 rfl rfl rfl ?_
  refine jr_iconst (v := 1) dL_law_748 rfl rfl ?_
  refine jr_iadd dL_law_749 rfl ?_
  refine jl_rd (q := i + 1) (nI_add i 1) (by omega) hL dL_law_750 rfl ?_
  refine jr_aload_n 3 dL_law_751 rfl rfl rfl ?_
  refine jr_iload_n 0 dL_law_752 rfl rfl rfl ?_
  refine jr_iconst (v := 2) dL_law_753 rfl rfl ?_
  refine jr_iadd dL_law_754 rfl ?_
  refine jl_rd (q := i + 2) (nI_add i 2) (by omega) hL dL_law_755 rfl ?_
  refine jr_aload_n 3 dL_law_756 rfl rfl rfl ?_
  refine jr_iload_n 0 dL_law_757 rfl rfl rfl ?_
  refine jr_iconst (v := 3) dL_law_758 rfl rfl ?_
  refine jr_iadd dL_law_759 rfl ?_
  refine jl_rd (q := i + 3) (nI_add i 3) (by omega) hL dL_law_760 rfl ?_
  refine jl_c (as := [.int (xs (i + 1)), .int (xs (i + 2)), .int (xs (i + 3))]) (st := []) (v := .int r) (JF_X5_reading (E := eC l D ci ad t) (fun o h => h) hc) cw_L_86 ivL_X5_reading ⟨rfl, rfl, by decide, by decide⟩ rfl rfl (Nat.le_of_ble_eq_true rfl) dL_law_761 rfl ?_
  refine jr_aload_n 1 dL_law_764 rfl rfl rfl ?_
  refine jr_aload_n 3 dL_law_765 rfl rfl rfl ?_
  refine jr_iload_n 0 dL_law_766 rfl rfl rfl ?_
  refine jr_iconst (v := 1) dL_law_767 rfl rfl ?_
  refine jr_iadd dL_law_768 rfl ?_
  refine jl_rd (q := i + 1) (nI_add i 1) (by omega) hL dL_law_769 rfl ?_
  refine jr_aload_n 3 dL_law_770 rfl rfl rfl ?_
  refine jr_iload_n 0 dL_law_771 rfl rfl rfl ?_
  refine jr_iconst (v := 2) dL_law_772 rfl rfl ?_
  refine jr_iadd dL_law_773 rfl ?_
  refine jl_rd (q := i + 2) (nI_add i 2) (by omega) hL dL_law_774 rfl ?_
  refine jr_aload_n 3 dL_law_775 rfl rfl rfl ?_
  refine jr_iload_n 0 dL_law_776 rfl rfl rfl ?_
  refine jr_iconst (v := 3) dL_law_777 rfl rfl ?_
  refine jr_iadd dL_law_778 rfl ?_
  refine jl_rd (q := i + 3) (nI_add i 3) (by omega) hL dL_law_779 rfl ?_
  refine jl_m (as := [.int (xs (i + 1)), .int (xs (i + 2)), .int (xs (i + 3))]) (st := [.int r]) (v := .int r) (JF_X6_reading (E := eM l D ci ad t) rfl hm) cw_L_89 ivL_X6_reading ⟨rfl, rfl, by decide, by decide⟩ rfl rfl (Nat.le_of_ble_eq_true rfl) dL_law_780 rfl ?_
  exact jr_icmp_eq 1261 dL_law_783 rfl rfl (fun _ => K c1 m1 hI) (fun z => absurd rfl z)
theorem lc_18 {l : Launch} {D : va_G} {ci : ClassId} {ad : Nat → Nat → Nat} {t b Ln : Nat} {xs : Nat → Int32} (hL : Ln < 2 ^ 31) {i : Nat} (hi : i + 6 ≤ Ln) {c0 m0 : jx_M} (h : Inv c0 m0) (K : ∀ c1 m1, Inv c1 m1 → LG l D ci ad t b Ln xs 1261 [(3, .int (nI i)), (2, .ref (ad 8 0)), (1, .ref (ad 0 0)), (0, .ref b)] [] (c1, m1)) : LG l D ci ad t b Ln xs 788 [(3, .int (nI i)), (2, .ref (ad 8 0)), (1, .ref (ad 0 0)), (0, .ref b)] [] (c0, m0) := by
  obtain ⟨r, c1, m1, hc, hm, hI⟩ := st_back (xs (i + 1)) c0 m0 h
  refine jr_aload_n 2 dL_law_788 rfl rfl rfl ?_
  refine jr_aload_n 3 dL_law_789 rfl rfl rfl ?_
  refine jr_iload_n 0 dL_law_790 rfl rfl rfl ?_
  refine jr_iconst (v := 1) dL_law_791 rfl rfl ?_
  refine jr_iadd dL_law_792 rfl ?_
  refine jl_rd (q := i + 1) (nI_add i 1) (by omega) hL dL_law_793 rfl ?_
  refine jl_c (as := [.int (xs (i + 1))]) (st := []) (v := .int r) (JF_X5_back (E := eC l D ci ad t) (fun o h => h) hc) cw_L_90 ivL_X5_back ⟨rfl, rfl, by decide, by decide⟩ rfl rfl (Nat.le_of_ble_eq_true rfl) dL_law_794 rfl ?_
  refine jr_aload_n 1 dL_law_797 rfl rfl rfl ?_
  refine jr_aload_n 3 dL_law_798 rfl rfl rfl ?_
  refine jr_iload_n 0 dL_law_799 rfl rfl rfl ?_
  refine jr_iconst (v := 1) dL_law_800 rfl rfl ?_
  refine jr_iadd dL_law_801 rfl ?_
  refine jl_rd (q := i + 1) (nI_add i 1) (by omega) hL dL_law_802 rfl ?_
  refine jl_m (as := [.int (xs (i + 1))]) (st := [.int r]) (v := .int r) (JF_X6_back (E := eM l D ci ad t) rfl hm) cw_L_93 ivL_X6_back ⟨rfl, rfl, by decide, by decide⟩ rfl rfl (Nat.le_of_ble_eq_true rfl) dL_law_803 rfl ?_
  exact jr_icmp_eq 1261 dL_law_806 rfl rfl (fun _ => K c1 m1 hI) (fun z => absurd rfl z)
theorem lc_19 {l : Launch} {D : va_G} {ci : ClassId} {ad : Nat → Nat → Nat} {t b Ln : Nat} {xs : Nat → Int32} (hL : Ln < 2 ^ 31) {i : Nat} (hi : i + 6 ≤ Ln) {c0 m0 : jx_M} (h : Inv c0 m0) (K : ∀ c1 m1, Inv c1 m1 → LG l D ci ad t b Ln xs 1261 [(3, .int (nI i)), (2, .ref (ad 8 0)), (1, .ref (ad 0 0)), (0, .ref b)] [] (c1, m1)) : LG l D ci ad t b Ln xs 811 [(3, .int (nI i)), (2, .ref (ad 8 0)), (1, .ref (ad 0 0)), (0, .ref b)] [] (c0, m0) := by
  obtain ⟨r, c1, m1, hc, hm, hI⟩ := st_laws c0 m0 h
  refine jr_aload_n 2 dL_law_811 rfl rfl rfl ?_
  refine jl_c (as := []) (st := []) (v := .int r) (JF_X5_laws (E := eC l D ci ad t) (fun o h => h) hc) cw_L_94 ivL_X5_laws ⟨rfl, rfl, by decide, by decide⟩ rfl rfl (Nat.le_of_ble_eq_true rfl) dL_law_812 rfl ?_
  refine jr_aload_n 1 dL_law_815 rfl rfl rfl ?_
  refine jl_m (as := []) (st := [.int r]) (v := .int r) (JF_X6_laws (E := eM l D ci ad t) rfl hm) cw_L_98 ivL_X6_laws ⟨rfl, rfl, by decide, by decide⟩ rfl rfl (Nat.le_of_ble_eq_true rfl) dL_law_816 rfl ?_
  exact jr_icmp_eq 1261 dL_law_819 rfl rfl (fun _ => K c1 m1 hI) (fun z => absurd rfl z)
theorem lc_20 {l : Launch} {D : va_G} {ci : ClassId} {ad : Nat → Nat → Nat} {t b Ln : Nat} {xs : Nat → Int32} (hL : Ln < 2 ^ 31) {i : Nat} (hi : i + 6 ≤ Ln) {c0 m0 : jx_M} (h : Inv c0 m0) (K : ∀ c1 m1, Inv c1 m1 → LG l D ci ad t b Ln xs 1261 [(3, .int (nI i)), (2, .ref (ad 8 0)), (1, .ref (ad 0 0)), (0, .ref b)] [] (c1, m1)) : LG l D ci ad t b Ln xs 824 [(3, .int (nI i)), (2, .ref (ad 8 0)), (1, .ref (ad 0 0)), (0, .ref b)] [] (c0, m0) := by
  obtain ⟨r, c1, m1, hc, hm, hI⟩ := st_stubborn c0 m0 h
  refine jr_aload_n 2 dL_law_824 rfl rfl rfl ?_
  refine jl_c (as := []) (st := []) (v := .int r) (JF_X5_stubborn (E := eC l D ci ad t) (fun o h => h) hc) cw_L_99 ivL_X5_stubborn ⟨rfl, rfl, by decide, by decide⟩ rfl rfl (Nat.le_of_ble_eq_true rfl) dL_law_825 rfl ?_
  refine jr_aload_n 1 dL_law_828 rfl rfl rfl ?_
  refine jl_m (as := []) (st := [.int r]) (v := .int r) (JF_X6_stubborn (E := eM l D ci ad t) rfl hm) cw_L_102 ivL_X6_stubborn ⟨rfl, rfl, by decide, by decide⟩ rfl rfl (Nat.le_of_ble_eq_true rfl) dL_law_829 rfl ?_
  exact jr_icmp_eq 1261 dL_law_832 rfl rfl (fun _ => K c1 m1 hI) (fun z => absurd rfl z)
theorem lc_21 {l : Launch} {D : va_G} {ci : ClassId} {ad : Nat → Nat → Nat} {t b Ln : Nat} {xs : Nat → Int32} (hL : Ln < 2 ^ 31) {i : Nat} (hi : i + 6 ≤ Ln) {c0 m0 : jx_M} (h : Inv c0 m0) (K : ∀ c1 m1, Inv c1 m1 → LG l D ci ad t b Ln xs 1261 [(3, .int (nI i)), (2, .ref (ad 8 0)), (1, .ref (ad 0 0)), (0, .ref b)] [] (c1, m1)) : LG l D ci ad t b Ln xs 837 [(3, .int (nI i)), (2, .ref (ad 8 0)), (1, .ref (ad 0 0)), (0, .ref b)] [] (c0, m0) := by
  obtain ⟨r, c1, m1, hc, hm, hI⟩ := st_named (xs (i + 1)) (xs (i + 2)) c0 m0 h
  refine jr_aload_n 2 dL_law_837 rfl rfl rfl ?_
  refine jr_aload_n 3 dL_law_838 rfl rfl rfl ?_
  refine jr_iload_n 0 dL_law_839 rfl rfl rfl ?_
  refine jr_iconst (v := 1) dL_law_840 rfl rfl ?_
  refine jr_iadd dL_law_841 rfl ?_
  refine jl_rd (q := i + 1) (nI_add i 1) (by omega) hL dL_law_842 rfl ?_
  refine jr_aload_n 3 dL_law_843 rfl rfl rfl ?_
  refine jr_iload_n 0 dL_law_844 rfl rfl rfl ?_
  refine jr_iconst (v := 2) dL_law_845 rfl rfl ?_
  refine jr_iadd dL_law_846 rfl ?_
  refine jl_rd (q := i + 2) (nI_add i 2) (by omega) hL dL_law_847 rfl ?_
  refine jl_c (as := [.int (xs (i + 1)), .int (xs (i + 2))]) (st := []) (v := .int r) (JF_X5_named (E := eC l D ci ad t) (fun o h => h) hc) cw_L_103 ivL_X5_named ⟨rfl, rfl, by decide, by decide⟩ rfl rfl (Nat.le_of_ble_eq_true rfl) dL_law_848 rfl ?_
  refine jr_aload_n 1 dL_law_851 rfl rfl rfl ?_
  refine jr_aload_n 3 dL_law_852 rfl rfl rfl ?_
  refine jr_iload_n 0 dL_law_853 rfl rfl rfl ?_
  refine jr_iconst (v := 1) dL_law_854 rfl rfl ?_
  refine jr_iadd dL_law_855 rfl ?_
  refine jl_rd (q := i + 1) (nI_add i 1) (by omega) hL dL_law_856 rfl ?_
  refine jr_aload_n 3 dL_law_857 rfl rfl rfl ?_
  refine jr_iload_n 0 dL_law_858 rfl rfl rfl ?_
  refine jr_iconst (v := 2) dL_law_859 rfl rfl ?_
  refine jr_iadd dL_law_860 rfl ?_
  refine jl_rd (q := i + 2) (nI_add i 2) (by omega) hL dL_law_861 rfl ?_
  refine jl_m (as := [.int (xs (i + 1)), .int (xs (i + 2))]) (st := [.int r]) (v := .int r) (JF_X6_named (E := eM l D ci ad t) rfl hm) cw_L_106 ivL_X6_named ⟨rfl, rfl, by decide, by decide⟩ rfl rfl (Nat.le_of_ble_eq_true rfl) dL_law_862 rfl ?_
  exact jr_icmp_eq 1261 dL_law_865 rfl rfl (fun _ => K c1 m1 hI) (fun z => absurd rfl z)
theorem lc_22 {l : Launch} {D : va_G} {ci : ClassId} {ad : Nat → Nat → Nat} {t b Ln : Nat} {xs : Nat → Int32} (hL : Ln < 2 ^ 31) {i : Nat} (hi : i + 6 ≤ Ln) {c0 m0 : jx_M} (h : Inv c0 m0) (K : ∀ c1 m1, Inv c1 m1 → LG l D ci ad t b Ln xs 1261 [(3, .int (nI i)), (2, .ref (ad 8 0)), (1, .ref (ad 0 0)), (0, .ref b)] [] (c1, m1)) : LG l D ci ad t b Ln xs 870 [(3, .int (nI i)), (2, .ref (ad 8 0)), (1, .ref (ad 0 0)), (0, .ref b)] [] (c0, m0) := by
  obtain ⟨r, c1, m1, hc, hm, hI⟩ := st_opened c0 m0 h
  refine jr_aload_n 2 dL_law_870 rfl rfl rfl ?_
  refine jl_c (as := []) (st := []) (v := .int r) (JF_X5_opened (E := eC l D ci ad t) (fun o h => h) hc) cw_L_107 ivL_X5_opened ⟨rfl, rfl, by decide, by decide⟩ rfl rfl (Nat.le_of_ble_eq_true rfl) dL_law_871 rfl ?_
  refine jr_aload_n 1 dL_law_874 rfl rfl rfl ?_
  refine jl_m (as := []) (st := [.int r]) (v := .int r) (JF_X6_opened (E := eM l D ci ad t) rfl hm) cw_L_110 ivL_X6_opened ⟨rfl, rfl, by decide, by decide⟩ rfl rfl (Nat.le_of_ble_eq_true rfl) dL_law_875 rfl ?_
  exact jr_icmp_eq 1261 dL_law_878 rfl rfl (fun _ => K c1 m1 hI) (fun z => absurd rfl z)
theorem lc_23 {l : Launch} {D : va_G} {ci : ClassId} {ad : Nat → Nat → Nat} {t b Ln : Nat} {xs : Nat → Int32} (hL : Ln < 2 ^ 31) {i : Nat} (hi : i + 6 ≤ Ln) {c0 m0 : jx_M} (h : Inv c0 m0) (K : ∀ c1 m1, Inv c1 m1 → LG l D ci ad t b Ln xs 1261 [(3, .int (nI i)), (2, .ref (ad 8 0)), (1, .ref (ad 0 0)), (0, .ref b)] [] (c1, m1)) : LG l D ci ad t b Ln xs 883 [(3, .int (nI i)), (2, .ref (ad 8 0)), (1, .ref (ad 0 0)), (0, .ref b)] [] (c0, m0) := by
  obtain ⟨r, c1, m1, hc, hm, hI⟩ := st_odds (xs (i + 1)) (xs (i + 2)) c0 m0 h
  refine jr_aload_n 2 dL_law_883 rfl rfl rfl ?_
  refine jr_aload_n 3 dL_law_884 rfl rfl rfl ?_
  refine jr_iload_n 0 dL_law_885 rfl rfl rfl ?_
  refine jr_iconst (v := 1) dL_law_886 rfl rfl ?_
  refine jr_iadd dL_law_887 rfl ?_
  refine jl_rd (q := i + 1) (nI_add i 1) (by omega) hL dL_law_888 rfl ?_
  refine jr_aload_n 3 dL_law_889 rfl rfl rfl ?_
  refine jr_iload_n 0 dL_law_890 rfl rfl rfl ?_
  refine jr_iconst (v := 2) dL_law_891 rfl rfl ?_
  refine jr_iadd dL_law_892 rfl ?_
  refine jl_rd (q := i + 2) (nI_add i 2) (by omega) hL dL_law_893 rfl ?_
  refine jl_c (as := [.int (xs (i + 1)), .int (xs (i + 2))]) (st := []) (v := .long r) (JF_X5_odds (E := eC l D ci ad t) (fun o h => h) hc) cw_L_111 ivL_X5_odds ⟨rfl, rfl, by decide, by decide⟩ rfl rfl (Nat.le_of_ble_eq_true rfl) dL_law_894 rfl ?_
  refine jr_aload_n 1 dL_law_897 rfl rfl rfl ?_
  refine jr_aload_n 3 dL_law_898 rfl rfl rfl ?_
  refine jr_iload_n 0 dL_law_899 rfl rfl rfl ?_
  refine jr_iconst (v := 1) dL_law_900 rfl rfl ?_
  refine jr_iadd dL_law_901 rfl ?_
  refine jl_rd (q := i + 1) (nI_add i 1) (by omega) hL dL_law_902 rfl ?_
  refine jr_aload_n 3 dL_law_903 rfl rfl rfl ?_
  refine jr_iload_n 0 dL_law_904 rfl rfl rfl ?_
  refine jr_iconst (v := 2) dL_law_905 rfl rfl ?_
  refine jr_iadd dL_law_906 rfl ?_
  refine jl_rd (q := i + 2) (nI_add i 2) (by omega) hL dL_law_907 rfl ?_
  refine jl_m (as := [.int (xs (i + 1)), .int (xs (i + 2))]) (st := [.long r]) (v := .long r) (JF_X6_odds (E := eM l D ci ad t) rfl hm) cw_L_115 ivL_X6_odds ⟨rfl, rfl, by decide, by decide⟩ rfl rfl (Nat.le_of_ble_eq_true rfl) dL_law_908 rfl ?_
  refine jr_lcmp dL_law_911 rfl ?_
  exact jr_if_eq 1261 dL_law_912 rfl rfl (fun _ => K c1 m1 hI) (fun z => absurd (lg_same r) z)
theorem lc_24 {l : Launch} {D : va_G} {ci : ClassId} {ad : Nat → Nat → Nat} {t b Ln : Nat} {xs : Nat → Int32} (hL : Ln < 2 ^ 31) {i : Nat} (hi : i + 6 ≤ Ln) {c0 m0 : jx_M} (h : Inv c0 m0) (K : ∀ c1 m1, Inv c1 m1 → LG l D ci ad t b Ln xs 1261 [(3, .int (nI i)), (2, .ref (ad 8 0)), (1, .ref (ad 0 0)), (0, .ref b)] [] (c1, m1)) : LG l D ci ad t b Ln xs 917 [(3, .int (nI i)), (2, .ref (ad 8 0)), (1, .ref (ad 0 0)), (0, .ref b)] [] (c0, m0) := by
  obtain ⟨r, c1, m1, hc, hm, hI⟩ := st_sheet (xs (i + 1)) (xs (i + 2)) (xs (i + 3)) c0 m0 h
  refine jr_aload_n 2 dL_law_917 rfl rfl rfl ?_
  refine jr_aload_n 3 dL_law_918 rfl rfl rfl ?_
  refine jr_iload_n 0 dL_law_919 rfl rfl rfl ?_
  refine jr_iconst (v := 1) dL_law_920 rfl rfl ?_
  refine jr_iadd dL_law_921 rfl ?_
  refine jl_rd (q := i + 1) (nI_add i 1) (by omega) hL dL_law_922 rfl ?_
  refine jr_aload_n 3 dL_law_923 rfl rfl rfl ?_
  refine jr_iload_n 0 dL_law_924 rfl rfl rfl ?_
  refine jr_iconst (v := 2) dL_law_925 rfl rfl ?_
  refine jr_iadd dL_law_926 rfl ?_
  refine jl_rd (q := i + 2) (nI_add i 2) (by omega) hL dL_law_927 rfl ?_
  refine jr_aload_n 3 dL_law_928 rfl rfl rfl ?_
  refine jr_iload_n 0 dL_law_929 rfl rfl rfl ?_
  refine jr_iconst (v := 3) dL_law_930 rfl rfl ?_
  refine jr_iadd dL_law_931 rfl ?_
  refine jl_rd (q := i + 3) (nI_add i 3) (by omega) hL dL_law_932 rfl ?_
  refine jl_c (as := [.int (xs (i + 1)), .int (xs (i + 2)), .int (xs (i + 3))]) (st := []) (v := .int r) (JF_X5_sheet (E := eC l D ci ad t) (fun o h => h) hc) cw_L_116 ivL_X5_sheet ⟨rfl, rfl, by decide, by decide⟩ rfl rfl (Nat.le_of_ble_eq_true rfl) dL_law_933 rfl ?_
  refine jr_aload_n 1 dL_law_936 rfl rfl rfl ?_
  refine jr_aload_n 3 dL_law_937 rfl rfl rfl ?_
  refine jr_iload_n 0 dL_law_938 rfl rfl rfl ?_
  refine jr_iconst (v := 1) dL_law_939 rfl rfl ?_
  refine jr_iadd dL_law_940 rfl ?_
  refine jl_rd (q := i + 1) (nI_add i 1) (by omega) hL dL_law_941 rfl ?_
  refine jr_aload_n 3 dL_law_942 rfl rfl rfl ?_
  refine jr_iload_n 0 dL_law_943 rfl rfl rfl ?_
  refine jr_iconst (v := 2) dL_law_944 rfl rfl ?_
  refine jr_iadd dL_law_945 rfl ?_
  refine jl_rd (q := i + 2) (nI_add i 2) (by omega) hL dL_law_946 rfl ?_
  refine jr_aload_n 3 dL_law_947 rfl rfl rfl ?_
  refine jr_iload_n 0 dL_law_948 rfl rfl rfl ?_
  refine jr_iconst (v := 3) dL_law_949 rfl rfl ?_
  refine jr_iadd dL_law_950 rfl ?_
  refine jl_rd (q := i + 3) (nI_add i 3) (by omega) hL dL_law_951 rfl ?_
  refine jl_m (as := [.int (xs (i + 1)), .int (xs (i + 2)), .int (xs (i + 3))]) (st := [.int r]) (v := .int r) (JF_X6_sheet (E := eM l D ci ad t) rfl hm) cw_L_119 ivL_X6_sheet ⟨rfl, rfl, by decide, by decide⟩ rfl rfl (Nat.le_of_ble_eq_true rfl) dL_law_952 rfl ?_
  exact jr_icmp_eq 1261 dL_law_955 rfl rfl (fun _ => K c1 m1 hI) (fun z => absurd rfl z)
theorem lc_25 {l : Launch} {D : va_G} {ci : ClassId} {ad : Nat → Nat → Nat} {t b Ln : Nat} {xs : Nat → Int32} (hL : Ln < 2 ^ 31) {i : Nat} (hi : i + 6 ≤ Ln) {c0 m0 : jx_M} (h : Inv c0 m0) (K : ∀ c1 m1, Inv c1 m1 → LG l D ci ad t b Ln xs 1261 [(3, .int (nI i)), (2, .ref (ad 8 0)), (1, .ref (ad 0 0)), (0, .ref b)] [] (c1, m1)) : LG l D ci ad t b Ln xs 960 [(3, .int (nI i)), (2, .ref (ad 8 0)), (1, .ref (ad 0 0)), (0, .ref b)] [] (c0, m0) := by
  obtain ⟨r, c1, m1, hc, hm, hI⟩ := st_lose (xs (i + 1)) c0 m0 h
  refine jr_aload_n 2 dL_law_960 rfl rfl rfl ?_
  refine jr_aload_n 3 dL_law_961 rfl rfl rfl ?_
  refine jr_iload_n 0 dL_law_962 rfl rfl rfl ?_
  refine jr_iconst (v := 1) dL_law_963 rfl rfl ?_
  refine jr_iadd dL_law_964 rfl ?_
  refine jl_rd (q := i + 1) (nI_add i 1) (by omega) hL dL_law_965 rfl ?_
  refine jl_c (as := [.int (xs (i + 1))]) (st := []) (v := .int r) (JF_X5_lose (E := eC l D ci ad t) (fun o h => h) hc) cw_L_120 ivL_X5_lose ⟨rfl, rfl, by decide, by decide⟩ rfl rfl (Nat.le_of_ble_eq_true rfl) dL_law_966 rfl ?_
  refine jr_aload_n 1 dL_law_969 rfl rfl rfl ?_
  refine jr_aload_n 3 dL_law_970 rfl rfl rfl ?_
  refine jr_iload_n 0 dL_law_971 rfl rfl rfl ?_
  refine jr_iconst (v := 1) dL_law_972 rfl rfl ?_
  refine jr_iadd dL_law_973 rfl ?_
  refine jl_rd (q := i + 1) (nI_add i 1) (by omega) hL dL_law_974 rfl ?_
  refine jl_m (as := [.int (xs (i + 1))]) (st := [.int r]) (v := .int r) (JF_X6_lose (E := eM l D ci ad t) rfl hm) cw_L_123 ivL_X6_lose ⟨rfl, rfl, by decide, by decide⟩ rfl rfl (Nat.le_of_ble_eq_true rfl) dL_law_975 rfl ?_
  exact jr_icmp_eq 1261 dL_law_978 rfl rfl (fun _ => K c1 m1 hI) (fun z => absurd rfl z)
theorem lc_26 {l : Launch} {D : va_G} {ci : ClassId} {ad : Nat → Nat → Nat} {t b Ln : Nat} {xs : Nat → Int32} (hL : Ln < 2 ^ 31) {i : Nat} (hi : i + 6 ≤ Ln) {c0 m0 : jx_M} (h : Inv c0 m0) (K : ∀ c1 m1, Inv c1 m1 → LG l D ci ad t b Ln xs 1261 [(3, .int (nI i)), (2, .ref (ad 8 0)), (1, .ref (ad 0 0)), (0, .ref b)] [] (c1, m1)) : LG l D ci ad t b Ln xs 983 [(3, .int (nI i)), (2, .ref (ad 8 0)), (1, .ref (ad 0 0)), (0, .ref b)] [] (c0, m0) := by
  obtain ⟨r, c1, m1, hc, hm, hI⟩ := st_put (xs (i + 1)) (xs (i + 2)) (xs (i + 3)) c0 m0 h
  refine jr_aload_n 2 dL_law_983 rfl rfl rfl ?_
  refine jr_aload_n 3 dL_law_984 rfl rfl rfl ?_
  refine jr_iload_n 0 dL_law_985 rfl rfl rfl ?_
  refine jr_iconst (v := 1) dL_law_986 rfl rfl ?_
  refine jr_iadd dL_law_987 rfl ?_
  refine jl_rd (q := i + 1) (nI_add i 1) (by omega) hL dL_law_988 rfl ?_
  refine jr_aload_n 3 dL_law_989 rfl rfl rfl ?_
  refine jr_iload_n 0 dL_law_990 rfl rfl rfl ?_
  refine jr_iconst (v := 2) dL_law_991 rfl rfl ?_
  refine jr_iadd dL_law_992 rfl ?_
  refine jl_rd (q := i + 2) (nI_add i 2) (by omega) hL dL_law_993 rfl ?_
  refine jr_aload_n 3 dL_law_994 rfl rfl rfl ?_
  refine jr_iload_n 0 dL_law_995 rfl rfl rfl ?_
  refine jr_iconst (v := 3) dL_law_996 rfl rfl ?_
  refine jr_iadd dL_law_997 rfl ?_
  refine jl_rd (q := i + 3) (nI_add i 3) (by omega) hL dL_law_998 rfl ?_
  refine jl_c (as := [.int (xs (i + 1)), .int (xs (i + 2)), .int (xs (i + 3))]) (st := []) (v := .int r) (JF_X5_put (E := eC l D ci ad t) (fun o h => h) hc) cw_L_124 ivL_X5_put ⟨rfl, rfl, by decide, by decide⟩ rfl rfl (Nat.le_of_ble_eq_true rfl) dL_law_999 rfl ?_
  refine jr_aload_n 1 dL_law_1002 rfl rfl rfl ?_
  refine jr_aload_n 3 dL_law_1003 rfl rfl rfl ?_
  refine jr_iload_n 0 dL_law_1004 rfl rfl rfl ?_
  refine jr_iconst (v := 1) dL_law_1005 rfl rfl ?_
  refine jr_iadd dL_law_1006 rfl ?_
  refine jl_rd (q := i + 1) (nI_add i 1) (by omega) hL dL_law_1007 rfl ?_
  refine jr_aload_n 3 dL_law_1008 rfl rfl rfl ?_
  refine jr_iload_n 0 dL_law_1009 rfl rfl rfl ?_
  refine jr_iconst (v := 2) dL_law_1010 rfl rfl ?_
  refine jr_iadd dL_law_1011 rfl ?_
  refine jl_rd (q := i + 2) (nI_add i 2) (by omega) hL dL_law_1012 rfl ?_
  refine jr_aload_n 3 dL_law_1013 rfl rfl rfl ?_
  refine jr_iload_n 0 dL_law_1014 rfl rfl rfl ?_
  refine jr_iconst (v := 3) dL_law_1015 rfl rfl ?_
  refine jr_iadd dL_law_1016 rfl ?_
  refine jl_rd (q := i + 3) (nI_add i 3) (by omega) hL dL_law_1017 rfl ?_
  refine jl_m (as := [.int (xs (i + 1)), .int (xs (i + 2)), .int (xs (i + 3))]) (st := [.int r]) (v := .int r) (JF_X6_put (E := eM l D ci ad t) rfl hm) cw_L_127 ivL_X6_put ⟨rfl, rfl, by decide, by decide⟩ rfl rfl (Nat.le_of_ble_eq_true rfl) dL_law_1018 rfl ?_
  exact jr_icmp_eq 1261 dL_law_1021 rfl rfl (fun _ => K c1 m1 hI) (fun z => absurd rfl z)
theorem lc_27 {l : Launch} {D : va_G} {ci : ClassId} {ad : Nat → Nat → Nat} {t b Ln : Nat} {xs : Nat → Int32} (hL : Ln < 2 ^ 31) {i : Nat} (hi : i + 6 ≤ Ln) {c0 m0 : jx_M} (h : Inv c0 m0) (K : ∀ c1 m1, Inv c1 m1 → LG l D ci ad t b Ln xs 1261 [(3, .int (nI i)), (2, .ref (ad 8 0)), (1, .ref (ad 0 0)), (0, .ref b)] [] (c1, m1)) : LG l D ci ad t b Ln xs 1026 [(3, .int (nI i)), (2, .ref (ad 8 0)), (1, .ref (ad 0 0)), (0, .ref b)] [] (c0, m0) := by
  obtain ⟨r, c1, m1, hc, hm, hI⟩ := st_cell (xs (i + 1)) (xs (i + 2)) (xs (i + 3)) c0 m0 h
  refine jr_aload_n 2 dL_law_1026 rfl rfl rfl ?_
  refine jr_aload_n 3 dL_law_1027 rfl rfl rfl ?_
  refine jr_iload_n 0 dL_law_1028 rfl rfl rfl ?_
  refine jr_iconst (v := 1) dL_law_1029 rfl rfl ?_
  refine jr_iadd dL_law_1030 rfl ?_
  refine jl_rd (q := i + 1) (nI_add i 1) (by omega) hL dL_law_1031 rfl ?_
  refine jr_aload_n 3 dL_law_1032 rfl rfl rfl ?_
  refine jr_iload_n 0 dL_law_1033 rfl rfl rfl ?_
  refine jr_iconst (v := 2) dL_law_1034 rfl rfl ?_
  refine jr_iadd dL_law_1035 rfl ?_
  refine jl_rd (q := i + 2) (nI_add i 2) (by omega) hL dL_law_1036 rfl ?_
  refine jr_aload_n 3 dL_law_1037 rfl rfl rfl ?_
  refine jr_iload_n 0 dL_law_1038 rfl rfl rfl ?_
  refine jr_iconst (v := 3) dL_law_1039 rfl rfl ?_
  refine jr_iadd dL_law_1040 rfl ?_
  refine jl_rd (q := i + 3) (nI_add i 3) (by omega) hL dL_law_1041 rfl ?_
  refine jl_c (as := [.int (xs (i + 1)), .int (xs (i + 2)), .int (xs (i + 3))]) (st := []) (v := .long r) (JF_X5_cell (E := eC l D ci ad t) (fun o h => h) hc) cw_L_128 ivL_X5_cell ⟨rfl, rfl, by decide, by decide⟩ rfl rfl (Nat.le_of_ble_eq_true rfl) dL_law_1042 rfl ?_
  refine jr_aload_n 1 dL_law_1045 rfl rfl rfl ?_
  refine jr_aload_n 3 dL_law_1046 rfl rfl rfl ?_
  refine jr_iload_n 0 dL_law_1047 rfl rfl rfl ?_
  refine jr_iconst (v := 1) dL_law_1048 rfl rfl ?_
  refine jr_iadd dL_law_1049 rfl ?_
  refine jl_rd (q := i + 1) (nI_add i 1) (by omega) hL dL_law_1050 rfl ?_
  refine jr_aload_n 3 dL_law_1051 rfl rfl rfl ?_
  refine jr_iload_n 0 dL_law_1052 rfl rfl rfl ?_
  refine jr_iconst (v := 2) dL_law_1053 rfl rfl ?_
  refine jr_iadd dL_law_1054 rfl ?_
  refine jl_rd (q := i + 2) (nI_add i 2) (by omega) hL dL_law_1055 rfl ?_
  refine jr_aload_n 3 dL_law_1056 rfl rfl rfl ?_
  refine jr_iload_n 0 dL_law_1057 rfl rfl rfl ?_
  refine jr_iconst (v := 3) dL_law_1058 rfl rfl ?_
  refine jr_iadd dL_law_1059 rfl ?_
  refine jl_rd (q := i + 3) (nI_add i 3) (by omega) hL dL_law_1060 rfl ?_
  refine jl_m (as := [.int (xs (i + 1)), .int (xs (i + 2)), .int (xs (i + 3))]) (st := [.long r]) (v := .long r) (JF_X6_cell (E := eM l D ci ad t) rfl hm) cw_L_132 ivL_X6_cell ⟨rfl, rfl, by decide, by decide⟩ rfl rfl (Nat.le_of_ble_eq_true rfl) dL_law_1061 rfl ?_
  refine jr_lcmp dL_law_1064 rfl ?_
  exact jr_if_eq 1261 dL_law_1065 rfl rfl (fun _ => K c1 m1 hI) (fun z => absurd (lg_same r) z)
theorem lc_28 {l : Launch} {D : va_G} {ci : ClassId} {ad : Nat → Nat → Nat} {t b Ln : Nat} {xs : Nat → Int32} (hL : Ln < 2 ^ 31) {i : Nat} (hi : i + 6 ≤ Ln) {c0 m0 : jx_M} (h : Inv c0 m0) (K : ∀ c1 m1, Inv c1 m1 → LG l D ci ad t b Ln xs 1261 [(3, .int (nI i)), (2, .ref (ad 8 0)), (1, .ref (ad 0 0)), (0, .ref b)] [] (c1, m1)) : LG l D ci ad t b Ln xs 1070 [(3, .int (nI i)), (2, .ref (ad 8 0)), (1, .ref (ad 0 0)), (0, .ref b)] [] (c0, m0) := by
  obtain ⟨r, c1, m1, hc, hm, hI⟩ := st_copy (xs (i + 1)) (xs (i + 2)) (xs (i + 3)) (xs (i + 4)) (xs (i + 5)) c0 m0 h
  refine jr_aload_n 2 dL_law_1070 rfl rfl rfl ?_
  refine jr_aload_n 3 dL_law_1071 rfl rfl rfl ?_
  refine jr_iload_n 0 dL_law_1072 rfl rfl rfl ?_
  refine jr_iconst (v := 1) dL_law_1073 rfl rfl ?_
  refine jr_iadd dL_law_1074 rfl ?_
  refine jl_rd (q := i + 1) (nI_add i 1) (by omega) hL dL_law_1075 rfl ?_
  refine jr_aload_n 3 dL_law_1076 rfl rfl rfl ?_
  refine jr_iload_n 0 dL_law_1077 rfl rfl rfl ?_
  refine jr_iconst (v := 2) dL_law_1078 rfl rfl ?_
  refine jr_iadd dL_law_1079 rfl ?_
  refine jl_rd (q := i + 2) (nI_add i 2) (by omega) hL dL_law_1080 rfl ?_
  refine jr_aload_n 3 dL_law_1081 rfl rfl rfl ?_
  refine jr_iload_n 0 dL_law_1082 rfl rfl rfl ?_
  refine jr_iconst (v := 3) dL_law_1083 rfl rfl ?_
  refine jr_iadd dL_law_1084 rfl ?_
  refine jl_rd (q := i + 3) (nI_add i 3) (by omega) hL dL_law_1085 rfl ?_
  refine jr_aload_n 3 dL_law_1086 rfl rfl rfl ?_
  refine jr_iload_n 0 dL_law_1087 rfl rfl rfl ?_
  refine jr_iconst (v := 4) dL_law_1088 rfl rfl ?_
  refine jr_iadd dL_law_1089 rfl ?_
  refine jl_rd (q := i + 4) (nI_add i 4) (by omega) hL dL_law_1090 rfl ?_
  refine jr_aload_n 3 dL_law_1091 rfl rfl rfl ?_
  refine jr_iload_n 0 dL_law_1092 rfl rfl rfl ?_
  refine jr_iconst (v := 5) dL_law_1093 rfl rfl ?_
  refine jr_iadd dL_law_1094 rfl ?_
  refine jl_rd (q := i + 5) (nI_add i 5) (by omega) hL dL_law_1095 rfl ?_
  refine jl_c (as := [.int (xs (i + 1)), .int (xs (i + 2)), .int (xs (i + 3)), .int (xs (i + 4)), .int (xs (i + 5))]) (st := []) (v := .int r) (JF_X5_copy (E := eC l D ci ad t) (fun o h => h) hc) cw_L_133 ivL_X5_copy ⟨rfl, rfl, by decide, by decide⟩ rfl rfl (Nat.le_of_ble_eq_true rfl) dL_law_1096 rfl ?_
  refine jr_aload_n 1 dL_law_1099 rfl rfl rfl ?_
  refine jr_aload_n 3 dL_law_1100 rfl rfl rfl ?_
  refine jr_iload_n 0 dL_law_1101 rfl rfl rfl ?_
  refine jr_iconst (v := 1) dL_law_1102 rfl rfl ?_
  refine jr_iadd dL_law_1103 rfl ?_
  refine jl_rd (q := i + 1) (nI_add i 1) (by omega) hL dL_law_1104 rfl ?_
  refine jr_aload_n 3 dL_law_1105 rfl rfl rfl ?_
  refine jr_iload_n 0 dL_law_1106 rfl rfl rfl ?_
  refine jr_iconst (v := 2) dL_law_1107 rfl rfl ?_
  refine jr_iadd dL_law_1108 rfl ?_
  refine jl_rd (q := i + 2) (nI_add i 2) (by omega) hL dL_law_1109 rfl ?_
  refine jr_aload_n 3 dL_law_1110 rfl rfl rfl ?_
  refine jr_iload_n 0 dL_law_1111 rfl rfl rfl ?_
  refine jr_iconst (v := 3) dL_law_1112 rfl rfl ?_
  refine jr_iadd dL_law_1113 rfl ?_
  refine jl_rd (q := i + 3) (nI_add i 3) (by omega) hL dL_law_1114 rfl ?_
  refine jr_aload_n 3 dL_law_1115 rfl rfl rfl ?_
  refine jr_iload_n 0 dL_law_1116 rfl rfl rfl ?_
  refine jr_iconst (v := 4) dL_law_1117 rfl rfl ?_
  refine jr_iadd dL_law_1118 rfl ?_
  refine jl_rd (q := i + 4) (nI_add i 4) (by omega) hL dL_law_1119 rfl ?_
  refine jr_aload_n 3 dL_law_1120 rfl rfl rfl ?_
  refine jr_iload_n 0 dL_law_1121 rfl rfl rfl ?_
  refine jr_iconst (v := 5) dL_law_1122 rfl rfl ?_
  refine jr_iadd dL_law_1123 rfl ?_
  refine jl_rd (q := i + 5) (nI_add i 5) (by omega) hL dL_law_1124 rfl ?_
  refine jl_m (as := [.int (xs (i + 1)), .int (xs (i + 2)), .int (xs (i + 3)), .int (xs (i + 4)), .int (xs (i + 5))]) (st := [.int r]) (v := .int r) (JF_X6_copy (E := eM l D ci ad t) rfl hm) cw_L_137 ivL_X6_copy ⟨rfl, rfl, by decide, by decide⟩ rfl rfl (Nat.le_of_ble_eq_true rfl) dL_law_1125 rfl ?_
  exact jr_icmp_eq 1261 dL_law_1128 rfl rfl (fun _ => K c1 m1 hI) (fun z => absurd rfl z)
theorem lc_29 {l : Launch} {D : va_G} {ci : ClassId} {ad : Nat → Nat → Nat} {t b Ln : Nat} {xs : Nat → Int32} (hL : Ln < 2 ^ 31) {i : Nat} (hi : i + 6 ≤ Ln) {c0 m0 : jx_M} (h : Inv c0 m0) (K : ∀ c1 m1, Inv c1 m1 → LG l D ci ad t b Ln xs 1261 [(3, .int (nI i)), (2, .ref (ad 8 0)), (1, .ref (ad 0 0)), (0, .ref b)] [] (c1, m1)) : LG l D ci ad t b Ln xs 1133 [(3, .int (nI i)), (2, .ref (ad 8 0)), (1, .ref (ad 0 0)), (0, .ref b)] [] (c0, m0) := by
  obtain ⟨r, c1, m1, hc, hm, hI⟩ := st_tell (xs (i + 1)) c0 m0 h
  refine jr_aload_n 2 dL_law_1133 rfl rfl rfl ?_
  refine jr_aload_n 3 dL_law_1134 rfl rfl rfl ?_
  refine jr_iload_n 0 dL_law_1135 rfl rfl rfl ?_
  refine jr_iconst (v := 1) dL_law_1136 rfl rfl ?_
  refine jr_iadd dL_law_1137 rfl ?_
  refine jl_rd (q := i + 1) (nI_add i 1) (by omega) hL dL_law_1138 rfl ?_
  refine jl_c (as := [.int (xs (i + 1))]) (st := []) (v := .int r) (JF_X5_tell (E := eC l D ci ad t) (fun o h => h) hc) cw_L_138 ivL_X5_tell ⟨rfl, rfl, by decide, by decide⟩ rfl rfl (Nat.le_of_ble_eq_true rfl) dL_law_1139 rfl ?_
  refine jr_aload_n 1 dL_law_1142 rfl rfl rfl ?_
  refine jr_aload_n 3 dL_law_1143 rfl rfl rfl ?_
  refine jr_iload_n 0 dL_law_1144 rfl rfl rfl ?_
  refine jr_iconst (v := 1) dL_law_1145 rfl rfl ?_
  refine jr_iadd dL_law_1146 rfl ?_
  refine jl_rd (q := i + 1) (nI_add i 1) (by omega) hL dL_law_1147 rfl ?_
  refine jl_m (as := [.int (xs (i + 1))]) (st := [.int r]) (v := .int r) (JF_X6_tell (E := eM l D ci ad t) rfl hm) cw_L_141 ivL_X6_tell ⟨rfl, rfl, by decide, by decide⟩ rfl rfl (Nat.le_of_ble_eq_true rfl) dL_law_1148 rfl ?_
  exact jr_icmp_eq 1261 dL_law_1151 rfl rfl (fun _ => K c1 m1 hI) (fun z => absurd rfl z)
theorem lc_30 {l : Launch} {D : va_G} {ci : ClassId} {ad : Nat → Nat → Nat} {t b Ln : Nat} {xs : Nat → Int32} (hL : Ln < 2 ^ 31) {i : Nat} (hi : i + 6 ≤ Ln) {c0 m0 : jx_M} (h : Inv c0 m0) (K : ∀ c1 m1, Inv c1 m1 → LG l D ci ad t b Ln xs 1261 [(3, .int (nI i)), (2, .ref (ad 8 0)), (1, .ref (ad 0 0)), (0, .ref b)] [] (c1, m1)) : LG l D ci ad t b Ln xs 1156 [(3, .int (nI i)), (2, .ref (ad 8 0)), (1, .ref (ad 0 0)), (0, .ref b)] [] (c0, m0) := by
  obtain ⟨r, c1, m1, hc, hm, hI⟩ := st_rouse (xs (i + 1)) c0 m0 h
  refine jr_aload_n 2 dL_law_1156 rfl rfl rfl ?_
  refine jr_aload_n 3 dL_law_1157 rfl rfl rfl ?_
  refine jr_iload_n 0 dL_law_1158 rfl rfl rfl ?_
  refine jr_iconst (v := 1) dL_law_1159 rfl rfl ?_
  refine jr_iadd dL_law_1160 rfl ?_
  refine jl_rd (q := i + 1) (nI_add i 1) (by omega) hL dL_law_1161 rfl ?_
  refine jl_c (as := [.int (xs (i + 1))]) (st := []) (v := .int r) (JF_X5_rouse (E := eC l D ci ad t) (fun o h => h) hc) cw_L_142 ivL_X5_rouse ⟨rfl, rfl, by decide, by decide⟩ rfl rfl (Nat.le_of_ble_eq_true rfl) dL_law_1162 rfl ?_
  refine jr_aload_n 1 dL_law_1165 rfl rfl rfl ?_
  refine jr_aload_n 3 dL_law_1166 rfl rfl rfl ?_
  refine jr_iload_n 0 dL_law_1167 rfl rfl rfl ?_
  refine jr_iconst (v := 1) dL_law_1168 rfl rfl ?_
  refine jr_iadd dL_law_1169 rfl ?_
  refine jl_rd (q := i + 1) (nI_add i 1) (by omega) hL dL_law_1170 rfl ?_
  refine jl_m (as := [.int (xs (i + 1))]) (st := [.int r]) (v := .int r) (JF_X6_rouse (E := eM l D ci ad t) rfl hm) cw_L_145 ivL_X6_rouse ⟨rfl, rfl, by decide, by decide⟩ rfl rfl (Nat.le_of_ble_eq_true rfl) dL_law_1171 rfl ?_
  exact jr_icmp_eq 1261 dL_law_1174 rfl rfl (fun _ => K c1 m1 hI) (fun z => absurd rfl z)
theorem lc_31 {l : Launch} {D : va_G} {ci : ClassId} {ad : Nat → Nat → Nat} {t b Ln : Nat} {xs : Nat → Int32} (hL : Ln < 2 ^ 31) {i : Nat} (hi : i + 6 ≤ Ln) {c0 m0 : jx_M} (h : Inv c0 m0) (K : ∀ c1 m1, Inv c1 m1 → LG l D ci ad t b Ln xs 1261 [(3, .int (nI i)), (2, .ref (ad 8 0)), (1, .ref (ad 0 0)), (0, .ref b)] [] (c1, m1)) : LG l D ci ad t b Ln xs 1179 [(3, .int (nI i)), (2, .ref (ad 8 0)), (1, .ref (ad 0 0)), (0, .ref b)] [] (c0, m0) := by
  obtain ⟨r, c1, m1, hc, hm, hI⟩ := st_as (xs (i + 1)) (xs (i + 2)) c0 m0 h
  refine jr_aload_n 2 dL_law_1179 rfl rfl rfl ?_
  refine jr_aload_n 3 dL_law_1180 rfl rfl rfl ?_
  refine jr_iload_n 0 dL_law_1181 rfl rfl rfl ?_
  refine jr_iconst (v := 1) dL_law_1182 rfl rfl ?_
  refine jr_iadd dL_law_1183 rfl ?_
  refine jl_rd (q := i + 1) (nI_add i 1) (by omega) hL dL_law_1184 rfl ?_
  refine jr_aload_n 3 dL_law_1185 rfl rfl rfl ?_
  refine jr_iload_n 0 dL_law_1186 rfl rfl rfl ?_
  refine jr_iconst (v := 2) dL_law_1187 rfl rfl ?_
  refine jr_iadd dL_law_1188 rfl ?_
  refine jl_rd (q := i + 2) (nI_add i 2) (by omega) hL dL_law_1189 rfl ?_
  refine jl_c (as := [.int (xs (i + 1)), .int (xs (i + 2))]) (st := []) (v := .int r) (JF_X5_as (E := eC l D ci ad t) (fun o h => h) hc) cw_L_146 ivL_X5_as ⟨rfl, rfl, by decide, by decide⟩ rfl rfl (Nat.le_of_ble_eq_true rfl) dL_law_1190 rfl ?_
  refine jr_aload_n 1 dL_law_1193 rfl rfl rfl ?_
  refine jr_aload_n 3 dL_law_1194 rfl rfl rfl ?_
  refine jr_iload_n 0 dL_law_1195 rfl rfl rfl ?_
  refine jr_iconst (v := 1) dL_law_1196 rfl rfl ?_
  refine jr_iadd dL_law_1197 rfl ?_
  refine jl_rd (q := i + 1) (nI_add i 1) (by omega) hL dL_law_1198 rfl ?_
  refine jr_aload_n 3 dL_law_1199 rfl rfl rfl ?_
  refine jr_iload_n 0 dL_law_1200 rfl rfl rfl ?_
  refine jr_iconst (v := 2) dL_law_1201 rfl rfl ?_
  refine jr_iadd dL_law_1202 rfl ?_
  refine jl_rd (q := i + 2) (nI_add i 2) (by omega) hL dL_law_1203 rfl ?_
  refine jl_m (as := [.int (xs (i + 1)), .int (xs (i + 2))]) (st := [.int r]) (v := .int r) (JF_X6_as (E := eM l D ci ad t) rfl hm) cw_L_149 ivL_X6_as ⟨rfl, rfl, by decide, by decide⟩ rfl rfl (Nat.le_of_ble_eq_true rfl) dL_law_1204 rfl ?_
  exact jr_icmp_eq 1261 dL_law_1207 rfl rfl (fun _ => K c1 m1 hI) (fun z => absurd rfl z)
theorem lc_32 {l : Launch} {D : va_G} {ci : ClassId} {ad : Nat → Nat → Nat} {t b Ln : Nat} {xs : Nat → Int32} (hL : Ln < 2 ^ 31) {i : Nat} (hi : i + 6 ≤ Ln) {c0 m0 : jx_M} (h : Inv c0 m0) (K : ∀ c1 m1, Inv c1 m1 → LG l D ci ad t b Ln xs 1261 [(3, .int (nI i)), (2, .ref (ad 8 0)), (1, .ref (ad 0 0)), (0, .ref b)] [] (c1, m1)) : LG l D ci ad t b Ln xs 1212 [(3, .int (nI i)), (2, .ref (ad 8 0)), (1, .ref (ad 0 0)), (0, .ref b)] [] (c0, m0) := by
  obtain ⟨r, c1, m1, hc, hm, hI⟩ := st_trace c0 m0 h
  refine jr_aload_n 2 dL_law_1212 rfl rfl rfl ?_
  refine jl_c (as := []) (st := []) (v := .int r) (JF_X5_trace (E := eC l D ci ad t) (fun o h => h) hc) cw_L_150 ivL_X5_trace ⟨rfl, rfl, by decide, by decide⟩ rfl rfl (Nat.le_of_ble_eq_true rfl) dL_law_1213 rfl ?_
  refine jr_aload_n 1 dL_law_1216 rfl rfl rfl ?_
  refine jl_m (as := []) (st := [.int r]) (v := .int r) (JF_X6_trace (E := eM l D ci ad t) rfl hm) cw_L_153 ivL_X6_trace ⟨rfl, rfl, by decide, by decide⟩ rfl rfl (Nat.le_of_ble_eq_true rfl) dL_law_1217 rfl ?_
  exact jr_icmp_eq 1261 dL_law_1220 rfl rfl (fun _ => K c1 m1 hI) (fun z => absurd rfl z)
theorem lc_33 {l : Launch} {D : va_G} {ci : ClassId} {ad : Nat → Nat → Nat} {t b Ln : Nat} {xs : Nat → Int32} (hL : Ln < 2 ^ 31) {i : Nat} (hi : i + 6 ≤ Ln) {c0 m0 : jx_M} (h : Inv c0 m0) (K : ∀ c1 m1, Inv c1 m1 → LG l D ci ad t b Ln xs 1261 [(3, .int (nI i)), (2, .ref (ad 8 0)), (1, .ref (ad 0 0)), (0, .ref b)] [] (c1, m1)) : LG l D ci ad t b Ln xs 1225 [(3, .int (nI i)), (2, .ref (ad 8 0)), (1, .ref (ad 0 0)), (0, .ref b)] [] (c0, m0) := by
  obtain ⟨r, c1, m1, hc, hm, hI⟩ := st_fault c0 m0 h
  refine jr_aload_n 2 dL_law_1225 rfl rfl rfl ?_
  refine jl_c (as := []) (st := []) (v := .int r) (JF_X5_fault (E := eC l D ci ad t) (fun o h => h) hc) cw_L_154 ivL_X5_fault ⟨rfl, rfl, by decide, by decide⟩ rfl rfl (Nat.le_of_ble_eq_true rfl) dL_law_1226 rfl ?_
  refine jr_aload_n 1 dL_law_1229 rfl rfl rfl ?_
  refine jl_m (as := []) (st := [.int r]) (v := .int r) (JF_X6_fault (E := eM l D ci ad t) rfl hm) cw_L_157 ivL_X6_fault ⟨rfl, rfl, by decide, by decide⟩ rfl rfl (Nat.le_of_ble_eq_true rfl) dL_law_1230 rfl ?_
  exact jr_icmp_eq 1261 dL_law_1233 rfl rfl (fun _ => K c1 m1 hI) (fun z => absurd rfl z)
theorem lc_34 {l : Launch} {D : va_G} {ci : ClassId} {ad : Nat → Nat → Nat} {t b Ln : Nat} {xs : Nat → Int32} (hL : Ln < 2 ^ 31) {i : Nat} (hi : i + 6 ≤ Ln) {c0 m0 : jx_M} (h : Inv c0 m0) (K : ∀ c1 m1, Inv c1 m1 → LG l D ci ad t b Ln xs 1261 [(3, .int (nI i)), (2, .ref (ad 8 0)), (1, .ref (ad 0 0)), (0, .ref b)] [] (c1, m1)) : LG l D ci ad t b Ln xs 1238 [(3, .int (nI i)), (2, .ref (ad 8 0)), (1, .ref (ad 0 0)), (0, .ref b)] [] (c0, m0) := by
  obtain ⟨r, c1, m1, hc, hm, hI⟩ := st_many (xs (i + 1)) c0 m0 h
  refine jr_aload_n 2 dL_law_1238 rfl rfl rfl ?_
  refine jr_aload_n 3 dL_law_1239 rfl rfl rfl ?_
  refine jr_iload_n 0 dL_law_1240 rfl rfl rfl ?_
  refine jr_iconst (v := 1) dL_law_1241 rfl rfl ?_
  refine jr_iadd dL_law_1242 rfl ?_
  refine jl_rd (q := i + 1) (nI_add i 1) (by omega) hL dL_law_1243 rfl ?_
  refine jl_c (as := [.int (xs (i + 1))]) (st := []) (v := .int r) (JF_X5_many (E := eC l D ci ad t) (fun o h => h) hc) cw_L_158 ivL_X5_many ⟨rfl, rfl, by decide, by decide⟩ rfl rfl (Nat.le_of_ble_eq_true rfl) dL_law_1244 rfl ?_
  refine jr_aload_n 1 dL_law_1247 rfl rfl rfl ?_
  refine jr_aload_n 3 dL_law_1248 rfl rfl rfl ?_
  refine jr_iload_n 0 dL_law_1249 rfl rfl rfl ?_
  refine jr_iconst (v := 1) dL_law_1250 rfl rfl ?_
  refine jr_iadd dL_law_1251 rfl ?_
  refine jl_rd (q := i + 1) (nI_add i 1) (by omega) hL dL_law_1252 rfl ?_
  refine jl_m (as := [.int (xs (i + 1))]) (st := [.int r]) (v := .int r) (JF_X6_many (E := eM l D ci ad t) rfl hm) cw_L_161 ivL_X6_many ⟨rfl, rfl, by decide, by decide⟩ rfl rfl (Nat.le_of_ble_eq_true rfl) dL_law_1253 rfl ?_
  exact jr_icmp_eq 1261 dL_law_1256 rfl rfl (fun _ => K c1 m1 hI) (fun z => absurd rfl z)
