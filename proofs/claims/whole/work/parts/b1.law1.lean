/-! one turn of the loop of the law -/
theorem lc_stone {X : XT} {P : Option Value → ST → MT → Prop} {S0 S : ST} {M : MT} {N i : Nat} {xs : Nat → Int} (K : Ok E1 X yL_law cL_law 4 (some .boolean) room_1 P S0) (hX : SX X N xs) (hr : ∀ j, InR (xs j)) (hi : 6 * i + 6 ≤ N) (hN : N ≤ 3072) (h : LI i S M) (hb : Bd i S S0) (k : ∀ S2 M2, LI (i + 1) S2 M2 → Bd (i + 1) S2 S0 → Wp E1 X 949 (LL i) [] S2 M2) : Wp E1 X 164 (LL i) [] S M := by
  have hi5 : i ≤ 511 := by omega
  refine wp_aload_n (n := 165) K dL_law_164 rfl rfl ?_
  refine wp_arg (n := 170) (j := 1) K hX hi hN rfl (by decide) dL_law_165 dL_law_166 dL_law_167 dL_law_168 dL_law_169 rfl ?_
  refine wp_arg (n := 175) (j := 2) K hX hi hN rfl (by decide) dL_law_170 dL_law_171 dL_law_172 dL_law_173 dL_law_174 rfl ?_
  refine wp_arg (n := 180) (j := 3) K hX hi hN rfl (by decide) dL_law_175 dL_law_176 dL_law_177 dL_law_178 dL_law_179 rfl ?_
  refine wp_arg (n := 185) (j := 4) K hX hi hN rfl (by decide) dL_law_180 dL_law_181 dL_law_182 dL_law_183 dL_law_184 rfl ?_
  refine wp_arg (n := 190) (j := 5) K hX hi hN rfl (by decide) dL_law_185 dL_law_186 dL_law_187 dL_law_188 dL_law_189 rfl ?_
  refine wp_invV (n := 193) K dL_law_190 rfl cf_L_13 rfl (liS rfl) rfl (st_stone h _ _ _ _ _ (hr _) (hr _) (hr _) (hr _) (hr _)) rfl rfl (by decide) (hb.one hi5 (by decide)) (Nat.le_of_ble_eq_true rfl) (fun r1 S1 M1 q1 c1 s1 => ?_)
  obtain ⟨x, rfl, ct⟩ := q1
  refine wp_aload_n (n := 194) K dL_law_193 rfl rfl ?_
  refine wp_arg (n := 199) (j := 1) K hX hi hN rfl (by decide) dL_law_194 dL_law_195 dL_law_196 dL_law_197 dL_law_198 rfl ?_
  refine wp_arg (n := 204) (j := 2) K hX hi hN rfl (by decide) dL_law_199 dL_law_200 dL_law_201 dL_law_202 dL_law_203 rfl ?_
  refine wp_arg (n := 209) (j := 3) K hX hi hN rfl (by decide) dL_law_204 dL_law_205 dL_law_206 dL_law_207 dL_law_208 rfl ?_
  refine wp_arg (n := 214) (j := 4) K hX hi hN rfl (by decide) dL_law_209 dL_law_210 dL_law_211 dL_law_212 dL_law_213 rfl ?_
  refine wp_arg (n := 219) (j := 5) K hX hi hN rfl (by decide) dL_law_214 dL_law_215 dL_law_216 dL_law_217 dL_law_218 rfl ?_
  refine wp_invV (n := 222) K dL_law_219 rfl cf_L_17 rfl (liS rfl) rfl ct rfl rfl (by decide) (hb.two (r1 := rm_X11_stone) hi5 (by decide) c1 s1) (Nat.le_of_ble_eq_true rfl) (fun r2 S2 M2 q2 c2 s2 => ?_)
  obtain ⟨rfl, hLI⟩ := q2
  exact wp_icmp_same K dL_law_222 (tgt := 949) (by decide) (k S2 M2 hLI (hb.nx (r1 := rm_X11_stone) (r2 := rm_X12_stone) (by decide) c1 s1 c2 s2))
theorem lc_hour {X : XT} {P : Option Value → ST → MT → Prop} {S0 S : ST} {M : MT} {N i : Nat} {xs : Nat → Int} (K : Ok E1 X yL_law cL_law 4 (some .boolean) room_1 P S0) (hX : SX X N xs) (hr : ∀ j, InR (xs j)) (hi : 6 * i + 6 ≤ N) (hN : N ≤ 3072) (h : LI i S M) (hb : Bd i S S0) (k : ∀ S2 M2, LI (i + 1) S2 M2 → Bd (i + 1) S2 S0 → Wp E1 X 949 (LL i) [] S2 M2) : Wp E1 X 227 (LL i) [] S M := by
  have hi5 : i ≤ 511 := by omega
  refine wp_aload_n (n := 228) K dL_law_227 rfl rfl ?_
  refine wp_arg (n := 233) (j := 1) K hX hi hN rfl (by decide) dL_law_228 dL_law_229 dL_law_230 dL_law_231 dL_law_232 rfl ?_
  refine wp_invV (n := 236) K dL_law_233 rfl cf_L_18 rfl (liS rfl) rfl (st_hour h _ (hr _)) rfl rfl (by decide) (hb.one hi5 (by decide)) (Nat.le_of_ble_eq_true rfl) (fun r1 S1 M1 q1 c1 s1 => ?_)
  obtain ⟨x, rfl, ct⟩ := q1
  refine wp_aload_n (n := 237) K dL_law_236 rfl rfl ?_
  refine wp_arg (n := 242) (j := 1) K hX hi hN rfl (by decide) dL_law_237 dL_law_238 dL_law_239 dL_law_240 dL_law_241 rfl ?_
  refine wp_invV (n := 245) K dL_law_242 rfl cf_L_22 rfl (liS rfl) rfl ct rfl rfl (by decide) (hb.two (r1 := rm_X11_hour) hi5 (by decide) c1 s1) (Nat.le_of_ble_eq_true rfl) (fun r2 S2 M2 q2 c2 s2 => ?_)
  obtain ⟨rfl, hLI⟩ := q2
  exact wp_icmp_same K dL_law_245 (tgt := 949) (by decide) (k S2 M2 hLI (hb.nx (r1 := rm_X11_hour) (r2 := rm_X12_hour) (by decide) c1 s1 c2 s2))
theorem lc_house {X : XT} {P : Option Value → ST → MT → Prop} {S0 S : ST} {M : MT} {N i : Nat} {xs : Nat → Int} (K : Ok E1 X yL_law cL_law 4 (some .boolean) room_1 P S0) (hX : SX X N xs) (hr : ∀ j, InR (xs j)) (hi : 6 * i + 6 ≤ N) (hN : N ≤ 3072) (h : LI i S M) (hb : Bd i S S0) (k : ∀ S2 M2, LI (i + 1) S2 M2 → Bd (i + 1) S2 S0 → Wp E1 X 949 (LL i) [] S2 M2) : Wp E1 X 250 (LL i) [] S M := by
  have hi5 : i ≤ 511 := by omega
  refine wp_aload_n (n := 251) K dL_law_250 rfl rfl ?_
  refine wp_arg (n := 256) (j := 1) K hX hi hN rfl (by decide) dL_law_251 dL_law_252 dL_law_253 dL_law_254 dL_law_255 rfl ?_
  refine wp_invV (n := 259) K dL_law_256 rfl cf_L_23 rfl (liS rfl) rfl (st_house h (by omega) _ (hr _)) rfl rfl (by decide) (hb.one hi5 (by decide)) (Nat.le_of_ble_eq_true rfl) (fun r1 S1 M1 q1 c1 s1 => ?_)
  obtain ⟨x, rfl, ct⟩ := q1
  refine wp_aload_n (n := 260) K dL_law_259 rfl rfl ?_
  refine wp_arg (n := 265) (j := 1) K hX hi hN rfl (by decide) dL_law_260 dL_law_261 dL_law_262 dL_law_263 dL_law_264 rfl ?_
  refine wp_invV (n := 268) K dL_law_265 rfl cf_L_27 rfl (liS rfl) rfl ct rfl rfl (by decide) (hb.two (r1 := rm_X11_house) hi5 (by decide) c1 s1) (Nat.le_of_ble_eq_true rfl) (fun r2 S2 M2 q2 c2 s2 => ?_)
  obtain ⟨rfl, hLI⟩ := q2
  exact wp_icmp_same K dL_law_268 (tgt := 949) (by decide) (k S2 M2 hLI (hb.nx (r1 := rm_X11_house) (r2 := rm_X12_house) (by decide) c1 s1 c2 s2))
theorem lc_touch {X : XT} {P : Option Value → ST → MT → Prop} {S0 S : ST} {M : MT} {N i : Nat} {xs : Nat → Int} (K : Ok E1 X yL_law cL_law 4 (some .boolean) room_1 P S0) (hX : SX X N xs) (hr : ∀ j, InR (xs j)) (hi : 6 * i + 6 ≤ N) (hN : N ≤ 3072) (h : LI i S M) (hb : Bd i S S0) (k : ∀ S2 M2, LI (i + 1) S2 M2 → Bd (i + 1) S2 S0 → Wp E1 X 949 (LL i) [] S2 M2) : Wp E1 X 273 (LL i) [] S M := by
  have hi5 : i ≤ 511 := by omega
  refine wp_aload_n (n := 274) K dL_law_273 rfl rfl ?_
  refine wp_arg (n := 279) (j := 1) K hX hi hN rfl (by decide) dL_law_274 dL_law_275 dL_law_276 dL_law_277 dL_law_278 rfl ?_
  refine wp_arg (n := 284) (j := 2) K hX hi hN rfl (by decide) dL_law_279 dL_law_280 dL_law_281 dL_law_282 dL_law_283 rfl ?_
  refine wp_arg (n := 289) (j := 3) K hX hi hN rfl (by decide) dL_law_284 dL_law_285 dL_law_286 dL_law_287 dL_law_288 rfl ?_
  refine wp_if_eq (n := 292) K dL_law_289 rfl (tgt := 296) (by decide) (hr _) (fun w1 => ?_) (fun w1 => ?_)
  · refine wp_iconst (n := 297) K dL_law_296 rfl ?_
    refine wp_invV (n := 300) K dL_law_297 rfl cf_L_28 rfl (liS rfl) rfl (st_touch h (by omega) _ _ false (hr _) (hr _)) rfl rfl (by decide) (hb.one hi5 (by decide)) (Nat.le_of_ble_eq_true rfl) (fun r1 S1 M1 q1 c1 s1 => ?_)
    obtain ⟨x, rfl, ct⟩ := q1
    refine wp_aload_n (n := 301) K dL_law_300 rfl rfl ?_
    refine wp_arg (n := 306) (j := 1) K hX hi hN rfl (by decide) dL_law_301 dL_law_302 dL_law_303 dL_law_304 dL_law_305 rfl ?_
    refine wp_arg (n := 311) (j := 2) K hX hi hN rfl (by decide) dL_law_306 dL_law_307 dL_law_308 dL_law_309 dL_law_310 rfl ?_
    refine wp_arg (n := 316) (j := 3) K hX hi hN rfl (by decide) dL_law_311 dL_law_312 dL_law_313 dL_law_314 dL_law_315 rfl ?_
    refine wp_if_eq (n := 319) K dL_law_316 rfl (tgt := 323) (by decide) (hr _) (fun w2 => ?_) (fun w2 => ?_)
    · refine wp_iconst (n := 324) K dL_law_323 rfl ?_
      refine wp_invV (n := 327) K dL_law_324 rfl cf_L_32 rfl (liS rfl) rfl ct rfl rfl (by decide) (hb.two (r1 := rm_X11_touch) hi5 (by decide) c1 s1) (Nat.le_of_ble_eq_true rfl) (fun r2 S2 M2 q2 c2 s2 => ?_)
      obtain ⟨rfl, hLI⟩ := q2
      exact wp_icmp_same K dL_law_327 (tgt := 949) (by decide) (k S2 M2 hLI (hb.nx (r1 := rm_X11_touch) (r2 := rm_X12_touch) (by decide) c1 s1 c2 s2))
    · exact absurd w1 w2
  · refine wp_iconst (n := 293) K dL_law_292 rfl ?_
    refine wp_goto K dL_law_293 (tgt := 297) (by decide) ?_
    refine wp_invV (n := 300) K dL_law_297 rfl cf_L_28 rfl (liS rfl) rfl (st_touch h (by omega) _ _ true (hr _) (hr _)) rfl rfl (by decide) (hb.one hi5 (by decide)) (Nat.le_of_ble_eq_true rfl) (fun r1 S1 M1 q1 c1 s1 => ?_)
    obtain ⟨x, rfl, ct⟩ := q1
    refine wp_aload_n (n := 301) K dL_law_300 rfl rfl ?_
    refine wp_arg (n := 306) (j := 1) K hX hi hN rfl (by decide) dL_law_301 dL_law_302 dL_law_303 dL_law_304 dL_law_305 rfl ?_
    refine wp_arg (n := 311) (j := 2) K hX hi hN rfl (by decide) dL_law_306 dL_law_307 dL_law_308 dL_law_309 dL_law_310 rfl ?_
    refine wp_arg (n := 316) (j := 3) K hX hi hN rfl (by decide) dL_law_311 dL_law_312 dL_law_313 dL_law_314 dL_law_315 rfl ?_
    refine wp_if_eq (n := 319) K dL_law_316 rfl (tgt := 323) (by decide) (hr _) (fun w2 => ?_) (fun w2 => ?_)
    · exact absurd w2 w1
    · refine wp_iconst (n := 320) K dL_law_319 rfl ?_
      refine wp_goto K dL_law_320 (tgt := 324) (by decide) ?_
      refine wp_invV (n := 327) K dL_law_324 rfl cf_L_32 rfl (liS rfl) rfl ct rfl rfl (by decide) (hb.two (r1 := rm_X11_touch) hi5 (by decide) c1 s1) (Nat.le_of_ble_eq_true rfl) (fun r2 S2 M2 q2 c2 s2 => ?_)
      obtain ⟨rfl, hLI⟩ := q2
      exact wp_icmp_same K dL_law_327 (tgt := 949) (by decide) (k S2 M2 hLI (hb.nx (r1 := rm_X11_touch) (r2 := rm_X12_touch) (by decide) c1 s1 c2 s2))
theorem lc_feed {X : XT} {P : Option Value → ST → MT → Prop} {S0 S : ST} {M : MT} {N i : Nat} {xs : Nat → Int} (K : Ok E1 X yL_law cL_law 4 (some .boolean) room_1 P S0) (hX : SX X N xs) (hr : ∀ j, InR (xs j)) (hi : 6 * i + 6 ≤ N) (hN : N ≤ 3072) (h : LI i S M) (hb : Bd i S S0) (k : ∀ S2 M2, LI (i + 1) S2 M2 → Bd (i + 1) S2 S0 → Wp E1 X 949 (LL i) [] S2 M2) : Wp E1 X 332 (LL i) [] S M := by
  have hi5 : i ≤ 511 := by omega
  refine wp_aload_n (n := 333) K dL_law_332 rfl rfl ?_
  refine wp_arg (n := 338) (j := 1) K hX hi hN rfl (by decide) dL_law_333 dL_law_334 dL_law_335 dL_law_336 dL_law_337 rfl ?_
  refine wp_arg (n := 343) (j := 2) K hX hi hN rfl (by decide) dL_law_338 dL_law_339 dL_law_340 dL_law_341 dL_law_342 rfl ?_
  refine wp_arg (n := 348) (j := 3) K hX hi hN rfl (by decide) dL_law_343 dL_law_344 dL_law_345 dL_law_346 dL_law_347 rfl ?_
  refine wp_arg (n := 353) (j := 4) K hX hi hN rfl (by decide) dL_law_348 dL_law_349 dL_law_350 dL_law_351 dL_law_352 rfl ?_
  refine wp_arg (n := 358) (j := 5) K hX hi hN rfl (by decide) dL_law_353 dL_law_354 dL_law_355 dL_law_356 dL_law_357 rfl ?_
  refine wp_invV (n := 361) K dL_law_358 rfl cf_L_33 rfl (liS rfl) rfl (st_feed h _ _ _ _ _) rfl rfl (by decide) (hb.one hi5 (by decide)) (Nat.le_of_ble_eq_true rfl) (fun r1 S1 M1 q1 c1 s1 => ?_)
  obtain ⟨x, rfl, ct⟩ := q1
  refine wp_aload_n (n := 362) K dL_law_361 rfl rfl ?_
  refine wp_arg (n := 367) (j := 1) K hX hi hN rfl (by decide) dL_law_362 dL_law_363 dL_law_364 dL_law_365 dL_law_366 rfl ?_
  refine wp_arg (n := 372) (j := 2) K hX hi hN rfl (by decide) dL_law_367 dL_law_368 dL_law_369 dL_law_370 dL_law_371 rfl ?_
  refine wp_arg (n := 377) (j := 3) K hX hi hN rfl (by decide) dL_law_372 dL_law_373 dL_law_374 dL_law_375 dL_law_376 rfl ?_
  refine wp_arg (n := 382) (j := 4) K hX hi hN rfl (by decide) dL_law_377 dL_law_378 dL_law_379 dL_law_380 dL_law_381 rfl ?_
  refine wp_arg (n := 387) (j := 5) K hX hi hN rfl (by decide) dL_law_382 dL_law_383 dL_law_384 dL_law_385 dL_law_386 rfl ?_
  refine wp_invV (n := 390) K dL_law_387 rfl cf_L_36 rfl (liS rfl) rfl ct rfl rfl (by decide) (hb.two (r1 := rm_X11_feed) hi5 (by decide) c1 s1) (Nat.le_of_ble_eq_true rfl) (fun r2 S2 M2 q2 c2 s2 => ?_)
  obtain ⟨rfl, hLI⟩ := q2
  exact wp_icmp_same K dL_law_390 (tgt := 949) (by decide) (k S2 M2 hLI (hb.nx (r1 := rm_X11_feed) (r2 := rm_X12_feed) (by decide) c1 s1 c2 s2))
theorem lc_end {X : XT} {P : Option Value → ST → MT → Prop} {S0 S : ST} {M : MT} {N i : Nat} {xs : Nat → Int} (K : Ok E1 X yL_law cL_law 4 (some .boolean) room_1 P S0) (hX : SX X N xs) (hr : ∀ j, InR (xs j)) (hi : 6 * i + 6 ≤ N) (hN : N ≤ 3072) (h : LI i S M) (hb : Bd i S S0) (k : ∀ S2 M2, LI (i + 1) S2 M2 → Bd (i + 1) S2 S0 → Wp E1 X 949 (LL i) [] S2 M2) : Wp E1 X 395 (LL i) [] S M := by
  have hi5 : i ≤ 511 := by omega
  refine wp_aload_n (n := 396) K dL_law_395 rfl rfl ?_
  refine wp_arg (n := 401) (j := 1) K hX hi hN rfl (by decide) dL_law_396 dL_law_397 dL_law_398 dL_law_399 dL_law_400 rfl ?_
  refine wp_invV (n := 404) K dL_law_401 rfl cf_L_37 rfl (liS rfl) rfl (st_end h _ (hr _)) rfl rfl (by decide) (hb.one hi5 (by decide)) (Nat.le_of_ble_eq_true rfl) (fun r1 S1 M1 q1 c1 s1 => ?_)
  obtain ⟨x, rfl, ct⟩ := q1
  refine wp_aload_n (n := 405) K dL_law_404 rfl rfl ?_
  refine wp_arg (n := 410) (j := 1) K hX hi hN rfl (by decide) dL_law_405 dL_law_406 dL_law_407 dL_law_408 dL_law_409 rfl ?_
  refine wp_invV (n := 413) K dL_law_410 rfl cf_L_40 rfl (liS rfl) rfl ct rfl rfl (by decide) (hb.two (r1 := rm_X11_end) hi5 (by decide) c1 s1) (Nat.le_of_ble_eq_true rfl) (fun r2 S2 M2 q2 c2 s2 => ?_)
  obtain ⟨rfl, hLI⟩ := q2
  exact wp_icmp_same K dL_law_413 (tgt := 949) (by decide) (k S2 M2 hLI (hb.nx (r1 := rm_X11_end) (r2 := rm_X12_end) (by decide) c1 s1 c2 s2))
theorem lc_text {X : XT} {P : Option Value → ST → MT → Prop} {S0 S : ST} {M : MT} {N i : Nat} {xs : Nat → Int} (K : Ok E1 X yL_law cL_law 4 (some .boolean) room_1 P S0) (hX : SX X N xs) (hr : ∀ j, InR (xs j)) (hi : 6 * i + 6 ≤ N) (hN : N ≤ 3072) (h : LI i S M) (hb : Bd i S S0) (k : ∀ S2 M2, LI (i + 1) S2 M2 → Bd (i + 1) S2 S0 → Wp E1 X 949 (LL i) [] S2 M2) : Wp E1 X 418 (LL i) [] S M := by
  have hi5 : i ≤ 511 := by omega
  refine wp_aload_n (n := 419) K dL_law_418 rfl rfl ?_
  refine wp_invV (n := 422) K dL_law_419 rfl cf_L_41 rfl (liS rfl) rfl (st_text h) rfl rfl (by decide) (hb.one hi5 (by decide)) (Nat.le_of_ble_eq_true rfl) (fun r1 S1 M1 q1 c1 s1 => ?_)
  obtain ⟨x, rfl, ct⟩ := q1
  refine wp_aload_n (n := 423) K dL_law_422 rfl rfl ?_
  refine wp_invV (n := 426) K dL_law_423 rfl cf_L_45 rfl (liS rfl) rfl ct rfl rfl (by decide) (hb.two (r1 := rm_X11_text) hi5 (by decide) c1 s1) (Nat.le_of_ble_eq_true rfl) (fun r2 S2 M2 q2 c2 s2 => ?_)
  obtain ⟨rfl, hLI⟩ := q2
  exact wp_icmp_same K dL_law_426 (tgt := 949) (by decide) (k S2 M2 hLI (hb.nx (r1 := rm_X11_text) (r2 := rm_X12_text) (by decide) c1 s1 c2 s2))
theorem lc_fault {X : XT} {P : Option Value → ST → MT → Prop} {S0 S : ST} {M : MT} {N i : Nat} {xs : Nat → Int} (K : Ok E1 X yL_law cL_law 4 (some .boolean) room_1 P S0) (hX : SX X N xs) (hr : ∀ j, InR (xs j)) (hi : 6 * i + 6 ≤ N) (hN : N ≤ 3072) (h : LI i S M) (hb : Bd i S S0) (k : ∀ S2 M2, LI (i + 1) S2 M2 → Bd (i + 1) S2 S0 → Wp E1 X 949 (LL i) [] S2 M2) : Wp E1 X 431 (LL i) [] S M := by
  have hi5 : i ≤ 511 := by omega
  refine wp_aload_n (n := 432) K dL_law_431 rfl rfl ?_
  refine wp_arg (n := 437) (j := 1) K hX hi hN rfl (by decide) dL_law_432 dL_law_433 dL_law_434 dL_law_435 dL_law_436 rfl ?_
  refine wp_invV (n := 440) K dL_law_437 rfl cf_L_46 rfl (liS rfl) rfl (st_fault h _ (hr _)) rfl rfl (by decide) (hb.one hi5 (by decide)) (Nat.le_of_ble_eq_true rfl) (fun r1 S1 M1 q1 c1 s1 => ?_)
  obtain ⟨x, rfl, ct⟩ := q1
  refine wp_aload_n (n := 441) K dL_law_440 rfl rfl ?_
  refine wp_arg (n := 446) (j := 1) K hX hi hN rfl (by decide) dL_law_441 dL_law_442 dL_law_443 dL_law_444 dL_law_445 rfl ?_
  refine wp_invV (n := 449) K dL_law_446 rfl cf_L_49 rfl (liS rfl) rfl ct rfl rfl (by decide) (hb.two (r1 := rm_X11_fault) hi5 (by decide) c1 s1) (Nat.le_of_ble_eq_true rfl) (fun r2 S2 M2 q2 c2 s2 => ?_)
  obtain ⟨rfl, hLI⟩ := q2
  exact wp_icmp_same K dL_law_449 (tgt := 949) (by decide) (k S2 M2 hLI (hb.nx (r1 := rm_X11_fault) (r2 := rm_X12_fault) (by decide) c1 s1 c2 s2))
theorem lc_by {X : XT} {P : Option Value → ST → MT → Prop} {S0 S : ST} {M : MT} {N i : Nat} {xs : Nat → Int} (K : Ok E1 X yL_law cL_law 4 (some .boolean) room_1 P S0) (hX : SX X N xs) (hr : ∀ j, InR (xs j)) (hi : 6 * i + 6 ≤ N) (hN : N ≤ 3072) (h : LI i S M) (hb : Bd i S S0) (k : ∀ S2 M2, LI (i + 1) S2 M2 → Bd (i + 1) S2 S0 → Wp E1 X 949 (LL i) [] S2 M2) : Wp E1 X 454 (LL i) [] S M := by
  have hi5 : i ≤ 511 := by omega
  refine wp_aload_n (n := 455) K dL_law_454 rfl rfl ?_
  refine wp_arg (n := 460) (j := 1) K hX hi hN rfl (by decide) dL_law_455 dL_law_456 dL_law_457 dL_law_458 dL_law_459 rfl ?_
  refine wp_invV (n := 463) K dL_law_460 rfl cf_L_50 rfl (liS rfl) rfl (st_by h _ (hr _)) rfl rfl (by decide) (hb.one hi5 (by decide)) (Nat.le_of_ble_eq_true rfl) (fun r1 S1 M1 q1 c1 s1 => ?_)
  obtain ⟨x, rfl, ct⟩ := q1
  refine wp_aload_n (n := 464) K dL_law_463 rfl rfl ?_
  refine wp_arg (n := 469) (j := 1) K hX hi hN rfl (by decide) dL_law_464 dL_law_465 dL_law_466 dL_law_467 dL_law_468 rfl ?_
  refine wp_invV (n := 472) K dL_law_469 rfl cf_L_53 rfl (liS rfl) rfl ct rfl rfl (by decide) (hb.two (r1 := rm_X11_by) hi5 (by decide) c1 s1) (Nat.le_of_ble_eq_true rfl) (fun r2 S2 M2 q2 c2 s2 => ?_)
  obtain ⟨rfl, hLI⟩ := q2
  exact wp_icmp_same K dL_law_472 (tgt := 949) (by decide) (k S2 M2 hLI (hb.nx (r1 := rm_X11_by) (r2 := rm_X12_by) (by decide) c1 s1 c2 s2))
theorem lc_of {X : XT} {P : Option Value → ST → MT → Prop} {S0 S : ST} {M : MT} {N i : Nat} {xs : Nat → Int} (K : Ok E1 X yL_law cL_law 4 (some .boolean) room_1 P S0) (hX : SX X N xs) (hr : ∀ j, InR (xs j)) (hi : 6 * i + 6 ≤ N) (hN : N ≤ 3072) (h : LI i S M) (hb : Bd i S S0) (k : ∀ S2 M2, LI (i + 1) S2 M2 → Bd (i + 1) S2 S0 → Wp E1 X 949 (LL i) [] S2 M2) : Wp E1 X 477 (LL i) [] S M := by
  have hi5 : i ≤ 511 := by omega
  refine wp_aload_n (n := 478) K dL_law_477 rfl rfl ?_
  refine wp_arg (n := 483) (j := 1) K hX hi hN rfl (by decide) dL_law_478 dL_law_479 dL_law_480 dL_law_481 dL_law_482 rfl ?_
  refine wp_arg (n := 488) (j := 2) K hX hi hN rfl (by decide) dL_law_483 dL_law_484 dL_law_485 dL_law_486 dL_law_487 rfl ?_
  refine wp_invV (n := 491) K dL_law_488 rfl cf_L_54 rfl (liS rfl) rfl (st_of h _ _ (hr _) (hr _)) rfl rfl (by decide) (hb.one hi5 (by decide)) (Nat.le_of_ble_eq_true rfl) (fun r1 S1 M1 q1 c1 s1 => ?_)
  obtain ⟨x, rfl, ct⟩ := q1
  refine wp_aload_n (n := 492) K dL_law_491 rfl rfl ?_
  refine wp_arg (n := 497) (j := 1) K hX hi hN rfl (by decide) dL_law_492 dL_law_493 dL_law_494 dL_law_495 dL_law_496 rfl ?_
  refine wp_arg (n := 502) (j := 2) K hX hi hN rfl (by decide) dL_law_497 dL_law_498 dL_law_499 dL_law_500 dL_law_501 rfl ?_
  refine wp_invV (n := 505) K dL_law_502 rfl cf_L_58 rfl (liS rfl) rfl ct rfl rfl (by decide) (hb.two (r1 := rm_X11_of) hi5 (by decide) c1 s1) (Nat.le_of_ble_eq_true rfl) (fun r2 S2 M2 q2 c2 s2 => ?_)
  obtain ⟨rfl, hLI⟩ := q2
  exact wp_icmp_same K dL_law_505 (tgt := 949) (by decide) (k S2 M2 hLI (hb.nx (r1 := rm_X11_of) (r2 := rm_X12_of) (by decide) c1 s1 c2 s2))
theorem lc_stands {X : XT} {P : Option Value → ST → MT → Prop} {S0 S : ST} {M : MT} {N i : Nat} {xs : Nat → Int} (K : Ok E1 X yL_law cL_law 4 (some .boolean) room_1 P S0) (hX : SX X N xs) (hr : ∀ j, InR (xs j)) (hi : 6 * i + 6 ≤ N) (hN : N ≤ 3072) (h : LI i S M) (hb : Bd i S S0) (k : ∀ S2 M2, LI (i + 1) S2 M2 → Bd (i + 1) S2 S0 → Wp E1 X 949 (LL i) [] S2 M2) : Wp E1 X 510 (LL i) [] S M := by
  have hi5 : i ≤ 511 := by omega
  refine wp_aload_n (n := 511) K dL_law_510 rfl rfl ?_
  refine wp_arg (n := 516) (j := 1) K hX hi hN rfl (by decide) dL_law_511 dL_law_512 dL_law_513 dL_law_514 dL_law_515 rfl ?_
  refine wp_invV (n := 519) K dL_law_516 rfl cf_L_59 rfl (liS rfl) rfl (st_stands h _ (hr _)) rfl rfl (by decide) (hb.one hi5 (by decide)) (Nat.le_of_ble_eq_true rfl) (fun r1 S1 M1 q1 c1 s1 => ?_)
  obtain ⟨x, rfl, ct⟩ := q1
  refine wp_aload_n (n := 520) K dL_law_519 rfl rfl ?_
  refine wp_arg (n := 525) (j := 1) K hX hi hN rfl (by decide) dL_law_520 dL_law_521 dL_law_522 dL_law_523 dL_law_524 rfl ?_
  refine wp_invV (n := 528) K dL_law_525 rfl cf_L_62 rfl (liS rfl) rfl ct rfl rfl (by decide) (hb.two (r1 := rm_X11_stands) hi5 (by decide) c1 s1) (Nat.le_of_ble_eq_true rfl) (fun r2 S2 M2 q2 c2 s2 => ?_)
  obtain ⟨rfl, hLI⟩ := q2
  exact wp_icmp_same K dL_law_528 (tgt := 949) (by decide) (k S2 M2 hLI (hb.nx (r1 := rm_X11_stands) (r2 := rm_X12_stands) (by decide) c1 s1 c2 s2))
theorem lc_lay {X : XT} {P : Option Value → ST → MT → Prop} {S0 S : ST} {M : MT} {N i : Nat} {xs : Nat → Int} (K : Ok E1 X yL_law cL_law 4 (some .boolean) room_1 P S0) (hX : SX X N xs) (hr : ∀ j, InR (xs j)) (hi : 6 * i + 6 ≤ N) (hN : N ≤ 3072) (h : LI i S M) (hb : Bd i S S0) (k : ∀ S2 M2, LI (i + 1) S2 M2 → Bd (i + 1) S2 S0 → Wp E1 X 949 (LL i) [] S2 M2) : Wp E1 X 533 (LL i) [] S M := by
  have hi5 : i ≤ 511 := by omega
  refine wp_aload_n (n := 534) K dL_law_533 rfl rfl ?_
  refine wp_arg (n := 539) (j := 1) K hX hi hN rfl (by decide) dL_law_534 dL_law_535 dL_law_536 dL_law_537 dL_law_538 rfl ?_
  refine wp_invV (n := 542) K dL_law_539 rfl cf_L_63 rfl (liS rfl) rfl (st_lay h _ (hr _)) rfl rfl (by decide) (hb.one hi5 (by decide)) (Nat.le_of_ble_eq_true rfl) (fun r1 S1 M1 q1 c1 s1 => ?_)
  obtain ⟨x, rfl, ct⟩ := q1
  refine wp_aload_n (n := 543) K dL_law_542 rfl rfl ?_
  refine wp_arg (n := 548) (j := 1) K hX hi hN rfl (by decide) dL_law_543 dL_law_544 dL_law_545 dL_law_546 dL_law_547 rfl ?_
  refine wp_invV (n := 551) K dL_law_548 rfl cf_L_66 rfl (liS rfl) rfl ct rfl rfl (by decide) (hb.two (r1 := rm_X11_lay) hi5 (by decide) c1 s1) (Nat.le_of_ble_eq_true rfl) (fun r2 S2 M2 q2 c2 s2 => ?_)
  obtain ⟨rfl, hLI⟩ := q2
  exact wp_icmp_same K dL_law_551 (tgt := 949) (by decide) (k S2 M2 hLI (hb.nx (r1 := rm_X11_lay) (r2 := rm_X12_lay) (by decide) c1 s1 c2 s2))
theorem lc_out {X : XT} {P : Option Value → ST → MT → Prop} {S0 S : ST} {M : MT} {N i : Nat} {xs : Nat → Int} (K : Ok E1 X yL_law cL_law 4 (some .boolean) room_1 P S0) (hX : SX X N xs) (hr : ∀ j, InR (xs j)) (hi : 6 * i + 6 ≤ N) (hN : N ≤ 3072) (h : LI i S M) (hb : Bd i S S0) (k : ∀ S2 M2, LI (i + 1) S2 M2 → Bd (i + 1) S2 S0 → Wp E1 X 949 (LL i) [] S2 M2) : Wp E1 X 556 (LL i) [] S M := by
  have hi5 : i ≤ 511 := by omega
  refine wp_aload_n (n := 557) K dL_law_556 rfl rfl ?_
  refine wp_arg (n := 562) (j := 1) K hX hi hN rfl (by decide) dL_law_557 dL_law_558 dL_law_559 dL_law_560 dL_law_561 rfl ?_
  refine wp_invV (n := 565) K dL_law_562 rfl cf_L_67 rfl (liS rfl) rfl (st_out h _ (hr _)) rfl rfl (by decide) (hb.one hi5 (by decide)) (Nat.le_of_ble_eq_true rfl) (fun r1 S1 M1 q1 c1 s1 => ?_)
  obtain ⟨x, rfl, ct⟩ := q1
  refine wp_aload_n (n := 566) K dL_law_565 rfl rfl ?_
  refine wp_arg (n := 571) (j := 1) K hX hi hN rfl (by decide) dL_law_566 dL_law_567 dL_law_568 dL_law_569 dL_law_570 rfl ?_
  refine wp_invV (n := 574) K dL_law_571 rfl cf_L_70 rfl (liS rfl) rfl ct rfl rfl (by decide) (hb.two (r1 := rm_X11_out) hi5 (by decide) c1 s1) (Nat.le_of_ble_eq_true rfl) (fun r2 S2 M2 q2 c2 s2 => ?_)
  obtain ⟨rfl, hLI⟩ := q2
  exact wp_icmp_same K dL_law_574 (tgt := 949) (by decide) (k S2 M2 hLI (hb.nx (r1 := rm_X11_out) (r2 := rm_X12_out) (by decide) c1 s1 c2 s2))
theorem lc_lend {X : XT} {P : Option Value → ST → MT → Prop} {S0 S : ST} {M : MT} {N i : Nat} {xs : Nat → Int} (K : Ok E1 X yL_law cL_law 4 (some .boolean) room_1 P S0) (hX : SX X N xs) (hr : ∀ j, InR (xs j)) (hi : 6 * i + 6 ≤ N) (hN : N ≤ 3072) (h : LI i S M) (hb : Bd i S S0) (k : ∀ S2 M2, LI (i + 1) S2 M2 → Bd (i + 1) S2 S0 → Wp E1 X 949 (LL i) [] S2 M2) : Wp E1 X 579 (LL i) [] S M := by
  have hi5 : i ≤ 511 := by omega
  refine wp_aload_n (n := 580) K dL_law_579 rfl rfl ?_
  refine wp_arg (n := 585) (j := 1) K hX hi hN rfl (by decide) dL_law_580 dL_law_581 dL_law_582 dL_law_583 dL_law_584 rfl ?_
  refine wp_arg (n := 590) (j := 2) K hX hi hN rfl (by decide) dL_law_585 dL_law_586 dL_law_587 dL_law_588 dL_law_589 rfl ?_
  refine wp_invV (n := 593) K dL_law_590 rfl cf_L_71 rfl (liS rfl) rfl (st_lend h (by omega) _ _ (hr _) (hr _)) rfl rfl (by decide) (hb.one hi5 (by decide)) (Nat.le_of_ble_eq_true rfl) (fun r1 S1 M1 q1 c1 s1 => ?_)
  obtain ⟨x, rfl, ct⟩ := q1
  refine wp_aload_n (n := 594) K dL_law_593 rfl rfl ?_
  refine wp_arg (n := 599) (j := 1) K hX hi hN rfl (by decide) dL_law_594 dL_law_595 dL_law_596 dL_law_597 dL_law_598 rfl ?_
  refine wp_arg (n := 604) (j := 2) K hX hi hN rfl (by decide) dL_law_599 dL_law_600 dL_law_601 dL_law_602 dL_law_603 rfl ?_
  refine wp_invV (n := 607) K dL_law_604 rfl cf_L_74 rfl (liS rfl) rfl ct rfl rfl (by decide) (hb.two (r1 := rm_X11_lend) hi5 (by decide) c1 s1) (Nat.le_of_ble_eq_true rfl) (fun r2 S2 M2 q2 c2 s2 => ?_)
  obtain ⟨rfl, hLI⟩ := q2
  exact wp_icmp_same K dL_law_607 (tgt := 949) (by decide) (k S2 M2 hLI (hb.nx (r1 := rm_X11_lend) (r2 := rm_X12_lend) (by decide) c1 s1 c2 s2))
theorem lc_played {X : XT} {P : Option Value → ST → MT → Prop} {S0 S : ST} {M : MT} {N i : Nat} {xs : Nat → Int} (K : Ok E1 X yL_law cL_law 4 (some .boolean) room_1 P S0) (hX : SX X N xs) (hr : ∀ j, InR (xs j)) (hi : 6 * i + 6 ≤ N) (hN : N ≤ 3072) (h : LI i S M) (hb : Bd i S S0) (k : ∀ S2 M2, LI (i + 1) S2 M2 → Bd (i + 1) S2 S0 → Wp E1 X 949 (LL i) [] S2 M2) : Wp E1 X 612 (LL i) [] S M := by
  have hi5 : i ≤ 511 := by omega
  refine wp_aload_n (n := 613) K dL_law_612 rfl rfl ?_
  refine wp_arg (n := 618) (j := 1) K hX hi hN rfl (by decide) dL_law_613 dL_law_614 dL_law_615 dL_law_616 dL_law_617 rfl ?_
  refine wp_invV (n := 621) K dL_law_618 rfl cf_L_75 rfl (liS rfl) rfl (st_played h (by omega) _ (hr _)) rfl rfl (by decide) (hb.one hi5 (by decide)) (Nat.le_of_ble_eq_true rfl) (fun r1 S1 M1 q1 c1 s1 => ?_)
  obtain ⟨x, rfl, ct⟩ := q1
  refine wp_aload_n (n := 622) K dL_law_621 rfl rfl ?_
  refine wp_arg (n := 627) (j := 1) K hX hi hN rfl (by decide) dL_law_622 dL_law_623 dL_law_624 dL_law_625 dL_law_626 rfl ?_
  refine wp_invV (n := 630) K dL_law_627 rfl cf_L_78 rfl (liS rfl) rfl ct rfl rfl (by decide) (hb.two (r1 := rm_X11_played) hi5 (by decide) c1 s1) (Nat.le_of_ble_eq_true rfl) (fun r2 S2 M2 q2 c2 s2 => ?_)
  obtain ⟨rfl, hLI⟩ := q2
  exact wp_icmp_same K dL_law_630 (tgt := 949) (by decide) (k S2 M2 hLI (hb.nx (r1 := rm_X11_played) (r2 := rm_X12_played) (by decide) c1 s1 c2 s2))
