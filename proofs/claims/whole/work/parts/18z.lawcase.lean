/-! the law's cases -/
theorem ups_eq9 {σ : Sg} {a k : Nat} {z : Int} : upS σ a k z a k = z := if_pos ⟨rfl, rfl⟩
set_option maxRecDepth 20000 in
theorem lc_0 {p : Program} {l : Launch} {e : Env} {R : Room} {s : State} {m : MethodId} {args : Array Value} {below : List Frame} {meth : Method} {c : Code} {K : KT} {A : Nat → Prop} {nL cl sl : Nat} {hh : Prop} {Q : State → Prop} {r : Option FieldType} {σ : Sg} {n : Nat} {xs : Nat → Int32} {P : Sg → Prop} {i : Int} (W : LwC p l R s m args meth c K A nL r hh n xs P) (hi : 0 ≤ i ∧ i + 5 < (n : Int)) (hcl : cl + 1 ≤ R.cells) (hsl : sl + 6 ≤ R.slots) (hj : JnP P MX10_feed MX11_feed [iV (sv xs (i + 1)), iV (sv xs (i + 2)), iV (sv xs (i + 3)), iV (sv xs (i + 4)), iV (sv xs (i + 5))] σ) (h : ∀ σ2, P σ2 → XM p l e R s m args below meth c K A nL (cl + 1) (sl + 6) Q 3786 (LL i uV uV uV) [] σ2) : XM p l e R s m args below meth c K A nL cl sl Q 264 (LL i uV uV uV) [] σ := by
  obtain ⟨hfr, hlo, hn⟩ := (⟨W.2.2.2.2.2.2.2.1, W.2.2.2.2.2.2.2.2.1, W.2.2.2.2.2.2.2.2.2.1⟩ : 61 ≤ R.frames ∧ 1940 ≤ R.locals ∧ n < 2147483648)
  have hC := clo_L (Q := Q) (R := R) (e := e) (below := below) (cl := cl) (sl := sl) (d := 40) W.1 W.2.1 (by omega) (by omega) (by omega) (by omega)
  refine st_aload_n hC dL_law_264 rfl (by decide) (by decide) ?_
  refine sc_rd (j := 1) W hC ⟨by omega, by omega⟩ rfl dL_law_265 dL_law_266 dL_law_268 dL_law_269 dL_law_270 ?_
  refine sc_rd (j := 2) W hC ⟨by omega, by omega⟩ rfl dL_law_271 dL_law_272 dL_law_274 dL_law_275 dL_law_276 ?_
  refine sc_rd (j := 3) W hC ⟨by omega, by omega⟩ rfl dL_law_277 dL_law_278 dL_law_280 dL_law_281 dL_law_282 ?_
  refine sc_rd (j := 4) W hC ⟨by omega, by omega⟩ rfl dL_law_283 dL_law_284 dL_law_286 dL_law_287 dL_law_288 ?_
  refine sc_rd (j := 5) W hC ⟨by omega, by omega⟩ rfl dL_law_289 dL_law_290 dL_law_292 dL_law_293 dL_law_294 ?_
  obtain ⟨v, σ1, g1, σ2, g2, g3⟩ := hj
  refine xs_callG (d := 40) (t := 19) (a := 0) (As := [iV (sv xs (i + 1)), iV (sv xs (i + 2)), iV (sv xs (i + 3)), iV (sv xs (i + 4)), iV (sv xs (i + 5))]) (S := []) (τ := σ) W.1 W.2.1 dL_law_295 (show look (CLt 12) 171 = some (MX10_feed, false, 5) from rfl) rfl (by decide) (by omega) (by omega) (by show cl + 0 ≤ _; omega) (by show sl + 0 ≤ _; omega) ⟨9, by decide, rfl, by decide +kernel⟩ (n9 rfl) (fun vs hvs => by cases hvs; exact n9 rfl) (fun _ _ => rfl) (fun z => z) g1 (fun vs hvs hO1 => ?_) (fun E hE => by cases hE)
  cases hvs
  refine st_aload_n hC dL_law_298 rfl (by decide) (by decide) ?_
  refine sc_rd (j := 1) W hC ⟨by omega, by omega⟩ rfl dL_law_299 dL_law_300 dL_law_302 dL_law_303 dL_law_304 ?_
  refine sc_rd (j := 2) W hC ⟨by omega, by omega⟩ rfl dL_law_305 dL_law_306 dL_law_308 dL_law_309 dL_law_310 ?_
  refine sc_rd (j := 3) W hC ⟨by omega, by omega⟩ rfl dL_law_311 dL_law_312 dL_law_314 dL_law_315 dL_law_316 ?_
  refine sc_rd (j := 4) W hC ⟨by omega, by omega⟩ rfl dL_law_317 dL_law_318 dL_law_320 dL_law_321 dL_law_322 ?_
  refine sc_rd (j := 5) W hC ⟨by omega, by omega⟩ rfl dL_law_323 dL_law_324 dL_law_326 dL_law_327 dL_law_328 ?_
  refine xs_callG (d := 40) (t := 20) (a := 66) (As := [iV (sv xs (i + 1)), iV (sv xs (i + 2)), iV (sv xs (i + 3)), iV (sv xs (i + 4)), iV (sv xs (i + 5))]) (S := [iV v]) (τ := σ1) W.1 W.2.1 dL_law_329 (show look (CLt 12) 175 = some (MX11_feed, false, 5) from rfl) rfl (Nat.le_of_ble_eq_true rfl) (by omega) (by omega) (by show cl + 0 ≤ _; omega) (by show sl + 0 ≤ _; omega) ⟨10, by decide, rfl, by decide +kernel⟩ (n9 rfl) (fun vs hvs => by cases hvs; exact n9 rfl) (fun a ha => (ag_o a ha).symm) (fun _ => hO1) g2 (fun vs hvs hO2 => ?_) (fun E hE => by cases hE)
  cases hvs
  refine st_icmp_eq (tg := 3786) hC dL_law_332 rfl ?_
  rw [if_pos rfl]
  exact XM_wid (Nat.le_add_right _ _) (Nat.le_add_right _ _) (h _ (W.2.2.2.2.2.2.2.2.2.2.2 _ _ ag_o g3))
set_option maxRecDepth 20000 in
theorem lc_1 {p : Program} {l : Launch} {e : Env} {R : Room} {s : State} {m : MethodId} {args : Array Value} {below : List Frame} {meth : Method} {c : Code} {K : KT} {A : Nat → Prop} {nL cl sl : Nat} {hh : Prop} {Q : State → Prop} {r : Option FieldType} {σ : Sg} {n : Nat} {xs : Nat → Int32} {P : Sg → Prop} {i : Int} (W : LwC p l R s m args meth c K A nL r hh n xs P) (hi : 0 ≤ i ∧ i + 5 < (n : Int)) (hcl : cl + 1 ≤ R.cells) (hsl : sl + 6 ≤ R.slots) (hj : JtP P MX10_town MX11_town [iV (sv xs (i + 1))] (fun v => iV v) cdI σ) (h : ∀ σ2, P σ2 → XM p l e R s m args below meth c K A nL (cl + 1) (sl + 6) Q 3786 (LL i uV uV uV) [] σ2) : XM p l e R s m args below meth c K A nL cl sl Q 337 (LL i uV uV uV) [] σ := by
  obtain ⟨hfr, hlo, hn⟩ := (⟨W.2.2.2.2.2.2.2.1, W.2.2.2.2.2.2.2.2.1, W.2.2.2.2.2.2.2.2.2.1⟩ : 61 ≤ R.frames ∧ 1940 ≤ R.locals ∧ n < 2147483648)
  have hC := clo_L (Q := Q) (R := R) (e := e) (below := below) (cl := cl) (sl := sl) (d := 40) W.1 W.2.1 (by omega) (by omega) (by omega) (by omega)
  refine st_aload_n hC dL_law_337 rfl (by decide) (by decide) ?_
  refine sc_rd (j := 1) W hC ⟨by omega, by omega⟩ rfl dL_law_338 dL_law_339 dL_law_341 dL_law_342 dL_law_343 ?_
  refine st_aload_n hC dL_law_344 rfl (by decide) (by decide) ?_
  have tail : ∀ (k : Int) (τ σ2 : Sg) (v : Int) , Ct 40 MX11_town (rV 20 66 :: [iV (sv xs (i + 1))]) τ (.inl [iV v]) σ2 → σ2 66 5 = k → (k = 0 → τ 88 0 = v) → P σ2 → XM p l e R s m args below meth c K A nL (cl + 1) (sl + 6) Q 348 (LL i uV uV uV) [iV k] τ := by
    intro k τ σ2 v g3 g4 gv g5
    have hC1 := clo_L (Q := Q) (R := R) (e := e) (below := below) (cl := cl + 1) (sl := sl + 6) (d := 40) W.1 W.2.1 (by omega) (by omega) (by omega) (by omega)
    refine st_istore hC1 dL_law_348 (Nat.le_of_ble_eq_true rfl) (L2 := LL i (iV k) uV uV) rfl ?_
    refine st_aload_n hC1 dL_law_350 rfl (by decide) (by decide) ?_
    refine sc_rd (j := 1) W hC1 ⟨by omega, by omega⟩ rfl dL_law_351 dL_law_352 dL_law_354 dL_law_355 dL_law_356 ?_
    refine st_invV (t := 20) (a := 66) (ci := 10) (As := [iV (sv xs (i + 1))]) (S := []) (y := MX11_town) hC1 dL_law_357 (show look (CLt 12) 181 = some (MX11_town, false, 1) from rfl) rfl rfl (by decide) ⟨by decide, rfl, by decide +kernel⟩ (ctn g3 rfl rfl) ?_
    refine st_istore hC1 dL_law_360 (Nat.le_of_ble_eq_true rfl) (L2 := LL i (iV k) (iV v) uV) rfl ?_
    refine seg_C (t1 := 373) W (by omega) (by omega) (show o80 τ σ2 66 5 = k by rw [o80_ne (by decide)]; exact g4) dL_law_362 dL_law_363 dL_law_366 dL_law_368 rfl ?_
    have fin : XM p l e R s m args below meth c K A nL (cl + 1) (sl + 6) Q 390 (LL i (iV k) (iV v) uV) [] (o80 τ σ2) := by
      refine st_goto (tg := 3786) hC1 dL_law_390 rfl ?_
      exact st_fg hC1 wk_L (h _ (W.2.2.2.2.2.2.2.2.2.2.2 _ _ ag_o g5))
    refine seg_D (t1 := 390) W (by omega) (by omega) dL_law_373 dL_law_375 rfl dL_law_378 dL_law_379 dL_law_380 (fun hk => ?_) fin
    refine st_iload hC1 dL_law_381 rfl ?_
    refine st_i2l hC1 dL_law_383 ?_
    refine st_lcmp_eq (tg := 390) hC1 dL_law_384 dL_law_385 rfl ?_
    rw [if_pos (show o80 τ σ2 88 0 = v by rw [o80_80]; exact gv hk)]
    exact fin
  rcases hj with ⟨v, σ1, g1, g2⟩ | ⟨E, σ1, hE, g1, g2⟩
  · refine xs_callW (As := [rV 19 0, iV (sv xs (i + 1)), rV 35 88]) (S := []) W.1 W.2.1 dL_law_345 (csw_L 3 W.2.2.2.2.2.2.1 gW_town ⟨by decide, by decide, rfl⟩ ⟨hfr, by omega⟩) W.2.2.2.2.2.1 rfl (by decide) hcl hsl (w_town g1) ?_
    obtain ⟨σ2, g3, g4, g5⟩ := g2 _ (ag_up (σ := σ))
    exact tail 0 _ σ2 v g3 g4 (fun _ => ups_eq9) g5
  · refine xs_callW (As := [rV 19 0, iV (sv xs (i + 1)), rV 35 88]) (S := []) W.1 W.2.1 dL_law_345 (csw_L 3 W.2.2.2.2.2.2.1 gW_town ⟨by decide, by decide, rfl⟩ ⟨hfr, by omega⟩) W.2.2.2.2.2.1 rfl (by decide) hcl hsl (w_town_x hE g1) ?_
    obtain ⟨v, σ2, g3, g4, g5⟩ := g2 _ (ag_o (σ := σ))
    exact tail (cdI E) _ σ2 v g3 g4 (fun z => absurd z hE) g5
set_option maxRecDepth 20000 in
theorem lc_2 {p : Program} {l : Launch} {e : Env} {R : Room} {s : State} {m : MethodId} {args : Array Value} {below : List Frame} {meth : Method} {c : Code} {K : KT} {A : Nat → Prop} {nL cl sl : Nat} {hh : Prop} {Q : State → Prop} {r : Option FieldType} {σ : Sg} {n : Nat} {xs : Nat → Int32} {P : Sg → Prop} {i : Int} (W : LwC p l R s m args meth c K A nL r hh n xs P) (hi : 0 ≤ i ∧ i + 5 < (n : Int)) (hcl : cl + 1 ≤ R.cells) (hsl : sl + 6 ≤ R.slots) (hj : JnP P MX10_fault MX11_fault [iV (sv xs (i + 1))] σ) (h : ∀ σ2, P σ2 → XM p l e R s m args below meth c K A nL (cl + 1) (sl + 6) Q 3786 (LL i uV uV uV) [] σ2) : XM p l e R s m args below meth c K A nL cl sl Q 393 (LL i uV uV uV) [] σ := by
  obtain ⟨hfr, hlo, hn⟩ := (⟨W.2.2.2.2.2.2.2.1, W.2.2.2.2.2.2.2.2.1, W.2.2.2.2.2.2.2.2.2.1⟩ : 61 ≤ R.frames ∧ 1940 ≤ R.locals ∧ n < 2147483648)
  have hC := clo_L (Q := Q) (R := R) (e := e) (below := below) (cl := cl) (sl := sl) (d := 40) W.1 W.2.1 (by omega) (by omega) (by omega) (by omega)
  refine st_aload_n hC dL_law_393 rfl (by decide) (by decide) ?_
  refine sc_rd (j := 1) W hC ⟨by omega, by omega⟩ rfl dL_law_394 dL_law_395 dL_law_397 dL_law_398 dL_law_399 ?_
  obtain ⟨v, σ1, g1, σ2, g2, g3⟩ := hj
  refine xs_callG (d := 40) (t := 19) (a := 0) (As := [iV (sv xs (i + 1))]) (S := []) (τ := σ) W.1 W.2.1 dL_law_400 (show look (CLt 12) 186 = some (MX10_fault, false, 1) from rfl) rfl (by decide) (by omega) (by omega) (by show cl + 0 ≤ _; omega) (by show sl + 0 ≤ _; omega) ⟨9, by decide, rfl, by decide +kernel⟩ (n9 rfl) (fun vs hvs => by cases hvs; exact n9 rfl) (fun _ _ => rfl) (fun z => z) g1 (fun vs hvs hO1 => ?_) (fun E hE => by cases hE)
  cases hvs
  refine st_aload_n hC dL_law_403 rfl (by decide) (by decide) ?_
  refine sc_rd (j := 1) W hC ⟨by omega, by omega⟩ rfl dL_law_404 dL_law_405 dL_law_407 dL_law_408 dL_law_409 ?_
  refine xs_callG (d := 40) (t := 20) (a := 66) (As := [iV (sv xs (i + 1))]) (S := [iV v]) (τ := σ1) W.1 W.2.1 dL_law_410 (show look (CLt 12) 189 = some (MX11_fault, false, 1) from rfl) rfl (Nat.le_of_ble_eq_true rfl) (by omega) (by omega) (by show cl + 0 ≤ _; omega) (by show sl + 0 ≤ _; omega) ⟨10, by decide, rfl, by decide +kernel⟩ (n9 rfl) (fun vs hvs => by cases hvs; exact n9 rfl) (fun a ha => (ag_o a ha).symm) (fun _ => hO1) g2 (fun vs hvs hO2 => ?_) (fun E hE => by cases hE)
  cases hvs
  refine st_icmp_eq (tg := 3786) hC dL_law_413 rfl ?_
  rw [if_pos rfl]
  exact XM_wid (Nat.le_add_right _ _) (Nat.le_add_right _ _) (h _ (W.2.2.2.2.2.2.2.2.2.2.2 _ _ ag_o g3))
set_option maxRecDepth 20000 in
theorem lc_3 {p : Program} {l : Launch} {e : Env} {R : Room} {s : State} {m : MethodId} {args : Array Value} {below : List Frame} {meth : Method} {c : Code} {K : KT} {A : Nat → Prop} {nL cl sl : Nat} {hh : Prop} {Q : State → Prop} {r : Option FieldType} {σ : Sg} {n : Nat} {xs : Nat → Int32} {P : Sg → Prop} {i : Int} (W : LwC p l R s m args meth c K A nL r hh n xs P) (hi : 0 ≤ i ∧ i + 5 < (n : Int)) (hcl : cl + 1 ≤ R.cells) (hsl : sl + 6 ≤ R.slots) (hj : JtP P MX10_coin MX11_coin [iV (sv xs (i + 1))] (fun v => iV v) cdN σ) (h : ∀ σ2, P σ2 → XM p l e R s m args below meth c K A nL (cl + 1) (sl + 6) Q 3786 (LL i uV uV uV) [] σ2) : XM p l e R s m args below meth c K A nL cl sl Q 418 (LL i uV uV uV) [] σ := by
  obtain ⟨hfr, hlo, hn⟩ := (⟨W.2.2.2.2.2.2.2.1, W.2.2.2.2.2.2.2.2.1, W.2.2.2.2.2.2.2.2.2.1⟩ : 61 ≤ R.frames ∧ 1940 ≤ R.locals ∧ n < 2147483648)
  have hC := clo_L (Q := Q) (R := R) (e := e) (below := below) (cl := cl) (sl := sl) (d := 40) W.1 W.2.1 (by omega) (by omega) (by omega) (by omega)
  refine st_aload_n hC dL_law_418 rfl (by decide) (by decide) ?_
  refine sc_rd (j := 1) W hC ⟨by omega, by omega⟩ rfl dL_law_419 dL_law_420 dL_law_422 dL_law_423 dL_law_424 ?_
  refine st_aload_n hC dL_law_425 rfl (by decide) (by decide) ?_
  have tail : ∀ (k : Int) (τ σ2 : Sg) (v : Int) , Ct 40 MX11_coin (rV 20 66 :: [iV (sv xs (i + 1))]) τ (.inl [iV v]) σ2 → σ2 66 5 = k → (k = 0 → τ 88 0 = v) → P σ2 → XM p l e R s m args below meth c K A nL (cl + 1) (sl + 6) Q 429 (LL i uV uV uV) [iV k] τ := by
    intro k τ σ2 v g3 g4 gv g5
    have hC1 := clo_L (Q := Q) (R := R) (e := e) (below := below) (cl := cl + 1) (sl := sl + 6) (d := 40) W.1 W.2.1 (by omega) (by omega) (by omega) (by omega)
    refine st_istore hC1 dL_law_429 (Nat.le_of_ble_eq_true rfl) (L2 := LL i (iV k) uV uV) rfl ?_
    refine st_aload_n hC1 dL_law_431 rfl (by decide) (by decide) ?_
    refine sc_rd (j := 1) W hC1 ⟨by omega, by omega⟩ rfl dL_law_432 dL_law_433 dL_law_435 dL_law_436 dL_law_437 ?_
    refine st_invV (t := 20) (a := 66) (ci := 10) (As := [iV (sv xs (i + 1))]) (S := []) (y := MX11_coin) hC1 dL_law_438 (show look (CLt 12) 192 = some (MX11_coin, false, 1) from rfl) rfl rfl (by decide) ⟨by decide, rfl, by decide +kernel⟩ (ctn g3 rfl rfl) ?_
    refine st_istore hC1 dL_law_441 (Nat.le_of_ble_eq_true rfl) (L2 := LL i (iV k) (iV v) uV) rfl ?_
    refine seg_C (t1 := 454) W (by omega) (by omega) (show o80 τ σ2 66 5 = k by rw [o80_ne (by decide)]; exact g4) dL_law_443 dL_law_444 dL_law_447 dL_law_449 rfl ?_
    have fin : XM p l e R s m args below meth c K A nL (cl + 1) (sl + 6) Q 471 (LL i (iV k) (iV v) uV) [] (o80 τ σ2) := by
      refine st_goto (tg := 3786) hC1 dL_law_471 rfl ?_
      exact st_fg hC1 wk_L (h _ (W.2.2.2.2.2.2.2.2.2.2.2 _ _ ag_o g5))
    refine seg_D (t1 := 471) W (by omega) (by omega) dL_law_454 dL_law_456 rfl dL_law_459 dL_law_460 dL_law_461 (fun hk => ?_) fin
    refine st_iload hC1 dL_law_462 rfl ?_
    refine st_i2l hC1 dL_law_464 ?_
    refine st_lcmp_eq (tg := 471) hC1 dL_law_465 dL_law_466 rfl ?_
    rw [if_pos (show o80 τ σ2 88 0 = v by rw [o80_80]; exact gv hk)]
    exact fin
  rcases hj with ⟨v, σ1, g1, g2⟩ | ⟨E, σ1, hE, g1, g2⟩
  · refine xs_callW (As := [rV 19 0, iV (sv xs (i + 1)), rV 35 88]) (S := []) W.1 W.2.1 dL_law_426 (csw_L 3 W.2.2.2.2.2.2.1 gW_coin ⟨by decide, by decide, rfl⟩ ⟨hfr, by omega⟩) W.2.2.2.2.2.1 rfl (by decide) hcl hsl (w_coin g1) ?_
    obtain ⟨σ2, g3, g4, g5⟩ := g2 _ (ag_up (σ := σ))
    exact tail 0 _ σ2 v g3 g4 (fun _ => ups_eq9) g5
  · refine xs_callW (As := [rV 19 0, iV (sv xs (i + 1)), rV 35 88]) (S := []) W.1 W.2.1 dL_law_426 (csw_L 3 W.2.2.2.2.2.2.1 gW_coin ⟨by decide, by decide, rfl⟩ ⟨hfr, by omega⟩) W.2.2.2.2.2.1 rfl (by decide) hcl hsl (w_coin_x hE g1) ?_
    obtain ⟨v, σ2, g3, g4, g5⟩ := g2 _ (ag_o (σ := σ))
    exact tail (cdN E) _ σ2 v g3 g4 (fun z => absurd z hE) g5
set_option maxRecDepth 20000 in
theorem lc_4 {p : Program} {l : Launch} {e : Env} {R : Room} {s : State} {m : MethodId} {args : Array Value} {below : List Frame} {meth : Method} {c : Code} {K : KT} {A : Nat → Prop} {nL cl sl : Nat} {hh : Prop} {Q : State → Prop} {r : Option FieldType} {σ : Sg} {n : Nat} {xs : Nat → Int32} {P : Sg → Prop} {i : Int} (W : LwC p l R s m args meth c K A nL r hh n xs P) (hi : 0 ≤ i ∧ i + 5 < (n : Int)) (hcl : cl + 1 ≤ R.cells) (hsl : sl + 6 ≤ R.slots) (hj : JtP P MX10_has MX11_has [iV (sv xs (i + 1)), iV (sv xs (i + 2))] (fun v => iV v) cdN σ) (h : ∀ σ2, P σ2 → XM p l e R s m args below meth c K A nL (cl + 1) (sl + 6) Q 3786 (LL i uV uV uV) [] σ2) : XM p l e R s m args below meth c K A nL cl sl Q 474 (LL i uV uV uV) [] σ := by
  obtain ⟨hfr, hlo, hn⟩ := (⟨W.2.2.2.2.2.2.2.1, W.2.2.2.2.2.2.2.2.1, W.2.2.2.2.2.2.2.2.2.1⟩ : 61 ≤ R.frames ∧ 1940 ≤ R.locals ∧ n < 2147483648)
  have hC := clo_L (Q := Q) (R := R) (e := e) (below := below) (cl := cl) (sl := sl) (d := 40) W.1 W.2.1 (by omega) (by omega) (by omega) (by omega)
  refine st_aload_n hC dL_law_474 rfl (by decide) (by decide) ?_
  refine sc_rd (j := 1) W hC ⟨by omega, by omega⟩ rfl dL_law_475 dL_law_476 dL_law_478 dL_law_479 dL_law_480 ?_
  refine sc_rd (j := 2) W hC ⟨by omega, by omega⟩ rfl dL_law_481 dL_law_482 dL_law_484 dL_law_485 dL_law_486 ?_
  refine st_aload_n hC dL_law_487 rfl (by decide) (by decide) ?_
  have tail : ∀ (k : Int) (τ σ2 : Sg) (v : Int) , Ct 40 MX11_has (rV 20 66 :: [iV (sv xs (i + 1)), iV (sv xs (i + 2))]) τ (.inl [iV v]) σ2 → σ2 66 5 = k → (k = 0 → τ 88 0 = v) → P σ2 → XM p l e R s m args below meth c K A nL (cl + 1) (sl + 6) Q 491 (LL i uV uV uV) [iV k] τ := by
    intro k τ σ2 v g3 g4 gv g5
    have hC1 := clo_L (Q := Q) (R := R) (e := e) (below := below) (cl := cl + 1) (sl := sl + 6) (d := 40) W.1 W.2.1 (by omega) (by omega) (by omega) (by omega)
    refine st_istore hC1 dL_law_491 (Nat.le_of_ble_eq_true rfl) (L2 := LL i (iV k) uV uV) rfl ?_
    refine st_aload_n hC1 dL_law_493 rfl (by decide) (by decide) ?_
    refine sc_rd (j := 1) W hC1 ⟨by omega, by omega⟩ rfl dL_law_494 dL_law_495 dL_law_497 dL_law_498 dL_law_499 ?_
    refine sc_rd (j := 2) W hC1 ⟨by omega, by omega⟩ rfl dL_law_500 dL_law_501 dL_law_503 dL_law_504 dL_law_505 ?_
    refine st_invV (t := 20) (a := 66) (ci := 10) (As := [iV (sv xs (i + 1)), iV (sv xs (i + 2))]) (S := []) (y := MX11_has) hC1 dL_law_506 (show look (CLt 12) 196 = some (MX11_has, false, 2) from rfl) rfl rfl (by decide) ⟨by decide, rfl, by decide +kernel⟩ (ctn g3 rfl rfl) ?_
    refine st_istore hC1 dL_law_509 (Nat.le_of_ble_eq_true rfl) (L2 := LL i (iV k) (iV v) uV) rfl ?_
    refine seg_C (t1 := 522) W (by omega) (by omega) (show o80 τ σ2 66 5 = k by rw [o80_ne (by decide)]; exact g4) dL_law_511 dL_law_512 dL_law_515 dL_law_517 rfl ?_
    have fin : XM p l e R s m args below meth c K A nL (cl + 1) (sl + 6) Q 539 (LL i (iV k) (iV v) uV) [] (o80 τ σ2) := by
      refine st_goto (tg := 3786) hC1 dL_law_539 rfl ?_
      exact st_fg hC1 wk_L (h _ (W.2.2.2.2.2.2.2.2.2.2.2 _ _ ag_o g5))
    refine seg_D (t1 := 539) W (by omega) (by omega) dL_law_522 dL_law_524 rfl dL_law_527 dL_law_528 dL_law_529 (fun hk => ?_) fin
    refine st_iload hC1 dL_law_530 rfl ?_
    refine st_i2l hC1 dL_law_532 ?_
    refine st_lcmp_eq (tg := 539) hC1 dL_law_533 dL_law_534 rfl ?_
    rw [if_pos (show o80 τ σ2 88 0 = v by rw [o80_80]; exact gv hk)]
    exact fin
  rcases hj with ⟨v, σ1, g1, g2⟩ | ⟨E, σ1, hE, g1, g2⟩
  · refine xs_callW (As := [rV 19 0, iV (sv xs (i + 1)), iV (sv xs (i + 2)), rV 35 88]) (S := []) W.1 W.2.1 dL_law_488 (csw_L 4 W.2.2.2.2.2.2.1 gW_has ⟨by decide, by decide, rfl⟩ ⟨hfr, by omega⟩) W.2.2.2.2.2.1 rfl (by decide) hcl hsl (w_has g1) ?_
    obtain ⟨σ2, g3, g4, g5⟩ := g2 _ (ag_up (σ := σ))
    exact tail 0 _ σ2 v g3 g4 (fun _ => ups_eq9) g5
  · refine xs_callW (As := [rV 19 0, iV (sv xs (i + 1)), iV (sv xs (i + 2)), rV 35 88]) (S := []) W.1 W.2.1 dL_law_488 (csw_L 4 W.2.2.2.2.2.2.1 gW_has ⟨by decide, by decide, rfl⟩ ⟨hfr, by omega⟩) W.2.2.2.2.2.1 rfl (by decide) hcl hsl (w_has_x hE g1) ?_
    obtain ⟨v, σ2, g3, g4, g5⟩ := g2 _ (ag_o (σ := σ))
    exact tail (cdN E) _ σ2 v g3 g4 (fun z => absurd z hE) g5
set_option maxRecDepth 20000 in
theorem lc_5 {p : Program} {l : Launch} {e : Env} {R : Room} {s : State} {m : MethodId} {args : Array Value} {below : List Frame} {meth : Method} {c : Code} {K : KT} {A : Nat → Prop} {nL cl sl : Nat} {hh : Prop} {Q : State → Prop} {r : Option FieldType} {σ : Sg} {n : Nat} {xs : Nat → Int32} {P : Sg → Prop} {i : Int} (W : LwC p l R s m args meth c K A nL r hh n xs P) (hi : 0 ≤ i ∧ i + 5 < (n : Int)) (hcl : cl + 1 ≤ R.cells) (hsl : sl + 6 ≤ R.slots) (hj : JtP P MX10_purse MX11_purse [iV (sv xs (i + 1)), iV (sv xs (i + 2))] (fun v => iV v) cdNI σ) (h : ∀ σ2, P σ2 → XM p l e R s m args below meth c K A nL (cl + 1) (sl + 6) Q 3786 (LL i uV uV uV) [] σ2) : XM p l e R s m args below meth c K A nL cl sl Q 542 (LL i uV uV uV) [] σ := by
  obtain ⟨hfr, hlo, hn⟩ := (⟨W.2.2.2.2.2.2.2.1, W.2.2.2.2.2.2.2.2.1, W.2.2.2.2.2.2.2.2.2.1⟩ : 61 ≤ R.frames ∧ 1940 ≤ R.locals ∧ n < 2147483648)
  have hC := clo_L (Q := Q) (R := R) (e := e) (below := below) (cl := cl) (sl := sl) (d := 40) W.1 W.2.1 (by omega) (by omega) (by omega) (by omega)
  refine st_aload_n hC dL_law_542 rfl (by decide) (by decide) ?_
  refine sc_rd (j := 1) W hC ⟨by omega, by omega⟩ rfl dL_law_543 dL_law_544 dL_law_546 dL_law_547 dL_law_548 ?_
  refine sc_rd (j := 2) W hC ⟨by omega, by omega⟩ rfl dL_law_549 dL_law_550 dL_law_552 dL_law_553 dL_law_554 ?_
  refine st_aload_n hC dL_law_555 rfl (by decide) (by decide) ?_
  have tail : ∀ (k : Int) (τ σ2 : Sg) (v : Int) , Ct 40 MX11_purse (rV 20 66 :: [iV (sv xs (i + 1)), iV (sv xs (i + 2))]) τ (.inl [iV v]) σ2 → σ2 66 5 = k → (k = 0 → τ 88 0 = v) → P σ2 → XM p l e R s m args below meth c K A nL (cl + 1) (sl + 6) Q 559 (LL i uV uV uV) [iV k] τ := by
    intro k τ σ2 v g3 g4 gv g5
    have hC1 := clo_L (Q := Q) (R := R) (e := e) (below := below) (cl := cl + 1) (sl := sl + 6) (d := 40) W.1 W.2.1 (by omega) (by omega) (by omega) (by omega)
    refine st_istore hC1 dL_law_559 (Nat.le_of_ble_eq_true rfl) (L2 := LL i (iV k) uV uV) rfl ?_
    refine st_aload_n hC1 dL_law_561 rfl (by decide) (by decide) ?_
    refine sc_rd (j := 1) W hC1 ⟨by omega, by omega⟩ rfl dL_law_562 dL_law_563 dL_law_565 dL_law_566 dL_law_567 ?_
    refine sc_rd (j := 2) W hC1 ⟨by omega, by omega⟩ rfl dL_law_568 dL_law_569 dL_law_571 dL_law_572 dL_law_573 ?_
    refine st_invV (t := 20) (a := 66) (ci := 10) (As := [iV (sv xs (i + 1)), iV (sv xs (i + 2))]) (S := []) (y := MX11_purse) hC1 dL_law_574 (show look (CLt 12) 199 = some (MX11_purse, false, 2) from rfl) rfl rfl (by decide) ⟨by decide, rfl, by decide +kernel⟩ (ctn g3 rfl rfl) ?_
    refine st_istore hC1 dL_law_577 (Nat.le_of_ble_eq_true rfl) (L2 := LL i (iV k) (iV v) uV) rfl ?_
    refine seg_C (t1 := 590) W (by omega) (by omega) (show o80 τ σ2 66 5 = k by rw [o80_ne (by decide)]; exact g4) dL_law_579 dL_law_580 dL_law_583 dL_law_585 rfl ?_
    have fin : XM p l e R s m args below meth c K A nL (cl + 1) (sl + 6) Q 607 (LL i (iV k) (iV v) uV) [] (o80 τ σ2) := by
      refine st_goto (tg := 3786) hC1 dL_law_607 rfl ?_
      exact st_fg hC1 wk_L (h _ (W.2.2.2.2.2.2.2.2.2.2.2 _ _ ag_o g5))
    refine seg_D (t1 := 607) W (by omega) (by omega) dL_law_590 dL_law_592 rfl dL_law_595 dL_law_596 dL_law_597 (fun hk => ?_) fin
    refine st_iload hC1 dL_law_598 rfl ?_
    refine st_i2l hC1 dL_law_600 ?_
    refine st_lcmp_eq (tg := 607) hC1 dL_law_601 dL_law_602 rfl ?_
    rw [if_pos (show o80 τ σ2 88 0 = v by rw [o80_80]; exact gv hk)]
    exact fin
  rcases hj with ⟨v, σ1, g1, g2⟩ | ⟨E, σ1, hE, g1, g2⟩
  · refine xs_callW (As := [rV 19 0, iV (sv xs (i + 1)), iV (sv xs (i + 2)), rV 35 88]) (S := []) W.1 W.2.1 dL_law_556 (csw_L 4 W.2.2.2.2.2.2.1 gW_purse ⟨by decide, by decide, rfl⟩ ⟨hfr, by omega⟩) W.2.2.2.2.2.1 rfl (by decide) hcl hsl (w_purse g1) ?_
    obtain ⟨σ2, g3, g4, g5⟩ := g2 _ (ag_up (σ := σ))
    exact tail 0 _ σ2 v g3 g4 (fun _ => ups_eq9) g5
  · refine xs_callW (As := [rV 19 0, iV (sv xs (i + 1)), iV (sv xs (i + 2)), rV 35 88]) (S := []) W.1 W.2.1 dL_law_556 (csw_L 4 W.2.2.2.2.2.2.1 gW_purse ⟨by decide, by decide, rfl⟩ ⟨hfr, by omega⟩) W.2.2.2.2.2.1 rfl (by decide) hcl hsl (w_purse_x hE g1) ?_
    obtain ⟨v, σ2, g3, g4, g5⟩ := g2 _ (ag_o (σ := σ))
    exact tail (cdNI E) _ σ2 v g3 g4 (fun z => absurd z hE) g5
set_option maxRecDepth 20000 in
theorem lc_6 {p : Program} {l : Launch} {e : Env} {R : Room} {s : State} {m : MethodId} {args : Array Value} {below : List Frame} {meth : Method} {c : Code} {K : KT} {A : Nat → Prop} {nL cl sl : Nat} {hh : Prop} {Q : State → Prop} {r : Option FieldType} {σ : Sg} {n : Nat} {xs : Nat → Int32} {P : Sg → Prop} {i : Int} (W : LwC p l R s m args meth c K A nL r hh n xs P) (hi : 0 ≤ i ∧ i + 5 < (n : Int)) (hcl : cl + 1 ≤ R.cells) (hsl : sl + 6 ≤ R.slots) (hj : JtP P MX10_worth MX11_worth [iV (sv xs (i + 1))] (fun v => lV v) cdN σ) (h : ∀ σ2, P σ2 → XM p l e R s m args below meth c K A nL (cl + 1) (sl + 6) Q 3786 (LL i uV uV uV) [] σ2) : XM p l e R s m args below meth c K A nL cl sl Q 610 (LL i uV uV uV) [] σ := by
  obtain ⟨hfr, hlo, hn⟩ := (⟨W.2.2.2.2.2.2.2.1, W.2.2.2.2.2.2.2.2.1, W.2.2.2.2.2.2.2.2.2.1⟩ : 61 ≤ R.frames ∧ 1940 ≤ R.locals ∧ n < 2147483648)
  have hC := clo_L (Q := Q) (R := R) (e := e) (below := below) (cl := cl) (sl := sl) (d := 40) W.1 W.2.1 (by omega) (by omega) (by omega) (by omega)
  refine st_aload_n hC dL_law_610 rfl (by decide) (by decide) ?_
  refine sc_rd (j := 1) W hC ⟨by omega, by omega⟩ rfl dL_law_611 dL_law_612 dL_law_614 dL_law_615 dL_law_616 ?_
  refine st_aload_n hC dL_law_617 rfl (by decide) (by decide) ?_
  have tail : ∀ (k : Int) (τ σ2 : Sg) (v : Int) , Ct 40 MX11_worth (rV 20 66 :: [iV (sv xs (i + 1))]) τ (.inl [lV v]) σ2 → σ2 66 5 = k → (k = 0 → τ 88 0 = v) → P σ2 → XM p l e R s m args below meth c K A nL (cl + 1) (sl + 6) Q 621 (LL i uV uV uV) [iV k] τ := by
    intro k τ σ2 v g3 g4 gv g5
    have hC1 := clo_L (Q := Q) (R := R) (e := e) (below := below) (cl := cl + 1) (sl := sl + 6) (d := 40) W.1 W.2.1 (by omega) (by omega) (by omega) (by omega)
    refine st_istore hC1 dL_law_621 (Nat.le_of_ble_eq_true rfl) (L2 := LL i (iV k) uV uV) rfl ?_
    refine st_aload_n hC1 dL_law_623 rfl (by decide) (by decide) ?_
    refine sc_rd (j := 1) W hC1 ⟨by omega, by omega⟩ rfl dL_law_624 dL_law_625 dL_law_627 dL_law_628 dL_law_629 ?_
    refine st_invV (t := 20) (a := 66) (ci := 10) (As := [iV (sv xs (i + 1))]) (S := []) (y := MX11_worth) hC1 dL_law_630 (show look (CLt 12) 202 = some (MX11_worth, false, 1) from rfl) rfl rfl (by decide) ⟨by decide, rfl, by decide +kernel⟩ (ctn g3 rfl rfl) ?_
    refine st_lstore hC1 dL_law_633 (Nat.le_of_ble_eq_true rfl) (L2 := LL i (iV k) (lV v) uV) rfl ?_
    refine seg_C (t1 := 646) W (by omega) (by omega) (show o80 τ σ2 66 5 = k by rw [o80_ne (by decide)]; exact g4) dL_law_635 dL_law_636 dL_law_639 dL_law_641 rfl ?_
    have fin : XM p l e R s m args below meth c K A nL (cl + 1) (sl + 6) Q 662 (LL i (iV k) (lV v) uV) [] (o80 τ σ2) := by
      refine st_goto (tg := 3786) hC1 dL_law_662 rfl ?_
      exact st_fg hC1 wk_L (h _ (W.2.2.2.2.2.2.2.2.2.2.2 _ _ ag_o g5))
    refine seg_D (t1 := 662) W (by omega) (by omega) dL_law_646 dL_law_648 rfl dL_law_651 dL_law_652 dL_law_653 (fun hk => ?_) fin
    refine st_lload hC1 dL_law_654 rfl ?_
    refine st_lcmp_eq (tg := 662) hC1 dL_law_656 dL_law_657 rfl ?_
    rw [if_pos (show o80 τ σ2 88 0 = v by rw [o80_80]; exact gv hk)]
    exact fin
  rcases hj with ⟨v, σ1, g1, g2⟩ | ⟨E, σ1, hE, g1, g2⟩
  · refine xs_callW (As := [rV 19 0, iV (sv xs (i + 1)), rV 35 88]) (S := []) W.1 W.2.1 dL_law_618 (csw_L 3 W.2.2.2.2.2.2.1 gW_worth ⟨by decide, by decide, rfl⟩ ⟨hfr, by omega⟩) W.2.2.2.2.2.1 rfl (by decide) hcl hsl (w_worth g1) ?_
    obtain ⟨σ2, g3, g4, g5⟩ := g2 _ (ag_up (σ := σ))
    exact tail 0 _ σ2 v g3 g4 (fun _ => ups_eq9) g5
  · refine xs_callW (As := [rV 19 0, iV (sv xs (i + 1)), rV 35 88]) (S := []) W.1 W.2.1 dL_law_618 (csw_L 3 W.2.2.2.2.2.2.1 gW_worth ⟨by decide, by decide, rfl⟩ ⟨hfr, by omega⟩) W.2.2.2.2.2.1 rfl (by decide) hcl hsl (w_worth_x hE g1) ?_
    obtain ⟨v, σ2, g3, g4, g5⟩ := g2 _ (ag_o (σ := σ))
    exact tail (cdN E) _ σ2 v g3 g4 (fun z => absurd z hE) g5
set_option maxRecDepth 20000 in
theorem lc_7 {p : Program} {l : Launch} {e : Env} {R : Room} {s : State} {m : MethodId} {args : Array Value} {below : List Frame} {meth : Method} {c : Code} {K : KT} {A : Nat → Prop} {nL cl sl : Nat} {hh : Prop} {Q : State → Prop} {r : Option FieldType} {σ : Sg} {n : Nat} {xs : Nat → Int32} {P : Sg → Prop} {i : Int} (W : LwC p l R s m args meth c K A nL r hh n xs P) (hi : 0 ≤ i ∧ i + 5 < (n : Int)) (hcl : cl + 1 ≤ R.cells) (hsl : sl + 6 ≤ R.slots) (hj : JtP P MX10_change MX11_change [iV (sv xs (i + 1)), iV (sv xs (i + 2))] (fun v => iV v) cdNI σ) (h : ∀ σ2, P σ2 → XM p l e R s m args below meth c K A nL (cl + 1) (sl + 6) Q 3786 (LL i uV uV uV) [] σ2) : XM p l e R s m args below meth c K A nL cl sl Q 665 (LL i uV uV uV) [] σ := by
  obtain ⟨hfr, hlo, hn⟩ := (⟨W.2.2.2.2.2.2.2.1, W.2.2.2.2.2.2.2.2.1, W.2.2.2.2.2.2.2.2.2.1⟩ : 61 ≤ R.frames ∧ 1940 ≤ R.locals ∧ n < 2147483648)
  have hC := clo_L (Q := Q) (R := R) (e := e) (below := below) (cl := cl) (sl := sl) (d := 40) W.1 W.2.1 (by omega) (by omega) (by omega) (by omega)
  refine st_aload_n hC dL_law_665 rfl (by decide) (by decide) ?_
  refine sc_rd (j := 1) W hC ⟨by omega, by omega⟩ rfl dL_law_666 dL_law_667 dL_law_669 dL_law_670 dL_law_671 ?_
  refine sc_rd (j := 2) W hC ⟨by omega, by omega⟩ rfl dL_law_672 dL_law_673 dL_law_675 dL_law_676 dL_law_677 ?_
  refine st_aload_n hC dL_law_678 rfl (by decide) (by decide) ?_
  have tail : ∀ (k : Int) (τ σ2 : Sg) (v : Int) , Ct 40 MX11_change (rV 20 66 :: [iV (sv xs (i + 1)), iV (sv xs (i + 2))]) τ (.inl [iV v]) σ2 → σ2 66 5 = k → (k = 0 → τ 88 0 = v) → P σ2 → XM p l e R s m args below meth c K A nL (cl + 1) (sl + 6) Q 682 (LL i uV uV uV) [iV k] τ := by
    intro k τ σ2 v g3 g4 gv g5
    have hC1 := clo_L (Q := Q) (R := R) (e := e) (below := below) (cl := cl + 1) (sl := sl + 6) (d := 40) W.1 W.2.1 (by omega) (by omega) (by omega) (by omega)
    refine st_istore hC1 dL_law_682 (Nat.le_of_ble_eq_true rfl) (L2 := LL i (iV k) uV uV) rfl ?_
    refine st_aload_n hC1 dL_law_684 rfl (by decide) (by decide) ?_
    refine sc_rd (j := 1) W hC1 ⟨by omega, by omega⟩ rfl dL_law_685 dL_law_686 dL_law_688 dL_law_689 dL_law_690 ?_
    refine sc_rd (j := 2) W hC1 ⟨by omega, by omega⟩ rfl dL_law_691 dL_law_692 dL_law_694 dL_law_695 dL_law_696 ?_
    refine st_invV (t := 20) (a := 66) (ci := 10) (As := [iV (sv xs (i + 1)), iV (sv xs (i + 2))]) (S := []) (y := MX11_change) hC1 dL_law_697 (show look (CLt 12) 205 = some (MX11_change, false, 2) from rfl) rfl rfl (by decide) ⟨by decide, rfl, by decide +kernel⟩ (ctn g3 rfl rfl) ?_
    refine st_istore hC1 dL_law_700 (Nat.le_of_ble_eq_true rfl) (L2 := LL i (iV k) (iV v) uV) rfl ?_
    refine seg_C (t1 := 713) W (by omega) (by omega) (show o80 τ σ2 66 5 = k by rw [o80_ne (by decide)]; exact g4) dL_law_702 dL_law_703 dL_law_706 dL_law_708 rfl ?_
    have fin : XM p l e R s m args below meth c K A nL (cl + 1) (sl + 6) Q 730 (LL i (iV k) (iV v) uV) [] (o80 τ σ2) := by
      refine st_goto (tg := 3786) hC1 dL_law_730 rfl ?_
      exact st_fg hC1 wk_L (h _ (W.2.2.2.2.2.2.2.2.2.2.2 _ _ ag_o g5))
    refine seg_D (t1 := 730) W (by omega) (by omega) dL_law_713 dL_law_715 rfl dL_law_718 dL_law_719 dL_law_720 (fun hk => ?_) fin
    refine st_iload hC1 dL_law_721 rfl ?_
    refine st_i2l hC1 dL_law_723 ?_
    refine st_lcmp_eq (tg := 730) hC1 dL_law_724 dL_law_725 rfl ?_
    rw [if_pos (show o80 τ σ2 88 0 = v by rw [o80_80]; exact gv hk)]
    exact fin
  rcases hj with ⟨v, σ1, g1, g2⟩ | ⟨E, σ1, hE, g1, g2⟩
  · refine xs_callW (As := [rV 19 0, iV (sv xs (i + 1)), iV (sv xs (i + 2)), rV 35 88]) (S := []) W.1 W.2.1 dL_law_679 (csw_L 4 W.2.2.2.2.2.2.1 gW_change ⟨by decide, by decide, rfl⟩ ⟨hfr, by omega⟩) W.2.2.2.2.2.1 rfl (by decide) hcl hsl (w_change g1) ?_
    obtain ⟨σ2, g3, g4, g5⟩ := g2 _ (ag_up (σ := σ))
    exact tail 0 _ σ2 v g3 g4 (fun _ => ups_eq9) g5
  · refine xs_callW (As := [rV 19 0, iV (sv xs (i + 1)), iV (sv xs (i + 2)), rV 35 88]) (S := []) W.1 W.2.1 dL_law_679 (csw_L 4 W.2.2.2.2.2.2.1 gW_change ⟨by decide, by decide, rfl⟩ ⟨hfr, by omega⟩) W.2.2.2.2.2.1 rfl (by decide) hcl hsl (w_change_x hE g1) ?_
    obtain ⟨v, σ2, g3, g4, g5⟩ := g2 _ (ag_o (σ := σ))
    exact tail (cdNI E) _ σ2 v g3 g4 (fun z => absurd z hE) g5
set_option maxRecDepth 20000 in
theorem lc_8 {p : Program} {l : Launch} {e : Env} {R : Room} {s : State} {m : MethodId} {args : Array Value} {below : List Frame} {meth : Method} {c : Code} {K : KT} {A : Nat → Prop} {nL cl sl : Nat} {hh : Prop} {Q : State → Prop} {r : Option FieldType} {σ : Sg} {n : Nat} {xs : Nat → Int32} {P : Sg → Prop} {i : Int} (W : LwC p l R s m args meth c K A nL r hh n xs P) (hi : 0 ≤ i ∧ i + 5 < (n : Int)) (hcl : cl + 1 ≤ R.cells) (hsl : sl + 6 ≤ R.slots) (hj : JtP P MX10_may MX11_may [iV (sv xs (i + 1)), iV (sv xs (i + 2)), lV (lg2 (sv xs (i + 3)) (sv xs (i + 4)))] (fun v => iV v) cdNI σ) (h : ∀ σ2, P σ2 → XM p l e R s m args below meth c K A nL (cl + 1) (sl + 6) Q 3786 (LL i uV uV uV) [] σ2) : XM p l e R s m args below meth c K A nL cl sl Q 733 (LL i uV uV uV) [] σ := by
  obtain ⟨hfr, hlo, hn⟩ := (⟨W.2.2.2.2.2.2.2.1, W.2.2.2.2.2.2.2.2.1, W.2.2.2.2.2.2.2.2.2.1⟩ : 61 ≤ R.frames ∧ 1940 ≤ R.locals ∧ n < 2147483648)
  have hC := clo_L (Q := Q) (R := R) (e := e) (below := below) (cl := cl) (sl := sl) (d := 40) W.1 W.2.1 (by omega) (by omega) (by omega) (by omega)
  refine st_aload_n hC dL_law_733 rfl (by decide) (by decide) ?_
  refine sc_rd (j := 1) W hC ⟨by omega, by omega⟩ rfl dL_law_734 dL_law_735 dL_law_737 dL_law_738 dL_law_739 ?_
  refine sc_rd (j := 2) W hC ⟨by omega, by omega⟩ rfl dL_law_740 dL_law_741 dL_law_743 dL_law_744 dL_law_745 ?_
  refine sc_rl (j := 3) (j' := 4) W hC ⟨by omega, by omega⟩ rfl ⟨by omega, by omega⟩ rfl dL_law_746 dL_law_747 dL_law_749 dL_law_750 dL_law_751 dL_law_752 dL_law_753 dL_law_755 dL_law_756 dL_law_757 dL_law_759 dL_law_760 dL_law_761 dL_law_762 dL_law_763 dL_law_766 dL_law_767 ?_
  refine st_aload_n hC dL_law_768 rfl (by decide) (by decide) ?_
  have tail : ∀ (k : Int) (τ σ2 : Sg) (v : Int) , Ct 40 MX11_may (rV 20 66 :: [iV (sv xs (i + 1)), iV (sv xs (i + 2)), lV (lg2 (sv xs (i + 3)) (sv xs (i + 4)))]) τ (.inl [iV v]) σ2 → σ2 66 5 = k → (k = 0 → τ 88 0 = v) → P σ2 → XM p l e R s m args below meth c K A nL (cl + 1) (sl + 6) Q 772 (LL i uV uV uV) [iV k] τ := by
    intro k τ σ2 v g3 g4 gv g5
    have hC1 := clo_L (Q := Q) (R := R) (e := e) (below := below) (cl := cl + 1) (sl := sl + 6) (d := 40) W.1 W.2.1 (by omega) (by omega) (by omega) (by omega)
    refine st_istore hC1 dL_law_772 (Nat.le_of_ble_eq_true rfl) (L2 := LL i (iV k) uV uV) rfl ?_
    refine st_aload_n hC1 dL_law_774 rfl (by decide) (by decide) ?_
    refine sc_rd (j := 1) W hC1 ⟨by omega, by omega⟩ rfl dL_law_775 dL_law_776 dL_law_778 dL_law_779 dL_law_780 ?_
    refine sc_rd (j := 2) W hC1 ⟨by omega, by omega⟩ rfl dL_law_781 dL_law_782 dL_law_784 dL_law_785 dL_law_786 ?_
    refine sc_rl (j := 3) (j' := 4) W hC1 ⟨by omega, by omega⟩ rfl ⟨by omega, by omega⟩ rfl dL_law_787 dL_law_788 dL_law_790 dL_law_791 dL_law_792 dL_law_793 dL_law_794 dL_law_796 dL_law_797 dL_law_798 dL_law_800 dL_law_801 dL_law_802 dL_law_803 dL_law_804 dL_law_807 dL_law_808 ?_
    refine st_invV (t := 20) (a := 66) (ci := 10) (As := [iV (sv xs (i + 1)), iV (sv xs (i + 2)), lV (lg2 (sv xs (i + 3)) (sv xs (i + 4)))]) (S := []) (y := MX11_may) hC1 dL_law_809 (show look (CLt 12) 211 = some (MX11_may, false, 3) from rfl) rfl rfl (by decide) ⟨by decide, rfl, by decide +kernel⟩ (ctn g3 rfl rfl) ?_
    refine st_istore hC1 dL_law_812 (Nat.le_of_ble_eq_true rfl) (L2 := LL i (iV k) (iV v) uV) rfl ?_
    refine seg_C (t1 := 825) W (by omega) (by omega) (show o80 τ σ2 66 5 = k by rw [o80_ne (by decide)]; exact g4) dL_law_814 dL_law_815 dL_law_818 dL_law_820 rfl ?_
    have fin : XM p l e R s m args below meth c K A nL (cl + 1) (sl + 6) Q 842 (LL i (iV k) (iV v) uV) [] (o80 τ σ2) := by
      refine st_goto (tg := 3786) hC1 dL_law_842 rfl ?_
      exact st_fg hC1 wk_L (h _ (W.2.2.2.2.2.2.2.2.2.2.2 _ _ ag_o g5))
    refine seg_D (t1 := 842) W (by omega) (by omega) dL_law_825 dL_law_827 rfl dL_law_830 dL_law_831 dL_law_832 (fun hk => ?_) fin
    refine st_iload hC1 dL_law_833 rfl ?_
    refine st_i2l hC1 dL_law_835 ?_
    refine st_lcmp_eq (tg := 842) hC1 dL_law_836 dL_law_837 rfl ?_
    rw [if_pos (show o80 τ σ2 88 0 = v by rw [o80_80]; exact gv hk)]
    exact fin
  rcases hj with ⟨v, σ1, g1, g2⟩ | ⟨E, σ1, hE, g1, g2⟩
  · refine xs_callW (As := [rV 19 0, iV (sv xs (i + 1)), iV (sv xs (i + 2)), lV (lg2 (sv xs (i + 3)) (sv xs (i + 4))), rV 35 88]) (S := []) W.1 W.2.1 dL_law_769 (csw_L 5 W.2.2.2.2.2.2.1 gW_may ⟨by decide, by decide, rfl⟩ ⟨hfr, by omega⟩) W.2.2.2.2.2.1 rfl (by decide) hcl hsl (w_may g1) ?_
    obtain ⟨σ2, g3, g4, g5⟩ := g2 _ (ag_up (σ := σ))
    exact tail 0 _ σ2 v g3 g4 (fun _ => ups_eq9) g5
  · refine xs_callW (As := [rV 19 0, iV (sv xs (i + 1)), iV (sv xs (i + 2)), lV (lg2 (sv xs (i + 3)) (sv xs (i + 4))), rV 35 88]) (S := []) W.1 W.2.1 dL_law_769 (csw_L 5 W.2.2.2.2.2.2.1 gW_may ⟨by decide, by decide, rfl⟩ ⟨hfr, by omega⟩) W.2.2.2.2.2.1 rfl (by decide) hcl hsl (w_may_x hE g1) ?_
    obtain ⟨v, σ2, g3, g4, g5⟩ := g2 _ (ag_o (σ := σ))
    exact tail (cdNI E) _ σ2 v g3 g4 (fun z => absurd z hE) g5
set_option maxRecDepth 20000 in
theorem lc_9 {p : Program} {l : Launch} {e : Env} {R : Room} {s : State} {m : MethodId} {args : Array Value} {below : List Frame} {meth : Method} {c : Code} {K : KT} {A : Nat → Prop} {nL cl sl : Nat} {hh : Prop} {Q : State → Prop} {r : Option FieldType} {σ : Sg} {n : Nat} {xs : Nat → Int32} {P : Sg → Prop} {i : Int} (W : LwC p l R s m args meth c K A nL r hh n xs P) (hi : 0 ≤ i ∧ i + 5 < (n : Int)) (hcl : cl + 1 ≤ R.cells) (hsl : sl + 6 ≤ R.slots) (hj : JtP P MX10_pay MX11_pay [iV (sv xs (i + 1)), iV (sv xs (i + 2)), lV (lg2 (sv xs (i + 3)) (sv xs (i + 4)))] (fun v => iV v) cdNI σ) (h : ∀ σ2, P σ2 → XM p l e R s m args below meth c K A nL (cl + 1) (sl + 6) Q 3786 (LL i uV uV uV) [] σ2) : XM p l e R s m args below meth c K A nL cl sl Q 845 (LL i uV uV uV) [] σ := by
  obtain ⟨hfr, hlo, hn⟩ := (⟨W.2.2.2.2.2.2.2.1, W.2.2.2.2.2.2.2.2.1, W.2.2.2.2.2.2.2.2.2.1⟩ : 61 ≤ R.frames ∧ 1940 ≤ R.locals ∧ n < 2147483648)
  have hC := clo_L (Q := Q) (R := R) (e := e) (below := below) (cl := cl) (sl := sl) (d := 40) W.1 W.2.1 (by omega) (by omega) (by omega) (by omega)
  refine st_aload_n hC dL_law_845 rfl (by decide) (by decide) ?_
  refine sc_rd (j := 1) W hC ⟨by omega, by omega⟩ rfl dL_law_846 dL_law_847 dL_law_849 dL_law_850 dL_law_851 ?_
  refine sc_rd (j := 2) W hC ⟨by omega, by omega⟩ rfl dL_law_852 dL_law_853 dL_law_855 dL_law_856 dL_law_857 ?_
  refine sc_rl (j := 3) (j' := 4) W hC ⟨by omega, by omega⟩ rfl ⟨by omega, by omega⟩ rfl dL_law_858 dL_law_859 dL_law_861 dL_law_862 dL_law_863 dL_law_864 dL_law_865 dL_law_867 dL_law_868 dL_law_869 dL_law_871 dL_law_872 dL_law_873 dL_law_874 dL_law_875 dL_law_878 dL_law_879 ?_
  refine st_aload_n hC dL_law_880 rfl (by decide) (by decide) ?_
  have tail : ∀ (k : Int) (τ σ2 : Sg) (v : Int) , Ct 40 MX11_pay (rV 20 66 :: [iV (sv xs (i + 1)), iV (sv xs (i + 2)), lV (lg2 (sv xs (i + 3)) (sv xs (i + 4)))]) τ (.inl [iV v]) σ2 → σ2 66 5 = k → (k = 0 → τ 88 0 = v) → P σ2 → XM p l e R s m args below meth c K A nL (cl + 1) (sl + 6) Q 884 (LL i uV uV uV) [iV k] τ := by
    intro k τ σ2 v g3 g4 gv g5
    have hC1 := clo_L (Q := Q) (R := R) (e := e) (below := below) (cl := cl + 1) (sl := sl + 6) (d := 40) W.1 W.2.1 (by omega) (by omega) (by omega) (by omega)
    refine st_istore hC1 dL_law_884 (Nat.le_of_ble_eq_true rfl) (L2 := LL i (iV k) uV uV) rfl ?_
    refine st_aload_n hC1 dL_law_886 rfl (by decide) (by decide) ?_
    refine sc_rd (j := 1) W hC1 ⟨by omega, by omega⟩ rfl dL_law_887 dL_law_888 dL_law_890 dL_law_891 dL_law_892 ?_
    refine sc_rd (j := 2) W hC1 ⟨by omega, by omega⟩ rfl dL_law_893 dL_law_894 dL_law_896 dL_law_897 dL_law_898 ?_
    refine sc_rl (j := 3) (j' := 4) W hC1 ⟨by omega, by omega⟩ rfl ⟨by omega, by omega⟩ rfl dL_law_899 dL_law_900 dL_law_902 dL_law_903 dL_law_904 dL_law_905 dL_law_906 dL_law_908 dL_law_909 dL_law_910 dL_law_912 dL_law_913 dL_law_914 dL_law_915 dL_law_916 dL_law_919 dL_law_920 ?_
    refine st_invV (t := 20) (a := 66) (ci := 10) (As := [iV (sv xs (i + 1)), iV (sv xs (i + 2)), lV (lg2 (sv xs (i + 3)) (sv xs (i + 4)))]) (S := []) (y := MX11_pay) hC1 dL_law_921 (show look (CLt 12) 214 = some (MX11_pay, false, 3) from rfl) rfl rfl (by decide) ⟨by decide, rfl, by decide +kernel⟩ (ctn g3 rfl rfl) ?_
    refine st_istore hC1 dL_law_924 (Nat.le_of_ble_eq_true rfl) (L2 := LL i (iV k) (iV v) uV) rfl ?_
    refine seg_C (t1 := 937) W (by omega) (by omega) (show o80 τ σ2 66 5 = k by rw [o80_ne (by decide)]; exact g4) dL_law_926 dL_law_927 dL_law_930 dL_law_932 rfl ?_
    have fin : XM p l e R s m args below meth c K A nL (cl + 1) (sl + 6) Q 954 (LL i (iV k) (iV v) uV) [] (o80 τ σ2) := by
      refine st_goto (tg := 3786) hC1 dL_law_954 rfl ?_
      exact st_fg hC1 wk_L (h _ (W.2.2.2.2.2.2.2.2.2.2.2 _ _ ag_o g5))
    refine seg_D (t1 := 954) W (by omega) (by omega) dL_law_937 dL_law_939 rfl dL_law_942 dL_law_943 dL_law_944 (fun hk => ?_) fin
    refine st_iload hC1 dL_law_945 rfl ?_
    refine st_i2l hC1 dL_law_947 ?_
    refine st_lcmp_eq (tg := 954) hC1 dL_law_948 dL_law_949 rfl ?_
    rw [if_pos (show o80 τ σ2 88 0 = v by rw [o80_80]; exact gv hk)]
    exact fin
  rcases hj with ⟨v, σ1, g1, g2⟩ | ⟨E, σ1, hE, g1, g2⟩
  · refine xs_callW (As := [rV 19 0, iV (sv xs (i + 1)), iV (sv xs (i + 2)), lV (lg2 (sv xs (i + 3)) (sv xs (i + 4))), rV 35 88]) (S := []) W.1 W.2.1 dL_law_881 (csw_L 5 W.2.2.2.2.2.2.1 gW_pay ⟨by decide, by decide, rfl⟩ ⟨hfr, by omega⟩) W.2.2.2.2.2.1 rfl (by decide) hcl hsl (w_pay g1) ?_
    obtain ⟨σ2, g3, g4, g5⟩ := g2 _ (ag_up (σ := σ))
    exact tail 0 _ σ2 v g3 g4 (fun _ => ups_eq9) g5
  · refine xs_callW (As := [rV 19 0, iV (sv xs (i + 1)), iV (sv xs (i + 2)), lV (lg2 (sv xs (i + 3)) (sv xs (i + 4))), rV 35 88]) (S := []) W.1 W.2.1 dL_law_881 (csw_L 5 W.2.2.2.2.2.2.1 gW_pay ⟨by decide, by decide, rfl⟩ ⟨hfr, by omega⟩) W.2.2.2.2.2.1 rfl (by decide) hcl hsl (w_pay_x hE g1) ?_
    obtain ⟨v, σ2, g3, g4, g5⟩ := g2 _ (ag_o (σ := σ))
    exact tail (cdNI E) _ σ2 v g3 g4 (fun z => absurd z hE) g5
set_option maxRecDepth 20000 in
theorem lc_10 {p : Program} {l : Launch} {e : Env} {R : Room} {s : State} {m : MethodId} {args : Array Value} {below : List Frame} {meth : Method} {c : Code} {K : KT} {A : Nat → Prop} {nL cl sl : Nat} {hh : Prop} {Q : State → Prop} {r : Option FieldType} {σ : Sg} {n : Nat} {xs : Nat → Int32} {P : Sg → Prop} {i : Int} (W : LwC p l R s m args meth c K A nL r hh n xs P) (hi : 0 ≤ i ∧ i + 5 < (n : Int)) (hcl : cl + 1 ≤ R.cells) (hsl : sl + 6 ≤ R.slots) (hj : JtP P MX10_changes MX11_changes [iV (sv xs (i + 1)), iV (sv xs (i + 2))] (fun v => iV v) cdN σ) (h : ∀ σ2, P σ2 → XM p l e R s m args below meth c K A nL (cl + 1) (sl + 6) Q 3786 (LL i uV uV uV) [] σ2) : XM p l e R s m args below meth c K A nL cl sl Q 957 (LL i uV uV uV) [] σ := by
  obtain ⟨hfr, hlo, hn⟩ := (⟨W.2.2.2.2.2.2.2.1, W.2.2.2.2.2.2.2.2.1, W.2.2.2.2.2.2.2.2.2.1⟩ : 61 ≤ R.frames ∧ 1940 ≤ R.locals ∧ n < 2147483648)
  have hC := clo_L (Q := Q) (R := R) (e := e) (below := below) (cl := cl) (sl := sl) (d := 40) W.1 W.2.1 (by omega) (by omega) (by omega) (by omega)
  refine st_aload_n hC dL_law_957 rfl (by decide) (by decide) ?_
  refine sc_rd (j := 1) W hC ⟨by omega, by omega⟩ rfl dL_law_958 dL_law_959 dL_law_961 dL_law_962 dL_law_963 ?_
  refine sc_rd (j := 2) W hC ⟨by omega, by omega⟩ rfl dL_law_964 dL_law_965 dL_law_967 dL_law_968 dL_law_969 ?_
  refine st_aload_n hC dL_law_970 rfl (by decide) (by decide) ?_
  have tail : ∀ (k : Int) (τ σ2 : Sg) (v : Int) , Ct 40 MX11_changes (rV 20 66 :: [iV (sv xs (i + 1)), iV (sv xs (i + 2))]) τ (.inl [iV v]) σ2 → σ2 66 5 = k → (k = 0 → τ 88 0 = v) → P σ2 → XM p l e R s m args below meth c K A nL (cl + 1) (sl + 6) Q 974 (LL i uV uV uV) [iV k] τ := by
    intro k τ σ2 v g3 g4 gv g5
    have hC1 := clo_L (Q := Q) (R := R) (e := e) (below := below) (cl := cl + 1) (sl := sl + 6) (d := 40) W.1 W.2.1 (by omega) (by omega) (by omega) (by omega)
    refine st_istore hC1 dL_law_974 (Nat.le_of_ble_eq_true rfl) (L2 := LL i (iV k) uV uV) rfl ?_
    refine st_aload_n hC1 dL_law_976 rfl (by decide) (by decide) ?_
    refine sc_rd (j := 1) W hC1 ⟨by omega, by omega⟩ rfl dL_law_977 dL_law_978 dL_law_980 dL_law_981 dL_law_982 ?_
    refine sc_rd (j := 2) W hC1 ⟨by omega, by omega⟩ rfl dL_law_983 dL_law_984 dL_law_986 dL_law_987 dL_law_988 ?_
    refine st_invV (t := 20) (a := 66) (ci := 10) (As := [iV (sv xs (i + 1)), iV (sv xs (i + 2))]) (S := []) (y := MX11_changes) hC1 dL_law_989 (show look (CLt 12) 217 = some (MX11_changes, false, 2) from rfl) rfl rfl (by decide) ⟨by decide, rfl, by decide +kernel⟩ (ctn g3 rfl rfl) ?_
    refine st_istore hC1 dL_law_992 (Nat.le_of_ble_eq_true rfl) (L2 := LL i (iV k) (iV v) uV) rfl ?_
    refine seg_C (t1 := 1005) W (by omega) (by omega) (show o80 τ σ2 66 5 = k by rw [o80_ne (by decide)]; exact g4) dL_law_994 dL_law_995 dL_law_998 dL_law_1000 rfl ?_
    have fin : XM p l e R s m args below meth c K A nL (cl + 1) (sl + 6) Q 1022 (LL i (iV k) (iV v) uV) [] (o80 τ σ2) := by
      refine st_goto (tg := 3786) hC1 dL_law_1022 rfl ?_
      exact st_fg hC1 wk_L (h _ (W.2.2.2.2.2.2.2.2.2.2.2 _ _ ag_o g5))
    refine seg_D (t1 := 1022) W (by omega) (by omega) dL_law_1005 dL_law_1007 rfl dL_law_1010 dL_law_1011 dL_law_1012 (fun hk => ?_) fin
    refine st_iload hC1 dL_law_1013 rfl ?_
    refine st_i2l hC1 dL_law_1015 ?_
    refine st_lcmp_eq (tg := 1022) hC1 dL_law_1016 dL_law_1017 rfl ?_
    rw [if_pos (show o80 τ σ2 88 0 = v by rw [o80_80]; exact gv hk)]
    exact fin
  rcases hj with ⟨v, σ1, g1, g2⟩ | ⟨E, σ1, hE, g1, g2⟩
  · refine xs_callW (As := [rV 19 0, iV (sv xs (i + 1)), iV (sv xs (i + 2)), rV 35 88]) (S := []) W.1 W.2.1 dL_law_971 (csw_L 4 W.2.2.2.2.2.2.1 gW_changes ⟨by decide, by decide, rfl⟩ ⟨hfr, by omega⟩) W.2.2.2.2.2.1 rfl (by decide) hcl hsl (w_changes g1) ?_
    obtain ⟨σ2, g3, g4, g5⟩ := g2 _ (ag_up (σ := σ))
    exact tail 0 _ σ2 v g3 g4 (fun _ => ups_eq9) g5
  · refine xs_callW (As := [rV 19 0, iV (sv xs (i + 1)), iV (sv xs (i + 2)), rV 35 88]) (S := []) W.1 W.2.1 dL_law_971 (csw_L 4 W.2.2.2.2.2.2.1 gW_changes ⟨by decide, by decide, rfl⟩ ⟨hfr, by omega⟩) W.2.2.2.2.2.1 rfl (by decide) hcl hsl (w_changes_x hE g1) ?_
    obtain ⟨v, σ2, g3, g4, g5⟩ := g2 _ (ag_o (σ := σ))
    exact tail (cdN E) _ σ2 v g3 g4 (fun z => absurd z hE) g5
set_option maxRecDepth 20000 in
theorem lc_11 {p : Program} {l : Launch} {e : Env} {R : Room} {s : State} {m : MethodId} {args : Array Value} {below : List Frame} {meth : Method} {c : Code} {K : KT} {A : Nat → Prop} {nL cl sl : Nat} {hh : Prop} {Q : State → Prop} {r : Option FieldType} {σ : Sg} {n : Nat} {xs : Nat → Int32} {P : Sg → Prop} {i : Int} (W : LwC p l R s m args meth c K A nL r hh n xs P) (hi : 0 ≤ i ∧ i + 5 < (n : Int)) (hcl : cl + 1 ≤ R.cells) (hsl : sl + 6 ≤ R.slots) (hj : JtP P MX10_tax MX11_tax [iV (sv xs (i + 1))] (fun v => iV v) cdN σ) (h : ∀ σ2, P σ2 → XM p l e R s m args below meth c K A nL (cl + 1) (sl + 6) Q 3786 (LL i uV uV uV) [] σ2) : XM p l e R s m args below meth c K A nL cl sl Q 1025 (LL i uV uV uV) [] σ := by
  obtain ⟨hfr, hlo, hn⟩ := (⟨W.2.2.2.2.2.2.2.1, W.2.2.2.2.2.2.2.2.1, W.2.2.2.2.2.2.2.2.2.1⟩ : 61 ≤ R.frames ∧ 1940 ≤ R.locals ∧ n < 2147483648)
  have hC := clo_L (Q := Q) (R := R) (e := e) (below := below) (cl := cl) (sl := sl) (d := 40) W.1 W.2.1 (by omega) (by omega) (by omega) (by omega)
  refine st_aload_n hC dL_law_1025 rfl (by decide) (by decide) ?_
  refine sc_rd (j := 1) W hC ⟨by omega, by omega⟩ rfl dL_law_1026 dL_law_1027 dL_law_1029 dL_law_1030 dL_law_1031 ?_
  refine st_aload_n hC dL_law_1032 rfl (by decide) (by decide) ?_
  have tail : ∀ (k : Int) (τ σ2 : Sg) (v : Int) , Ct 40 MX11_tax (rV 20 66 :: [iV (sv xs (i + 1))]) τ (.inl [iV v]) σ2 → σ2 66 5 = k → (k = 0 → τ 88 0 = v) → P σ2 → XM p l e R s m args below meth c K A nL (cl + 1) (sl + 6) Q 1036 (LL i uV uV uV) [iV k] τ := by
    intro k τ σ2 v g3 g4 gv g5
    have hC1 := clo_L (Q := Q) (R := R) (e := e) (below := below) (cl := cl + 1) (sl := sl + 6) (d := 40) W.1 W.2.1 (by omega) (by omega) (by omega) (by omega)
    refine st_istore hC1 dL_law_1036 (Nat.le_of_ble_eq_true rfl) (L2 := LL i (iV k) uV uV) rfl ?_
    refine st_aload_n hC1 dL_law_1038 rfl (by decide) (by decide) ?_
    refine sc_rd (j := 1) W hC1 ⟨by omega, by omega⟩ rfl dL_law_1039 dL_law_1040 dL_law_1042 dL_law_1043 dL_law_1044 ?_
    refine st_invV (t := 20) (a := 66) (ci := 10) (As := [iV (sv xs (i + 1))]) (S := []) (y := MX11_tax) hC1 dL_law_1045 (show look (CLt 12) 220 = some (MX11_tax, false, 1) from rfl) rfl rfl (by decide) ⟨by decide, rfl, by decide +kernel⟩ (ctn g3 rfl rfl) ?_
    refine st_istore hC1 dL_law_1048 (Nat.le_of_ble_eq_true rfl) (L2 := LL i (iV k) (iV v) uV) rfl ?_
    refine seg_C (t1 := 1061) W (by omega) (by omega) (show o80 τ σ2 66 5 = k by rw [o80_ne (by decide)]; exact g4) dL_law_1050 dL_law_1051 dL_law_1054 dL_law_1056 rfl ?_
    have fin : XM p l e R s m args below meth c K A nL (cl + 1) (sl + 6) Q 1078 (LL i (iV k) (iV v) uV) [] (o80 τ σ2) := by
      refine st_goto (tg := 3786) hC1 dL_law_1078 rfl ?_
      exact st_fg hC1 wk_L (h _ (W.2.2.2.2.2.2.2.2.2.2.2 _ _ ag_o g5))
    refine seg_D (t1 := 1078) W (by omega) (by omega) dL_law_1061 dL_law_1063 rfl dL_law_1066 dL_law_1067 dL_law_1068 (fun hk => ?_) fin
    refine st_iload hC1 dL_law_1069 rfl ?_
    refine st_i2l hC1 dL_law_1071 ?_
    refine st_lcmp_eq (tg := 1078) hC1 dL_law_1072 dL_law_1073 rfl ?_
    rw [if_pos (show o80 τ σ2 88 0 = v by rw [o80_80]; exact gv hk)]
    exact fin
  rcases hj with ⟨v, σ1, g1, g2⟩ | ⟨E, σ1, hE, g1, g2⟩
  · refine xs_callW (As := [rV 19 0, iV (sv xs (i + 1)), rV 35 88]) (S := []) W.1 W.2.1 dL_law_1033 (csw_L 3 W.2.2.2.2.2.2.1 gW_tax ⟨by decide, by decide, rfl⟩ ⟨hfr, by omega⟩) W.2.2.2.2.2.1 rfl (by decide) hcl hsl (w_tax g1) ?_
    obtain ⟨σ2, g3, g4, g5⟩ := g2 _ (ag_up (σ := σ))
    exact tail 0 _ σ2 v g3 g4 (fun _ => ups_eq9) g5
  · refine xs_callW (As := [rV 19 0, iV (sv xs (i + 1)), rV 35 88]) (S := []) W.1 W.2.1 dL_law_1033 (csw_L 3 W.2.2.2.2.2.2.1 gW_tax ⟨by decide, by decide, rfl⟩ ⟨hfr, by omega⟩) W.2.2.2.2.2.1 rfl (by decide) hcl hsl (w_tax_x hE g1) ?_
    obtain ⟨v, σ2, g3, g4, g5⟩ := g2 _ (ag_o (σ := σ))
    exact tail (cdN E) _ σ2 v g3 g4 (fun z => absurd z hE) g5
set_option maxRecDepth 20000 in
theorem lc_12 {p : Program} {l : Launch} {e : Env} {R : Room} {s : State} {m : MethodId} {args : Array Value} {below : List Frame} {meth : Method} {c : Code} {K : KT} {A : Nat → Prop} {nL cl sl : Nat} {hh : Prop} {Q : State → Prop} {r : Option FieldType} {σ : Sg} {n : Nat} {xs : Nat → Int32} {P : Sg → Prop} {i : Int} (W : LwC p l R s m args meth c K A nL r hh n xs P) (hi : 0 ≤ i ∧ i + 5 < (n : Int)) (hcl : cl + 1 ≤ R.cells) (hsl : sl + 6 ≤ R.slots) (hj : JtP P MX10_strike MX11_strike [iV (sv xs (i + 1)), iV (sv xs (i + 2))] (fun v => iV v) cdD σ) (h : ∀ σ2, P σ2 → XM p l e R s m args below meth c K A nL (cl + 1) (sl + 6) Q 3786 (LL i uV uV uV) [] σ2) : XM p l e R s m args below meth c K A nL cl sl Q 1081 (LL i uV uV uV) [] σ := by
  obtain ⟨hfr, hlo, hn⟩ := (⟨W.2.2.2.2.2.2.2.1, W.2.2.2.2.2.2.2.2.1, W.2.2.2.2.2.2.2.2.2.1⟩ : 61 ≤ R.frames ∧ 1940 ≤ R.locals ∧ n < 2147483648)
  have hC := clo_L (Q := Q) (R := R) (e := e) (below := below) (cl := cl) (sl := sl) (d := 40) W.1 W.2.1 (by omega) (by omega) (by omega) (by omega)
  refine st_aload_n hC dL_law_1081 rfl (by decide) (by decide) ?_
  refine sc_rd (j := 1) W hC ⟨by omega, by omega⟩ rfl dL_law_1082 dL_law_1083 dL_law_1085 dL_law_1086 dL_law_1087 ?_
  refine sc_rd (j := 2) W hC ⟨by omega, by omega⟩ rfl dL_law_1088 dL_law_1089 dL_law_1091 dL_law_1092 dL_law_1093 ?_
  refine st_aload_n hC dL_law_1094 rfl (by decide) (by decide) ?_
  have tail : ∀ (k : Int) (τ σ2 : Sg) (v : Int) , Ct 40 MX11_strike (rV 20 66 :: [iV (sv xs (i + 1)), iV (sv xs (i + 2))]) τ (.inl [iV v]) σ2 → σ2 66 5 = k → (k = 0 → τ 88 0 = v) → P σ2 → XM p l e R s m args below meth c K A nL (cl + 1) (sl + 6) Q 1098 (LL i uV uV uV) [iV k] τ := by
    intro k τ σ2 v g3 g4 gv g5
    have hC1 := clo_L (Q := Q) (R := R) (e := e) (below := below) (cl := cl + 1) (sl := sl + 6) (d := 40) W.1 W.2.1 (by omega) (by omega) (by omega) (by omega)
    refine st_istore hC1 dL_law_1098 (Nat.le_of_ble_eq_true rfl) (L2 := LL i (iV k) uV uV) rfl ?_
    refine st_aload_n hC1 dL_law_1100 rfl (by decide) (by decide) ?_
    refine sc_rd (j := 1) W hC1 ⟨by omega, by omega⟩ rfl dL_law_1101 dL_law_1102 dL_law_1104 dL_law_1105 dL_law_1106 ?_
    refine sc_rd (j := 2) W hC1 ⟨by omega, by omega⟩ rfl dL_law_1107 dL_law_1108 dL_law_1110 dL_law_1111 dL_law_1112 ?_
    refine st_invV (t := 20) (a := 66) (ci := 10) (As := [iV (sv xs (i + 1)), iV (sv xs (i + 2))]) (S := []) (y := MX11_strike) hC1 dL_law_1113 (show look (CLt 12) 223 = some (MX11_strike, false, 2) from rfl) rfl rfl (by decide) ⟨by decide, rfl, by decide +kernel⟩ (ctn g3 rfl rfl) ?_
    refine st_istore hC1 dL_law_1116 (Nat.le_of_ble_eq_true rfl) (L2 := LL i (iV k) (iV v) uV) rfl ?_
    refine seg_C (t1 := 1129) W (by omega) (by omega) (show o80 τ σ2 66 5 = k by rw [o80_ne (by decide)]; exact g4) dL_law_1118 dL_law_1119 dL_law_1122 dL_law_1124 rfl ?_
    have fin : XM p l e R s m args below meth c K A nL (cl + 1) (sl + 6) Q 1146 (LL i (iV k) (iV v) uV) [] (o80 τ σ2) := by
      refine st_goto (tg := 3786) hC1 dL_law_1146 rfl ?_
      exact st_fg hC1 wk_L (h _ (W.2.2.2.2.2.2.2.2.2.2.2 _ _ ag_o g5))
    refine seg_D (t1 := 1146) W (by omega) (by omega) dL_law_1129 dL_law_1131 rfl dL_law_1134 dL_law_1135 dL_law_1136 (fun hk => ?_) fin
    refine st_iload hC1 dL_law_1137 rfl ?_
    refine st_i2l hC1 dL_law_1139 ?_
    refine st_lcmp_eq (tg := 1146) hC1 dL_law_1140 dL_law_1141 rfl ?_
    rw [if_pos (show o80 τ σ2 88 0 = v by rw [o80_80]; exact gv hk)]
    exact fin
  rcases hj with ⟨v, σ1, g1, g2⟩ | ⟨E, σ1, hE, g1, g2⟩
  · refine xs_callW (As := [rV 19 0, iV (sv xs (i + 1)), iV (sv xs (i + 2)), rV 35 88]) (S := []) W.1 W.2.1 dL_law_1095 (csw_L 4 W.2.2.2.2.2.2.1 gW_strike ⟨by decide, by decide, rfl⟩ ⟨hfr, by omega⟩) W.2.2.2.2.2.1 rfl (by decide) hcl hsl (w_strike g1) ?_
    obtain ⟨σ2, g3, g4, g5⟩ := g2 _ (ag_up (σ := σ))
    exact tail 0 _ σ2 v g3 g4 (fun _ => ups_eq9) g5
  · refine xs_callW (As := [rV 19 0, iV (sv xs (i + 1)), iV (sv xs (i + 2)), rV 35 88]) (S := []) W.1 W.2.1 dL_law_1095 (csw_L 4 W.2.2.2.2.2.2.1 gW_strike ⟨by decide, by decide, rfl⟩ ⟨hfr, by omega⟩) W.2.2.2.2.2.1 rfl (by decide) hcl hsl (w_strike_x hE g1) ?_
    obtain ⟨v, σ2, g3, g4, g5⟩ := g2 _ (ag_o (σ := σ))
    exact tail (cdD E) _ σ2 v g3 g4 (fun z => absurd z hE) g5
set_option maxRecDepth 20000 in
theorem lc_13 {p : Program} {l : Launch} {e : Env} {R : Room} {s : State} {m : MethodId} {args : Array Value} {below : List Frame} {meth : Method} {c : Code} {K : KT} {A : Nat → Prop} {nL cl sl : Nat} {hh : Prop} {Q : State → Prop} {r : Option FieldType} {σ : Sg} {n : Nat} {xs : Nat → Int32} {P : Sg → Prop} {i : Int} (W : LwC p l R s m args meth c K A nL r hh n xs P) (hi : 0 ≤ i ∧ i + 5 < (n : Int)) (hcl : cl + 1 ≤ R.cells) (hsl : sl + 6 ≤ R.slots) (hj : JnP P MX10_treasury MX11_treasury [iV (sv xs (i + 1))] σ) (h : ∀ σ2, P σ2 → XM p l e R s m args below meth c K A nL (cl + 1) (sl + 6) Q 3786 (LL i uV uV uV) [] σ2) : XM p l e R s m args below meth c K A nL cl sl Q 1149 (LL i uV uV uV) [] σ := by
  obtain ⟨hfr, hlo, hn⟩ := (⟨W.2.2.2.2.2.2.2.1, W.2.2.2.2.2.2.2.2.1, W.2.2.2.2.2.2.2.2.2.1⟩ : 61 ≤ R.frames ∧ 1940 ≤ R.locals ∧ n < 2147483648)
  have hC := clo_L (Q := Q) (R := R) (e := e) (below := below) (cl := cl) (sl := sl) (d := 40) W.1 W.2.1 (by omega) (by omega) (by omega) (by omega)
  refine st_aload_n hC dL_law_1149 rfl (by decide) (by decide) ?_
  refine sc_rd (j := 1) W hC ⟨by omega, by omega⟩ rfl dL_law_1150 dL_law_1151 dL_law_1153 dL_law_1154 dL_law_1155 ?_
  obtain ⟨v, σ1, g1, σ2, g2, g3⟩ := hj
  refine xs_callG (d := 40) (t := 19) (a := 0) (As := [iV (sv xs (i + 1))]) (S := []) (τ := σ) W.1 W.2.1 dL_law_1156 (show look (CLt 12) 224 = some (MX10_treasury, false, 1) from rfl) rfl (by decide) (by omega) (by omega) (by show cl + 0 ≤ _; omega) (by show sl + 0 ≤ _; omega) ⟨9, by decide, rfl, by decide +kernel⟩ (n9 rfl) (fun vs hvs => by cases hvs; exact n9 rfl) (fun _ _ => rfl) (fun z => z) g1 (fun vs hvs hO1 => ?_) (fun E hE => by cases hE)
  cases hvs
  refine st_aload_n hC dL_law_1159 rfl (by decide) (by decide) ?_
  refine sc_rd (j := 1) W hC ⟨by omega, by omega⟩ rfl dL_law_1160 dL_law_1161 dL_law_1163 dL_law_1164 dL_law_1165 ?_
  refine xs_callG (d := 40) (t := 20) (a := 66) (As := [iV (sv xs (i + 1))]) (S := [iV v]) (τ := σ1) W.1 W.2.1 dL_law_1166 (show look (CLt 12) 227 = some (MX11_treasury, false, 1) from rfl) rfl (Nat.le_of_ble_eq_true rfl) (by omega) (by omega) (by show cl + 0 ≤ _; omega) (by show sl + 0 ≤ _; omega) ⟨10, by decide, rfl, by decide +kernel⟩ (n9 rfl) (fun vs hvs => by cases hvs; exact n9 rfl) (fun a ha => (ag_o a ha).symm) (fun _ => hO1) g2 (fun vs hvs hO2 => ?_) (fun E hE => by cases hE)
  cases hvs
  refine st_icmp_eq (tg := 3786) hC dL_law_1169 rfl ?_
  rw [if_pos rfl]
  exact XM_wid (Nat.le_add_right _ _) (Nat.le_add_right _ _) (h _ (W.2.2.2.2.2.2.2.2.2.2.2 _ _ ag_o g3))
set_option maxRecDepth 20000 in
theorem lc_14 {p : Program} {l : Launch} {e : Env} {R : Room} {s : State} {m : MethodId} {args : Array Value} {below : List Frame} {meth : Method} {c : Code} {K : KT} {A : Nat → Prop} {nL cl sl : Nat} {hh : Prop} {Q : State → Prop} {r : Option FieldType} {σ : Sg} {n : Nat} {xs : Nat → Int32} {P : Sg → Prop} {i : Int} (W : LwC p l R s m args meth c K A nL r hh n xs P) (hi : 0 ≤ i ∧ i + 5 < (n : Int)) (hcl : cl + 1 ≤ R.cells) (hsl : sl + 6 ≤ R.slots) (hj : JtP P MX10_readOut MX11_readOut [lV (lg2 (sv xs (i + 1)) (sv xs (i + 2)))] (fun v => lV v) cdI σ) (h : ∀ σ2, P σ2 → XM p l e R s m args below meth c K A nL (cl + 1) (sl + 6) Q 3786 (LL i uV uV uV) [] σ2) : XM p l e R s m args below meth c K A nL cl sl Q 1174 (LL i uV uV uV) [] σ := by
  obtain ⟨hfr, hlo, hn⟩ := (⟨W.2.2.2.2.2.2.2.1, W.2.2.2.2.2.2.2.2.1, W.2.2.2.2.2.2.2.2.2.1⟩ : 61 ≤ R.frames ∧ 1940 ≤ R.locals ∧ n < 2147483648)
  have hC := clo_L (Q := Q) (R := R) (e := e) (below := below) (cl := cl) (sl := sl) (d := 40) W.1 W.2.1 (by omega) (by omega) (by omega) (by omega)
  refine st_aload_n hC dL_law_1174 rfl (by decide) (by decide) ?_
  refine sc_rl (j := 1) (j' := 2) W hC ⟨by omega, by omega⟩ rfl ⟨by omega, by omega⟩ rfl dL_law_1175 dL_law_1176 dL_law_1178 dL_law_1179 dL_law_1180 dL_law_1181 dL_law_1182 dL_law_1184 dL_law_1185 dL_law_1186 dL_law_1188 dL_law_1189 dL_law_1190 dL_law_1191 dL_law_1192 dL_law_1195 dL_law_1196 ?_
  refine st_aload_n hC dL_law_1197 rfl (by decide) (by decide) ?_
  have tail : ∀ (k : Int) (τ σ2 : Sg) (v : Int) , Ct 40 MX11_readOut (rV 20 66 :: [lV (lg2 (sv xs (i + 1)) (sv xs (i + 2)))]) τ (.inl [lV v]) σ2 → σ2 66 5 = k → (k = 0 → τ 88 0 = v) → P σ2 → XM p l e R s m args below meth c K A nL (cl + 1) (sl + 6) Q 1201 (LL i uV uV uV) [iV k] τ := by
    intro k τ σ2 v g3 g4 gv g5
    have hC1 := clo_L (Q := Q) (R := R) (e := e) (below := below) (cl := cl + 1) (sl := sl + 6) (d := 40) W.1 W.2.1 (by omega) (by omega) (by omega) (by omega)
    refine st_istore hC1 dL_law_1201 (Nat.le_of_ble_eq_true rfl) (L2 := LL i (iV k) uV uV) rfl ?_
    refine st_aload_n hC1 dL_law_1203 rfl (by decide) (by decide) ?_
    refine sc_rl (j := 1) (j' := 2) W hC1 ⟨by omega, by omega⟩ rfl ⟨by omega, by omega⟩ rfl dL_law_1204 dL_law_1205 dL_law_1207 dL_law_1208 dL_law_1209 dL_law_1210 dL_law_1211 dL_law_1213 dL_law_1214 dL_law_1215 dL_law_1217 dL_law_1218 dL_law_1219 dL_law_1220 dL_law_1221 dL_law_1224 dL_law_1225 ?_
    refine st_invV (t := 20) (a := 66) (ci := 10) (As := [lV (lg2 (sv xs (i + 1)) (sv xs (i + 2)))]) (S := []) (y := MX11_readOut) hC1 dL_law_1226 (show look (CLt 12) 231 = some (MX11_readOut, false, 1) from rfl) rfl rfl (by decide) ⟨by decide, rfl, by decide +kernel⟩ (ctn g3 rfl rfl) ?_
    refine st_lstore hC1 dL_law_1229 (Nat.le_of_ble_eq_true rfl) (L2 := LL i (iV k) (lV v) uV) rfl ?_
    refine seg_C (t1 := 1242) W (by omega) (by omega) (show o80 τ σ2 66 5 = k by rw [o80_ne (by decide)]; exact g4) dL_law_1231 dL_law_1232 dL_law_1235 dL_law_1237 rfl ?_
    have fin : XM p l e R s m args below meth c K A nL (cl + 1) (sl + 6) Q 1258 (LL i (iV k) (lV v) uV) [] (o80 τ σ2) := by
      refine st_goto (tg := 3786) hC1 dL_law_1258 rfl ?_
      exact st_fg hC1 wk_L (h _ (W.2.2.2.2.2.2.2.2.2.2.2 _ _ ag_o g5))
    refine seg_D (t1 := 1258) W (by omega) (by omega) dL_law_1242 dL_law_1244 rfl dL_law_1247 dL_law_1248 dL_law_1249 (fun hk => ?_) fin
    refine st_lload hC1 dL_law_1250 rfl ?_
    refine st_lcmp_eq (tg := 1258) hC1 dL_law_1252 dL_law_1253 rfl ?_
    rw [if_pos (show o80 τ σ2 88 0 = v by rw [o80_80]; exact gv hk)]
    exact fin
  rcases hj with ⟨v, σ1, g1, g2⟩ | ⟨E, σ1, hE, g1, g2⟩
  · refine xs_callW (As := [rV 19 0, lV (lg2 (sv xs (i + 1)) (sv xs (i + 2))), rV 35 88]) (S := []) W.1 W.2.1 dL_law_1198 (csw_L 3 W.2.2.2.2.2.2.1 gW_readOut ⟨by decide, by decide, rfl⟩ ⟨hfr, by omega⟩) W.2.2.2.2.2.1 rfl (by decide) hcl hsl (w_readOut g1) ?_
    obtain ⟨σ2, g3, g4, g5⟩ := g2 _ (ag_up (σ := σ))
    exact tail 0 _ σ2 v g3 g4 (fun _ => ups_eq9) g5
  · refine xs_callW (As := [rV 19 0, lV (lg2 (sv xs (i + 1)) (sv xs (i + 2))), rV 35 88]) (S := []) W.1 W.2.1 dL_law_1198 (csw_L 3 W.2.2.2.2.2.2.1 gW_readOut ⟨by decide, by decide, rfl⟩ ⟨hfr, by omega⟩) W.2.2.2.2.2.1 rfl (by decide) hcl hsl (w_readOut_x hE g1) ?_
    obtain ⟨v, σ2, g3, g4, g5⟩ := g2 _ (ag_o (σ := σ))
    exact tail (cdI E) _ σ2 v g3 g4 (fun z => absurd z hE) g5
set_option maxRecDepth 20000 in
theorem lc_15 {p : Program} {l : Launch} {e : Env} {R : Room} {s : State} {m : MethodId} {args : Array Value} {below : List Frame} {meth : Method} {c : Code} {K : KT} {A : Nat → Prop} {nL cl sl : Nat} {hh : Prop} {Q : State → Prop} {r : Option FieldType} {σ : Sg} {n : Nat} {xs : Nat → Int32} {P : Sg → Prop} {i : Int} (W : LwC p l R s m args meth c K A nL r hh n xs P) (hi : 0 ≤ i ∧ i + 5 < (n : Int)) (hcl : cl + 1 ≤ R.cells) (hsl : sl + 6 ≤ R.slots) (hj : JtP P MX10_year MX11_year [iV (sv xs (i + 1)), iV (sv xs (i + 2))] (fun v => iV v) cdY σ) (h : ∀ σ2, P σ2 → XM p l e R s m args below meth c K A nL (cl + 1) (sl + 6) Q 3786 (LL i uV uV uV) [] σ2) : XM p l e R s m args below meth c K A nL cl sl Q 1261 (LL i uV uV uV) [] σ := by
  obtain ⟨hfr, hlo, hn⟩ := (⟨W.2.2.2.2.2.2.2.1, W.2.2.2.2.2.2.2.2.1, W.2.2.2.2.2.2.2.2.2.1⟩ : 61 ≤ R.frames ∧ 1940 ≤ R.locals ∧ n < 2147483648)
  have hC := clo_L (Q := Q) (R := R) (e := e) (below := below) (cl := cl) (sl := sl) (d := 40) W.1 W.2.1 (by omega) (by omega) (by omega) (by omega)
  refine st_aload_n hC dL_law_1261 rfl (by decide) (by decide) ?_
  refine sc_rd (j := 1) W hC ⟨by omega, by omega⟩ rfl dL_law_1262 dL_law_1263 dL_law_1265 dL_law_1266 dL_law_1267 ?_
  refine sc_rd (j := 2) W hC ⟨by omega, by omega⟩ rfl dL_law_1268 dL_law_1269 dL_law_1271 dL_law_1272 dL_law_1273 ?_
  refine st_aload_n hC dL_law_1274 rfl (by decide) (by decide) ?_
  have tail : ∀ (k : Int) (τ σ2 : Sg) (v : Int) , Ct 40 MX11_year (rV 20 66 :: [iV (sv xs (i + 1)), iV (sv xs (i + 2))]) τ (.inl [iV v]) σ2 → σ2 66 5 = k → (k = 0 → τ 88 0 = v) → P σ2 → XM p l e R s m args below meth c K A nL (cl + 1) (sl + 6) Q 1278 (LL i uV uV uV) [iV k] τ := by
    intro k τ σ2 v g3 g4 gv g5
    have hC1 := clo_L (Q := Q) (R := R) (e := e) (below := below) (cl := cl + 1) (sl := sl + 6) (d := 40) W.1 W.2.1 (by omega) (by omega) (by omega) (by omega)
    refine st_istore hC1 dL_law_1278 (Nat.le_of_ble_eq_true rfl) (L2 := LL i (iV k) uV uV) rfl ?_
    refine st_aload_n hC1 dL_law_1280 rfl (by decide) (by decide) ?_
    refine sc_rd (j := 1) W hC1 ⟨by omega, by omega⟩ rfl dL_law_1281 dL_law_1282 dL_law_1284 dL_law_1285 dL_law_1286 ?_
    refine sc_rd (j := 2) W hC1 ⟨by omega, by omega⟩ rfl dL_law_1287 dL_law_1288 dL_law_1290 dL_law_1291 dL_law_1292 ?_
    refine st_invV (t := 20) (a := 66) (ci := 10) (As := [iV (sv xs (i + 1)), iV (sv xs (i + 2))]) (S := []) (y := MX11_year) hC1 dL_law_1293 (show look (CLt 12) 234 = some (MX11_year, false, 2) from rfl) rfl rfl (by decide) ⟨by decide, rfl, by decide +kernel⟩ (ctn g3 rfl rfl) ?_
    refine st_istore hC1 dL_law_1296 (Nat.le_of_ble_eq_true rfl) (L2 := LL i (iV k) (iV v) uV) rfl ?_
    refine seg_C (t1 := 1309) W (by omega) (by omega) (show o80 τ σ2 66 5 = k by rw [o80_ne (by decide)]; exact g4) dL_law_1298 dL_law_1299 dL_law_1302 dL_law_1304 rfl ?_
    have fin : XM p l e R s m args below meth c K A nL (cl + 1) (sl + 6) Q 1326 (LL i (iV k) (iV v) uV) [] (o80 τ σ2) := by
      refine st_goto (tg := 3786) hC1 dL_law_1326 rfl ?_
      exact st_fg hC1 wk_L (h _ (W.2.2.2.2.2.2.2.2.2.2.2 _ _ ag_o g5))
    refine seg_D (t1 := 1326) W (by omega) (by omega) dL_law_1309 dL_law_1311 rfl dL_law_1314 dL_law_1315 dL_law_1316 (fun hk => ?_) fin
    refine st_iload hC1 dL_law_1317 rfl ?_
    refine st_i2l hC1 dL_law_1319 ?_
    refine st_lcmp_eq (tg := 1326) hC1 dL_law_1320 dL_law_1321 rfl ?_
    rw [if_pos (show o80 τ σ2 88 0 = v by rw [o80_80]; exact gv hk)]
    exact fin
  rcases hj with ⟨v, σ1, g1, g2⟩ | ⟨E, σ1, hE, g1, g2⟩
  · refine xs_callW (As := [rV 19 0, iV (sv xs (i + 1)), iV (sv xs (i + 2)), rV 35 88]) (S := []) W.1 W.2.1 dL_law_1275 (csw_L 4 W.2.2.2.2.2.2.1 gW_year ⟨by decide, by decide, rfl⟩ ⟨hfr, by omega⟩) W.2.2.2.2.2.1 rfl (by decide) hcl hsl (w_year g1) ?_
    obtain ⟨σ2, g3, g4, g5⟩ := g2 _ (ag_up (σ := σ))
    exact tail 0 _ σ2 v g3 g4 (fun _ => ups_eq9) g5
  · refine xs_callW (As := [rV 19 0, iV (sv xs (i + 1)), iV (sv xs (i + 2)), rV 35 88]) (S := []) W.1 W.2.1 dL_law_1275 (csw_L 4 W.2.2.2.2.2.2.1 gW_year ⟨by decide, by decide, rfl⟩ ⟨hfr, by omega⟩) W.2.2.2.2.2.1 rfl (by decide) hcl hsl (w_year_x hE g1) ?_
    obtain ⟨v, σ2, g3, g4, g5⟩ := g2 _ (ag_o (σ := σ))
    exact tail (cdY E) _ σ2 v g3 g4 (fun z => absurd z hE) g5
set_option maxRecDepth 20000 in
theorem lc_16 {p : Program} {l : Launch} {e : Env} {R : Room} {s : State} {m : MethodId} {args : Array Value} {below : List Frame} {meth : Method} {c : Code} {K : KT} {A : Nat → Prop} {nL cl sl : Nat} {hh : Prop} {Q : State → Prop} {r : Option FieldType} {σ : Sg} {n : Nat} {xs : Nat → Int32} {P : Sg → Prop} {i : Int} (W : LwC p l R s m args meth c K A nL r hh n xs P) (hi : 0 ≤ i ∧ i + 5 < (n : Int)) (hcl : cl + 1 ≤ R.cells) (hsl : sl + 6 ≤ R.slots) (hj : JtP P MX10_judge MX11_judge [iV (sv xs (i + 1)), iV (sv xs (i + 2))] (fun v => iV v) cdJ σ) (h : ∀ σ2, P σ2 → XM p l e R s m args below meth c K A nL (cl + 1) (sl + 6) Q 3786 (LL i uV uV uV) [] σ2) : XM p l e R s m args below meth c K A nL cl sl Q 1329 (LL i uV uV uV) [] σ := by
  obtain ⟨hfr, hlo, hn⟩ := (⟨W.2.2.2.2.2.2.2.1, W.2.2.2.2.2.2.2.2.1, W.2.2.2.2.2.2.2.2.2.1⟩ : 61 ≤ R.frames ∧ 1940 ≤ R.locals ∧ n < 2147483648)
  have hC := clo_L (Q := Q) (R := R) (e := e) (below := below) (cl := cl) (sl := sl) (d := 40) W.1 W.2.1 (by omega) (by omega) (by omega) (by omega)
  refine st_aload_n hC dL_law_1329 rfl (by decide) (by decide) ?_
  refine sc_rd (j := 1) W hC ⟨by omega, by omega⟩ rfl dL_law_1330 dL_law_1331 dL_law_1333 dL_law_1334 dL_law_1335 ?_
  refine sc_rd (j := 2) W hC ⟨by omega, by omega⟩ rfl dL_law_1336 dL_law_1337 dL_law_1339 dL_law_1340 dL_law_1341 ?_
  refine st_aload_n hC dL_law_1342 rfl (by decide) (by decide) ?_
  have tail : ∀ (k : Int) (τ σ2 : Sg) (v : Int) , Ct 40 MX11_judge (rV 20 66 :: [iV (sv xs (i + 1)), iV (sv xs (i + 2))]) τ (.inl [iV v]) σ2 → σ2 66 5 = k → (k = 0 → τ 88 0 = v) → P σ2 → XM p l e R s m args below meth c K A nL (cl + 1) (sl + 6) Q 1346 (LL i uV uV uV) [iV k] τ := by
    intro k τ σ2 v g3 g4 gv g5
    have hC1 := clo_L (Q := Q) (R := R) (e := e) (below := below) (cl := cl + 1) (sl := sl + 6) (d := 40) W.1 W.2.1 (by omega) (by omega) (by omega) (by omega)
    refine st_istore hC1 dL_law_1346 (Nat.le_of_ble_eq_true rfl) (L2 := LL i (iV k) uV uV) rfl ?_
    refine st_aload_n hC1 dL_law_1348 rfl (by decide) (by decide) ?_
    refine sc_rd (j := 1) W hC1 ⟨by omega, by omega⟩ rfl dL_law_1349 dL_law_1350 dL_law_1352 dL_law_1353 dL_law_1354 ?_
    refine sc_rd (j := 2) W hC1 ⟨by omega, by omega⟩ rfl dL_law_1355 dL_law_1356 dL_law_1358 dL_law_1359 dL_law_1360 ?_
    refine st_invV (t := 20) (a := 66) (ci := 10) (As := [iV (sv xs (i + 1)), iV (sv xs (i + 2))]) (S := []) (y := MX11_judge) hC1 dL_law_1361 (show look (CLt 12) 237 = some (MX11_judge, false, 2) from rfl) rfl rfl (by decide) ⟨by decide, rfl, by decide +kernel⟩ (ctn g3 rfl rfl) ?_
    refine st_istore hC1 dL_law_1364 (Nat.le_of_ble_eq_true rfl) (L2 := LL i (iV k) (iV v) uV) rfl ?_
    refine seg_C (t1 := 1377) W (by omega) (by omega) (show o80 τ σ2 66 5 = k by rw [o80_ne (by decide)]; exact g4) dL_law_1366 dL_law_1367 dL_law_1370 dL_law_1372 rfl ?_
    have fin : XM p l e R s m args below meth c K A nL (cl + 1) (sl + 6) Q 1394 (LL i (iV k) (iV v) uV) [] (o80 τ σ2) := by
      refine st_goto (tg := 3786) hC1 dL_law_1394 rfl ?_
      exact st_fg hC1 wk_L (h _ (W.2.2.2.2.2.2.2.2.2.2.2 _ _ ag_o g5))
    refine seg_D (t1 := 1394) W (by omega) (by omega) dL_law_1377 dL_law_1379 rfl dL_law_1382 dL_law_1383 dL_law_1384 (fun hk => ?_) fin
    refine st_iload hC1 dL_law_1385 rfl ?_
    refine st_i2l hC1 dL_law_1387 ?_
    refine st_lcmp_eq (tg := 1394) hC1 dL_law_1388 dL_law_1389 rfl ?_
    rw [if_pos (show o80 τ σ2 88 0 = v by rw [o80_80]; exact gv hk)]
    exact fin
  rcases hj with ⟨v, σ1, g1, g2⟩ | ⟨E, σ1, hE, g1, g2⟩
  · refine xs_callW (As := [rV 19 0, iV (sv xs (i + 1)), iV (sv xs (i + 2)), rV 35 88]) (S := []) W.1 W.2.1 dL_law_1343 (csw_L 4 W.2.2.2.2.2.2.1 gW_judge ⟨by decide, by decide, rfl⟩ ⟨hfr, by omega⟩) W.2.2.2.2.2.1 rfl (by decide) hcl hsl (w_judge g1) ?_
    obtain ⟨σ2, g3, g4, g5⟩ := g2 _ (ag_up (σ := σ))
    exact tail 0 _ σ2 v g3 g4 (fun _ => ups_eq9) g5
  · refine xs_callW (As := [rV 19 0, iV (sv xs (i + 1)), iV (sv xs (i + 2)), rV 35 88]) (S := []) W.1 W.2.1 dL_law_1343 (csw_L 4 W.2.2.2.2.2.2.1 gW_judge ⟨by decide, by decide, rfl⟩ ⟨hfr, by omega⟩) W.2.2.2.2.2.1 rfl (by decide) hcl hsl (w_judge_x hE g1) ?_
    obtain ⟨v, σ2, g3, g4, g5⟩ := g2 _ (ag_o (σ := σ))
    exact tail (cdJ E) _ σ2 v g3 g4 (fun z => absurd z hE) g5
set_option maxRecDepth 20000 in
theorem lc_17 {p : Program} {l : Launch} {e : Env} {R : Room} {s : State} {m : MethodId} {args : Array Value} {below : List Frame} {meth : Method} {c : Code} {K : KT} {A : Nat → Prop} {nL cl sl : Nat} {hh : Prop} {Q : State → Prop} {r : Option FieldType} {σ : Sg} {n : Nat} {xs : Nat → Int32} {P : Sg → Prop} {i : Int} (W : LwC p l R s m args meth c K A nL r hh n xs P) (hi : 0 ≤ i ∧ i + 5 < (n : Int)) (hcl : cl + 1 ≤ R.cells) (hsl : sl + 6 ≤ R.slots) (hj : JtP P MX10_perform MX11_perform [iV (sv xs (i + 1))] (fun v => iV v) cdP σ) (h : ∀ σ2, P σ2 → XM p l e R s m args below meth c K A nL (cl + 1) (sl + 6) Q 3786 (LL i uV uV uV) [] σ2) : XM p l e R s m args below meth c K A nL cl sl Q 1397 (LL i uV uV uV) [] σ := by
  obtain ⟨hfr, hlo, hn⟩ := (⟨W.2.2.2.2.2.2.2.1, W.2.2.2.2.2.2.2.2.1, W.2.2.2.2.2.2.2.2.2.1⟩ : 61 ≤ R.frames ∧ 1940 ≤ R.locals ∧ n < 2147483648)
  have hC := clo_L (Q := Q) (R := R) (e := e) (below := below) (cl := cl) (sl := sl) (d := 40) W.1 W.2.1 (by omega) (by omega) (by omega) (by omega)
  refine st_aload_n hC dL_law_1397 rfl (by decide) (by decide) ?_
  refine sc_rd (j := 1) W hC ⟨by omega, by omega⟩ rfl dL_law_1398 dL_law_1399 dL_law_1401 dL_law_1402 dL_law_1403 ?_
  refine st_aload_n hC dL_law_1404 rfl (by decide) (by decide) ?_
  have tail : ∀ (k : Int) (τ σ2 : Sg) (v : Int) , Ct 40 MX11_perform (rV 20 66 :: [iV (sv xs (i + 1))]) τ (.inl [iV v]) σ2 → σ2 66 5 = k → (k = 0 → τ 88 0 = v) → P σ2 → XM p l e R s m args below meth c K A nL (cl + 1) (sl + 6) Q 1408 (LL i uV uV uV) [iV k] τ := by
    intro k τ σ2 v g3 g4 gv g5
    have hC1 := clo_L (Q := Q) (R := R) (e := e) (below := below) (cl := cl + 1) (sl := sl + 6) (d := 40) W.1 W.2.1 (by omega) (by omega) (by omega) (by omega)
    refine st_istore hC1 dL_law_1408 (Nat.le_of_ble_eq_true rfl) (L2 := LL i (iV k) uV uV) rfl ?_
    refine st_aload_n hC1 dL_law_1410 rfl (by decide) (by decide) ?_
    refine sc_rd (j := 1) W hC1 ⟨by omega, by omega⟩ rfl dL_law_1411 dL_law_1412 dL_law_1414 dL_law_1415 dL_law_1416 ?_
    refine st_invV (t := 20) (a := 66) (ci := 10) (As := [iV (sv xs (i + 1))]) (S := []) (y := MX11_perform) hC1 dL_law_1417 (show look (CLt 12) 240 = some (MX11_perform, false, 1) from rfl) rfl rfl (by decide) ⟨by decide, rfl, by decide +kernel⟩ (ctn g3 rfl rfl) ?_
    refine st_istore hC1 dL_law_1420 (Nat.le_of_ble_eq_true rfl) (L2 := LL i (iV k) (iV v) uV) rfl ?_
    refine seg_C (t1 := 1433) W (by omega) (by omega) (show o80 τ σ2 66 5 = k by rw [o80_ne (by decide)]; exact g4) dL_law_1422 dL_law_1423 dL_law_1426 dL_law_1428 rfl ?_
    have fin : XM p l e R s m args below meth c K A nL (cl + 1) (sl + 6) Q 1450 (LL i (iV k) (iV v) uV) [] (o80 τ σ2) := by
      refine st_goto (tg := 3786) hC1 dL_law_1450 rfl ?_
      exact st_fg hC1 wk_L (h _ (W.2.2.2.2.2.2.2.2.2.2.2 _ _ ag_o g5))
    refine seg_D (t1 := 1450) W (by omega) (by omega) dL_law_1433 dL_law_1435 rfl dL_law_1438 dL_law_1439 dL_law_1440 (fun hk => ?_) fin
    refine st_iload hC1 dL_law_1441 rfl ?_
    refine st_i2l hC1 dL_law_1443 ?_
    refine st_lcmp_eq (tg := 1450) hC1 dL_law_1444 dL_law_1445 rfl ?_
    rw [if_pos (show o80 τ σ2 88 0 = v by rw [o80_80]; exact gv hk)]
    exact fin
  rcases hj with ⟨v, σ1, g1, g2⟩ | ⟨E, σ1, hE, g1, g2⟩
  · refine xs_callW (As := [rV 19 0, iV (sv xs (i + 1)), rV 35 88]) (S := []) W.1 W.2.1 dL_law_1405 (csw_L 3 W.2.2.2.2.2.2.1 gW_perform ⟨by decide, by decide, rfl⟩ ⟨hfr, by omega⟩) W.2.2.2.2.2.1 rfl (by decide) hcl hsl (w_perform g1) ?_
    obtain ⟨σ2, g3, g4, g5⟩ := g2 _ (ag_up (σ := σ))
    exact tail 0 _ σ2 v g3 g4 (fun _ => ups_eq9) g5
  · refine xs_callW (As := [rV 19 0, iV (sv xs (i + 1)), rV 35 88]) (S := []) W.1 W.2.1 dL_law_1405 (csw_L 3 W.2.2.2.2.2.2.1 gW_perform ⟨by decide, by decide, rfl⟩ ⟨hfr, by omega⟩) W.2.2.2.2.2.1 rfl (by decide) hcl hsl (w_perform_x hE g1) ?_
    obtain ⟨v, σ2, g3, g4, g5⟩ := g2 _ (ag_o (σ := σ))
    exact tail (cdP E) _ σ2 v g3 g4 (fun z => absurd z hE) g5
set_option maxRecDepth 20000 in
theorem lc_18 {p : Program} {l : Launch} {e : Env} {R : Room} {s : State} {m : MethodId} {args : Array Value} {below : List Frame} {meth : Method} {c : Code} {K : KT} {A : Nat → Prop} {nL cl sl : Nat} {hh : Prop} {Q : State → Prop} {r : Option FieldType} {σ : Sg} {n : Nat} {xs : Nat → Int32} {P : Sg → Prop} {i : Int} (W : LwC p l R s m args meth c K A nL r hh n xs P) (hi : 0 ≤ i ∧ i + 5 < (n : Int)) (hcl : cl + 1 ≤ R.cells) (hsl : sl + 6 ≤ R.slots) (hj : JtP P MX10_prices MX11_prices [iV (sv xs (i + 1))] (fun v => iV v) cdN σ) (h : ∀ σ2, P σ2 → XM p l e R s m args below meth c K A nL (cl + 1) (sl + 6) Q 3786 (LL i uV uV uV) [] σ2) : XM p l e R s m args below meth c K A nL cl sl Q 1453 (LL i uV uV uV) [] σ := by
  obtain ⟨hfr, hlo, hn⟩ := (⟨W.2.2.2.2.2.2.2.1, W.2.2.2.2.2.2.2.2.1, W.2.2.2.2.2.2.2.2.2.1⟩ : 61 ≤ R.frames ∧ 1940 ≤ R.locals ∧ n < 2147483648)
  have hC := clo_L (Q := Q) (R := R) (e := e) (below := below) (cl := cl) (sl := sl) (d := 40) W.1 W.2.1 (by omega) (by omega) (by omega) (by omega)
  refine st_aload_n hC dL_law_1453 rfl (by decide) (by decide) ?_
  refine sc_rd (j := 1) W hC ⟨by omega, by omega⟩ rfl dL_law_1454 dL_law_1455 dL_law_1457 dL_law_1458 dL_law_1459 ?_
  refine st_aload_n hC dL_law_1460 rfl (by decide) (by decide) ?_
  have tail : ∀ (k : Int) (τ σ2 : Sg) (v : Int) , Ct 40 MX11_prices (rV 20 66 :: [iV (sv xs (i + 1))]) τ (.inl [iV v]) σ2 → σ2 66 5 = k → (k = 0 → τ 88 0 = v) → P σ2 → XM p l e R s m args below meth c K A nL (cl + 1) (sl + 6) Q 1464 (LL i uV uV uV) [iV k] τ := by
    intro k τ σ2 v g3 g4 gv g5
    have hC1 := clo_L (Q := Q) (R := R) (e := e) (below := below) (cl := cl + 1) (sl := sl + 6) (d := 40) W.1 W.2.1 (by omega) (by omega) (by omega) (by omega)
    refine st_istore hC1 dL_law_1464 (Nat.le_of_ble_eq_true rfl) (L2 := LL i (iV k) uV uV) rfl ?_
    refine st_aload_n hC1 dL_law_1466 rfl (by decide) (by decide) ?_
    refine sc_rd (j := 1) W hC1 ⟨by omega, by omega⟩ rfl dL_law_1467 dL_law_1468 dL_law_1470 dL_law_1471 dL_law_1472 ?_
    refine st_invV (t := 20) (a := 66) (ci := 10) (As := [iV (sv xs (i + 1))]) (S := []) (y := MX11_prices) hC1 dL_law_1473 (show look (CLt 12) 243 = some (MX11_prices, false, 1) from rfl) rfl rfl (by decide) ⟨by decide, rfl, by decide +kernel⟩ (ctn g3 rfl rfl) ?_
    refine st_istore hC1 dL_law_1476 (Nat.le_of_ble_eq_true rfl) (L2 := LL i (iV k) (iV v) uV) rfl ?_
    refine seg_C (t1 := 1489) W (by omega) (by omega) (show o80 τ σ2 66 5 = k by rw [o80_ne (by decide)]; exact g4) dL_law_1478 dL_law_1479 dL_law_1482 dL_law_1484 rfl ?_
    have fin : XM p l e R s m args below meth c K A nL (cl + 1) (sl + 6) Q 1506 (LL i (iV k) (iV v) uV) [] (o80 τ σ2) := by
      refine st_goto (tg := 3786) hC1 dL_law_1506 rfl ?_
      exact st_fg hC1 wk_L (h _ (W.2.2.2.2.2.2.2.2.2.2.2 _ _ ag_o g5))
    refine seg_D (t1 := 1506) W (by omega) (by omega) dL_law_1489 dL_law_1491 rfl dL_law_1494 dL_law_1495 dL_law_1496 (fun hk => ?_) fin
    refine st_iload hC1 dL_law_1497 rfl ?_
    refine st_i2l hC1 dL_law_1499 ?_
    refine st_lcmp_eq (tg := 1506) hC1 dL_law_1500 dL_law_1501 rfl ?_
    rw [if_pos (show o80 τ σ2 88 0 = v by rw [o80_80]; exact gv hk)]
    exact fin
  rcases hj with ⟨v, σ1, g1, g2⟩ | ⟨E, σ1, hE, g1, g2⟩
  · refine xs_callW (As := [rV 19 0, iV (sv xs (i + 1)), rV 35 88]) (S := []) W.1 W.2.1 dL_law_1461 (csw_L 3 W.2.2.2.2.2.2.1 gW_prices ⟨by decide, by decide, rfl⟩ ⟨hfr, by omega⟩) W.2.2.2.2.2.1 rfl (by decide) hcl hsl (w_prices g1) ?_
    obtain ⟨σ2, g3, g4, g5⟩ := g2 _ (ag_up (σ := σ))
    exact tail 0 _ σ2 v g3 g4 (fun _ => ups_eq9) g5
  · refine xs_callW (As := [rV 19 0, iV (sv xs (i + 1)), rV 35 88]) (S := []) W.1 W.2.1 dL_law_1461 (csw_L 3 W.2.2.2.2.2.2.1 gW_prices ⟨by decide, by decide, rfl⟩ ⟨hfr, by omega⟩) W.2.2.2.2.2.1 rfl (by decide) hcl hsl (w_prices_x hE g1) ?_
    obtain ⟨v, σ2, g3, g4, g5⟩ := g2 _ (ag_o (σ := σ))
    exact tail (cdN E) _ σ2 v g3 g4 (fun z => absurd z hE) g5
set_option maxRecDepth 20000 in
theorem lc_19 {p : Program} {l : Launch} {e : Env} {R : Room} {s : State} {m : MethodId} {args : Array Value} {below : List Frame} {meth : Method} {c : Code} {K : KT} {A : Nat → Prop} {nL cl sl : Nat} {hh : Prop} {Q : State → Prop} {r : Option FieldType} {σ : Sg} {n : Nat} {xs : Nat → Int32} {P : Sg → Prop} {i : Int} (W : LwC p l R s m args meth c K A nL r hh n xs P) (hi : 0 ≤ i ∧ i + 5 < (n : Int)) (hcl : cl + 1 ≤ R.cells) (hsl : sl + 6 ≤ R.slots) (hj : JtP P MX10_price MX11_price [iV (sv xs (i + 1)), iV (sv xs (i + 2))] (fun v => lV v) cdN σ) (h : ∀ σ2, P σ2 → XM p l e R s m args below meth c K A nL (cl + 1) (sl + 6) Q 3786 (LL i uV uV uV) [] σ2) : XM p l e R s m args below meth c K A nL cl sl Q 1509 (LL i uV uV uV) [] σ := by
  obtain ⟨hfr, hlo, hn⟩ := (⟨W.2.2.2.2.2.2.2.1, W.2.2.2.2.2.2.2.2.1, W.2.2.2.2.2.2.2.2.2.1⟩ : 61 ≤ R.frames ∧ 1940 ≤ R.locals ∧ n < 2147483648)
  have hC := clo_L (Q := Q) (R := R) (e := e) (below := below) (cl := cl) (sl := sl) (d := 40) W.1 W.2.1 (by omega) (by omega) (by omega) (by omega)
  refine st_aload_n hC dL_law_1509 rfl (by decide) (by decide) ?_
  refine sc_rd (j := 1) W hC ⟨by omega, by omega⟩ rfl dL_law_1510 dL_law_1511 dL_law_1513 dL_law_1514 dL_law_1515 ?_
  refine sc_rd (j := 2) W hC ⟨by omega, by omega⟩ rfl dL_law_1516 dL_law_1517 dL_law_1519 dL_law_1520 dL_law_1521 ?_
  refine st_aload_n hC dL_law_1522 rfl (by decide) (by decide) ?_
  have tail : ∀ (k : Int) (τ σ2 : Sg) (v : Int) , Ct 40 MX11_price (rV 20 66 :: [iV (sv xs (i + 1)), iV (sv xs (i + 2))]) τ (.inl [lV v]) σ2 → σ2 66 5 = k → (k = 0 → τ 88 0 = v) → P σ2 → XM p l e R s m args below meth c K A nL (cl + 1) (sl + 6) Q 1526 (LL i uV uV uV) [iV k] τ := by
    intro k τ σ2 v g3 g4 gv g5
    have hC1 := clo_L (Q := Q) (R := R) (e := e) (below := below) (cl := cl + 1) (sl := sl + 6) (d := 40) W.1 W.2.1 (by omega) (by omega) (by omega) (by omega)
    refine st_istore hC1 dL_law_1526 (Nat.le_of_ble_eq_true rfl) (L2 := LL i (iV k) uV uV) rfl ?_
    refine st_aload_n hC1 dL_law_1528 rfl (by decide) (by decide) ?_
    refine sc_rd (j := 1) W hC1 ⟨by omega, by omega⟩ rfl dL_law_1529 dL_law_1530 dL_law_1532 dL_law_1533 dL_law_1534 ?_
    refine sc_rd (j := 2) W hC1 ⟨by omega, by omega⟩ rfl dL_law_1535 dL_law_1536 dL_law_1538 dL_law_1539 dL_law_1540 ?_
    refine st_invV (t := 20) (a := 66) (ci := 10) (As := [iV (sv xs (i + 1)), iV (sv xs (i + 2))]) (S := []) (y := MX11_price) hC1 dL_law_1541 (show look (CLt 12) 246 = some (MX11_price, false, 2) from rfl) rfl rfl (by decide) ⟨by decide, rfl, by decide +kernel⟩ (ctn g3 rfl rfl) ?_
    refine st_lstore hC1 dL_law_1544 (Nat.le_of_ble_eq_true rfl) (L2 := LL i (iV k) (lV v) uV) rfl ?_
    refine seg_C (t1 := 1557) W (by omega) (by omega) (show o80 τ σ2 66 5 = k by rw [o80_ne (by decide)]; exact g4) dL_law_1546 dL_law_1547 dL_law_1550 dL_law_1552 rfl ?_
    have fin : XM p l e R s m args below meth c K A nL (cl + 1) (sl + 6) Q 1573 (LL i (iV k) (lV v) uV) [] (o80 τ σ2) := by
      refine st_goto (tg := 3786) hC1 dL_law_1573 rfl ?_
      exact st_fg hC1 wk_L (h _ (W.2.2.2.2.2.2.2.2.2.2.2 _ _ ag_o g5))
    refine seg_D (t1 := 1573) W (by omega) (by omega) dL_law_1557 dL_law_1559 rfl dL_law_1562 dL_law_1563 dL_law_1564 (fun hk => ?_) fin
    refine st_lload hC1 dL_law_1565 rfl ?_
    refine st_lcmp_eq (tg := 1573) hC1 dL_law_1567 dL_law_1568 rfl ?_
    rw [if_pos (show o80 τ σ2 88 0 = v by rw [o80_80]; exact gv hk)]
    exact fin
  rcases hj with ⟨v, σ1, g1, g2⟩ | ⟨E, σ1, hE, g1, g2⟩
  · refine xs_callW (As := [rV 19 0, iV (sv xs (i + 1)), iV (sv xs (i + 2)), rV 35 88]) (S := []) W.1 W.2.1 dL_law_1523 (csw_L 4 W.2.2.2.2.2.2.1 gW_price ⟨by decide, by decide, rfl⟩ ⟨hfr, by omega⟩) W.2.2.2.2.2.1 rfl (by decide) hcl hsl (w_price g1) ?_
    obtain ⟨σ2, g3, g4, g5⟩ := g2 _ (ag_up (σ := σ))
    exact tail 0 _ σ2 v g3 g4 (fun _ => ups_eq9) g5
  · refine xs_callW (As := [rV 19 0, iV (sv xs (i + 1)), iV (sv xs (i + 2)), rV 35 88]) (S := []) W.1 W.2.1 dL_law_1523 (csw_L 4 W.2.2.2.2.2.2.1 gW_price ⟨by decide, by decide, rfl⟩ ⟨hfr, by omega⟩) W.2.2.2.2.2.1 rfl (by decide) hcl hsl (w_price_x hE g1) ?_
    obtain ⟨v, σ2, g3, g4, g5⟩ := g2 _ (ag_o (σ := σ))
    exact tail (cdN E) _ σ2 v g3 g4 (fun z => absurd z hE) g5
set_option maxRecDepth 20000 in
theorem lc_20 {p : Program} {l : Launch} {e : Env} {R : Room} {s : State} {m : MethodId} {args : Array Value} {below : List Frame} {meth : Method} {c : Code} {K : KT} {A : Nat → Prop} {nL cl sl : Nat} {hh : Prop} {Q : State → Prop} {r : Option FieldType} {σ : Sg} {n : Nat} {xs : Nat → Int32} {P : Sg → Prop} {i : Int} (W : LwC p l R s m args meth c K A nL r hh n xs P) (hi : 0 ≤ i ∧ i + 5 < (n : Int)) (hcl : cl + 1 ≤ R.cells) (hsl : sl + 6 ≤ R.slots) (hj : JtP P MX10_gap MX11_gap [iV (sv xs (i + 1))] (fun v => lV v) cdN σ) (h : ∀ σ2, P σ2 → XM p l e R s m args below meth c K A nL (cl + 1) (sl + 6) Q 3786 (LL i uV uV uV) [] σ2) : XM p l e R s m args below meth c K A nL cl sl Q 1576 (LL i uV uV uV) [] σ := by
  obtain ⟨hfr, hlo, hn⟩ := (⟨W.2.2.2.2.2.2.2.1, W.2.2.2.2.2.2.2.2.1, W.2.2.2.2.2.2.2.2.2.1⟩ : 61 ≤ R.frames ∧ 1940 ≤ R.locals ∧ n < 2147483648)
  have hC := clo_L (Q := Q) (R := R) (e := e) (below := below) (cl := cl) (sl := sl) (d := 40) W.1 W.2.1 (by omega) (by omega) (by omega) (by omega)
  refine st_aload_n hC dL_law_1576 rfl (by decide) (by decide) ?_
  refine sc_rd (j := 1) W hC ⟨by omega, by omega⟩ rfl dL_law_1577 dL_law_1578 dL_law_1580 dL_law_1581 dL_law_1582 ?_
  refine st_aload_n hC dL_law_1583 rfl (by decide) (by decide) ?_
  have tail : ∀ (k : Int) (τ σ2 : Sg) (v : Int) , Ct 40 MX11_gap (rV 20 66 :: [iV (sv xs (i + 1))]) τ (.inl [lV v]) σ2 → σ2 66 5 = k → (k = 0 → τ 88 0 = v) → P σ2 → XM p l e R s m args below meth c K A nL (cl + 1) (sl + 6) Q 1587 (LL i uV uV uV) [iV k] τ := by
    intro k τ σ2 v g3 g4 gv g5
    have hC1 := clo_L (Q := Q) (R := R) (e := e) (below := below) (cl := cl + 1) (sl := sl + 6) (d := 40) W.1 W.2.1 (by omega) (by omega) (by omega) (by omega)
    refine st_istore hC1 dL_law_1587 (Nat.le_of_ble_eq_true rfl) (L2 := LL i (iV k) uV uV) rfl ?_
    refine st_aload_n hC1 dL_law_1589 rfl (by decide) (by decide) ?_
    refine sc_rd (j := 1) W hC1 ⟨by omega, by omega⟩ rfl dL_law_1590 dL_law_1591 dL_law_1593 dL_law_1594 dL_law_1595 ?_
    refine st_invV (t := 20) (a := 66) (ci := 10) (As := [iV (sv xs (i + 1))]) (S := []) (y := MX11_gap) hC1 dL_law_1596 (show look (CLt 12) 249 = some (MX11_gap, false, 1) from rfl) rfl rfl (by decide) ⟨by decide, rfl, by decide +kernel⟩ (ctn g3 rfl rfl) ?_
    refine st_lstore hC1 dL_law_1599 (Nat.le_of_ble_eq_true rfl) (L2 := LL i (iV k) (lV v) uV) rfl ?_
    refine seg_C (t1 := 1612) W (by omega) (by omega) (show o80 τ σ2 66 5 = k by rw [o80_ne (by decide)]; exact g4) dL_law_1601 dL_law_1602 dL_law_1605 dL_law_1607 rfl ?_
    have fin : XM p l e R s m args below meth c K A nL (cl + 1) (sl + 6) Q 1628 (LL i (iV k) (lV v) uV) [] (o80 τ σ2) := by
      refine st_goto (tg := 3786) hC1 dL_law_1628 rfl ?_
      exact st_fg hC1 wk_L (h _ (W.2.2.2.2.2.2.2.2.2.2.2 _ _ ag_o g5))
    refine seg_D (t1 := 1628) W (by omega) (by omega) dL_law_1612 dL_law_1614 rfl dL_law_1617 dL_law_1618 dL_law_1619 (fun hk => ?_) fin
    refine st_lload hC1 dL_law_1620 rfl ?_
    refine st_lcmp_eq (tg := 1628) hC1 dL_law_1622 dL_law_1623 rfl ?_
    rw [if_pos (show o80 τ σ2 88 0 = v by rw [o80_80]; exact gv hk)]
    exact fin
  rcases hj with ⟨v, σ1, g1, g2⟩ | ⟨E, σ1, hE, g1, g2⟩
  · refine xs_callW (As := [rV 19 0, iV (sv xs (i + 1)), rV 35 88]) (S := []) W.1 W.2.1 dL_law_1584 (csw_L 3 W.2.2.2.2.2.2.1 gW_gap ⟨by decide, by decide, rfl⟩ ⟨hfr, by omega⟩) W.2.2.2.2.2.1 rfl (by decide) hcl hsl (w_gap g1) ?_
    obtain ⟨σ2, g3, g4, g5⟩ := g2 _ (ag_up (σ := σ))
    exact tail 0 _ σ2 v g3 g4 (fun _ => ups_eq9) g5
  · refine xs_callW (As := [rV 19 0, iV (sv xs (i + 1)), rV 35 88]) (S := []) W.1 W.2.1 dL_law_1584 (csw_L 3 W.2.2.2.2.2.2.1 gW_gap ⟨by decide, by decide, rfl⟩ ⟨hfr, by omega⟩) W.2.2.2.2.2.1 rfl (by decide) hcl hsl (w_gap_x hE g1) ?_
    obtain ⟨v, σ2, g3, g4, g5⟩ := g2 _ (ag_o (σ := σ))
    exact tail (cdN E) _ σ2 v g3 g4 (fun z => absurd z hE) g5
set_option maxRecDepth 20000 in
theorem lc_21 {p : Program} {l : Launch} {e : Env} {R : Room} {s : State} {m : MethodId} {args : Array Value} {below : List Frame} {meth : Method} {c : Code} {K : KT} {A : Nat → Prop} {nL cl sl : Nat} {hh : Prop} {Q : State → Prop} {r : Option FieldType} {σ : Sg} {n : Nat} {xs : Nat → Int32} {P : Sg → Prop} {i : Int} (W : LwC p l R s m args meth c K A nL r hh n xs P) (hi : 0 ≤ i ∧ i + 5 < (n : Int)) (hcl : cl + 1 ≤ R.cells) (hsl : sl + 6 ≤ R.slots) (hj : JtP P MX10_nearest MX11_nearest [iV (sv xs (i + 1)), lV (lg2 (sv xs (i + 2)) (sv xs (i + 3)))] (fun v => lV v) cdN σ) (h : ∀ σ2, P σ2 → XM p l e R s m args below meth c K A nL (cl + 1) (sl + 6) Q 3786 (LL i uV uV uV) [] σ2) : XM p l e R s m args below meth c K A nL cl sl Q 1631 (LL i uV uV uV) [] σ := by
  obtain ⟨hfr, hlo, hn⟩ := (⟨W.2.2.2.2.2.2.2.1, W.2.2.2.2.2.2.2.2.1, W.2.2.2.2.2.2.2.2.2.1⟩ : 61 ≤ R.frames ∧ 1940 ≤ R.locals ∧ n < 2147483648)
  have hC := clo_L (Q := Q) (R := R) (e := e) (below := below) (cl := cl) (sl := sl) (d := 40) W.1 W.2.1 (by omega) (by omega) (by omega) (by omega)
  refine st_aload_n hC dL_law_1631 rfl (by decide) (by decide) ?_
  refine sc_rd (j := 1) W hC ⟨by omega, by omega⟩ rfl dL_law_1632 dL_law_1633 dL_law_1635 dL_law_1636 dL_law_1637 ?_
  refine sc_rl (j := 2) (j' := 3) W hC ⟨by omega, by omega⟩ rfl ⟨by omega, by omega⟩ rfl dL_law_1638 dL_law_1639 dL_law_1641 dL_law_1642 dL_law_1643 dL_law_1644 dL_law_1645 dL_law_1647 dL_law_1648 dL_law_1649 dL_law_1651 dL_law_1652 dL_law_1653 dL_law_1654 dL_law_1655 dL_law_1658 dL_law_1659 ?_
  refine st_aload_n hC dL_law_1660 rfl (by decide) (by decide) ?_
  have tail : ∀ (k : Int) (τ σ2 : Sg) (v : Int) , Ct 40 MX11_nearest (rV 20 66 :: [iV (sv xs (i + 1)), lV (lg2 (sv xs (i + 2)) (sv xs (i + 3)))]) τ (.inl [lV v]) σ2 → σ2 66 5 = k → (k = 0 → τ 88 0 = v) → P σ2 → XM p l e R s m args below meth c K A nL (cl + 1) (sl + 6) Q 1664 (LL i uV uV uV) [iV k] τ := by
    intro k τ σ2 v g3 g4 gv g5
    have hC1 := clo_L (Q := Q) (R := R) (e := e) (below := below) (cl := cl + 1) (sl := sl + 6) (d := 40) W.1 W.2.1 (by omega) (by omega) (by omega) (by omega)
    refine st_istore hC1 dL_law_1664 (Nat.le_of_ble_eq_true rfl) (L2 := LL i (iV k) uV uV) rfl ?_
    refine st_aload_n hC1 dL_law_1666 rfl (by decide) (by decide) ?_
    refine sc_rd (j := 1) W hC1 ⟨by omega, by omega⟩ rfl dL_law_1667 dL_law_1668 dL_law_1670 dL_law_1671 dL_law_1672 ?_
    refine sc_rl (j := 2) (j' := 3) W hC1 ⟨by omega, by omega⟩ rfl ⟨by omega, by omega⟩ rfl dL_law_1673 dL_law_1674 dL_law_1676 dL_law_1677 dL_law_1678 dL_law_1679 dL_law_1680 dL_law_1682 dL_law_1683 dL_law_1684 dL_law_1686 dL_law_1687 dL_law_1688 dL_law_1689 dL_law_1690 dL_law_1693 dL_law_1694 ?_
    refine st_invV (t := 20) (a := 66) (ci := 10) (As := [iV (sv xs (i + 1)), lV (lg2 (sv xs (i + 2)) (sv xs (i + 3)))]) (S := []) (y := MX11_nearest) hC1 dL_law_1695 (show look (CLt 12) 253 = some (MX11_nearest, false, 2) from rfl) rfl rfl (by decide) ⟨by decide, rfl, by decide +kernel⟩ (ctn g3 rfl rfl) ?_
    refine st_lstore hC1 dL_law_1698 (Nat.le_of_ble_eq_true rfl) (L2 := LL i (iV k) (lV v) uV) rfl ?_
    refine seg_C (t1 := 1711) W (by omega) (by omega) (show o80 τ σ2 66 5 = k by rw [o80_ne (by decide)]; exact g4) dL_law_1700 dL_law_1701 dL_law_1704 dL_law_1706 rfl ?_
    have fin : XM p l e R s m args below meth c K A nL (cl + 1) (sl + 6) Q 1727 (LL i (iV k) (lV v) uV) [] (o80 τ σ2) := by
      refine st_goto (tg := 3786) hC1 dL_law_1727 rfl ?_
      exact st_fg hC1 wk_L (h _ (W.2.2.2.2.2.2.2.2.2.2.2 _ _ ag_o g5))
    refine seg_D (t1 := 1727) W (by omega) (by omega) dL_law_1711 dL_law_1713 rfl dL_law_1716 dL_law_1717 dL_law_1718 (fun hk => ?_) fin
    refine st_lload hC1 dL_law_1719 rfl ?_
    refine st_lcmp_eq (tg := 1727) hC1 dL_law_1721 dL_law_1722 rfl ?_
    rw [if_pos (show o80 τ σ2 88 0 = v by rw [o80_80]; exact gv hk)]
    exact fin
  rcases hj with ⟨v, σ1, g1, g2⟩ | ⟨E, σ1, hE, g1, g2⟩
  · refine xs_callW (As := [rV 19 0, iV (sv xs (i + 1)), lV (lg2 (sv xs (i + 2)) (sv xs (i + 3))), rV 35 88]) (S := []) W.1 W.2.1 dL_law_1661 (csw_L 4 W.2.2.2.2.2.2.1 gW_nearest ⟨by decide, by decide, rfl⟩ ⟨hfr, by omega⟩) W.2.2.2.2.2.1 rfl (by decide) hcl hsl (w_nearest g1) ?_
    obtain ⟨σ2, g3, g4, g5⟩ := g2 _ (ag_up (σ := σ))
    exact tail 0 _ σ2 v g3 g4 (fun _ => ups_eq9) g5
  · refine xs_callW (As := [rV 19 0, iV (sv xs (i + 1)), lV (lg2 (sv xs (i + 2)) (sv xs (i + 3))), rV 35 88]) (S := []) W.1 W.2.1 dL_law_1661 (csw_L 4 W.2.2.2.2.2.2.1 gW_nearest ⟨by decide, by decide, rfl⟩ ⟨hfr, by omega⟩) W.2.2.2.2.2.1 rfl (by decide) hcl hsl (w_nearest_x hE g1) ?_
    obtain ⟨v, σ2, g3, g4, g5⟩ := g2 _ (ag_o (σ := σ))
    exact tail (cdN E) _ σ2 v g3 g4 (fun z => absurd z hE) g5
set_option maxRecDepth 20000 in
theorem lc_22 {p : Program} {l : Launch} {e : Env} {R : Room} {s : State} {m : MethodId} {args : Array Value} {below : List Frame} {meth : Method} {c : Code} {K : KT} {A : Nat → Prop} {nL cl sl : Nat} {hh : Prop} {Q : State → Prop} {r : Option FieldType} {σ : Sg} {n : Nat} {xs : Nat → Int32} {P : Sg → Prop} {i : Int} (W : LwC p l R s m args meth c K A nL r hh n xs P) (hi : 0 ≤ i ∧ i + 5 < (n : Int)) (hcl : cl + 1 ≤ R.cells) (hsl : sl + 6 ≤ R.slots) (hj : JtP P MX10_half MX11_half [iV (sv xs (i + 1))] (fun v => lV v) cdN σ) (h : ∀ σ2, P σ2 → XM p l e R s m args below meth c K A nL (cl + 1) (sl + 6) Q 3786 (LL i uV uV uV) [] σ2) : XM p l e R s m args below meth c K A nL cl sl Q 1730 (LL i uV uV uV) [] σ := by
  obtain ⟨hfr, hlo, hn⟩ := (⟨W.2.2.2.2.2.2.2.1, W.2.2.2.2.2.2.2.2.1, W.2.2.2.2.2.2.2.2.2.1⟩ : 61 ≤ R.frames ∧ 1940 ≤ R.locals ∧ n < 2147483648)
  have hC := clo_L (Q := Q) (R := R) (e := e) (below := below) (cl := cl) (sl := sl) (d := 40) W.1 W.2.1 (by omega) (by omega) (by omega) (by omega)
  refine st_aload_n hC dL_law_1730 rfl (by decide) (by decide) ?_
  refine sc_rd (j := 1) W hC ⟨by omega, by omega⟩ rfl dL_law_1731 dL_law_1732 dL_law_1734 dL_law_1735 dL_law_1736 ?_
  refine st_aload_n hC dL_law_1737 rfl (by decide) (by decide) ?_
  have tail : ∀ (k : Int) (τ σ2 : Sg) (v : Int) , Ct 40 MX11_half (rV 20 66 :: [iV (sv xs (i + 1))]) τ (.inl [lV v]) σ2 → σ2 66 5 = k → (k = 0 → τ 88 0 = v) → P σ2 → XM p l e R s m args below meth c K A nL (cl + 1) (sl + 6) Q 1741 (LL i uV uV uV) [iV k] τ := by
    intro k τ σ2 v g3 g4 gv g5
    have hC1 := clo_L (Q := Q) (R := R) (e := e) (below := below) (cl := cl + 1) (sl := sl + 6) (d := 40) W.1 W.2.1 (by omega) (by omega) (by omega) (by omega)
    refine st_istore hC1 dL_law_1741 (Nat.le_of_ble_eq_true rfl) (L2 := LL i (iV k) uV uV) rfl ?_
    refine st_aload_n hC1 dL_law_1743 rfl (by decide) (by decide) ?_
    refine sc_rd (j := 1) W hC1 ⟨by omega, by omega⟩ rfl dL_law_1744 dL_law_1745 dL_law_1747 dL_law_1748 dL_law_1749 ?_
    refine st_invV (t := 20) (a := 66) (ci := 10) (As := [iV (sv xs (i + 1))]) (S := []) (y := MX11_half) hC1 dL_law_1750 (show look (CLt 12) 256 = some (MX11_half, false, 1) from rfl) rfl rfl (by decide) ⟨by decide, rfl, by decide +kernel⟩ (ctn g3 rfl rfl) ?_
    refine st_lstore hC1 dL_law_1753 (Nat.le_of_ble_eq_true rfl) (L2 := LL i (iV k) (lV v) uV) rfl ?_
    refine seg_C (t1 := 1766) W (by omega) (by omega) (show o80 τ σ2 66 5 = k by rw [o80_ne (by decide)]; exact g4) dL_law_1755 dL_law_1756 dL_law_1759 dL_law_1761 rfl ?_
    have fin : XM p l e R s m args below meth c K A nL (cl + 1) (sl + 6) Q 1782 (LL i (iV k) (lV v) uV) [] (o80 τ σ2) := by
      refine st_goto (tg := 3786) hC1 dL_law_1782 rfl ?_
      exact st_fg hC1 wk_L (h _ (W.2.2.2.2.2.2.2.2.2.2.2 _ _ ag_o g5))
    refine seg_D (t1 := 1782) W (by omega) (by omega) dL_law_1766 dL_law_1768 rfl dL_law_1771 dL_law_1772 dL_law_1773 (fun hk => ?_) fin
    refine st_lload hC1 dL_law_1774 rfl ?_
    refine st_lcmp_eq (tg := 1782) hC1 dL_law_1776 dL_law_1777 rfl ?_
    rw [if_pos (show o80 τ σ2 88 0 = v by rw [o80_80]; exact gv hk)]
    exact fin
  rcases hj with ⟨v, σ1, g1, g2⟩ | ⟨E, σ1, hE, g1, g2⟩
  · refine xs_callW (As := [rV 19 0, iV (sv xs (i + 1)), rV 35 88]) (S := []) W.1 W.2.1 dL_law_1738 (csw_L 3 W.2.2.2.2.2.2.1 gW_half ⟨by decide, by decide, rfl⟩ ⟨hfr, by omega⟩) W.2.2.2.2.2.1 rfl (by decide) hcl hsl (w_half g1) ?_
    obtain ⟨σ2, g3, g4, g5⟩ := g2 _ (ag_up (σ := σ))
    exact tail 0 _ σ2 v g3 g4 (fun _ => ups_eq9) g5
  · refine xs_callW (As := [rV 19 0, iV (sv xs (i + 1)), rV 35 88]) (S := []) W.1 W.2.1 dL_law_1738 (csw_L 3 W.2.2.2.2.2.2.1 gW_half ⟨by decide, by decide, rfl⟩ ⟨hfr, by omega⟩) W.2.2.2.2.2.1 rfl (by decide) hcl hsl (w_half_x hE g1) ?_
    obtain ⟨v, σ2, g3, g4, g5⟩ := g2 _ (ag_o (σ := σ))
    exact tail (cdN E) _ σ2 v g3 g4 (fun z => absurd z hE) g5
set_option maxRecDepth 20000 in
theorem lc_23 {p : Program} {l : Launch} {e : Env} {R : Room} {s : State} {m : MethodId} {args : Array Value} {below : List Frame} {meth : Method} {c : Code} {K : KT} {A : Nat → Prop} {nL cl sl : Nat} {hh : Prop} {Q : State → Prop} {r : Option FieldType} {σ : Sg} {n : Nat} {xs : Nat → Int32} {P : Sg → Prop} {i : Int} (W : LwC p l R s m args meth c K A nL r hh n xs P) (hi : 0 ≤ i ∧ i + 5 < (n : Int)) (hcl : cl + 1 ≤ R.cells) (hsl : sl + 6 ≤ R.slots) (hj : JtP P MX10_fewest MX11_fewest [iV (sv xs (i + 1)), lV (lg2 (sv xs (i + 2)) (sv xs (i + 3)))] (fun v => iV v) cdNI σ) (h : ∀ σ2, P σ2 → XM p l e R s m args below meth c K A nL (cl + 1) (sl + 6) Q 3786 (LL i uV uV uV) [] σ2) : XM p l e R s m args below meth c K A nL cl sl Q 1785 (LL i uV uV uV) [] σ := by
  obtain ⟨hfr, hlo, hn⟩ := (⟨W.2.2.2.2.2.2.2.1, W.2.2.2.2.2.2.2.2.1, W.2.2.2.2.2.2.2.2.2.1⟩ : 61 ≤ R.frames ∧ 1940 ≤ R.locals ∧ n < 2147483648)
  have hC := clo_L (Q := Q) (R := R) (e := e) (below := below) (cl := cl) (sl := sl) (d := 40) W.1 W.2.1 (by omega) (by omega) (by omega) (by omega)
  refine st_aload_n hC dL_law_1785 rfl (by decide) (by decide) ?_
  refine sc_rd (j := 1) W hC ⟨by omega, by omega⟩ rfl dL_law_1786 dL_law_1787 dL_law_1789 dL_law_1790 dL_law_1791 ?_
  refine sc_rl (j := 2) (j' := 3) W hC ⟨by omega, by omega⟩ rfl ⟨by omega, by omega⟩ rfl dL_law_1792 dL_law_1793 dL_law_1795 dL_law_1796 dL_law_1797 dL_law_1798 dL_law_1799 dL_law_1801 dL_law_1802 dL_law_1803 dL_law_1805 dL_law_1806 dL_law_1807 dL_law_1808 dL_law_1809 dL_law_1812 dL_law_1813 ?_
  refine st_aload_n hC dL_law_1814 rfl (by decide) (by decide) ?_
  have tail : ∀ (k : Int) (τ σ2 : Sg) (v : Int) , Ct 40 MX11_fewest (rV 20 66 :: [iV (sv xs (i + 1)), lV (lg2 (sv xs (i + 2)) (sv xs (i + 3)))]) τ (.inl [iV v]) σ2 → σ2 66 5 = k → (k = 0 → τ 88 0 = v) → P σ2 → XM p l e R s m args below meth c K A nL (cl + 1) (sl + 6) Q 1818 (LL i uV uV uV) [iV k] τ := by
    intro k τ σ2 v g3 g4 gv g5
    have hC1 := clo_L (Q := Q) (R := R) (e := e) (below := below) (cl := cl + 1) (sl := sl + 6) (d := 40) W.1 W.2.1 (by omega) (by omega) (by omega) (by omega)
    refine st_istore hC1 dL_law_1818 (Nat.le_of_ble_eq_true rfl) (L2 := LL i (iV k) uV uV) rfl ?_
    refine st_aload_n hC1 dL_law_1820 rfl (by decide) (by decide) ?_
    refine sc_rd (j := 1) W hC1 ⟨by omega, by omega⟩ rfl dL_law_1821 dL_law_1822 dL_law_1824 dL_law_1825 dL_law_1826 ?_
    refine sc_rl (j := 2) (j' := 3) W hC1 ⟨by omega, by omega⟩ rfl ⟨by omega, by omega⟩ rfl dL_law_1827 dL_law_1828 dL_law_1830 dL_law_1831 dL_law_1832 dL_law_1833 dL_law_1834 dL_law_1836 dL_law_1837 dL_law_1838 dL_law_1840 dL_law_1841 dL_law_1842 dL_law_1843 dL_law_1844 dL_law_1847 dL_law_1848 ?_
    refine st_invV (t := 20) (a := 66) (ci := 10) (As := [iV (sv xs (i + 1)), lV (lg2 (sv xs (i + 2)) (sv xs (i + 3)))]) (S := []) (y := MX11_fewest) hC1 dL_law_1849 (show look (CLt 12) 259 = some (MX11_fewest, false, 2) from rfl) rfl rfl (by decide) ⟨by decide, rfl, by decide +kernel⟩ (ctn g3 rfl rfl) ?_
    refine st_istore hC1 dL_law_1852 (Nat.le_of_ble_eq_true rfl) (L2 := LL i (iV k) (iV v) uV) rfl ?_
    refine seg_C (t1 := 1865) W (by omega) (by omega) (show o80 τ σ2 66 5 = k by rw [o80_ne (by decide)]; exact g4) dL_law_1854 dL_law_1855 dL_law_1858 dL_law_1860 rfl ?_
    have fin : XM p l e R s m args below meth c K A nL (cl + 1) (sl + 6) Q 1882 (LL i (iV k) (iV v) uV) [] (o80 τ σ2) := by
      refine st_goto (tg := 3786) hC1 dL_law_1882 rfl ?_
      exact st_fg hC1 wk_L (h _ (W.2.2.2.2.2.2.2.2.2.2.2 _ _ ag_o g5))
    refine seg_D (t1 := 1882) W (by omega) (by omega) dL_law_1865 dL_law_1867 rfl dL_law_1870 dL_law_1871 dL_law_1872 (fun hk => ?_) fin
    refine st_iload hC1 dL_law_1873 rfl ?_
    refine st_i2l hC1 dL_law_1875 ?_
    refine st_lcmp_eq (tg := 1882) hC1 dL_law_1876 dL_law_1877 rfl ?_
    rw [if_pos (show o80 τ σ2 88 0 = v by rw [o80_80]; exact gv hk)]
    exact fin
  rcases hj with ⟨v, σ1, g1, g2⟩ | ⟨E, σ1, hE, g1, g2⟩
  · refine xs_callW (As := [rV 19 0, iV (sv xs (i + 1)), lV (lg2 (sv xs (i + 2)) (sv xs (i + 3))), rV 35 88]) (S := []) W.1 W.2.1 dL_law_1815 (csw_L 4 W.2.2.2.2.2.2.1 gW_fewest ⟨by decide, by decide, rfl⟩ ⟨hfr, by omega⟩) W.2.2.2.2.2.1 rfl (by decide) hcl hsl (w_fewest g1) ?_
    obtain ⟨σ2, g3, g4, g5⟩ := g2 _ (ag_up (σ := σ))
    exact tail 0 _ σ2 v g3 g4 (fun _ => ups_eq9) g5
  · refine xs_callW (As := [rV 19 0, iV (sv xs (i + 1)), lV (lg2 (sv xs (i + 2)) (sv xs (i + 3))), rV 35 88]) (S := []) W.1 W.2.1 dL_law_1815 (csw_L 4 W.2.2.2.2.2.2.1 gW_fewest ⟨by decide, by decide, rfl⟩ ⟨hfr, by omega⟩) W.2.2.2.2.2.1 rfl (by decide) hcl hsl (w_fewest_x hE g1) ?_
    obtain ⟨v, σ2, g3, g4, g5⟩ := g2 _ (ag_o (σ := σ))
    exact tail (cdNI E) _ σ2 v g3 g4 (fun z => absurd z hE) g5
set_option maxRecDepth 20000 in
theorem lc_24 {p : Program} {l : Launch} {e : Env} {R : Room} {s : State} {m : MethodId} {args : Array Value} {below : List Frame} {meth : Method} {c : Code} {K : KT} {A : Nat → Prop} {nL cl sl : Nat} {hh : Prop} {Q : State → Prop} {r : Option FieldType} {σ : Sg} {n : Nat} {xs : Nat → Int32} {P : Sg → Prop} {i : Int} (W : LwC p l R s m args meth c K A nL r hh n xs P) (hi : 0 ≤ i ∧ i + 5 < (n : Int)) (hcl : cl + 1 ≤ R.cells) (hsl : sl + 6 ≤ R.slots) (hj : JtP P MX10_together MX11_together [iV (sv xs (i + 1)), lV (lg2 (sv xs (i + 2)) (sv xs (i + 3))), iV (sv xs (i + 4))] (fun v => iV v) cdI σ) (h : ∀ σ2, P σ2 → XM p l e R s m args below meth c K A nL (cl + 1) (sl + 6) Q 3786 (LL i uV uV uV) [] σ2) : XM p l e R s m args below meth c K A nL cl sl Q 1885 (LL i uV uV uV) [] σ := by
  obtain ⟨hfr, hlo, hn⟩ := (⟨W.2.2.2.2.2.2.2.1, W.2.2.2.2.2.2.2.2.1, W.2.2.2.2.2.2.2.2.2.1⟩ : 61 ≤ R.frames ∧ 1940 ≤ R.locals ∧ n < 2147483648)
  have hC := clo_L (Q := Q) (R := R) (e := e) (below := below) (cl := cl) (sl := sl) (d := 40) W.1 W.2.1 (by omega) (by omega) (by omega) (by omega)
  refine st_aload_n hC dL_law_1885 rfl (by decide) (by decide) ?_
  refine sc_rd (j := 1) W hC ⟨by omega, by omega⟩ rfl dL_law_1886 dL_law_1887 dL_law_1889 dL_law_1890 dL_law_1891 ?_
  refine sc_rl (j := 2) (j' := 3) W hC ⟨by omega, by omega⟩ rfl ⟨by omega, by omega⟩ rfl dL_law_1892 dL_law_1893 dL_law_1895 dL_law_1896 dL_law_1897 dL_law_1898 dL_law_1899 dL_law_1901 dL_law_1902 dL_law_1903 dL_law_1905 dL_law_1906 dL_law_1907 dL_law_1908 dL_law_1909 dL_law_1912 dL_law_1913 ?_
  refine sc_rd (j := 4) W hC ⟨by omega, by omega⟩ rfl dL_law_1914 dL_law_1915 dL_law_1917 dL_law_1918 dL_law_1919 ?_
  refine st_aload_n hC dL_law_1920 rfl (by decide) (by decide) ?_
  have tail : ∀ (k : Int) (τ σ2 : Sg) (v : Int) , Ct 40 MX11_together (rV 20 66 :: [iV (sv xs (i + 1)), lV (lg2 (sv xs (i + 2)) (sv xs (i + 3))), iV (sv xs (i + 4))]) τ (.inl [iV v]) σ2 → σ2 66 5 = k → (k = 0 → τ 88 0 = v) → P σ2 → XM p l e R s m args below meth c K A nL (cl + 1) (sl + 6) Q 1924 (LL i uV uV uV) [iV k] τ := by
    intro k τ σ2 v g3 g4 gv g5
    have hC1 := clo_L (Q := Q) (R := R) (e := e) (below := below) (cl := cl + 1) (sl := sl + 6) (d := 40) W.1 W.2.1 (by omega) (by omega) (by omega) (by omega)
    refine st_istore hC1 dL_law_1924 (Nat.le_of_ble_eq_true rfl) (L2 := LL i (iV k) uV uV) rfl ?_
    refine st_aload_n hC1 dL_law_1926 rfl (by decide) (by decide) ?_
    refine sc_rd (j := 1) W hC1 ⟨by omega, by omega⟩ rfl dL_law_1927 dL_law_1928 dL_law_1930 dL_law_1931 dL_law_1932 ?_
    refine sc_rl (j := 2) (j' := 3) W hC1 ⟨by omega, by omega⟩ rfl ⟨by omega, by omega⟩ rfl dL_law_1933 dL_law_1934 dL_law_1936 dL_law_1937 dL_law_1938 dL_law_1939 dL_law_1940 dL_law_1942 dL_law_1943 dL_law_1944 dL_law_1946 dL_law_1947 dL_law_1948 dL_law_1949 dL_law_1950 dL_law_1953 dL_law_1954 ?_
    refine sc_rd (j := 4) W hC1 ⟨by omega, by omega⟩ rfl dL_law_1955 dL_law_1956 dL_law_1958 dL_law_1959 dL_law_1960 ?_
    refine st_invV (t := 20) (a := 66) (ci := 10) (As := [iV (sv xs (i + 1)), lV (lg2 (sv xs (i + 2)) (sv xs (i + 3))), iV (sv xs (i + 4))]) (S := []) (y := MX11_together) hC1 dL_law_1961 (show look (CLt 12) 263 = some (MX11_together, false, 3) from rfl) rfl rfl (by decide) ⟨by decide, rfl, by decide +kernel⟩ (ctn g3 rfl rfl) ?_
    refine st_istore hC1 dL_law_1964 (Nat.le_of_ble_eq_true rfl) (L2 := LL i (iV k) (iV v) uV) rfl ?_
    refine seg_C (t1 := 1977) W (by omega) (by omega) (show o80 τ σ2 66 5 = k by rw [o80_ne (by decide)]; exact g4) dL_law_1966 dL_law_1967 dL_law_1970 dL_law_1972 rfl ?_
    have fin : XM p l e R s m args below meth c K A nL (cl + 1) (sl + 6) Q 1994 (LL i (iV k) (iV v) uV) [] (o80 τ σ2) := by
      refine st_goto (tg := 3786) hC1 dL_law_1994 rfl ?_
      exact st_fg hC1 wk_L (h _ (W.2.2.2.2.2.2.2.2.2.2.2 _ _ ag_o g5))
    refine seg_D (t1 := 1994) W (by omega) (by omega) dL_law_1977 dL_law_1979 rfl dL_law_1982 dL_law_1983 dL_law_1984 (fun hk => ?_) fin
    refine st_iload hC1 dL_law_1985 rfl ?_
    refine st_i2l hC1 dL_law_1987 ?_
    refine st_lcmp_eq (tg := 1994) hC1 dL_law_1988 dL_law_1989 rfl ?_
    rw [if_pos (show o80 τ σ2 88 0 = v by rw [o80_80]; exact gv hk)]
    exact fin
  rcases hj with ⟨v, σ1, g1, g2⟩ | ⟨E, σ1, hE, g1, g2⟩
  · refine xs_callW (As := [rV 19 0, iV (sv xs (i + 1)), lV (lg2 (sv xs (i + 2)) (sv xs (i + 3))), iV (sv xs (i + 4)), rV 35 88]) (S := []) W.1 W.2.1 dL_law_1921 (csw_L 5 W.2.2.2.2.2.2.1 gW_together ⟨by decide, by decide, rfl⟩ ⟨hfr, by omega⟩) W.2.2.2.2.2.1 rfl (by decide) hcl hsl (w_together g1) ?_
    obtain ⟨σ2, g3, g4, g5⟩ := g2 _ (ag_up (σ := σ))
    exact tail 0 _ σ2 v g3 g4 (fun _ => ups_eq9) g5
  · refine xs_callW (As := [rV 19 0, iV (sv xs (i + 1)), lV (lg2 (sv xs (i + 2)) (sv xs (i + 3))), iV (sv xs (i + 4)), rV 35 88]) (S := []) W.1 W.2.1 dL_law_1921 (csw_L 5 W.2.2.2.2.2.2.1 gW_together ⟨by decide, by decide, rfl⟩ ⟨hfr, by omega⟩) W.2.2.2.2.2.1 rfl (by decide) hcl hsl (w_together_x hE g1) ?_
    obtain ⟨v, σ2, g3, g4, g5⟩ := g2 _ (ag_o (σ := σ))
    exact tail (cdI E) _ σ2 v g3 g4 (fun z => absurd z hE) g5
set_option maxRecDepth 20000 in
theorem lc_25 {p : Program} {l : Launch} {e : Env} {R : Room} {s : State} {m : MethodId} {args : Array Value} {below : List Frame} {meth : Method} {c : Code} {K : KT} {A : Nat → Prop} {nL cl sl : Nat} {hh : Prop} {Q : State → Prop} {r : Option FieldType} {σ : Sg} {n : Nat} {xs : Nat → Int32} {P : Sg → Prop} {i : Int} (W : LwC p l R s m args meth c K A nL r hh n xs P) (hi : 0 ≤ i ∧ i + 5 < (n : Int)) (hcl : cl + 1 ≤ R.cells) (hsl : sl + 6 ≤ R.slots) (hj : JtP P MX10_between MX11_between [iV (sv xs (i + 1)), lV (lg2 (sv xs (i + 2)) (sv xs (i + 3))), lV (lg2 (sv xs (i + 4)) (sv xs (i + 5)))] (fun v => iV v) cdN σ) (h : ∀ σ2, P σ2 → XM p l e R s m args below meth c K A nL (cl + 1) (sl + 6) Q 3786 (LL i uV uV uV) [] σ2) : XM p l e R s m args below meth c K A nL cl sl Q 1997 (LL i uV uV uV) [] σ := by
  obtain ⟨hfr, hlo, hn⟩ := (⟨W.2.2.2.2.2.2.2.1, W.2.2.2.2.2.2.2.2.1, W.2.2.2.2.2.2.2.2.2.1⟩ : 61 ≤ R.frames ∧ 1940 ≤ R.locals ∧ n < 2147483648)
  have hC := clo_L (Q := Q) (R := R) (e := e) (below := below) (cl := cl) (sl := sl) (d := 40) W.1 W.2.1 (by omega) (by omega) (by omega) (by omega)
  refine st_aload_n hC dL_law_1997 rfl (by decide) (by decide) ?_
  refine sc_rd (j := 1) W hC ⟨by omega, by omega⟩ rfl dL_law_1998 dL_law_1999 dL_law_2001 dL_law_2002 dL_law_2003 ?_
  refine sc_rl (j := 2) (j' := 3) W hC ⟨by omega, by omega⟩ rfl ⟨by omega, by omega⟩ rfl dL_law_2004 dL_law_2005 dL_law_2007 dL_law_2008 dL_law_2009 dL_law_2010 dL_law_2011 dL_law_2013 dL_law_2014 dL_law_2015 dL_law_2017 dL_law_2018 dL_law_2019 dL_law_2020 dL_law_2021 dL_law_2024 dL_law_2025 ?_
  refine sc_rl (j := 4) (j' := 5) W hC ⟨by omega, by omega⟩ rfl ⟨by omega, by omega⟩ rfl dL_law_2026 dL_law_2027 dL_law_2029 dL_law_2030 dL_law_2031 dL_law_2032 dL_law_2033 dL_law_2035 dL_law_2036 dL_law_2037 dL_law_2039 dL_law_2040 dL_law_2041 dL_law_2042 dL_law_2043 dL_law_2046 dL_law_2047 ?_
  refine st_aload_n hC dL_law_2048 rfl (by decide) (by decide) ?_
  have tail : ∀ (k : Int) (τ σ2 : Sg) (v : Int) , Ct 40 MX11_between (rV 20 66 :: [iV (sv xs (i + 1)), lV (lg2 (sv xs (i + 2)) (sv xs (i + 3))), lV (lg2 (sv xs (i + 4)) (sv xs (i + 5)))]) τ (.inl [iV v]) σ2 → σ2 66 5 = k → (k = 0 → τ 88 0 = v) → P σ2 → XM p l e R s m args below meth c K A nL (cl + 1) (sl + 6) Q 2052 (LL i uV uV uV) [iV k] τ := by
    intro k τ σ2 v g3 g4 gv g5
    have hC1 := clo_L (Q := Q) (R := R) (e := e) (below := below) (cl := cl + 1) (sl := sl + 6) (d := 40) W.1 W.2.1 (by omega) (by omega) (by omega) (by omega)
    refine st_istore hC1 dL_law_2052 (Nat.le_of_ble_eq_true rfl) (L2 := LL i (iV k) uV uV) rfl ?_
    refine st_aload_n hC1 dL_law_2054 rfl (by decide) (by decide) ?_
    refine sc_rd (j := 1) W hC1 ⟨by omega, by omega⟩ rfl dL_law_2055 dL_law_2056 dL_law_2058 dL_law_2059 dL_law_2060 ?_
    refine sc_rl (j := 2) (j' := 3) W hC1 ⟨by omega, by omega⟩ rfl ⟨by omega, by omega⟩ rfl dL_law_2061 dL_law_2062 dL_law_2064 dL_law_2065 dL_law_2066 dL_law_2067 dL_law_2068 dL_law_2070 dL_law_2071 dL_law_2072 dL_law_2074 dL_law_2075 dL_law_2076 dL_law_2077 dL_law_2078 dL_law_2081 dL_law_2082 ?_
    refine sc_rl (j := 4) (j' := 5) W hC1 ⟨by omega, by omega⟩ rfl ⟨by omega, by omega⟩ rfl dL_law_2083 dL_law_2084 dL_law_2086 dL_law_2087 dL_law_2088 dL_law_2089 dL_law_2090 dL_law_2092 dL_law_2093 dL_law_2094 dL_law_2096 dL_law_2097 dL_law_2098 dL_law_2099 dL_law_2100 dL_law_2103 dL_law_2104 ?_
    refine st_invV (t := 20) (a := 66) (ci := 10) (As := [iV (sv xs (i + 1)), lV (lg2 (sv xs (i + 2)) (sv xs (i + 3))), lV (lg2 (sv xs (i + 4)) (sv xs (i + 5)))]) (S := []) (y := MX11_between) hC1 dL_law_2105 (show look (CLt 12) 267 = some (MX11_between, false, 3) from rfl) rfl rfl (by decide) ⟨by decide, rfl, by decide +kernel⟩ (ctn g3 rfl rfl) ?_
    refine st_istore hC1 dL_law_2108 (Nat.le_of_ble_eq_true rfl) (L2 := LL i (iV k) (iV v) uV) rfl ?_
    refine seg_C (t1 := 2121) W (by omega) (by omega) (show o80 τ σ2 66 5 = k by rw [o80_ne (by decide)]; exact g4) dL_law_2110 dL_law_2111 dL_law_2114 dL_law_2116 rfl ?_
    have fin : XM p l e R s m args below meth c K A nL (cl + 1) (sl + 6) Q 2138 (LL i (iV k) (iV v) uV) [] (o80 τ σ2) := by
      refine st_goto (tg := 3786) hC1 dL_law_2138 rfl ?_
      exact st_fg hC1 wk_L (h _ (W.2.2.2.2.2.2.2.2.2.2.2 _ _ ag_o g5))
    refine seg_D (t1 := 2138) W (by omega) (by omega) dL_law_2121 dL_law_2123 rfl dL_law_2126 dL_law_2127 dL_law_2128 (fun hk => ?_) fin
    refine st_iload hC1 dL_law_2129 rfl ?_
    refine st_i2l hC1 dL_law_2131 ?_
    refine st_lcmp_eq (tg := 2138) hC1 dL_law_2132 dL_law_2133 rfl ?_
    rw [if_pos (show o80 τ σ2 88 0 = v by rw [o80_80]; exact gv hk)]
    exact fin
  rcases hj with ⟨v, σ1, g1, g2⟩ | ⟨E, σ1, hE, g1, g2⟩
  · refine xs_callW (As := [rV 19 0, iV (sv xs (i + 1)), lV (lg2 (sv xs (i + 2)) (sv xs (i + 3))), lV (lg2 (sv xs (i + 4)) (sv xs (i + 5))), rV 35 88]) (S := []) W.1 W.2.1 dL_law_2049 (csw_L 5 W.2.2.2.2.2.2.1 gW_between ⟨by decide, by decide, rfl⟩ ⟨hfr, by omega⟩) W.2.2.2.2.2.1 rfl (by decide) hcl hsl (w_between g1) ?_
    obtain ⟨σ2, g3, g4, g5⟩ := g2 _ (ag_up (σ := σ))
    exact tail 0 _ σ2 v g3 g4 (fun _ => ups_eq9) g5
  · refine xs_callW (As := [rV 19 0, iV (sv xs (i + 1)), lV (lg2 (sv xs (i + 2)) (sv xs (i + 3))), lV (lg2 (sv xs (i + 4)) (sv xs (i + 5))), rV 35 88]) (S := []) W.1 W.2.1 dL_law_2049 (csw_L 5 W.2.2.2.2.2.2.1 gW_between ⟨by decide, by decide, rfl⟩ ⟨hfr, by omega⟩) W.2.2.2.2.2.1 rfl (by decide) hcl hsl (w_between_x hE g1) ?_
    obtain ⟨v, σ2, g3, g4, g5⟩ := g2 _ (ag_o (σ := σ))
    exact tail (cdN E) _ σ2 v g3 g4 (fun z => absurd z hE) g5
set_option maxRecDepth 20000 in
theorem lc_26 {p : Program} {l : Launch} {e : Env} {R : Room} {s : State} {m : MethodId} {args : Array Value} {below : List Frame} {meth : Method} {c : Code} {K : KT} {A : Nat → Prop} {nL cl sl : Nat} {hh : Prop} {Q : State → Prop} {r : Option FieldType} {σ : Sg} {n : Nat} {xs : Nat → Int32} {P : Sg → Prop} {i : Int} (W : LwC p l R s m args meth c K A nL r hh n xs P) (hi : 0 ≤ i ∧ i + 5 < (n : Int)) (hcl : cl + 1 ≤ R.cells) (hsl : sl + 6 ≤ R.slots) (hj : JtP P MX10_dear MX11_dear [iV (sv xs (i + 1)), iV (sv xs (i + 2))] (fun v => iV v) cdNI σ) (h : ∀ σ2, P σ2 → XM p l e R s m args below meth c K A nL (cl + 1) (sl + 6) Q 3786 (LL i uV uV uV) [] σ2) : XM p l e R s m args below meth c K A nL cl sl Q 2141 (LL i uV uV uV) [] σ := by
  obtain ⟨hfr, hlo, hn⟩ := (⟨W.2.2.2.2.2.2.2.1, W.2.2.2.2.2.2.2.2.1, W.2.2.2.2.2.2.2.2.2.1⟩ : 61 ≤ R.frames ∧ 1940 ≤ R.locals ∧ n < 2147483648)
  have hC := clo_L (Q := Q) (R := R) (e := e) (below := below) (cl := cl) (sl := sl) (d := 40) W.1 W.2.1 (by omega) (by omega) (by omega) (by omega)
  refine st_aload_n hC dL_law_2141 rfl (by decide) (by decide) ?_
  refine sc_rd (j := 1) W hC ⟨by omega, by omega⟩ rfl dL_law_2142 dL_law_2143 dL_law_2145 dL_law_2146 dL_law_2147 ?_
  refine sc_rd (j := 2) W hC ⟨by omega, by omega⟩ rfl dL_law_2148 dL_law_2149 dL_law_2151 dL_law_2152 dL_law_2153 ?_
  refine st_aload_n hC dL_law_2154 rfl (by decide) (by decide) ?_
  have tail : ∀ (k : Int) (τ σ2 : Sg) (v : Int) , Ct 40 MX11_dear (rV 20 66 :: [iV (sv xs (i + 1)), iV (sv xs (i + 2))]) τ (.inl [iV v]) σ2 → σ2 66 5 = k → (k = 0 → τ 88 0 = v) → P σ2 → XM p l e R s m args below meth c K A nL (cl + 1) (sl + 6) Q 2158 (LL i uV uV uV) [iV k] τ := by
    intro k τ σ2 v g3 g4 gv g5
    have hC1 := clo_L (Q := Q) (R := R) (e := e) (below := below) (cl := cl + 1) (sl := sl + 6) (d := 40) W.1 W.2.1 (by omega) (by omega) (by omega) (by omega)
    refine st_istore hC1 dL_law_2158 (Nat.le_of_ble_eq_true rfl) (L2 := LL i (iV k) uV uV) rfl ?_
    refine st_aload_n hC1 dL_law_2160 rfl (by decide) (by decide) ?_
    refine sc_rd (j := 1) W hC1 ⟨by omega, by omega⟩ rfl dL_law_2161 dL_law_2162 dL_law_2164 dL_law_2165 dL_law_2166 ?_
    refine sc_rd (j := 2) W hC1 ⟨by omega, by omega⟩ rfl dL_law_2167 dL_law_2168 dL_law_2170 dL_law_2171 dL_law_2172 ?_
    refine st_invV (t := 20) (a := 66) (ci := 10) (As := [iV (sv xs (i + 1)), iV (sv xs (i + 2))]) (S := []) (y := MX11_dear) hC1 dL_law_2173 (show look (CLt 12) 270 = some (MX11_dear, false, 2) from rfl) rfl rfl (by decide) ⟨by decide, rfl, by decide +kernel⟩ (ctn g3 rfl rfl) ?_
    refine st_istore hC1 dL_law_2176 (Nat.le_of_ble_eq_true rfl) (L2 := LL i (iV k) (iV v) uV) rfl ?_
    refine seg_C (t1 := 2189) W (by omega) (by omega) (show o80 τ σ2 66 5 = k by rw [o80_ne (by decide)]; exact g4) dL_law_2178 dL_law_2179 dL_law_2182 dL_law_2184 rfl ?_
    have fin : XM p l e R s m args below meth c K A nL (cl + 1) (sl + 6) Q 2206 (LL i (iV k) (iV v) uV) [] (o80 τ σ2) := by
      refine st_goto (tg := 3786) hC1 dL_law_2206 rfl ?_
      exact st_fg hC1 wk_L (h _ (W.2.2.2.2.2.2.2.2.2.2.2 _ _ ag_o g5))
    refine seg_D (t1 := 2206) W (by omega) (by omega) dL_law_2189 dL_law_2191 rfl dL_law_2194 dL_law_2195 dL_law_2196 (fun hk => ?_) fin
    refine st_iload hC1 dL_law_2197 rfl ?_
    refine st_i2l hC1 dL_law_2199 ?_
    refine st_lcmp_eq (tg := 2206) hC1 dL_law_2200 dL_law_2201 rfl ?_
    rw [if_pos (show o80 τ σ2 88 0 = v by rw [o80_80]; exact gv hk)]
    exact fin
  rcases hj with ⟨v, σ1, g1, g2⟩ | ⟨E, σ1, hE, g1, g2⟩
  · refine xs_callW (As := [rV 19 0, iV (sv xs (i + 1)), iV (sv xs (i + 2)), rV 35 88]) (S := []) W.1 W.2.1 dL_law_2155 (csw_L 4 W.2.2.2.2.2.2.1 gW_dear ⟨by decide, by decide, rfl⟩ ⟨hfr, by omega⟩) W.2.2.2.2.2.1 rfl (by decide) hcl hsl (w_dear g1) ?_
    obtain ⟨σ2, g3, g4, g5⟩ := g2 _ (ag_up (σ := σ))
    exact tail 0 _ σ2 v g3 g4 (fun _ => ups_eq9) g5
  · refine xs_callW (As := [rV 19 0, iV (sv xs (i + 1)), iV (sv xs (i + 2)), rV 35 88]) (S := []) W.1 W.2.1 dL_law_2155 (csw_L 4 W.2.2.2.2.2.2.1 gW_dear ⟨by decide, by decide, rfl⟩ ⟨hfr, by omega⟩) W.2.2.2.2.2.1 rfl (by decide) hcl hsl (w_dear_x hE g1) ?_
    obtain ⟨v, σ2, g3, g4, g5⟩ := g2 _ (ag_o (σ := σ))
    exact tail (cdNI E) _ σ2 v g3 g4 (fun z => absurd z hE) g5
set_option maxRecDepth 20000 in
theorem lc_27 {p : Program} {l : Launch} {e : Env} {R : Room} {s : State} {m : MethodId} {args : Array Value} {below : List Frame} {meth : Method} {c : Code} {K : KT} {A : Nat → Prop} {nL cl sl : Nat} {hh : Prop} {Q : State → Prop} {r : Option FieldType} {σ : Sg} {n : Nat} {xs : Nat → Int32} {P : Sg → Prop} {i : Int} (W : LwC p l R s m args meth c K A nL r hh n xs P) (hi : 0 ≤ i ∧ i + 5 < (n : Int)) (hcl : cl + 1 ≤ R.cells) (hsl : sl + 6 ≤ R.slots) (hj : JnP P MX10_gainer MX11_gainer [] σ) (h : ∀ σ2, P σ2 → XM p l e R s m args below meth c K A nL (cl + 1) (sl + 6) Q 3786 (LL i uV uV uV) [] σ2) : XM p l e R s m args below meth c K A nL cl sl Q 2209 (LL i uV uV uV) [] σ := by
  obtain ⟨hfr, hlo, hn⟩ := (⟨W.2.2.2.2.2.2.2.1, W.2.2.2.2.2.2.2.2.1, W.2.2.2.2.2.2.2.2.2.1⟩ : 61 ≤ R.frames ∧ 1940 ≤ R.locals ∧ n < 2147483648)
  have hC := clo_L (Q := Q) (R := R) (e := e) (below := below) (cl := cl) (sl := sl) (d := 40) W.1 W.2.1 (by omega) (by omega) (by omega) (by omega)
  refine st_aload_n hC dL_law_2209 rfl (by decide) (by decide) ?_
  obtain ⟨v, σ1, g1, σ2, g2, g3⟩ := hj
  refine xs_callG (d := 40) (t := 19) (a := 0) (As := []) (S := []) (τ := σ) W.1 W.2.1 dL_law_2210 (show look (CLt 12) 271 = some (MX10_gainer, false, 0) from rfl) rfl (by decide) (by omega) (by omega) (by show cl + 0 ≤ _; omega) (by show sl + 0 ≤ _; omega) ⟨9, by decide, rfl, by decide +kernel⟩ (n9 rfl) (fun vs hvs => by cases hvs; exact n9 rfl) (fun _ _ => rfl) (fun z => z) g1 (fun vs hvs hO1 => ?_) (fun E hE => by cases hE)
  cases hvs
  refine st_aload_n hC dL_law_2213 rfl (by decide) (by decide) ?_
  refine xs_callG (d := 40) (t := 20) (a := 66) (As := []) (S := [iV v]) (τ := σ1) W.1 W.2.1 dL_law_2214 (show look (CLt 12) 274 = some (MX11_gainer, false, 0) from rfl) rfl (Nat.le_of_ble_eq_true rfl) (by omega) (by omega) (by show cl + 0 ≤ _; omega) (by show sl + 0 ≤ _; omega) ⟨10, by decide, rfl, by decide +kernel⟩ (n9 rfl) (fun vs hvs => by cases hvs; exact n9 rfl) (fun a ha => (ag_o a ha).symm) (fun _ => hO1) g2 (fun vs hvs hO2 => ?_) (fun E hE => by cases hE)
  cases hvs
  refine st_icmp_eq (tg := 3786) hC dL_law_2217 rfl ?_
  rw [if_pos rfl]
  exact XM_wid (Nat.le_add_right _ _) (Nat.le_add_right _ _) (h _ (W.2.2.2.2.2.2.2.2.2.2.2 _ _ ag_o g3))
set_option maxRecDepth 20000 in
theorem lc_28 {p : Program} {l : Launch} {e : Env} {R : Room} {s : State} {m : MethodId} {args : Array Value} {below : List Frame} {meth : Method} {c : Code} {K : KT} {A : Nat → Prop} {nL cl sl : Nat} {hh : Prop} {Q : State → Prop} {r : Option FieldType} {σ : Sg} {n : Nat} {xs : Nat → Int32} {P : Sg → Prop} {i : Int} (W : LwC p l R s m args meth c K A nL r hh n xs P) (hi : 0 ≤ i ∧ i + 5 < (n : Int)) (hcl : cl + 1 ≤ R.cells) (hsl : sl + 6 ≤ R.slots) (hj : JtP P MX10_grows MX11_grows [iV (sv xs (i + 1)), iV (sv xs (i + 2))] (fun v => lV v) cdNI σ) (h : ∀ σ2, P σ2 → XM p l e R s m args below meth c K A nL (cl + 1) (sl + 6) Q 3786 (LL i uV uV uV) [] σ2) : XM p l e R s m args below meth c K A nL cl sl Q 2222 (LL i uV uV uV) [] σ := by
  obtain ⟨hfr, hlo, hn⟩ := (⟨W.2.2.2.2.2.2.2.1, W.2.2.2.2.2.2.2.2.1, W.2.2.2.2.2.2.2.2.2.1⟩ : 61 ≤ R.frames ∧ 1940 ≤ R.locals ∧ n < 2147483648)
  have hC := clo_L (Q := Q) (R := R) (e := e) (below := below) (cl := cl) (sl := sl) (d := 40) W.1 W.2.1 (by omega) (by omega) (by omega) (by omega)
  refine st_aload_n hC dL_law_2222 rfl (by decide) (by decide) ?_
  refine sc_rd (j := 1) W hC ⟨by omega, by omega⟩ rfl dL_law_2223 dL_law_2224 dL_law_2226 dL_law_2227 dL_law_2228 ?_
  refine sc_rd (j := 2) W hC ⟨by omega, by omega⟩ rfl dL_law_2229 dL_law_2230 dL_law_2232 dL_law_2233 dL_law_2234 ?_
  refine st_aload_n hC dL_law_2235 rfl (by decide) (by decide) ?_
  have tail : ∀ (k : Int) (τ σ2 : Sg) (v : Int) , Ct 40 MX11_grows (rV 20 66 :: [iV (sv xs (i + 1)), iV (sv xs (i + 2))]) τ (.inl [lV v]) σ2 → σ2 66 5 = k → (k = 0 → τ 88 0 = v) → P σ2 → XM p l e R s m args below meth c K A nL (cl + 1) (sl + 6) Q 2239 (LL i uV uV uV) [iV k] τ := by
    intro k τ σ2 v g3 g4 gv g5
    have hC1 := clo_L (Q := Q) (R := R) (e := e) (below := below) (cl := cl + 1) (sl := sl + 6) (d := 40) W.1 W.2.1 (by omega) (by omega) (by omega) (by omega)
    refine st_istore hC1 dL_law_2239 (Nat.le_of_ble_eq_true rfl) (L2 := LL i (iV k) uV uV) rfl ?_
    refine st_aload_n hC1 dL_law_2241 rfl (by decide) (by decide) ?_
    refine sc_rd (j := 1) W hC1 ⟨by omega, by omega⟩ rfl dL_law_2242 dL_law_2243 dL_law_2245 dL_law_2246 dL_law_2247 ?_
    refine sc_rd (j := 2) W hC1 ⟨by omega, by omega⟩ rfl dL_law_2248 dL_law_2249 dL_law_2251 dL_law_2252 dL_law_2253 ?_
    refine st_invV (t := 20) (a := 66) (ci := 10) (As := [iV (sv xs (i + 1)), iV (sv xs (i + 2))]) (S := []) (y := MX11_grows) hC1 dL_law_2254 (show look (CLt 12) 277 = some (MX11_grows, false, 2) from rfl) rfl rfl (by decide) ⟨by decide, rfl, by decide +kernel⟩ (ctn g3 rfl rfl) ?_
    refine st_lstore hC1 dL_law_2257 (Nat.le_of_ble_eq_true rfl) (L2 := LL i (iV k) (lV v) uV) rfl ?_
    refine seg_C (t1 := 2270) W (by omega) (by omega) (show o80 τ σ2 66 5 = k by rw [o80_ne (by decide)]; exact g4) dL_law_2259 dL_law_2260 dL_law_2263 dL_law_2265 rfl ?_
    have fin : XM p l e R s m args below meth c K A nL (cl + 1) (sl + 6) Q 2286 (LL i (iV k) (lV v) uV) [] (o80 τ σ2) := by
      refine st_goto (tg := 3786) hC1 dL_law_2286 rfl ?_
      exact st_fg hC1 wk_L (h _ (W.2.2.2.2.2.2.2.2.2.2.2 _ _ ag_o g5))
    refine seg_D (t1 := 2286) W (by omega) (by omega) dL_law_2270 dL_law_2272 rfl dL_law_2275 dL_law_2276 dL_law_2277 (fun hk => ?_) fin
    refine st_lload hC1 dL_law_2278 rfl ?_
    refine st_lcmp_eq (tg := 2286) hC1 dL_law_2280 dL_law_2281 rfl ?_
    rw [if_pos (show o80 τ σ2 88 0 = v by rw [o80_80]; exact gv hk)]
    exact fin
  rcases hj with ⟨v, σ1, g1, g2⟩ | ⟨E, σ1, hE, g1, g2⟩
  · refine xs_callW (As := [rV 19 0, iV (sv xs (i + 1)), iV (sv xs (i + 2)), rV 35 88]) (S := []) W.1 W.2.1 dL_law_2236 (csw_L 4 W.2.2.2.2.2.2.1 gW_grows ⟨by decide, by decide, rfl⟩ ⟨hfr, by omega⟩) W.2.2.2.2.2.1 rfl (by decide) hcl hsl (w_grows g1) ?_
    obtain ⟨σ2, g3, g4, g5⟩ := g2 _ (ag_up (σ := σ))
    exact tail 0 _ σ2 v g3 g4 (fun _ => ups_eq9) g5
  · refine xs_callW (As := [rV 19 0, iV (sv xs (i + 1)), iV (sv xs (i + 2)), rV 35 88]) (S := []) W.1 W.2.1 dL_law_2236 (csw_L 4 W.2.2.2.2.2.2.1 gW_grows ⟨by decide, by decide, rfl⟩ ⟨hfr, by omega⟩) W.2.2.2.2.2.1 rfl (by decide) hcl hsl (w_grows_x hE g1) ?_
    obtain ⟨v, σ2, g3, g4, g5⟩ := g2 _ (ag_o (σ := σ))
    exact tail (cdNI E) _ σ2 v g3 g4 (fun z => absurd z hE) g5
set_option maxRecDepth 20000 in
theorem lc_29 {p : Program} {l : Launch} {e : Env} {R : Room} {s : State} {m : MethodId} {args : Array Value} {below : List Frame} {meth : Method} {c : Code} {K : KT} {A : Nat → Prop} {nL cl sl : Nat} {hh : Prop} {Q : State → Prop} {r : Option FieldType} {σ : Sg} {n : Nat} {xs : Nat → Int32} {P : Sg → Prop} {i : Int} (W : LwC p l R s m args meth c K A nL r hh n xs P) (hi : 0 ≤ i ∧ i + 5 < (n : Int)) (hcl : cl + 1 ≤ R.cells) (hsl : sl + 6 ≤ R.slots) (hj : JtP P MX10_swap MX11_swap [iV (sv xs (i + 1)), iV (sv xs (i + 2)), iV (sv xs (i + 3))] (fun v => lV v) cdNI σ) (h : ∀ σ2, P σ2 → XM p l e R s m args below meth c K A nL (cl + 1) (sl + 6) Q 3786 (LL i uV uV uV) [] σ2) : XM p l e R s m args below meth c K A nL cl sl Q 2289 (LL i uV uV uV) [] σ := by
  obtain ⟨hfr, hlo, hn⟩ := (⟨W.2.2.2.2.2.2.2.1, W.2.2.2.2.2.2.2.2.1, W.2.2.2.2.2.2.2.2.2.1⟩ : 61 ≤ R.frames ∧ 1940 ≤ R.locals ∧ n < 2147483648)
  have hC := clo_L (Q := Q) (R := R) (e := e) (below := below) (cl := cl) (sl := sl) (d := 40) W.1 W.2.1 (by omega) (by omega) (by omega) (by omega)
  refine st_aload_n hC dL_law_2289 rfl (by decide) (by decide) ?_
  refine sc_rd (j := 1) W hC ⟨by omega, by omega⟩ rfl dL_law_2290 dL_law_2291 dL_law_2293 dL_law_2294 dL_law_2295 ?_
  refine sc_rd (j := 2) W hC ⟨by omega, by omega⟩ rfl dL_law_2296 dL_law_2297 dL_law_2299 dL_law_2300 dL_law_2301 ?_
  refine sc_rd (j := 3) W hC ⟨by omega, by omega⟩ rfl dL_law_2302 dL_law_2303 dL_law_2305 dL_law_2306 dL_law_2307 ?_
  refine st_aload_n hC dL_law_2308 rfl (by decide) (by decide) ?_
  have tail : ∀ (k : Int) (τ σ2 : Sg) (v : Int) , Ct 40 MX11_swap (rV 20 66 :: [iV (sv xs (i + 1)), iV (sv xs (i + 2)), iV (sv xs (i + 3))]) τ (.inl [lV v]) σ2 → σ2 66 5 = k → (k = 0 → τ 88 0 = v) → P σ2 → XM p l e R s m args below meth c K A nL (cl + 1) (sl + 6) Q 2312 (LL i uV uV uV) [iV k] τ := by
    intro k τ σ2 v g3 g4 gv g5
    have hC1 := clo_L (Q := Q) (R := R) (e := e) (below := below) (cl := cl + 1) (sl := sl + 6) (d := 40) W.1 W.2.1 (by omega) (by omega) (by omega) (by omega)
    refine st_istore hC1 dL_law_2312 (Nat.le_of_ble_eq_true rfl) (L2 := LL i (iV k) uV uV) rfl ?_
    refine st_aload_n hC1 dL_law_2314 rfl (by decide) (by decide) ?_
    refine sc_rd (j := 1) W hC1 ⟨by omega, by omega⟩ rfl dL_law_2315 dL_law_2316 dL_law_2318 dL_law_2319 dL_law_2320 ?_
    refine sc_rd (j := 2) W hC1 ⟨by omega, by omega⟩ rfl dL_law_2321 dL_law_2322 dL_law_2324 dL_law_2325 dL_law_2326 ?_
    refine sc_rd (j := 3) W hC1 ⟨by omega, by omega⟩ rfl dL_law_2327 dL_law_2328 dL_law_2330 dL_law_2331 dL_law_2332 ?_
    refine st_invV (t := 20) (a := 66) (ci := 10) (As := [iV (sv xs (i + 1)), iV (sv xs (i + 2)), iV (sv xs (i + 3))]) (S := []) (y := MX11_swap) hC1 dL_law_2333 (show look (CLt 12) 281 = some (MX11_swap, false, 3) from rfl) rfl rfl (by decide) ⟨by decide, rfl, by decide +kernel⟩ (ctn g3 rfl rfl) ?_
    refine st_lstore hC1 dL_law_2336 (Nat.le_of_ble_eq_true rfl) (L2 := LL i (iV k) (lV v) uV) rfl ?_
    refine seg_C (t1 := 2349) W (by omega) (by omega) (show o80 τ σ2 66 5 = k by rw [o80_ne (by decide)]; exact g4) dL_law_2338 dL_law_2339 dL_law_2342 dL_law_2344 rfl ?_
    have fin : XM p l e R s m args below meth c K A nL (cl + 1) (sl + 6) Q 2365 (LL i (iV k) (lV v) uV) [] (o80 τ σ2) := by
      refine st_goto (tg := 3786) hC1 dL_law_2365 rfl ?_
      exact st_fg hC1 wk_L (h _ (W.2.2.2.2.2.2.2.2.2.2.2 _ _ ag_o g5))
    refine seg_D (t1 := 2365) W (by omega) (by omega) dL_law_2349 dL_law_2351 rfl dL_law_2354 dL_law_2355 dL_law_2356 (fun hk => ?_) fin
    refine st_lload hC1 dL_law_2357 rfl ?_
    refine st_lcmp_eq (tg := 2365) hC1 dL_law_2359 dL_law_2360 rfl ?_
    rw [if_pos (show o80 τ σ2 88 0 = v by rw [o80_80]; exact gv hk)]
    exact fin
  rcases hj with ⟨v, σ1, g1, g2⟩ | ⟨E, σ1, hE, g1, g2⟩
  · refine xs_callW (As := [rV 19 0, iV (sv xs (i + 1)), iV (sv xs (i + 2)), iV (sv xs (i + 3)), rV 35 88]) (S := []) W.1 W.2.1 dL_law_2309 (csw_L 5 W.2.2.2.2.2.2.1 gW_swap ⟨by decide, by decide, rfl⟩ ⟨hfr, by omega⟩) W.2.2.2.2.2.1 rfl (by decide) hcl hsl (w_swap g1) ?_
    obtain ⟨σ2, g3, g4, g5⟩ := g2 _ (ag_up (σ := σ))
    exact tail 0 _ σ2 v g3 g4 (fun _ => ups_eq9) g5
  · refine xs_callW (As := [rV 19 0, iV (sv xs (i + 1)), iV (sv xs (i + 2)), iV (sv xs (i + 3)), rV 35 88]) (S := []) W.1 W.2.1 dL_law_2309 (csw_L 5 W.2.2.2.2.2.2.1 gW_swap ⟨by decide, by decide, rfl⟩ ⟨hfr, by omega⟩) W.2.2.2.2.2.1 rfl (by decide) hcl hsl (w_swap_x hE g1) ?_
    obtain ⟨v, σ2, g3, g4, g5⟩ := g2 _ (ag_o (σ := σ))
    exact tail (cdNI E) _ σ2 v g3 g4 (fun z => absurd z hE) g5
set_option maxRecDepth 20000 in
theorem lc_30 {p : Program} {l : Launch} {e : Env} {R : Room} {s : State} {m : MethodId} {args : Array Value} {below : List Frame} {meth : Method} {c : Code} {K : KT} {A : Nat → Prop} {nL cl sl : Nat} {hh : Prop} {Q : State → Prop} {r : Option FieldType} {σ : Sg} {n : Nat} {xs : Nat → Int32} {P : Sg → Prop} {i : Int} (W : LwC p l R s m args meth c K A nL r hh n xs P) (hi : 0 ≤ i ∧ i + 5 < (n : Int)) (hcl : cl + 1 ≤ R.cells) (hsl : sl + 6 ≤ R.slots) (hj : JtP P MX10_common MX11_common [iV (sv xs (i + 1)), iV (sv xs (i + 2))] (fun v => lV v) cdN σ) (h : ∀ σ2, P σ2 → XM p l e R s m args below meth c K A nL (cl + 1) (sl + 6) Q 3786 (LL i uV uV uV) [] σ2) : XM p l e R s m args below meth c K A nL cl sl Q 2368 (LL i uV uV uV) [] σ := by
  obtain ⟨hfr, hlo, hn⟩ := (⟨W.2.2.2.2.2.2.2.1, W.2.2.2.2.2.2.2.2.1, W.2.2.2.2.2.2.2.2.2.1⟩ : 61 ≤ R.frames ∧ 1940 ≤ R.locals ∧ n < 2147483648)
  have hC := clo_L (Q := Q) (R := R) (e := e) (below := below) (cl := cl) (sl := sl) (d := 40) W.1 W.2.1 (by omega) (by omega) (by omega) (by omega)
  refine st_aload_n hC dL_law_2368 rfl (by decide) (by decide) ?_
  refine sc_rd (j := 1) W hC ⟨by omega, by omega⟩ rfl dL_law_2369 dL_law_2370 dL_law_2372 dL_law_2373 dL_law_2374 ?_
  refine sc_rd (j := 2) W hC ⟨by omega, by omega⟩ rfl dL_law_2375 dL_law_2376 dL_law_2378 dL_law_2379 dL_law_2380 ?_
  refine st_aload_n hC dL_law_2381 rfl (by decide) (by decide) ?_
  have tail : ∀ (k : Int) (τ σ2 : Sg) (v : Int) , Ct 40 MX11_common (rV 20 66 :: [iV (sv xs (i + 1)), iV (sv xs (i + 2))]) τ (.inl [lV v]) σ2 → σ2 66 5 = k → (k = 0 → τ 88 0 = v) → P σ2 → XM p l e R s m args below meth c K A nL (cl + 1) (sl + 6) Q 2385 (LL i uV uV uV) [iV k] τ := by
    intro k τ σ2 v g3 g4 gv g5
    have hC1 := clo_L (Q := Q) (R := R) (e := e) (below := below) (cl := cl + 1) (sl := sl + 6) (d := 40) W.1 W.2.1 (by omega) (by omega) (by omega) (by omega)
    refine st_istore hC1 dL_law_2385 (Nat.le_of_ble_eq_true rfl) (L2 := LL i (iV k) uV uV) rfl ?_
    refine st_aload_n hC1 dL_law_2387 rfl (by decide) (by decide) ?_
    refine sc_rd (j := 1) W hC1 ⟨by omega, by omega⟩ rfl dL_law_2388 dL_law_2389 dL_law_2391 dL_law_2392 dL_law_2393 ?_
    refine sc_rd (j := 2) W hC1 ⟨by omega, by omega⟩ rfl dL_law_2394 dL_law_2395 dL_law_2397 dL_law_2398 dL_law_2399 ?_
    refine st_invV (t := 20) (a := 66) (ci := 10) (As := [iV (sv xs (i + 1)), iV (sv xs (i + 2))]) (S := []) (y := MX11_common) hC1 dL_law_2400 (show look (CLt 12) 284 = some (MX11_common, false, 2) from rfl) rfl rfl (by decide) ⟨by decide, rfl, by decide +kernel⟩ (ctn g3 rfl rfl) ?_
    refine st_lstore hC1 dL_law_2403 (Nat.le_of_ble_eq_true rfl) (L2 := LL i (iV k) (lV v) uV) rfl ?_
    refine seg_C (t1 := 2416) W (by omega) (by omega) (show o80 τ σ2 66 5 = k by rw [o80_ne (by decide)]; exact g4) dL_law_2405 dL_law_2406 dL_law_2409 dL_law_2411 rfl ?_
    have fin : XM p l e R s m args below meth c K A nL (cl + 1) (sl + 6) Q 2432 (LL i (iV k) (lV v) uV) [] (o80 τ σ2) := by
      refine st_goto (tg := 3786) hC1 dL_law_2432 rfl ?_
      exact st_fg hC1 wk_L (h _ (W.2.2.2.2.2.2.2.2.2.2.2 _ _ ag_o g5))
    refine seg_D (t1 := 2432) W (by omega) (by omega) dL_law_2416 dL_law_2418 rfl dL_law_2421 dL_law_2422 dL_law_2423 (fun hk => ?_) fin
    refine st_lload hC1 dL_law_2424 rfl ?_
    refine st_lcmp_eq (tg := 2432) hC1 dL_law_2426 dL_law_2427 rfl ?_
    rw [if_pos (show o80 τ σ2 88 0 = v by rw [o80_80]; exact gv hk)]
    exact fin
  rcases hj with ⟨v, σ1, g1, g2⟩ | ⟨E, σ1, hE, g1, g2⟩
  · refine xs_callW (As := [rV 19 0, iV (sv xs (i + 1)), iV (sv xs (i + 2)), rV 35 88]) (S := []) W.1 W.2.1 dL_law_2382 (csw_L 4 W.2.2.2.2.2.2.1 gW_common ⟨by decide, by decide, rfl⟩ ⟨hfr, by omega⟩) W.2.2.2.2.2.1 rfl (by decide) hcl hsl (w_common g1) ?_
    obtain ⟨σ2, g3, g4, g5⟩ := g2 _ (ag_up (σ := σ))
    exact tail 0 _ σ2 v g3 g4 (fun _ => ups_eq9) g5
  · refine xs_callW (As := [rV 19 0, iV (sv xs (i + 1)), iV (sv xs (i + 2)), rV 35 88]) (S := []) W.1 W.2.1 dL_law_2382 (csw_L 4 W.2.2.2.2.2.2.1 gW_common ⟨by decide, by decide, rfl⟩ ⟨hfr, by omega⟩) W.2.2.2.2.2.1 rfl (by decide) hcl hsl (w_common_x hE g1) ?_
    obtain ⟨v, σ2, g3, g4, g5⟩ := g2 _ (ag_o (σ := σ))
    exact tail (cdN E) _ σ2 v g3 g4 (fun z => absurd z hE) g5
set_option maxRecDepth 20000 in
theorem lc_31 {p : Program} {l : Launch} {e : Env} {R : Room} {s : State} {m : MethodId} {args : Array Value} {below : List Frame} {meth : Method} {c : Code} {K : KT} {A : Nat → Prop} {nL cl sl : Nat} {hh : Prop} {Q : State → Prop} {r : Option FieldType} {σ : Sg} {n : Nat} {xs : Nat → Int32} {P : Sg → Prop} {i : Int} (W : LwC p l R s m args meth c K A nL r hh n xs P) (hi : 0 ≤ i ∧ i + 5 < (n : Int)) (hcl : cl + 1 ≤ R.cells) (hsl : sl + 6 ≤ R.slots) (hj : JtP P MX10_least MX11_least [iV (sv xs (i + 1)), iV (sv xs (i + 2))] (fun v => iV v) cdN σ) (h : ∀ σ2, P σ2 → XM p l e R s m args below meth c K A nL (cl + 1) (sl + 6) Q 3786 (LL i uV uV uV) [] σ2) : XM p l e R s m args below meth c K A nL cl sl Q 2435 (LL i uV uV uV) [] σ := by
  obtain ⟨hfr, hlo, hn⟩ := (⟨W.2.2.2.2.2.2.2.1, W.2.2.2.2.2.2.2.2.1, W.2.2.2.2.2.2.2.2.2.1⟩ : 61 ≤ R.frames ∧ 1940 ≤ R.locals ∧ n < 2147483648)
  have hC := clo_L (Q := Q) (R := R) (e := e) (below := below) (cl := cl) (sl := sl) (d := 40) W.1 W.2.1 (by omega) (by omega) (by omega) (by omega)
  refine st_aload_n hC dL_law_2435 rfl (by decide) (by decide) ?_
  refine sc_rd (j := 1) W hC ⟨by omega, by omega⟩ rfl dL_law_2436 dL_law_2437 dL_law_2439 dL_law_2440 dL_law_2441 ?_
  refine sc_rd (j := 2) W hC ⟨by omega, by omega⟩ rfl dL_law_2442 dL_law_2443 dL_law_2445 dL_law_2446 dL_law_2447 ?_
  refine st_aload_n hC dL_law_2448 rfl (by decide) (by decide) ?_
  have tail : ∀ (k : Int) (τ σ2 : Sg) (v : Int) , Ct 40 MX11_least (rV 20 66 :: [iV (sv xs (i + 1)), iV (sv xs (i + 2))]) τ (.inl [iV v]) σ2 → σ2 66 5 = k → (k = 0 → τ 88 0 = v) → P σ2 → XM p l e R s m args below meth c K A nL (cl + 1) (sl + 6) Q 2452 (LL i uV uV uV) [iV k] τ := by
    intro k τ σ2 v g3 g4 gv g5
    have hC1 := clo_L (Q := Q) (R := R) (e := e) (below := below) (cl := cl + 1) (sl := sl + 6) (d := 40) W.1 W.2.1 (by omega) (by omega) (by omega) (by omega)
    refine st_istore hC1 dL_law_2452 (Nat.le_of_ble_eq_true rfl) (L2 := LL i (iV k) uV uV) rfl ?_
    refine st_aload_n hC1 dL_law_2454 rfl (by decide) (by decide) ?_
    refine sc_rd (j := 1) W hC1 ⟨by omega, by omega⟩ rfl dL_law_2455 dL_law_2456 dL_law_2458 dL_law_2459 dL_law_2460 ?_
    refine sc_rd (j := 2) W hC1 ⟨by omega, by omega⟩ rfl dL_law_2461 dL_law_2462 dL_law_2464 dL_law_2465 dL_law_2466 ?_
    refine st_invV (t := 20) (a := 66) (ci := 10) (As := [iV (sv xs (i + 1)), iV (sv xs (i + 2))]) (S := []) (y := MX11_least) hC1 dL_law_2467 (show look (CLt 12) 287 = some (MX11_least, false, 2) from rfl) rfl rfl (by decide) ⟨by decide, rfl, by decide +kernel⟩ (ctn g3 rfl rfl) ?_
    refine st_istore hC1 dL_law_2470 (Nat.le_of_ble_eq_true rfl) (L2 := LL i (iV k) (iV v) uV) rfl ?_
    refine seg_C (t1 := 2483) W (by omega) (by omega) (show o80 τ σ2 66 5 = k by rw [o80_ne (by decide)]; exact g4) dL_law_2472 dL_law_2473 dL_law_2476 dL_law_2478 rfl ?_
    have fin : XM p l e R s m args below meth c K A nL (cl + 1) (sl + 6) Q 2500 (LL i (iV k) (iV v) uV) [] (o80 τ σ2) := by
      refine st_goto (tg := 3786) hC1 dL_law_2500 rfl ?_
      exact st_fg hC1 wk_L (h _ (W.2.2.2.2.2.2.2.2.2.2.2 _ _ ag_o g5))
    refine seg_D (t1 := 2500) W (by omega) (by omega) dL_law_2483 dL_law_2485 rfl dL_law_2488 dL_law_2489 dL_law_2490 (fun hk => ?_) fin
    refine st_iload hC1 dL_law_2491 rfl ?_
    refine st_i2l hC1 dL_law_2493 ?_
    refine st_lcmp_eq (tg := 2500) hC1 dL_law_2494 dL_law_2495 rfl ?_
    rw [if_pos (show o80 τ σ2 88 0 = v by rw [o80_80]; exact gv hk)]
    exact fin
  rcases hj with ⟨v, σ1, g1, g2⟩ | ⟨E, σ1, hE, g1, g2⟩
  · refine xs_callW (As := [rV 19 0, iV (sv xs (i + 1)), iV (sv xs (i + 2)), rV 35 88]) (S := []) W.1 W.2.1 dL_law_2449 (csw_L 4 W.2.2.2.2.2.2.1 gW_least ⟨by decide, by decide, rfl⟩ ⟨hfr, by omega⟩) W.2.2.2.2.2.1 rfl (by decide) hcl hsl (w_least g1) ?_
    obtain ⟨σ2, g3, g4, g5⟩ := g2 _ (ag_up (σ := σ))
    exact tail 0 _ σ2 v g3 g4 (fun _ => ups_eq9) g5
  · refine xs_callW (As := [rV 19 0, iV (sv xs (i + 1)), iV (sv xs (i + 2)), rV 35 88]) (S := []) W.1 W.2.1 dL_law_2449 (csw_L 4 W.2.2.2.2.2.2.1 gW_least ⟨by decide, by decide, rfl⟩ ⟨hfr, by omega⟩) W.2.2.2.2.2.1 rfl (by decide) hcl hsl (w_least_x hE g1) ?_
    obtain ⟨v, σ2, g3, g4, g5⟩ := g2 _ (ag_o (σ := σ))
    exact tail (cdN E) _ σ2 v g3 g4 (fun z => absurd z hE) g5
set_option maxRecDepth 20000 in
theorem lc_32 {p : Program} {l : Launch} {e : Env} {R : Room} {s : State} {m : MethodId} {args : Array Value} {below : List Frame} {meth : Method} {c : Code} {K : KT} {A : Nat → Prop} {nL cl sl : Nat} {hh : Prop} {Q : State → Prop} {r : Option FieldType} {σ : Sg} {n : Nat} {xs : Nat → Int32} {P : Sg → Prop} {i : Int} (W : LwC p l R s m args meth c K A nL r hh n xs P) (hi : 0 ≤ i ∧ i + 5 < (n : Int)) (hcl : cl + 1 ≤ R.cells) (hsl : sl + 6 ≤ R.slots) (hj : JnP P MX10_friends MX11_friends [] σ) (h : ∀ σ2, P σ2 → XM p l e R s m args below meth c K A nL (cl + 1) (sl + 6) Q 3786 (LL i uV uV uV) [] σ2) : XM p l e R s m args below meth c K A nL cl sl Q 2503 (LL i uV uV uV) [] σ := by
  obtain ⟨hfr, hlo, hn⟩ := (⟨W.2.2.2.2.2.2.2.1, W.2.2.2.2.2.2.2.2.1, W.2.2.2.2.2.2.2.2.2.1⟩ : 61 ≤ R.frames ∧ 1940 ≤ R.locals ∧ n < 2147483648)
  have hC := clo_L (Q := Q) (R := R) (e := e) (below := below) (cl := cl) (sl := sl) (d := 40) W.1 W.2.1 (by omega) (by omega) (by omega) (by omega)
  refine st_aload_n hC dL_law_2503 rfl (by decide) (by decide) ?_
  obtain ⟨v, σ1, g1, σ2, g2, g3⟩ := hj
  refine xs_callG (d := 40) (t := 19) (a := 0) (As := []) (S := []) (τ := σ) W.1 W.2.1 dL_law_2504 (show look (CLt 12) 288 = some (MX10_friends, false, 0) from rfl) rfl (by decide) (by omega) (by omega) (by show cl + 0 ≤ _; omega) (by show sl + 0 ≤ _; omega) ⟨9, by decide, rfl, by decide +kernel⟩ (n9 rfl) (fun vs hvs => by cases hvs; exact n9 rfl) (fun _ _ => rfl) (fun z => z) g1 (fun vs hvs hO1 => ?_) (fun E hE => by cases hE)
  cases hvs
  refine st_aload_n hC dL_law_2507 rfl (by decide) (by decide) ?_
  refine xs_callG (d := 40) (t := 20) (a := 66) (As := []) (S := [iV v]) (τ := σ1) W.1 W.2.1 dL_law_2508 (show look (CLt 12) 291 = some (MX11_friends, false, 0) from rfl) rfl (Nat.le_of_ble_eq_true rfl) (by omega) (by omega) (by show cl + 0 ≤ _; omega) (by show sl + 0 ≤ _; omega) ⟨10, by decide, rfl, by decide +kernel⟩ (n9 rfl) (fun vs hvs => by cases hvs; exact n9 rfl) (fun a ha => (ag_o a ha).symm) (fun _ => hO1) g2 (fun vs hvs hO2 => ?_) (fun E hE => by cases hE)
  cases hvs
  refine st_icmp_eq (tg := 3786) hC dL_law_2511 rfl ?_
  rw [if_pos rfl]
  exact XM_wid (Nat.le_add_right _ _) (Nat.le_add_right _ _) (h _ (W.2.2.2.2.2.2.2.2.2.2.2 _ _ ag_o g3))
set_option maxRecDepth 20000 in
theorem lc_33 {p : Program} {l : Launch} {e : Env} {R : Room} {s : State} {m : MethodId} {args : Array Value} {below : List Frame} {meth : Method} {c : Code} {K : KT} {A : Nat → Prop} {nL cl sl : Nat} {hh : Prop} {Q : State → Prop} {r : Option FieldType} {σ : Sg} {n : Nat} {xs : Nat → Int32} {P : Sg → Prop} {i : Int} (W : LwC p l R s m args meth c K A nL r hh n xs P) (hi : 0 ≤ i ∧ i + 5 < (n : Int)) (hcl : cl + 1 ≤ R.cells) (hsl : sl + 6 ≤ R.slots) (hj : JtP P MX10_stolen MX11_stolen [iV (sv xs (i + 1)), lV (lg2 (sv xs (i + 2)) (sv xs (i + 3))), lV (lg2 (sv xs (i + 4)) (sv xs (i + 5)))] (fun v => iV v) cdNI σ) (h : ∀ σ2, P σ2 → XM p l e R s m args below meth c K A nL (cl + 1) (sl + 6) Q 3786 (LL i uV uV uV) [] σ2) : XM p l e R s m args below meth c K A nL cl sl Q 2516 (LL i uV uV uV) [] σ := by
  obtain ⟨hfr, hlo, hn⟩ := (⟨W.2.2.2.2.2.2.2.1, W.2.2.2.2.2.2.2.2.1, W.2.2.2.2.2.2.2.2.2.1⟩ : 61 ≤ R.frames ∧ 1940 ≤ R.locals ∧ n < 2147483648)
  have hC := clo_L (Q := Q) (R := R) (e := e) (below := below) (cl := cl) (sl := sl) (d := 40) W.1 W.2.1 (by omega) (by omega) (by omega) (by omega)
  refine st_aload_n hC dL_law_2516 rfl (by decide) (by decide) ?_
  refine sc_rd (j := 1) W hC ⟨by omega, by omega⟩ rfl dL_law_2517 dL_law_2518 dL_law_2520 dL_law_2521 dL_law_2522 ?_
  refine sc_rl (j := 2) (j' := 3) W hC ⟨by omega, by omega⟩ rfl ⟨by omega, by omega⟩ rfl dL_law_2523 dL_law_2524 dL_law_2526 dL_law_2527 dL_law_2528 dL_law_2529 dL_law_2530 dL_law_2532 dL_law_2533 dL_law_2534 dL_law_2536 dL_law_2537 dL_law_2538 dL_law_2539 dL_law_2540 dL_law_2543 dL_law_2544 ?_
  refine sc_rl (j := 4) (j' := 5) W hC ⟨by omega, by omega⟩ rfl ⟨by omega, by omega⟩ rfl dL_law_2545 dL_law_2546 dL_law_2548 dL_law_2549 dL_law_2550 dL_law_2551 dL_law_2552 dL_law_2554 dL_law_2555 dL_law_2556 dL_law_2558 dL_law_2559 dL_law_2560 dL_law_2561 dL_law_2562 dL_law_2565 dL_law_2566 ?_
  refine st_aload_n hC dL_law_2567 rfl (by decide) (by decide) ?_
  have tail : ∀ (k : Int) (τ σ2 : Sg) (v : Int) , Ct 40 MX11_stolen (rV 20 66 :: [iV (sv xs (i + 1)), lV (lg2 (sv xs (i + 2)) (sv xs (i + 3))), lV (lg2 (sv xs (i + 4)) (sv xs (i + 5)))]) τ (.inl [iV v]) σ2 → σ2 66 5 = k → (k = 0 → τ 88 0 = v) → P σ2 → XM p l e R s m args below meth c K A nL (cl + 1) (sl + 6) Q 2571 (LL i uV uV uV) [iV k] τ := by
    intro k τ σ2 v g3 g4 gv g5
    have hC1 := clo_L (Q := Q) (R := R) (e := e) (below := below) (cl := cl + 1) (sl := sl + 6) (d := 40) W.1 W.2.1 (by omega) (by omega) (by omega) (by omega)
    refine st_istore hC1 dL_law_2571 (Nat.le_of_ble_eq_true rfl) (L2 := LL i (iV k) uV uV) rfl ?_
    refine st_aload_n hC1 dL_law_2573 rfl (by decide) (by decide) ?_
    refine sc_rd (j := 1) W hC1 ⟨by omega, by omega⟩ rfl dL_law_2574 dL_law_2575 dL_law_2577 dL_law_2578 dL_law_2579 ?_
    refine sc_rl (j := 2) (j' := 3) W hC1 ⟨by omega, by omega⟩ rfl ⟨by omega, by omega⟩ rfl dL_law_2580 dL_law_2581 dL_law_2583 dL_law_2584 dL_law_2585 dL_law_2586 dL_law_2587 dL_law_2589 dL_law_2590 dL_law_2591 dL_law_2593 dL_law_2594 dL_law_2595 dL_law_2596 dL_law_2597 dL_law_2600 dL_law_2601 ?_
    refine sc_rl (j := 4) (j' := 5) W hC1 ⟨by omega, by omega⟩ rfl ⟨by omega, by omega⟩ rfl dL_law_2602 dL_law_2603 dL_law_2605 dL_law_2606 dL_law_2607 dL_law_2608 dL_law_2609 dL_law_2611 dL_law_2612 dL_law_2613 dL_law_2615 dL_law_2616 dL_law_2617 dL_law_2618 dL_law_2619 dL_law_2622 dL_law_2623 ?_
    refine st_invV (t := 20) (a := 66) (ci := 10) (As := [iV (sv xs (i + 1)), lV (lg2 (sv xs (i + 2)) (sv xs (i + 3))), lV (lg2 (sv xs (i + 4)) (sv xs (i + 5)))]) (S := []) (y := MX11_stolen) hC1 dL_law_2624 (show look (CLt 12) 294 = some (MX11_stolen, false, 3) from rfl) rfl rfl (by decide) ⟨by decide, rfl, by decide +kernel⟩ (ctn g3 rfl rfl) ?_
    refine st_istore hC1 dL_law_2627 (Nat.le_of_ble_eq_true rfl) (L2 := LL i (iV k) (iV v) uV) rfl ?_
    refine seg_C (t1 := 2640) W (by omega) (by omega) (show o80 τ σ2 66 5 = k by rw [o80_ne (by decide)]; exact g4) dL_law_2629 dL_law_2630 dL_law_2633 dL_law_2635 rfl ?_
    have fin : XM p l e R s m args below meth c K A nL (cl + 1) (sl + 6) Q 2657 (LL i (iV k) (iV v) uV) [] (o80 τ σ2) := by
      refine st_goto (tg := 3786) hC1 dL_law_2657 rfl ?_
      exact st_fg hC1 wk_L (h _ (W.2.2.2.2.2.2.2.2.2.2.2 _ _ ag_o g5))
    refine seg_D (t1 := 2657) W (by omega) (by omega) dL_law_2640 dL_law_2642 rfl dL_law_2645 dL_law_2646 dL_law_2647 (fun hk => ?_) fin
    refine st_iload hC1 dL_law_2648 rfl ?_
    refine st_i2l hC1 dL_law_2650 ?_
    refine st_lcmp_eq (tg := 2657) hC1 dL_law_2651 dL_law_2652 rfl ?_
    rw [if_pos (show o80 τ σ2 88 0 = v by rw [o80_80]; exact gv hk)]
    exact fin
  rcases hj with ⟨v, σ1, g1, g2⟩ | ⟨E, σ1, hE, g1, g2⟩
  · refine xs_callW (As := [rV 19 0, iV (sv xs (i + 1)), lV (lg2 (sv xs (i + 2)) (sv xs (i + 3))), lV (lg2 (sv xs (i + 4)) (sv xs (i + 5))), rV 35 88]) (S := []) W.1 W.2.1 dL_law_2568 (csw_L 5 W.2.2.2.2.2.2.1 gW_stolen ⟨by decide, by decide, rfl⟩ ⟨hfr, by omega⟩) W.2.2.2.2.2.1 rfl (by decide) hcl hsl (w_stolen g1) ?_
    obtain ⟨σ2, g3, g4, g5⟩ := g2 _ (ag_up (σ := σ))
    exact tail 0 _ σ2 v g3 g4 (fun _ => ups_eq9) g5
  · refine xs_callW (As := [rV 19 0, iV (sv xs (i + 1)), lV (lg2 (sv xs (i + 2)) (sv xs (i + 3))), lV (lg2 (sv xs (i + 4)) (sv xs (i + 5))), rV 35 88]) (S := []) W.1 W.2.1 dL_law_2568 (csw_L 5 W.2.2.2.2.2.2.1 gW_stolen ⟨by decide, by decide, rfl⟩ ⟨hfr, by omega⟩) W.2.2.2.2.2.1 rfl (by decide) hcl hsl (w_stolen_x hE g1) ?_
    obtain ⟨v, σ2, g3, g4, g5⟩ := g2 _ (ag_o (σ := σ))
    exact tail (cdNI E) _ σ2 v g3 g4 (fun z => absurd z hE) g5
set_option maxRecDepth 20000 in
theorem lc_34 {p : Program} {l : Launch} {e : Env} {R : Room} {s : State} {m : MethodId} {args : Array Value} {below : List Frame} {meth : Method} {c : Code} {K : KT} {A : Nat → Prop} {nL cl sl : Nat} {hh : Prop} {Q : State → Prop} {r : Option FieldType} {σ : Sg} {n : Nat} {xs : Nat → Int32} {P : Sg → Prop} {i : Int} (W : LwC p l R s m args meth c K A nL r hh n xs P) (hi : 0 ≤ i ∧ i + 5 < (n : Int)) (hcl : cl + 1 ≤ R.cells) (hsl : sl + 6 ≤ R.slots) (hj : JtP P MX10_fitting MX11_fitting [iV (sv xs (i + 1)), iV (sv xs (i + 2)), iV (sv xs (i + 3))] (fun v => lV v) cdJ σ) (h : ∀ σ2, P σ2 → XM p l e R s m args below meth c K A nL (cl + 1) (sl + 6) Q 3786 (LL i uV uV uV) [] σ2) : XM p l e R s m args below meth c K A nL cl sl Q 2660 (LL i uV uV uV) [] σ := by
  obtain ⟨hfr, hlo, hn⟩ := (⟨W.2.2.2.2.2.2.2.1, W.2.2.2.2.2.2.2.2.1, W.2.2.2.2.2.2.2.2.2.1⟩ : 61 ≤ R.frames ∧ 1940 ≤ R.locals ∧ n < 2147483648)
  have hC := clo_L (Q := Q) (R := R) (e := e) (below := below) (cl := cl) (sl := sl) (d := 40) W.1 W.2.1 (by omega) (by omega) (by omega) (by omega)
  refine st_aload_n hC dL_law_2660 rfl (by decide) (by decide) ?_
  refine sc_rd (j := 1) W hC ⟨by omega, by omega⟩ rfl dL_law_2661 dL_law_2662 dL_law_2664 dL_law_2665 dL_law_2666 ?_
  refine sc_rd (j := 2) W hC ⟨by omega, by omega⟩ rfl dL_law_2667 dL_law_2668 dL_law_2670 dL_law_2671 dL_law_2672 ?_
  refine sc_rd (j := 3) W hC ⟨by omega, by omega⟩ rfl dL_law_2673 dL_law_2674 dL_law_2676 dL_law_2677 dL_law_2678 ?_
  refine st_aload_n hC dL_law_2679 rfl (by decide) (by decide) ?_
  have tail : ∀ (k : Int) (τ σ2 : Sg) (v : Int) , Ct 40 MX11_fitting (rV 20 66 :: [iV (sv xs (i + 1)), iV (sv xs (i + 2)), iV (sv xs (i + 3))]) τ (.inl [lV v]) σ2 → σ2 66 5 = k → (k = 0 → τ 88 0 = v) → P σ2 → XM p l e R s m args below meth c K A nL (cl + 1) (sl + 6) Q 2683 (LL i uV uV uV) [iV k] τ := by
    intro k τ σ2 v g3 g4 gv g5
    have hC1 := clo_L (Q := Q) (R := R) (e := e) (below := below) (cl := cl + 1) (sl := sl + 6) (d := 40) W.1 W.2.1 (by omega) (by omega) (by omega) (by omega)
    refine st_istore hC1 dL_law_2683 (Nat.le_of_ble_eq_true rfl) (L2 := LL i (iV k) uV uV) rfl ?_
    refine st_aload_n hC1 dL_law_2685 rfl (by decide) (by decide) ?_
    refine sc_rd (j := 1) W hC1 ⟨by omega, by omega⟩ rfl dL_law_2686 dL_law_2687 dL_law_2689 dL_law_2690 dL_law_2691 ?_
    refine sc_rd (j := 2) W hC1 ⟨by omega, by omega⟩ rfl dL_law_2692 dL_law_2693 dL_law_2695 dL_law_2696 dL_law_2697 ?_
    refine sc_rd (j := 3) W hC1 ⟨by omega, by omega⟩ rfl dL_law_2698 dL_law_2699 dL_law_2701 dL_law_2702 dL_law_2703 ?_
    refine st_invV (t := 20) (a := 66) (ci := 10) (As := [iV (sv xs (i + 1)), iV (sv xs (i + 2)), iV (sv xs (i + 3))]) (S := []) (y := MX11_fitting) hC1 dL_law_2704 (show look (CLt 12) 297 = some (MX11_fitting, false, 3) from rfl) rfl rfl (by decide) ⟨by decide, rfl, by decide +kernel⟩ (ctn g3 rfl rfl) ?_
    refine st_lstore hC1 dL_law_2707 (Nat.le_of_ble_eq_true rfl) (L2 := LL i (iV k) (lV v) uV) rfl ?_
    refine seg_C (t1 := 2720) W (by omega) (by omega) (show o80 τ σ2 66 5 = k by rw [o80_ne (by decide)]; exact g4) dL_law_2709 dL_law_2710 dL_law_2713 dL_law_2715 rfl ?_
    have fin : XM p l e R s m args below meth c K A nL (cl + 1) (sl + 6) Q 2736 (LL i (iV k) (lV v) uV) [] (o80 τ σ2) := by
      refine st_goto (tg := 3786) hC1 dL_law_2736 rfl ?_
      exact st_fg hC1 wk_L (h _ (W.2.2.2.2.2.2.2.2.2.2.2 _ _ ag_o g5))
    refine seg_D (t1 := 2736) W (by omega) (by omega) dL_law_2720 dL_law_2722 rfl dL_law_2725 dL_law_2726 dL_law_2727 (fun hk => ?_) fin
    refine st_lload hC1 dL_law_2728 rfl ?_
    refine st_lcmp_eq (tg := 2736) hC1 dL_law_2730 dL_law_2731 rfl ?_
    rw [if_pos (show o80 τ σ2 88 0 = v by rw [o80_80]; exact gv hk)]
    exact fin
  rcases hj with ⟨v, σ1, g1, g2⟩ | ⟨E, σ1, hE, g1, g2⟩
  · refine xs_callW (As := [rV 19 0, iV (sv xs (i + 1)), iV (sv xs (i + 2)), iV (sv xs (i + 3)), rV 35 88]) (S := []) W.1 W.2.1 dL_law_2680 (csw_L 5 W.2.2.2.2.2.2.1 gW_fitting ⟨by decide, by decide, rfl⟩ ⟨hfr, by omega⟩) W.2.2.2.2.2.1 rfl (by decide) hcl hsl (w_fitting g1) ?_
    obtain ⟨σ2, g3, g4, g5⟩ := g2 _ (ag_up (σ := σ))
    exact tail 0 _ σ2 v g3 g4 (fun _ => ups_eq9) g5
  · refine xs_callW (As := [rV 19 0, iV (sv xs (i + 1)), iV (sv xs (i + 2)), iV (sv xs (i + 3)), rV 35 88]) (S := []) W.1 W.2.1 dL_law_2680 (csw_L 5 W.2.2.2.2.2.2.1 gW_fitting ⟨by decide, by decide, rfl⟩ ⟨hfr, by omega⟩) W.2.2.2.2.2.1 rfl (by decide) hcl hsl (w_fitting_x hE g1) ?_
    obtain ⟨v, σ2, g3, g4, g5⟩ := g2 _ (ag_o (σ := σ))
    exact tail (cdJ E) _ σ2 v g3 g4 (fun z => absurd z hE) g5
set_option maxRecDepth 20000 in
theorem lc_35 {p : Program} {l : Launch} {e : Env} {R : Room} {s : State} {m : MethodId} {args : Array Value} {below : List Frame} {meth : Method} {c : Code} {K : KT} {A : Nat → Prop} {nL cl sl : Nat} {hh : Prop} {Q : State → Prop} {r : Option FieldType} {σ : Sg} {n : Nat} {xs : Nat → Int32} {P : Sg → Prop} {i : Int} (W : LwC p l R s m args meth c K A nL r hh n xs P) (hi : 0 ≤ i ∧ i + 5 < (n : Int)) (hcl : cl + 1 ≤ R.cells) (hsl : sl + 6 ≤ R.slots) (hj : JtP P MX10_trial MX11_trial [iV (sv xs (i + 1)), iV (sv xs (i + 2))] (fun v => iV v) cdI σ) (h : ∀ σ2, P σ2 → XM p l e R s m args below meth c K A nL (cl + 1) (sl + 6) Q 3786 (LL i uV uV uV) [] σ2) : XM p l e R s m args below meth c K A nL cl sl Q 2739 (LL i uV uV uV) [] σ := by
  obtain ⟨hfr, hlo, hn⟩ := (⟨W.2.2.2.2.2.2.2.1, W.2.2.2.2.2.2.2.2.1, W.2.2.2.2.2.2.2.2.2.1⟩ : 61 ≤ R.frames ∧ 1940 ≤ R.locals ∧ n < 2147483648)
  have hC := clo_L (Q := Q) (R := R) (e := e) (below := below) (cl := cl) (sl := sl) (d := 40) W.1 W.2.1 (by omega) (by omega) (by omega) (by omega)
  refine st_aload_n hC dL_law_2739 rfl (by decide) (by decide) ?_
  refine sc_rd (j := 1) W hC ⟨by omega, by omega⟩ rfl dL_law_2740 dL_law_2741 dL_law_2743 dL_law_2744 dL_law_2745 ?_
  refine sc_rd (j := 2) W hC ⟨by omega, by omega⟩ rfl dL_law_2746 dL_law_2747 dL_law_2749 dL_law_2750 dL_law_2751 ?_
  refine st_aload_n hC dL_law_2752 rfl (by decide) (by decide) ?_
  have tail : ∀ (k : Int) (τ σ2 : Sg) (v : Int) , Ct 40 MX11_trial (rV 20 66 :: [iV (sv xs (i + 1)), iV (sv xs (i + 2))]) τ (.inl [iV v]) σ2 → σ2 66 5 = k → (k = 0 → τ 88 0 = v) → P σ2 → XM p l e R s m args below meth c K A nL (cl + 1) (sl + 6) Q 2756 (LL i uV uV uV) [iV k] τ := by
    intro k τ σ2 v g3 g4 gv g5
    have hC1 := clo_L (Q := Q) (R := R) (e := e) (below := below) (cl := cl + 1) (sl := sl + 6) (d := 40) W.1 W.2.1 (by omega) (by omega) (by omega) (by omega)
    refine st_istore hC1 dL_law_2756 (Nat.le_of_ble_eq_true rfl) (L2 := LL i (iV k) uV uV) rfl ?_
    refine st_aload_n hC1 dL_law_2758 rfl (by decide) (by decide) ?_
    refine sc_rd (j := 1) W hC1 ⟨by omega, by omega⟩ rfl dL_law_2759 dL_law_2760 dL_law_2762 dL_law_2763 dL_law_2764 ?_
    refine sc_rd (j := 2) W hC1 ⟨by omega, by omega⟩ rfl dL_law_2765 dL_law_2766 dL_law_2768 dL_law_2769 dL_law_2770 ?_
    refine st_invV (t := 20) (a := 66) (ci := 10) (As := [iV (sv xs (i + 1)), iV (sv xs (i + 2))]) (S := []) (y := MX11_trial) hC1 dL_law_2771 (show look (CLt 12) 300 = some (MX11_trial, false, 2) from rfl) rfl rfl (by decide) ⟨by decide, rfl, by decide +kernel⟩ (ctn g3 rfl rfl) ?_
    refine st_istore hC1 dL_law_2774 (Nat.le_of_ble_eq_true rfl) (L2 := LL i (iV k) (iV v) uV) rfl ?_
    refine seg_C (t1 := 2787) W (by omega) (by omega) (show o80 τ σ2 66 5 = k by rw [o80_ne (by decide)]; exact g4) dL_law_2776 dL_law_2777 dL_law_2780 dL_law_2782 rfl ?_
    have fin : XM p l e R s m args below meth c K A nL (cl + 1) (sl + 6) Q 2804 (LL i (iV k) (iV v) uV) [] (o80 τ σ2) := by
      refine st_goto (tg := 3786) hC1 dL_law_2804 rfl ?_
      exact st_fg hC1 wk_L (h _ (W.2.2.2.2.2.2.2.2.2.2.2 _ _ ag_o g5))
    refine seg_D (t1 := 2804) W (by omega) (by omega) dL_law_2787 dL_law_2789 rfl dL_law_2792 dL_law_2793 dL_law_2794 (fun hk => ?_) fin
    refine st_iload hC1 dL_law_2795 rfl ?_
    refine st_i2l hC1 dL_law_2797 ?_
    refine st_lcmp_eq (tg := 2804) hC1 dL_law_2798 dL_law_2799 rfl ?_
    rw [if_pos (show o80 τ σ2 88 0 = v by rw [o80_80]; exact gv hk)]
    exact fin
  rcases hj with ⟨v, σ1, g1, g2⟩ | ⟨E, σ1, hE, g1, g2⟩
  · refine xs_callW (As := [rV 19 0, iV (sv xs (i + 1)), iV (sv xs (i + 2)), rV 35 88]) (S := []) W.1 W.2.1 dL_law_2753 (csw_L 4 W.2.2.2.2.2.2.1 gW_trial ⟨by decide, by decide, rfl⟩ ⟨hfr, by omega⟩) W.2.2.2.2.2.1 rfl (by decide) hcl hsl (w_trial g1) ?_
    obtain ⟨σ2, g3, g4, g5⟩ := g2 _ (ag_up (σ := σ))
    exact tail 0 _ σ2 v g3 g4 (fun _ => ups_eq9) g5
  · refine xs_callW (As := [rV 19 0, iV (sv xs (i + 1)), iV (sv xs (i + 2)), rV 35 88]) (S := []) W.1 W.2.1 dL_law_2753 (csw_L 4 W.2.2.2.2.2.2.1 gW_trial ⟨by decide, by decide, rfl⟩ ⟨hfr, by omega⟩) W.2.2.2.2.2.1 rfl (by decide) hcl hsl (w_trial_x hE g1) ?_
    obtain ⟨v, σ2, g3, g4, g5⟩ := g2 _ (ag_o (σ := σ))
    exact tail (cdI E) _ σ2 v g3 g4 (fun z => absurd z hE) g5
set_option maxRecDepth 20000 in
theorem lc_36 {p : Program} {l : Launch} {e : Env} {R : Room} {s : State} {m : MethodId} {args : Array Value} {below : List Frame} {meth : Method} {c : Code} {K : KT} {A : Nat → Prop} {nL cl sl : Nat} {hh : Prop} {Q : State → Prop} {r : Option FieldType} {σ : Sg} {n : Nat} {xs : Nat → Int32} {P : Sg → Prop} {i : Int} (W : LwC p l R s m args meth c K A nL r hh n xs P) (hi : 0 ≤ i ∧ i + 5 < (n : Int)) (hcl : cl + 1 ≤ R.cells) (hsl : sl + 6 ≤ R.slots) (hj : JtP P MX10_squares MX11_squares [iV (sv xs (i + 1)), iV (sv xs (i + 2))] (fun v => iV v) cdI σ) (h : ∀ σ2, P σ2 → XM p l e R s m args below meth c K A nL (cl + 1) (sl + 6) Q 3786 (LL i uV uV uV) [] σ2) : XM p l e R s m args below meth c K A nL cl sl Q 2807 (LL i uV uV uV) [] σ := by
  obtain ⟨hfr, hlo, hn⟩ := (⟨W.2.2.2.2.2.2.2.1, W.2.2.2.2.2.2.2.2.1, W.2.2.2.2.2.2.2.2.2.1⟩ : 61 ≤ R.frames ∧ 1940 ≤ R.locals ∧ n < 2147483648)
  have hC := clo_L (Q := Q) (R := R) (e := e) (below := below) (cl := cl) (sl := sl) (d := 40) W.1 W.2.1 (by omega) (by omega) (by omega) (by omega)
  refine st_aload_n hC dL_law_2807 rfl (by decide) (by decide) ?_
  refine sc_rd (j := 1) W hC ⟨by omega, by omega⟩ rfl dL_law_2808 dL_law_2809 dL_law_2811 dL_law_2812 dL_law_2813 ?_
  refine sc_rd (j := 2) W hC ⟨by omega, by omega⟩ rfl dL_law_2814 dL_law_2815 dL_law_2817 dL_law_2818 dL_law_2819 ?_
  refine st_aload_n hC dL_law_2820 rfl (by decide) (by decide) ?_
  have tail : ∀ (k : Int) (τ σ2 : Sg) (v : Int) , Ct 40 MX11_squares (rV 20 66 :: [iV (sv xs (i + 1)), iV (sv xs (i + 2))]) τ (.inl [iV v]) σ2 → σ2 66 5 = k → (k = 0 → τ 88 0 = v) → P σ2 → XM p l e R s m args below meth c K A nL (cl + 1) (sl + 6) Q 2824 (LL i uV uV uV) [iV k] τ := by
    intro k τ σ2 v g3 g4 gv g5
    have hC1 := clo_L (Q := Q) (R := R) (e := e) (below := below) (cl := cl + 1) (sl := sl + 6) (d := 40) W.1 W.2.1 (by omega) (by omega) (by omega) (by omega)
    refine st_istore hC1 dL_law_2824 (Nat.le_of_ble_eq_true rfl) (L2 := LL i (iV k) uV uV) rfl ?_
    refine st_aload_n hC1 dL_law_2826 rfl (by decide) (by decide) ?_
    refine sc_rd (j := 1) W hC1 ⟨by omega, by omega⟩ rfl dL_law_2827 dL_law_2828 dL_law_2830 dL_law_2831 dL_law_2832 ?_
    refine sc_rd (j := 2) W hC1 ⟨by omega, by omega⟩ rfl dL_law_2833 dL_law_2834 dL_law_2836 dL_law_2837 dL_law_2838 ?_
    refine st_invV (t := 20) (a := 66) (ci := 10) (As := [iV (sv xs (i + 1)), iV (sv xs (i + 2))]) (S := []) (y := MX11_squares) hC1 dL_law_2839 (show look (CLt 12) 303 = some (MX11_squares, false, 2) from rfl) rfl rfl (by decide) ⟨by decide, rfl, by decide +kernel⟩ (ctn g3 rfl rfl) ?_
    refine st_istore hC1 dL_law_2842 (Nat.le_of_ble_eq_true rfl) (L2 := LL i (iV k) (iV v) uV) rfl ?_
    refine seg_C (t1 := 2855) W (by omega) (by omega) (show o80 τ σ2 66 5 = k by rw [o80_ne (by decide)]; exact g4) dL_law_2844 dL_law_2845 dL_law_2848 dL_law_2850 rfl ?_
    have fin : XM p l e R s m args below meth c K A nL (cl + 1) (sl + 6) Q 2872 (LL i (iV k) (iV v) uV) [] (o80 τ σ2) := by
      refine st_goto (tg := 3786) hC1 dL_law_2872 rfl ?_
      exact st_fg hC1 wk_L (h _ (W.2.2.2.2.2.2.2.2.2.2.2 _ _ ag_o g5))
    refine seg_D (t1 := 2872) W (by omega) (by omega) dL_law_2855 dL_law_2857 rfl dL_law_2860 dL_law_2861 dL_law_2862 (fun hk => ?_) fin
    refine st_iload hC1 dL_law_2863 rfl ?_
    refine st_i2l hC1 dL_law_2865 ?_
    refine st_lcmp_eq (tg := 2872) hC1 dL_law_2866 dL_law_2867 rfl ?_
    rw [if_pos (show o80 τ σ2 88 0 = v by rw [o80_80]; exact gv hk)]
    exact fin
  rcases hj with ⟨v, σ1, g1, g2⟩ | ⟨E, σ1, hE, g1, g2⟩
  · refine xs_callW (As := [rV 19 0, iV (sv xs (i + 1)), iV (sv xs (i + 2)), rV 35 88]) (S := []) W.1 W.2.1 dL_law_2821 (csw_L 4 W.2.2.2.2.2.2.1 gW_squares ⟨by decide, by decide, rfl⟩ ⟨hfr, by omega⟩) W.2.2.2.2.2.1 rfl (by decide) hcl hsl (w_squares g1) ?_
    obtain ⟨σ2, g3, g4, g5⟩ := g2 _ (ag_up (σ := σ))
    exact tail 0 _ σ2 v g3 g4 (fun _ => ups_eq9) g5
  · refine xs_callW (As := [rV 19 0, iV (sv xs (i + 1)), iV (sv xs (i + 2)), rV 35 88]) (S := []) W.1 W.2.1 dL_law_2821 (csw_L 4 W.2.2.2.2.2.2.1 gW_squares ⟨by decide, by decide, rfl⟩ ⟨hfr, by omega⟩) W.2.2.2.2.2.1 rfl (by decide) hcl hsl (w_squares_x hE g1) ?_
    obtain ⟨v, σ2, g3, g4, g5⟩ := g2 _ (ag_o (σ := σ))
    exact tail (cdI E) _ σ2 v g3 g4 (fun z => absurd z hE) g5
set_option maxRecDepth 20000 in
theorem lc_37 {p : Program} {l : Launch} {e : Env} {R : Room} {s : State} {m : MethodId} {args : Array Value} {below : List Frame} {meth : Method} {c : Code} {K : KT} {A : Nat → Prop} {nL cl sl : Nat} {hh : Prop} {Q : State → Prop} {r : Option FieldType} {σ : Sg} {n : Nat} {xs : Nat → Int32} {P : Sg → Prop} {i : Int} (W : LwC p l R s m args meth c K A nL r hh n xs P) (hi : 0 ≤ i ∧ i + 5 < (n : Int)) (hcl : cl + 1 ≤ R.cells) (hsl : sl + 6 ≤ R.slots) (hj : JtP P MX10_rounds MX11_rounds [iV (sv xs (i + 1)), iV (sv xs (i + 2)), iV (sv xs (i + 3))] (fun v => iV v) cdI σ) (h : ∀ σ2, P σ2 → XM p l e R s m args below meth c K A nL (cl + 1) (sl + 6) Q 3786 (LL i uV uV uV) [] σ2) : XM p l e R s m args below meth c K A nL cl sl Q 2875 (LL i uV uV uV) [] σ := by
  obtain ⟨hfr, hlo, hn⟩ := (⟨W.2.2.2.2.2.2.2.1, W.2.2.2.2.2.2.2.2.1, W.2.2.2.2.2.2.2.2.2.1⟩ : 61 ≤ R.frames ∧ 1940 ≤ R.locals ∧ n < 2147483648)
  have hC := clo_L (Q := Q) (R := R) (e := e) (below := below) (cl := cl) (sl := sl) (d := 40) W.1 W.2.1 (by omega) (by omega) (by omega) (by omega)
  refine st_aload_n hC dL_law_2875 rfl (by decide) (by decide) ?_
  refine sc_rd (j := 1) W hC ⟨by omega, by omega⟩ rfl dL_law_2876 dL_law_2877 dL_law_2879 dL_law_2880 dL_law_2881 ?_
  refine sc_rd (j := 2) W hC ⟨by omega, by omega⟩ rfl dL_law_2882 dL_law_2883 dL_law_2885 dL_law_2886 dL_law_2887 ?_
  refine sc_rd (j := 3) W hC ⟨by omega, by omega⟩ rfl dL_law_2888 dL_law_2889 dL_law_2891 dL_law_2892 dL_law_2893 ?_
  refine st_aload_n hC dL_law_2894 rfl (by decide) (by decide) ?_
  have tail : ∀ (k : Int) (τ σ2 : Sg) (v : Int) , Ct 40 MX11_rounds (rV 20 66 :: [iV (sv xs (i + 1)), iV (sv xs (i + 2)), iV (sv xs (i + 3))]) τ (.inl [iV v]) σ2 → σ2 66 5 = k → (k = 0 → τ 88 0 = v) → P σ2 → XM p l e R s m args below meth c K A nL (cl + 1) (sl + 6) Q 2898 (LL i uV uV uV) [iV k] τ := by
    intro k τ σ2 v g3 g4 gv g5
    have hC1 := clo_L (Q := Q) (R := R) (e := e) (below := below) (cl := cl + 1) (sl := sl + 6) (d := 40) W.1 W.2.1 (by omega) (by omega) (by omega) (by omega)
    refine st_istore hC1 dL_law_2898 (Nat.le_of_ble_eq_true rfl) (L2 := LL i (iV k) uV uV) rfl ?_
    refine st_aload_n hC1 dL_law_2900 rfl (by decide) (by decide) ?_
    refine sc_rd (j := 1) W hC1 ⟨by omega, by omega⟩ rfl dL_law_2901 dL_law_2902 dL_law_2904 dL_law_2905 dL_law_2906 ?_
    refine sc_rd (j := 2) W hC1 ⟨by omega, by omega⟩ rfl dL_law_2907 dL_law_2908 dL_law_2910 dL_law_2911 dL_law_2912 ?_
    refine sc_rd (j := 3) W hC1 ⟨by omega, by omega⟩ rfl dL_law_2913 dL_law_2914 dL_law_2916 dL_law_2917 dL_law_2918 ?_
    refine st_invV (t := 20) (a := 66) (ci := 10) (As := [iV (sv xs (i + 1)), iV (sv xs (i + 2)), iV (sv xs (i + 3))]) (S := []) (y := MX11_rounds) hC1 dL_law_2919 (show look (CLt 12) 306 = some (MX11_rounds, false, 3) from rfl) rfl rfl (by decide) ⟨by decide, rfl, by decide +kernel⟩ (ctn g3 rfl rfl) ?_
    refine st_istore hC1 dL_law_2922 (Nat.le_of_ble_eq_true rfl) (L2 := LL i (iV k) (iV v) uV) rfl ?_
    refine seg_C (t1 := 2935) W (by omega) (by omega) (show o80 τ σ2 66 5 = k by rw [o80_ne (by decide)]; exact g4) dL_law_2924 dL_law_2925 dL_law_2928 dL_law_2930 rfl ?_
    have fin : XM p l e R s m args below meth c K A nL (cl + 1) (sl + 6) Q 2952 (LL i (iV k) (iV v) uV) [] (o80 τ σ2) := by
      refine st_goto (tg := 3786) hC1 dL_law_2952 rfl ?_
      exact st_fg hC1 wk_L (h _ (W.2.2.2.2.2.2.2.2.2.2.2 _ _ ag_o g5))
    refine seg_D (t1 := 2952) W (by omega) (by omega) dL_law_2935 dL_law_2937 rfl dL_law_2940 dL_law_2941 dL_law_2942 (fun hk => ?_) fin
    refine st_iload hC1 dL_law_2943 rfl ?_
    refine st_i2l hC1 dL_law_2945 ?_
    refine st_lcmp_eq (tg := 2952) hC1 dL_law_2946 dL_law_2947 rfl ?_
    rw [if_pos (show o80 τ σ2 88 0 = v by rw [o80_80]; exact gv hk)]
    exact fin
  rcases hj with ⟨v, σ1, g1, g2⟩ | ⟨E, σ1, hE, g1, g2⟩
  · refine xs_callW (As := [rV 19 0, iV (sv xs (i + 1)), iV (sv xs (i + 2)), iV (sv xs (i + 3)), rV 35 88]) (S := []) W.1 W.2.1 dL_law_2895 (csw_L 5 W.2.2.2.2.2.2.1 gW_rounds ⟨by decide, by decide, rfl⟩ ⟨hfr, by omega⟩) W.2.2.2.2.2.1 rfl (by decide) hcl hsl (w_rounds g1) ?_
    obtain ⟨σ2, g3, g4, g5⟩ := g2 _ (ag_up (σ := σ))
    exact tail 0 _ σ2 v g3 g4 (fun _ => ups_eq9) g5
  · refine xs_callW (As := [rV 19 0, iV (sv xs (i + 1)), iV (sv xs (i + 2)), iV (sv xs (i + 3)), rV 35 88]) (S := []) W.1 W.2.1 dL_law_2895 (csw_L 5 W.2.2.2.2.2.2.1 gW_rounds ⟨by decide, by decide, rfl⟩ ⟨hfr, by omega⟩) W.2.2.2.2.2.1 rfl (by decide) hcl hsl (w_rounds_x hE g1) ?_
    obtain ⟨v, σ2, g3, g4, g5⟩ := g2 _ (ag_o (σ := σ))
    exact tail (cdI E) _ σ2 v g3 g4 (fun z => absurd z hE) g5
set_option maxRecDepth 20000 in
theorem lc_38 {p : Program} {l : Launch} {e : Env} {R : Room} {s : State} {m : MethodId} {args : Array Value} {below : List Frame} {meth : Method} {c : Code} {K : KT} {A : Nat → Prop} {nL cl sl : Nat} {hh : Prop} {Q : State → Prop} {r : Option FieldType} {σ : Sg} {n : Nat} {xs : Nat → Int32} {P : Sg → Prop} {i : Int} (W : LwC p l R s m args meth c K A nL r hh n xs P) (hi : 0 ≤ i ∧ i + 5 < (n : Int)) (hcl : cl + 1 ≤ R.cells) (hsl : sl + 6 ≤ R.slots) (hj : JtP P MX10_factor MX11_factor [iV (sv xs (i + 1)), iV (sv xs (i + 2))] (fun v => iV v) cdI σ) (h : ∀ σ2, P σ2 → XM p l e R s m args below meth c K A nL (cl + 1) (sl + 6) Q 3786 (LL i uV uV uV) [] σ2) : XM p l e R s m args below meth c K A nL cl sl Q 2955 (LL i uV uV uV) [] σ := by
  obtain ⟨hfr, hlo, hn⟩ := (⟨W.2.2.2.2.2.2.2.1, W.2.2.2.2.2.2.2.2.1, W.2.2.2.2.2.2.2.2.2.1⟩ : 61 ≤ R.frames ∧ 1940 ≤ R.locals ∧ n < 2147483648)
  have hC := clo_L (Q := Q) (R := R) (e := e) (below := below) (cl := cl) (sl := sl) (d := 40) W.1 W.2.1 (by omega) (by omega) (by omega) (by omega)
  refine st_aload_n hC dL_law_2955 rfl (by decide) (by decide) ?_
  refine sc_rd (j := 1) W hC ⟨by omega, by omega⟩ rfl dL_law_2956 dL_law_2957 dL_law_2959 dL_law_2960 dL_law_2961 ?_
  refine sc_rd (j := 2) W hC ⟨by omega, by omega⟩ rfl dL_law_2962 dL_law_2963 dL_law_2965 dL_law_2966 dL_law_2967 ?_
  refine st_aload_n hC dL_law_2968 rfl (by decide) (by decide) ?_
  have tail : ∀ (k : Int) (τ σ2 : Sg) (v : Int) , Ct 40 MX11_factor (rV 20 66 :: [iV (sv xs (i + 1)), iV (sv xs (i + 2))]) τ (.inl [iV v]) σ2 → σ2 66 5 = k → (k = 0 → τ 88 0 = v) → P σ2 → XM p l e R s m args below meth c K A nL (cl + 1) (sl + 6) Q 2972 (LL i uV uV uV) [iV k] τ := by
    intro k τ σ2 v g3 g4 gv g5
    have hC1 := clo_L (Q := Q) (R := R) (e := e) (below := below) (cl := cl + 1) (sl := sl + 6) (d := 40) W.1 W.2.1 (by omega) (by omega) (by omega) (by omega)
    refine st_istore hC1 dL_law_2972 (Nat.le_of_ble_eq_true rfl) (L2 := LL i (iV k) uV uV) rfl ?_
    refine st_aload_n hC1 dL_law_2974 rfl (by decide) (by decide) ?_
    refine sc_rd (j := 1) W hC1 ⟨by omega, by omega⟩ rfl dL_law_2975 dL_law_2976 dL_law_2978 dL_law_2979 dL_law_2980 ?_
    refine sc_rd (j := 2) W hC1 ⟨by omega, by omega⟩ rfl dL_law_2981 dL_law_2982 dL_law_2984 dL_law_2985 dL_law_2986 ?_
    refine st_invV (t := 20) (a := 66) (ci := 10) (As := [iV (sv xs (i + 1)), iV (sv xs (i + 2))]) (S := []) (y := MX11_factor) hC1 dL_law_2987 (show look (CLt 12) 309 = some (MX11_factor, false, 2) from rfl) rfl rfl (by decide) ⟨by decide, rfl, by decide +kernel⟩ (ctn g3 rfl rfl) ?_
    refine st_istore hC1 dL_law_2990 (Nat.le_of_ble_eq_true rfl) (L2 := LL i (iV k) (iV v) uV) rfl ?_
    refine seg_C (t1 := 3003) W (by omega) (by omega) (show o80 τ σ2 66 5 = k by rw [o80_ne (by decide)]; exact g4) dL_law_2992 dL_law_2993 dL_law_2996 dL_law_2998 rfl ?_
    have fin : XM p l e R s m args below meth c K A nL (cl + 1) (sl + 6) Q 3020 (LL i (iV k) (iV v) uV) [] (o80 τ σ2) := by
      refine st_goto (tg := 3786) hC1 dL_law_3020 rfl ?_
      exact st_fg hC1 wk_L (h _ (W.2.2.2.2.2.2.2.2.2.2.2 _ _ ag_o g5))
    refine seg_D (t1 := 3020) W (by omega) (by omega) dL_law_3003 dL_law_3005 rfl dL_law_3008 dL_law_3009 dL_law_3010 (fun hk => ?_) fin
    refine st_iload hC1 dL_law_3011 rfl ?_
    refine st_i2l hC1 dL_law_3013 ?_
    refine st_lcmp_eq (tg := 3020) hC1 dL_law_3014 dL_law_3015 rfl ?_
    rw [if_pos (show o80 τ σ2 88 0 = v by rw [o80_80]; exact gv hk)]
    exact fin
  rcases hj with ⟨v, σ1, g1, g2⟩ | ⟨E, σ1, hE, g1, g2⟩
  · refine xs_callW (As := [rV 19 0, iV (sv xs (i + 1)), iV (sv xs (i + 2)), rV 35 88]) (S := []) W.1 W.2.1 dL_law_2969 (csw_L 4 W.2.2.2.2.2.2.1 gW_factor ⟨by decide, by decide, rfl⟩ ⟨hfr, by omega⟩) W.2.2.2.2.2.1 rfl (by decide) hcl hsl (w_factor g1) ?_
    obtain ⟨σ2, g3, g4, g5⟩ := g2 _ (ag_up (σ := σ))
    exact tail 0 _ σ2 v g3 g4 (fun _ => ups_eq9) g5
  · refine xs_callW (As := [rV 19 0, iV (sv xs (i + 1)), iV (sv xs (i + 2)), rV 35 88]) (S := []) W.1 W.2.1 dL_law_2969 (csw_L 4 W.2.2.2.2.2.2.1 gW_factor ⟨by decide, by decide, rfl⟩ ⟨hfr, by omega⟩) W.2.2.2.2.2.1 rfl (by decide) hcl hsl (w_factor_x hE g1) ?_
    obtain ⟨v, σ2, g3, g4, g5⟩ := g2 _ (ag_o (σ := σ))
    exact tail (cdI E) _ σ2 v g3 g4 (fun z => absurd z hE) g5
set_option maxRecDepth 20000 in
theorem lc_39 {p : Program} {l : Launch} {e : Env} {R : Room} {s : State} {m : MethodId} {args : Array Value} {below : List Frame} {meth : Method} {c : Code} {K : KT} {A : Nat → Prop} {nL cl sl : Nat} {hh : Prop} {Q : State → Prop} {r : Option FieldType} {σ : Sg} {n : Nat} {xs : Nat → Int32} {P : Sg → Prop} {i : Int} (W : LwC p l R s m args meth c K A nL r hh n xs P) (hi : 0 ≤ i ∧ i + 5 < (n : Int)) (hcl : cl + 1 ≤ R.cells) (hsl : sl + 6 ≤ R.slots) (hj : JtP P MX10_smooth MX11_smooth [iV (sv xs (i + 1)), iV (sv xs (i + 2))] (fun v => iV v) cdI σ) (h : ∀ σ2, P σ2 → XM p l e R s m args below meth c K A nL (cl + 1) (sl + 6) Q 3786 (LL i uV uV uV) [] σ2) : XM p l e R s m args below meth c K A nL cl sl Q 3023 (LL i uV uV uV) [] σ := by
  obtain ⟨hfr, hlo, hn⟩ := (⟨W.2.2.2.2.2.2.2.1, W.2.2.2.2.2.2.2.2.1, W.2.2.2.2.2.2.2.2.2.1⟩ : 61 ≤ R.frames ∧ 1940 ≤ R.locals ∧ n < 2147483648)
  have hC := clo_L (Q := Q) (R := R) (e := e) (below := below) (cl := cl) (sl := sl) (d := 40) W.1 W.2.1 (by omega) (by omega) (by omega) (by omega)
  refine st_aload_n hC dL_law_3023 rfl (by decide) (by decide) ?_
  refine sc_rd (j := 1) W hC ⟨by omega, by omega⟩ rfl dL_law_3024 dL_law_3025 dL_law_3027 dL_law_3028 dL_law_3029 ?_
  refine sc_rd (j := 2) W hC ⟨by omega, by omega⟩ rfl dL_law_3030 dL_law_3031 dL_law_3033 dL_law_3034 dL_law_3035 ?_
  refine st_aload_n hC dL_law_3036 rfl (by decide) (by decide) ?_
  have tail : ∀ (k : Int) (τ σ2 : Sg) (v : Int) , Ct 40 MX11_smooth (rV 20 66 :: [iV (sv xs (i + 1)), iV (sv xs (i + 2))]) τ (.inl [iV v]) σ2 → σ2 66 5 = k → (k = 0 → τ 88 0 = v) → P σ2 → XM p l e R s m args below meth c K A nL (cl + 1) (sl + 6) Q 3040 (LL i uV uV uV) [iV k] τ := by
    intro k τ σ2 v g3 g4 gv g5
    have hC1 := clo_L (Q := Q) (R := R) (e := e) (below := below) (cl := cl + 1) (sl := sl + 6) (d := 40) W.1 W.2.1 (by omega) (by omega) (by omega) (by omega)
    refine st_istore hC1 dL_law_3040 (Nat.le_of_ble_eq_true rfl) (L2 := LL i (iV k) uV uV) rfl ?_
    refine st_aload_n hC1 dL_law_3042 rfl (by decide) (by decide) ?_
    refine sc_rd (j := 1) W hC1 ⟨by omega, by omega⟩ rfl dL_law_3043 dL_law_3044 dL_law_3046 dL_law_3047 dL_law_3048 ?_
    refine sc_rd (j := 2) W hC1 ⟨by omega, by omega⟩ rfl dL_law_3049 dL_law_3050 dL_law_3052 dL_law_3053 dL_law_3054 ?_
    refine st_invV (t := 20) (a := 66) (ci := 10) (As := [iV (sv xs (i + 1)), iV (sv xs (i + 2))]) (S := []) (y := MX11_smooth) hC1 dL_law_3055 (show look (CLt 12) 312 = some (MX11_smooth, false, 2) from rfl) rfl rfl (by decide) ⟨by decide, rfl, by decide +kernel⟩ (ctn g3 rfl rfl) ?_
    refine st_istore hC1 dL_law_3058 (Nat.le_of_ble_eq_true rfl) (L2 := LL i (iV k) (iV v) uV) rfl ?_
    refine seg_C (t1 := 3071) W (by omega) (by omega) (show o80 τ σ2 66 5 = k by rw [o80_ne (by decide)]; exact g4) dL_law_3060 dL_law_3061 dL_law_3064 dL_law_3066 rfl ?_
    have fin : XM p l e R s m args below meth c K A nL (cl + 1) (sl + 6) Q 3088 (LL i (iV k) (iV v) uV) [] (o80 τ σ2) := by
      refine st_goto (tg := 3786) hC1 dL_law_3088 rfl ?_
      exact st_fg hC1 wk_L (h _ (W.2.2.2.2.2.2.2.2.2.2.2 _ _ ag_o g5))
    refine seg_D (t1 := 3088) W (by omega) (by omega) dL_law_3071 dL_law_3073 rfl dL_law_3076 dL_law_3077 dL_law_3078 (fun hk => ?_) fin
    refine st_iload hC1 dL_law_3079 rfl ?_
    refine st_i2l hC1 dL_law_3081 ?_
    refine st_lcmp_eq (tg := 3088) hC1 dL_law_3082 dL_law_3083 rfl ?_
    rw [if_pos (show o80 τ σ2 88 0 = v by rw [o80_80]; exact gv hk)]
    exact fin
  rcases hj with ⟨v, σ1, g1, g2⟩ | ⟨E, σ1, hE, g1, g2⟩
  · refine xs_callW (As := [rV 19 0, iV (sv xs (i + 1)), iV (sv xs (i + 2)), rV 35 88]) (S := []) W.1 W.2.1 dL_law_3037 (csw_L 4 W.2.2.2.2.2.2.1 gW_smooth ⟨by decide, by decide, rfl⟩ ⟨hfr, by omega⟩) W.2.2.2.2.2.1 rfl (by decide) hcl hsl (w_smooth g1) ?_
    obtain ⟨σ2, g3, g4, g5⟩ := g2 _ (ag_up (σ := σ))
    exact tail 0 _ σ2 v g3 g4 (fun _ => ups_eq9) g5
  · refine xs_callW (As := [rV 19 0, iV (sv xs (i + 1)), iV (sv xs (i + 2)), rV 35 88]) (S := []) W.1 W.2.1 dL_law_3037 (csw_L 4 W.2.2.2.2.2.2.1 gW_smooth ⟨by decide, by decide, rfl⟩ ⟨hfr, by omega⟩) W.2.2.2.2.2.1 rfl (by decide) hcl hsl (w_smooth_x hE g1) ?_
    obtain ⟨v, σ2, g3, g4, g5⟩ := g2 _ (ag_o (σ := σ))
    exact tail (cdI E) _ σ2 v g3 g4 (fun z => absurd z hE) g5
set_option maxRecDepth 20000 in
theorem lc_40 {p : Program} {l : Launch} {e : Env} {R : Room} {s : State} {m : MethodId} {args : Array Value} {below : List Frame} {meth : Method} {c : Code} {K : KT} {A : Nat → Prop} {nL cl sl : Nat} {hh : Prop} {Q : State → Prop} {r : Option FieldType} {σ : Sg} {n : Nat} {xs : Nat → Int32} {P : Sg → Prop} {i : Int} (W : LwC p l R s m args meth c K A nL r hh n xs P) (hi : 0 ≤ i ∧ i + 5 < (n : Int)) (hcl : cl + 1 ≤ R.cells) (hsl : sl + 6 ≤ R.slots) (hj : JtP P MX10_primesTo MX11_primesTo [iV (sv xs (i + 1))] (fun v => iV v) cdI σ) (h : ∀ σ2, P σ2 → XM p l e R s m args below meth c K A nL (cl + 1) (sl + 6) Q 3786 (LL i uV uV uV) [] σ2) : XM p l e R s m args below meth c K A nL cl sl Q 3091 (LL i uV uV uV) [] σ := by
  obtain ⟨hfr, hlo, hn⟩ := (⟨W.2.2.2.2.2.2.2.1, W.2.2.2.2.2.2.2.2.1, W.2.2.2.2.2.2.2.2.2.1⟩ : 61 ≤ R.frames ∧ 1940 ≤ R.locals ∧ n < 2147483648)
  have hC := clo_L (Q := Q) (R := R) (e := e) (below := below) (cl := cl) (sl := sl) (d := 40) W.1 W.2.1 (by omega) (by omega) (by omega) (by omega)
  refine st_aload_n hC dL_law_3091 rfl (by decide) (by decide) ?_
  refine sc_rd (j := 1) W hC ⟨by omega, by omega⟩ rfl dL_law_3092 dL_law_3093 dL_law_3095 dL_law_3096 dL_law_3097 ?_
  refine st_aload_n hC dL_law_3098 rfl (by decide) (by decide) ?_
  have tail : ∀ (k : Int) (τ σ2 : Sg) (v : Int) , Ct 40 MX11_primesTo (rV 20 66 :: [iV (sv xs (i + 1))]) τ (.inl [iV v]) σ2 → σ2 66 5 = k → (k = 0 → τ 88 0 = v) → P σ2 → XM p l e R s m args below meth c K A nL (cl + 1) (sl + 6) Q 3102 (LL i uV uV uV) [iV k] τ := by
    intro k τ σ2 v g3 g4 gv g5
    have hC1 := clo_L (Q := Q) (R := R) (e := e) (below := below) (cl := cl + 1) (sl := sl + 6) (d := 40) W.1 W.2.1 (by omega) (by omega) (by omega) (by omega)
    refine st_istore hC1 dL_law_3102 (Nat.le_of_ble_eq_true rfl) (L2 := LL i (iV k) uV uV) rfl ?_
    refine st_aload_n hC1 dL_law_3104 rfl (by decide) (by decide) ?_
    refine sc_rd (j := 1) W hC1 ⟨by omega, by omega⟩ rfl dL_law_3105 dL_law_3106 dL_law_3108 dL_law_3109 dL_law_3110 ?_
    refine st_invV (t := 20) (a := 66) (ci := 10) (As := [iV (sv xs (i + 1))]) (S := []) (y := MX11_primesTo) hC1 dL_law_3111 (show look (CLt 12) 315 = some (MX11_primesTo, false, 1) from rfl) rfl rfl (by decide) ⟨by decide, rfl, by decide +kernel⟩ (ctn g3 rfl rfl) ?_
    refine st_istore hC1 dL_law_3114 (Nat.le_of_ble_eq_true rfl) (L2 := LL i (iV k) (iV v) uV) rfl ?_
    refine seg_C (t1 := 3127) W (by omega) (by omega) (show o80 τ σ2 66 5 = k by rw [o80_ne (by decide)]; exact g4) dL_law_3116 dL_law_3117 dL_law_3120 dL_law_3122 rfl ?_
    have fin : XM p l e R s m args below meth c K A nL (cl + 1) (sl + 6) Q 3144 (LL i (iV k) (iV v) uV) [] (o80 τ σ2) := by
      refine st_goto (tg := 3786) hC1 dL_law_3144 rfl ?_
      exact st_fg hC1 wk_L (h _ (W.2.2.2.2.2.2.2.2.2.2.2 _ _ ag_o g5))
    refine seg_D (t1 := 3144) W (by omega) (by omega) dL_law_3127 dL_law_3129 rfl dL_law_3132 dL_law_3133 dL_law_3134 (fun hk => ?_) fin
    refine st_iload hC1 dL_law_3135 rfl ?_
    refine st_i2l hC1 dL_law_3137 ?_
    refine st_lcmp_eq (tg := 3144) hC1 dL_law_3138 dL_law_3139 rfl ?_
    rw [if_pos (show o80 τ σ2 88 0 = v by rw [o80_80]; exact gv hk)]
    exact fin
  rcases hj with ⟨v, σ1, g1, g2⟩ | ⟨E, σ1, hE, g1, g2⟩
  · refine xs_callW (As := [rV 19 0, iV (sv xs (i + 1)), rV 35 88]) (S := []) W.1 W.2.1 dL_law_3099 (csw_L 3 W.2.2.2.2.2.2.1 gW_primesTo ⟨by decide, by decide, rfl⟩ ⟨hfr, by omega⟩) W.2.2.2.2.2.1 rfl (by decide) hcl hsl (w_primesTo g1) ?_
    obtain ⟨σ2, g3, g4, g5⟩ := g2 _ (ag_up (σ := σ))
    exact tail 0 _ σ2 v g3 g4 (fun _ => ups_eq9) g5
  · refine xs_callW (As := [rV 19 0, iV (sv xs (i + 1)), rV 35 88]) (S := []) W.1 W.2.1 dL_law_3099 (csw_L 3 W.2.2.2.2.2.2.1 gW_primesTo ⟨by decide, by decide, rfl⟩ ⟨hfr, by omega⟩) W.2.2.2.2.2.1 rfl (by decide) hcl hsl (w_primesTo_x hE g1) ?_
    obtain ⟨v, σ2, g3, g4, g5⟩ := g2 _ (ag_o (σ := σ))
    exact tail (cdI E) _ σ2 v g3 g4 (fun z => absurd z hE) g5
set_option maxRecDepth 20000 in
theorem lc_41 {p : Program} {l : Launch} {e : Env} {R : Room} {s : State} {m : MethodId} {args : Array Value} {below : List Frame} {meth : Method} {c : Code} {K : KT} {A : Nat → Prop} {nL cl sl : Nat} {hh : Prop} {Q : State → Prop} {r : Option FieldType} {σ : Sg} {n : Nat} {xs : Nat → Int32} {P : Sg → Prop} {i : Int} (W : LwC p l R s m args meth c K A nL r hh n xs P) (hi : 0 ≤ i ∧ i + 5 < (n : Int)) (hcl : cl + 1 ≤ R.cells) (hsl : sl + 6 ≤ R.slots) (hj : JtP P MX10_witness MX11_witness [iV (sv xs (i + 1))] (fun v => iV v) cdI σ) (h : ∀ σ2, P σ2 → XM p l e R s m args below meth c K A nL (cl + 1) (sl + 6) Q 3786 (LL i uV uV uV) [] σ2) : XM p l e R s m args below meth c K A nL cl sl Q 3147 (LL i uV uV uV) [] σ := by
  obtain ⟨hfr, hlo, hn⟩ := (⟨W.2.2.2.2.2.2.2.1, W.2.2.2.2.2.2.2.2.1, W.2.2.2.2.2.2.2.2.2.1⟩ : 61 ≤ R.frames ∧ 1940 ≤ R.locals ∧ n < 2147483648)
  have hC := clo_L (Q := Q) (R := R) (e := e) (below := below) (cl := cl) (sl := sl) (d := 40) W.1 W.2.1 (by omega) (by omega) (by omega) (by omega)
  refine st_aload_n hC dL_law_3147 rfl (by decide) (by decide) ?_
  refine sc_rd (j := 1) W hC ⟨by omega, by omega⟩ rfl dL_law_3148 dL_law_3149 dL_law_3151 dL_law_3152 dL_law_3153 ?_
  refine st_aload_n hC dL_law_3154 rfl (by decide) (by decide) ?_
  have tail : ∀ (k : Int) (τ σ2 : Sg) (v : Int) , Ct 40 MX11_witness (rV 20 66 :: [iV (sv xs (i + 1))]) τ (.inl [iV v]) σ2 → σ2 66 5 = k → (k = 0 → τ 88 0 = v) → P σ2 → XM p l e R s m args below meth c K A nL (cl + 1) (sl + 6) Q 3158 (LL i uV uV uV) [iV k] τ := by
    intro k τ σ2 v g3 g4 gv g5
    have hC1 := clo_L (Q := Q) (R := R) (e := e) (below := below) (cl := cl + 1) (sl := sl + 6) (d := 40) W.1 W.2.1 (by omega) (by omega) (by omega) (by omega)
    refine st_istore hC1 dL_law_3158 (Nat.le_of_ble_eq_true rfl) (L2 := LL i (iV k) uV uV) rfl ?_
    refine st_aload_n hC1 dL_law_3160 rfl (by decide) (by decide) ?_
    refine sc_rd (j := 1) W hC1 ⟨by omega, by omega⟩ rfl dL_law_3161 dL_law_3162 dL_law_3164 dL_law_3165 dL_law_3166 ?_
    refine st_invV (t := 20) (a := 66) (ci := 10) (As := [iV (sv xs (i + 1))]) (S := []) (y := MX11_witness) hC1 dL_law_3167 (show look (CLt 12) 318 = some (MX11_witness, false, 1) from rfl) rfl rfl (by decide) ⟨by decide, rfl, by decide +kernel⟩ (ctn g3 rfl rfl) ?_
    refine st_istore hC1 dL_law_3170 (Nat.le_of_ble_eq_true rfl) (L2 := LL i (iV k) (iV v) uV) rfl ?_
    refine seg_C (t1 := 3183) W (by omega) (by omega) (show o80 τ σ2 66 5 = k by rw [o80_ne (by decide)]; exact g4) dL_law_3172 dL_law_3173 dL_law_3176 dL_law_3178 rfl ?_
    have fin : XM p l e R s m args below meth c K A nL (cl + 1) (sl + 6) Q 3200 (LL i (iV k) (iV v) uV) [] (o80 τ σ2) := by
      refine st_goto (tg := 3786) hC1 dL_law_3200 rfl ?_
      exact st_fg hC1 wk_L (h _ (W.2.2.2.2.2.2.2.2.2.2.2 _ _ ag_o g5))
    refine seg_D (t1 := 3200) W (by omega) (by omega) dL_law_3183 dL_law_3185 rfl dL_law_3188 dL_law_3189 dL_law_3190 (fun hk => ?_) fin
    refine st_iload hC1 dL_law_3191 rfl ?_
    refine st_i2l hC1 dL_law_3193 ?_
    refine st_lcmp_eq (tg := 3200) hC1 dL_law_3194 dL_law_3195 rfl ?_
    rw [if_pos (show o80 τ σ2 88 0 = v by rw [o80_80]; exact gv hk)]
    exact fin
  rcases hj with ⟨v, σ1, g1, g2⟩ | ⟨E, σ1, hE, g1, g2⟩
  · refine xs_callW (As := [rV 19 0, iV (sv xs (i + 1)), rV 35 88]) (S := []) W.1 W.2.1 dL_law_3155 (csw_L 3 W.2.2.2.2.2.2.1 gW_witness ⟨by decide, by decide, rfl⟩ ⟨hfr, by omega⟩) W.2.2.2.2.2.1 rfl (by decide) hcl hsl (w_witness g1) ?_
    obtain ⟨σ2, g3, g4, g5⟩ := g2 _ (ag_up (σ := σ))
    exact tail 0 _ σ2 v g3 g4 (fun _ => ups_eq9) g5
  · refine xs_callW (As := [rV 19 0, iV (sv xs (i + 1)), rV 35 88]) (S := []) W.1 W.2.1 dL_law_3155 (csw_L 3 W.2.2.2.2.2.2.1 gW_witness ⟨by decide, by decide, rfl⟩ ⟨hfr, by omega⟩) W.2.2.2.2.2.1 rfl (by decide) hcl hsl (w_witness_x hE g1) ?_
    obtain ⟨v, σ2, g3, g4, g5⟩ := g2 _ (ag_o (σ := σ))
    exact tail (cdI E) _ σ2 v g3 g4 (fun z => absurd z hE) g5
set_option maxRecDepth 20000 in
theorem lc_42 {p : Program} {l : Launch} {e : Env} {R : Room} {s : State} {m : MethodId} {args : Array Value} {below : List Frame} {meth : Method} {c : Code} {K : KT} {A : Nat → Prop} {nL cl sl : Nat} {hh : Prop} {Q : State → Prop} {r : Option FieldType} {σ : Sg} {n : Nat} {xs : Nat → Int32} {P : Sg → Prop} {i : Int} (W : LwC p l R s m args meth c K A nL r hh n xs P) (hi : 0 ≤ i ∧ i + 5 < (n : Int)) (hcl : cl + 1 ≤ R.cells) (hsl : sl + 6 ≤ R.slots) (hj : JtP P MX10_order MX11_order [iV (sv xs (i + 1)), iV (sv xs (i + 2))] (fun v => iV v) cdI σ) (h : ∀ σ2, P σ2 → XM p l e R s m args below meth c K A nL (cl + 1) (sl + 6) Q 3786 (LL i uV uV uV) [] σ2) : XM p l e R s m args below meth c K A nL cl sl Q 3203 (LL i uV uV uV) [] σ := by
  obtain ⟨hfr, hlo, hn⟩ := (⟨W.2.2.2.2.2.2.2.1, W.2.2.2.2.2.2.2.2.1, W.2.2.2.2.2.2.2.2.2.1⟩ : 61 ≤ R.frames ∧ 1940 ≤ R.locals ∧ n < 2147483648)
  have hC := clo_L (Q := Q) (R := R) (e := e) (below := below) (cl := cl) (sl := sl) (d := 40) W.1 W.2.1 (by omega) (by omega) (by omega) (by omega)
  refine st_aload_n hC dL_law_3203 rfl (by decide) (by decide) ?_
  refine sc_rd (j := 1) W hC ⟨by omega, by omega⟩ rfl dL_law_3204 dL_law_3205 dL_law_3207 dL_law_3208 dL_law_3209 ?_
  refine sc_rd (j := 2) W hC ⟨by omega, by omega⟩ rfl dL_law_3210 dL_law_3211 dL_law_3213 dL_law_3214 dL_law_3215 ?_
  refine st_aload_n hC dL_law_3216 rfl (by decide) (by decide) ?_
  have tail : ∀ (k : Int) (τ σ2 : Sg) (v : Int) , Ct 40 MX11_order (rV 20 66 :: [iV (sv xs (i + 1)), iV (sv xs (i + 2))]) τ (.inl [iV v]) σ2 → σ2 66 5 = k → (k = 0 → τ 88 0 = v) → P σ2 → XM p l e R s m args below meth c K A nL (cl + 1) (sl + 6) Q 3220 (LL i uV uV uV) [iV k] τ := by
    intro k τ σ2 v g3 g4 gv g5
    have hC1 := clo_L (Q := Q) (R := R) (e := e) (below := below) (cl := cl + 1) (sl := sl + 6) (d := 40) W.1 W.2.1 (by omega) (by omega) (by omega) (by omega)
    refine st_istore hC1 dL_law_3220 (Nat.le_of_ble_eq_true rfl) (L2 := LL i (iV k) uV uV) rfl ?_
    refine st_aload_n hC1 dL_law_3222 rfl (by decide) (by decide) ?_
    refine sc_rd (j := 1) W hC1 ⟨by omega, by omega⟩ rfl dL_law_3223 dL_law_3224 dL_law_3226 dL_law_3227 dL_law_3228 ?_
    refine sc_rd (j := 2) W hC1 ⟨by omega, by omega⟩ rfl dL_law_3229 dL_law_3230 dL_law_3232 dL_law_3233 dL_law_3234 ?_
    refine st_invV (t := 20) (a := 66) (ci := 10) (As := [iV (sv xs (i + 1)), iV (sv xs (i + 2))]) (S := []) (y := MX11_order) hC1 dL_law_3235 (show look (CLt 12) 321 = some (MX11_order, false, 2) from rfl) rfl rfl (by decide) ⟨by decide, rfl, by decide +kernel⟩ (ctn g3 rfl rfl) ?_
    refine st_istore hC1 dL_law_3238 (Nat.le_of_ble_eq_true rfl) (L2 := LL i (iV k) (iV v) uV) rfl ?_
    refine seg_C (t1 := 3251) W (by omega) (by omega) (show o80 τ σ2 66 5 = k by rw [o80_ne (by decide)]; exact g4) dL_law_3240 dL_law_3241 dL_law_3244 dL_law_3246 rfl ?_
    have fin : XM p l e R s m args below meth c K A nL (cl + 1) (sl + 6) Q 3268 (LL i (iV k) (iV v) uV) [] (o80 τ σ2) := by
      refine st_goto (tg := 3786) hC1 dL_law_3268 rfl ?_
      exact st_fg hC1 wk_L (h _ (W.2.2.2.2.2.2.2.2.2.2.2 _ _ ag_o g5))
    refine seg_D (t1 := 3268) W (by omega) (by omega) dL_law_3251 dL_law_3253 rfl dL_law_3256 dL_law_3257 dL_law_3258 (fun hk => ?_) fin
    refine st_iload hC1 dL_law_3259 rfl ?_
    refine st_i2l hC1 dL_law_3261 ?_
    refine st_lcmp_eq (tg := 3268) hC1 dL_law_3262 dL_law_3263 rfl ?_
    rw [if_pos (show o80 τ σ2 88 0 = v by rw [o80_80]; exact gv hk)]
    exact fin
  rcases hj with ⟨v, σ1, g1, g2⟩ | ⟨E, σ1, hE, g1, g2⟩
  · refine xs_callW (As := [rV 19 0, iV (sv xs (i + 1)), iV (sv xs (i + 2)), rV 35 88]) (S := []) W.1 W.2.1 dL_law_3217 (csw_L 4 W.2.2.2.2.2.2.1 gW_order ⟨by decide, by decide, rfl⟩ ⟨hfr, by omega⟩) W.2.2.2.2.2.1 rfl (by decide) hcl hsl (w_order g1) ?_
    obtain ⟨σ2, g3, g4, g5⟩ := g2 _ (ag_up (σ := σ))
    exact tail 0 _ σ2 v g3 g4 (fun _ => ups_eq9) g5
  · refine xs_callW (As := [rV 19 0, iV (sv xs (i + 1)), iV (sv xs (i + 2)), rV 35 88]) (S := []) W.1 W.2.1 dL_law_3217 (csw_L 4 W.2.2.2.2.2.2.1 gW_order ⟨by decide, by decide, rfl⟩ ⟨hfr, by omega⟩) W.2.2.2.2.2.1 rfl (by decide) hcl hsl (w_order_x hE g1) ?_
    obtain ⟨v, σ2, g3, g4, g5⟩ := g2 _ (ag_o (σ := σ))
    exact tail (cdI E) _ σ2 v g3 g4 (fun z => absurd z hE) g5
set_option maxRecDepth 20000 in
theorem lc_43 {p : Program} {l : Launch} {e : Env} {R : Room} {s : State} {m : MethodId} {args : Array Value} {below : List Frame} {meth : Method} {c : Code} {K : KT} {A : Nat → Prop} {nL cl sl : Nat} {hh : Prop} {Q : State → Prop} {r : Option FieldType} {σ : Sg} {n : Nat} {xs : Nat → Int32} {P : Sg → Prop} {i : Int} (W : LwC p l R s m args meth c K A nL r hh n xs P) (hi : 0 ≤ i ∧ i + 5 < (n : Int)) (hcl : cl + 1 ≤ R.cells) (hsl : sl + 6 ≤ R.slots) (hj : JtP P MX10_owe MX11_owe [iV (sv xs (i + 1)), iV (sv xs (i + 2)), lV (lg2 (sv xs (i + 3)) (sv xs (i + 4)))] (fun v => lV v) cdD σ) (h : ∀ σ2, P σ2 → XM p l e R s m args below meth c K A nL (cl + 1) (sl + 6) Q 3786 (LL i uV uV uV) [] σ2) : XM p l e R s m args below meth c K A nL cl sl Q 3271 (LL i uV uV uV) [] σ := by
  obtain ⟨hfr, hlo, hn⟩ := (⟨W.2.2.2.2.2.2.2.1, W.2.2.2.2.2.2.2.2.1, W.2.2.2.2.2.2.2.2.2.1⟩ : 61 ≤ R.frames ∧ 1940 ≤ R.locals ∧ n < 2147483648)
  have hC := clo_L (Q := Q) (R := R) (e := e) (below := below) (cl := cl) (sl := sl) (d := 40) W.1 W.2.1 (by omega) (by omega) (by omega) (by omega)
  refine st_aload_n hC dL_law_3271 rfl (by decide) (by decide) ?_
  refine sc_rd (j := 1) W hC ⟨by omega, by omega⟩ rfl dL_law_3272 dL_law_3273 dL_law_3275 dL_law_3276 dL_law_3277 ?_
  refine sc_rd (j := 2) W hC ⟨by omega, by omega⟩ rfl dL_law_3278 dL_law_3279 dL_law_3281 dL_law_3282 dL_law_3283 ?_
  refine sc_rl (j := 3) (j' := 4) W hC ⟨by omega, by omega⟩ rfl ⟨by omega, by omega⟩ rfl dL_law_3284 dL_law_3285 dL_law_3287 dL_law_3288 dL_law_3289 dL_law_3290 dL_law_3291 dL_law_3293 dL_law_3294 dL_law_3295 dL_law_3297 dL_law_3298 dL_law_3299 dL_law_3300 dL_law_3301 dL_law_3304 dL_law_3305 ?_
  refine st_aload_n hC dL_law_3306 rfl (by decide) (by decide) ?_
  have tail : ∀ (k : Int) (τ σ2 : Sg) (v : Int) , Ct 40 MX11_owe (rV 20 66 :: [iV (sv xs (i + 1)), iV (sv xs (i + 2)), lV (lg2 (sv xs (i + 3)) (sv xs (i + 4)))]) τ (.inl [lV v]) σ2 → σ2 66 5 = k → (k = 0 → τ 88 0 = v) → P σ2 → XM p l e R s m args below meth c K A nL (cl + 1) (sl + 6) Q 3310 (LL i uV uV uV) [iV k] τ := by
    intro k τ σ2 v g3 g4 gv g5
    have hC1 := clo_L (Q := Q) (R := R) (e := e) (below := below) (cl := cl + 1) (sl := sl + 6) (d := 40) W.1 W.2.1 (by omega) (by omega) (by omega) (by omega)
    refine st_istore hC1 dL_law_3310 (Nat.le_of_ble_eq_true rfl) (L2 := LL i (iV k) uV uV) rfl ?_
    refine st_aload_n hC1 dL_law_3312 rfl (by decide) (by decide) ?_
    refine sc_rd (j := 1) W hC1 ⟨by omega, by omega⟩ rfl dL_law_3313 dL_law_3314 dL_law_3316 dL_law_3317 dL_law_3318 ?_
    refine sc_rd (j := 2) W hC1 ⟨by omega, by omega⟩ rfl dL_law_3319 dL_law_3320 dL_law_3322 dL_law_3323 dL_law_3324 ?_
    refine sc_rl (j := 3) (j' := 4) W hC1 ⟨by omega, by omega⟩ rfl ⟨by omega, by omega⟩ rfl dL_law_3325 dL_law_3326 dL_law_3328 dL_law_3329 dL_law_3330 dL_law_3331 dL_law_3332 dL_law_3334 dL_law_3335 dL_law_3336 dL_law_3338 dL_law_3339 dL_law_3340 dL_law_3341 dL_law_3342 dL_law_3345 dL_law_3346 ?_
    refine st_invV (t := 20) (a := 66) (ci := 10) (As := [iV (sv xs (i + 1)), iV (sv xs (i + 2)), lV (lg2 (sv xs (i + 3)) (sv xs (i + 4)))]) (S := []) (y := MX11_owe) hC1 dL_law_3347 (show look (CLt 12) 324 = some (MX11_owe, false, 3) from rfl) rfl rfl (by decide) ⟨by decide, rfl, by decide +kernel⟩ (ctn g3 rfl rfl) ?_
    refine st_lstore hC1 dL_law_3350 (Nat.le_of_ble_eq_true rfl) (L2 := LL i (iV k) (lV v) uV) rfl ?_
    refine seg_C (t1 := 3363) W (by omega) (by omega) (show o80 τ σ2 66 5 = k by rw [o80_ne (by decide)]; exact g4) dL_law_3352 dL_law_3353 dL_law_3356 dL_law_3358 rfl ?_
    have fin : XM p l e R s m args below meth c K A nL (cl + 1) (sl + 6) Q 3379 (LL i (iV k) (lV v) uV) [] (o80 τ σ2) := by
      refine st_goto (tg := 3786) hC1 dL_law_3379 rfl ?_
      exact st_fg hC1 wk_L (h _ (W.2.2.2.2.2.2.2.2.2.2.2 _ _ ag_o g5))
    refine seg_D (t1 := 3379) W (by omega) (by omega) dL_law_3363 dL_law_3365 rfl dL_law_3368 dL_law_3369 dL_law_3370 (fun hk => ?_) fin
    refine st_lload hC1 dL_law_3371 rfl ?_
    refine st_lcmp_eq (tg := 3379) hC1 dL_law_3373 dL_law_3374 rfl ?_
    rw [if_pos (show o80 τ σ2 88 0 = v by rw [o80_80]; exact gv hk)]
    exact fin
  rcases hj with ⟨v, σ1, g1, g2⟩ | ⟨E, σ1, hE, g1, g2⟩
  · refine xs_callW (As := [rV 19 0, iV (sv xs (i + 1)), iV (sv xs (i + 2)), lV (lg2 (sv xs (i + 3)) (sv xs (i + 4))), rV 35 88]) (S := []) W.1 W.2.1 dL_law_3307 (csw_L 5 W.2.2.2.2.2.2.1 gW_owe ⟨by decide, by decide, rfl⟩ ⟨hfr, by omega⟩) W.2.2.2.2.2.1 rfl (by decide) hcl hsl (w_owe g1) ?_
    obtain ⟨σ2, g3, g4, g5⟩ := g2 _ (ag_up (σ := σ))
    exact tail 0 _ σ2 v g3 g4 (fun _ => ups_eq9) g5
  · refine xs_callW (As := [rV 19 0, iV (sv xs (i + 1)), iV (sv xs (i + 2)), lV (lg2 (sv xs (i + 3)) (sv xs (i + 4))), rV 35 88]) (S := []) W.1 W.2.1 dL_law_3307 (csw_L 5 W.2.2.2.2.2.2.1 gW_owe ⟨by decide, by decide, rfl⟩ ⟨hfr, by omega⟩) W.2.2.2.2.2.1 rfl (by decide) hcl hsl (w_owe_x hE g1) ?_
    obtain ⟨v, σ2, g3, g4, g5⟩ := g2 _ (ag_o (σ := σ))
    exact tail (cdD E) _ σ2 v g3 g4 (fun z => absurd z hE) g5
set_option maxRecDepth 20000 in
theorem lc_44 {p : Program} {l : Launch} {e : Env} {R : Room} {s : State} {m : MethodId} {args : Array Value} {below : List Frame} {meth : Method} {c : Code} {K : KT} {A : Nat → Prop} {nL cl sl : Nat} {hh : Prop} {Q : State → Prop} {r : Option FieldType} {σ : Sg} {n : Nat} {xs : Nat → Int32} {P : Sg → Prop} {i : Int} (W : LwC p l R s m args meth c K A nL r hh n xs P) (hi : 0 ≤ i ∧ i + 5 < (n : Int)) (hcl : cl + 1 ≤ R.cells) (hsl : sl + 6 ≤ R.slots) (hj : JtP P MX10_owed MX11_owed [iV (sv xs (i + 1)), iV (sv xs (i + 2))] (fun v => lV v) cdN σ) (h : ∀ σ2, P σ2 → XM p l e R s m args below meth c K A nL (cl + 1) (sl + 6) Q 3786 (LL i uV uV uV) [] σ2) : XM p l e R s m args below meth c K A nL cl sl Q 3382 (LL i uV uV uV) [] σ := by
  obtain ⟨hfr, hlo, hn⟩ := (⟨W.2.2.2.2.2.2.2.1, W.2.2.2.2.2.2.2.2.1, W.2.2.2.2.2.2.2.2.2.1⟩ : 61 ≤ R.frames ∧ 1940 ≤ R.locals ∧ n < 2147483648)
  have hC := clo_L (Q := Q) (R := R) (e := e) (below := below) (cl := cl) (sl := sl) (d := 40) W.1 W.2.1 (by omega) (by omega) (by omega) (by omega)
  refine st_aload_n hC dL_law_3382 rfl (by decide) (by decide) ?_
  refine sc_rd (j := 1) W hC ⟨by omega, by omega⟩ rfl dL_law_3383 dL_law_3384 dL_law_3386 dL_law_3387 dL_law_3388 ?_
  refine sc_rd (j := 2) W hC ⟨by omega, by omega⟩ rfl dL_law_3389 dL_law_3390 dL_law_3392 dL_law_3393 dL_law_3394 ?_
  refine st_aload_n hC dL_law_3395 rfl (by decide) (by decide) ?_
  have tail : ∀ (k : Int) (τ σ2 : Sg) (v : Int) , Ct 40 MX11_owed (rV 20 66 :: [iV (sv xs (i + 1)), iV (sv xs (i + 2))]) τ (.inl [lV v]) σ2 → σ2 66 5 = k → (k = 0 → τ 88 0 = v) → P σ2 → XM p l e R s m args below meth c K A nL (cl + 1) (sl + 6) Q 3399 (LL i uV uV uV) [iV k] τ := by
    intro k τ σ2 v g3 g4 gv g5
    have hC1 := clo_L (Q := Q) (R := R) (e := e) (below := below) (cl := cl + 1) (sl := sl + 6) (d := 40) W.1 W.2.1 (by omega) (by omega) (by omega) (by omega)
    refine st_istore hC1 dL_law_3399 (Nat.le_of_ble_eq_true rfl) (L2 := LL i (iV k) uV uV) rfl ?_
    refine st_aload_n hC1 dL_law_3401 rfl (by decide) (by decide) ?_
    refine sc_rd (j := 1) W hC1 ⟨by omega, by omega⟩ rfl dL_law_3402 dL_law_3403 dL_law_3405 dL_law_3406 dL_law_3407 ?_
    refine sc_rd (j := 2) W hC1 ⟨by omega, by omega⟩ rfl dL_law_3408 dL_law_3409 dL_law_3411 dL_law_3412 dL_law_3413 ?_
    refine st_invV (t := 20) (a := 66) (ci := 10) (As := [iV (sv xs (i + 1)), iV (sv xs (i + 2))]) (S := []) (y := MX11_owed) hC1 dL_law_3414 (show look (CLt 12) 327 = some (MX11_owed, false, 2) from rfl) rfl rfl (by decide) ⟨by decide, rfl, by decide +kernel⟩ (ctn g3 rfl rfl) ?_
    refine st_lstore hC1 dL_law_3417 (Nat.le_of_ble_eq_true rfl) (L2 := LL i (iV k) (lV v) uV) rfl ?_
    refine seg_C (t1 := 3430) W (by omega) (by omega) (show o80 τ σ2 66 5 = k by rw [o80_ne (by decide)]; exact g4) dL_law_3419 dL_law_3420 dL_law_3423 dL_law_3425 rfl ?_
    have fin : XM p l e R s m args below meth c K A nL (cl + 1) (sl + 6) Q 3446 (LL i (iV k) (lV v) uV) [] (o80 τ σ2) := by
      refine st_goto (tg := 3786) hC1 dL_law_3446 rfl ?_
      exact st_fg hC1 wk_L (h _ (W.2.2.2.2.2.2.2.2.2.2.2 _ _ ag_o g5))
    refine seg_D (t1 := 3446) W (by omega) (by omega) dL_law_3430 dL_law_3432 rfl dL_law_3435 dL_law_3436 dL_law_3437 (fun hk => ?_) fin
    refine st_lload hC1 dL_law_3438 rfl ?_
    refine st_lcmp_eq (tg := 3446) hC1 dL_law_3440 dL_law_3441 rfl ?_
    rw [if_pos (show o80 τ σ2 88 0 = v by rw [o80_80]; exact gv hk)]
    exact fin
  rcases hj with ⟨v, σ1, g1, g2⟩ | ⟨E, σ1, hE, g1, g2⟩
  · refine xs_callW (As := [rV 19 0, iV (sv xs (i + 1)), iV (sv xs (i + 2)), rV 35 88]) (S := []) W.1 W.2.1 dL_law_3396 (csw_L 4 W.2.2.2.2.2.2.1 gW_owed ⟨by decide, by decide, rfl⟩ ⟨hfr, by omega⟩) W.2.2.2.2.2.1 rfl (by decide) hcl hsl (w_owed g1) ?_
    obtain ⟨σ2, g3, g4, g5⟩ := g2 _ (ag_up (σ := σ))
    exact tail 0 _ σ2 v g3 g4 (fun _ => ups_eq9) g5
  · refine xs_callW (As := [rV 19 0, iV (sv xs (i + 1)), iV (sv xs (i + 2)), rV 35 88]) (S := []) W.1 W.2.1 dL_law_3396 (csw_L 4 W.2.2.2.2.2.2.1 gW_owed ⟨by decide, by decide, rfl⟩ ⟨hfr, by omega⟩) W.2.2.2.2.2.1 rfl (by decide) hcl hsl (w_owed_x hE g1) ?_
    obtain ⟨v, σ2, g3, g4, g5⟩ := g2 _ (ag_o (σ := σ))
    exact tail (cdN E) _ σ2 v g3 g4 (fun z => absurd z hE) g5
set_option maxRecDepth 20000 in
theorem lc_45 {p : Program} {l : Launch} {e : Env} {R : Room} {s : State} {m : MethodId} {args : Array Value} {below : List Frame} {meth : Method} {c : Code} {K : KT} {A : Nat → Prop} {nL cl sl : Nat} {hh : Prop} {Q : State → Prop} {r : Option FieldType} {σ : Sg} {n : Nat} {xs : Nat → Int32} {P : Sg → Prop} {i : Int} (W : LwC p l R s m args meth c K A nL r hh n xs P) (hi : 0 ≤ i ∧ i + 5 < (n : Int)) (hcl : cl + 1 ≤ R.cells) (hsl : sl + 6 ≤ R.slots) (hj : JnP P MX10_struck MX11_struck [] σ) (h : ∀ σ2, P σ2 → XM p l e R s m args below meth c K A nL (cl + 1) (sl + 6) Q 3786 (LL i uV uV uV) [] σ2) : XM p l e R s m args below meth c K A nL cl sl Q 3449 (LL i uV uV uV) [] σ := by
  obtain ⟨hfr, hlo, hn⟩ := (⟨W.2.2.2.2.2.2.2.1, W.2.2.2.2.2.2.2.2.1, W.2.2.2.2.2.2.2.2.2.1⟩ : 61 ≤ R.frames ∧ 1940 ≤ R.locals ∧ n < 2147483648)
  have hC := clo_L (Q := Q) (R := R) (e := e) (below := below) (cl := cl) (sl := sl) (d := 40) W.1 W.2.1 (by omega) (by omega) (by omega) (by omega)
  refine st_aload_n hC dL_law_3449 rfl (by decide) (by decide) ?_
  obtain ⟨v, σ1, g1, σ2, g2, g3⟩ := hj
  refine xs_callG (d := 40) (t := 19) (a := 0) (As := []) (S := []) (τ := σ) W.1 W.2.1 dL_law_3450 (show look (CLt 12) 328 = some (MX10_struck, false, 0) from rfl) rfl (by decide) (by omega) (by omega) (by show cl + 0 ≤ _; omega) (by show sl + 0 ≤ _; omega) ⟨9, by decide, rfl, by decide +kernel⟩ (n9 rfl) (fun vs hvs => by cases hvs; exact n9 rfl) (fun _ _ => rfl) (fun z => z) g1 (fun vs hvs hO1 => ?_) (fun E hE => by cases hE)
  cases hvs
  refine st_aload_n hC dL_law_3453 rfl (by decide) (by decide) ?_
  refine xs_callG (d := 40) (t := 20) (a := 66) (As := []) (S := [iV v]) (τ := σ1) W.1 W.2.1 dL_law_3454 (show look (CLt 12) 331 = some (MX11_struck, false, 0) from rfl) rfl (Nat.le_of_ble_eq_true rfl) (by omega) (by omega) (by show cl + 0 ≤ _; omega) (by show sl + 0 ≤ _; omega) ⟨10, by decide, rfl, by decide +kernel⟩ (n9 rfl) (fun vs hvs => by cases hvs; exact n9 rfl) (fun a ha => (ag_o a ha).symm) (fun _ => hO1) g2 (fun vs hvs hO2 => ?_) (fun E hE => by cases hE)
  cases hvs
  refine st_icmp_eq (tg := 3786) hC dL_law_3457 rfl ?_
  rw [if_pos rfl]
  exact XM_wid (Nat.le_add_right _ _) (Nat.le_add_right _ _) (h _ (W.2.2.2.2.2.2.2.2.2.2.2 _ _ ag_o g3))
set_option maxRecDepth 20000 in
theorem lc_46 {p : Program} {l : Launch} {e : Env} {R : Room} {s : State} {m : MethodId} {args : Array Value} {below : List Frame} {meth : Method} {c : Code} {K : KT} {A : Nat → Prop} {nL cl sl : Nat} {hh : Prop} {Q : State → Prop} {r : Option FieldType} {σ : Sg} {n : Nat} {xs : Nat → Int32} {P : Sg → Prop} {i : Int} (W : LwC p l R s m args meth c K A nL r hh n xs P) (hi : 0 ≤ i ∧ i + 5 < (n : Int)) (hcl : cl + 1 ≤ R.cells) (hsl : sl + 6 ≤ R.slots) (hj : JvP P MX10_tray MX11_tray [iV (sv xs (i + 1)), iV (sv xs (i + 2)), iV (sv xs (i + 3))] cdNI σ) (h : ∀ σ2, P σ2 → XM p l e R s m args below meth c K A nL (cl + 1) (sl + 6) Q 3786 (LL i uV uV uV) [] σ2) : XM p l e R s m args below meth c K A nL cl sl Q 3462 (LL i uV uV uV) [] σ := by
  obtain ⟨hfr, hlo, hn⟩ := (⟨W.2.2.2.2.2.2.2.1, W.2.2.2.2.2.2.2.2.1, W.2.2.2.2.2.2.2.2.2.1⟩ : 61 ≤ R.frames ∧ 1940 ≤ R.locals ∧ n < 2147483648)
  have hC := clo_L (Q := Q) (R := R) (e := e) (below := below) (cl := cl) (sl := sl) (d := 40) W.1 W.2.1 (by omega) (by omega) (by omega) (by omega)
  refine st_aload_n hC dL_law_3462 rfl (by decide) (by decide) ?_
  refine sc_rd (j := 1) W hC ⟨by omega, by omega⟩ rfl dL_law_3463 dL_law_3464 dL_law_3466 dL_law_3467 dL_law_3468 ?_
  refine sc_rd (j := 2) W hC ⟨by omega, by omega⟩ rfl dL_law_3469 dL_law_3470 dL_law_3472 dL_law_3473 dL_law_3474 ?_
  refine sc_rd (j := 3) W hC ⟨by omega, by omega⟩ rfl dL_law_3475 dL_law_3476 dL_law_3478 dL_law_3479 dL_law_3480 ?_
  have tail : ∀ (k : Int) (τ σ2 : Sg) , Ct 40 MX11_tray (rV 20 66 :: [iV (sv xs (i + 1)), iV (sv xs (i + 2)), iV (sv xs (i + 3))]) τ (.inl []) σ2 → σ2 66 5 = k → P σ2 → XM p l e R s m args below meth c K A nL (cl + 1) (sl + 6) Q 3484 (LL i uV uV uV) [iV k] τ := by
    intro k τ σ2 g3 g4 g5
    have hC1 := clo_L (Q := Q) (R := R) (e := e) (below := below) (cl := cl + 1) (sl := sl + 6) (d := 40) W.1 W.2.1 (by omega) (by omega) (by omega) (by omega)
    refine st_istore hC1 dL_law_3484 (Nat.le_of_ble_eq_true rfl) (L2 := LL i (iV k) uV uV) rfl ?_
    refine st_aload_n hC1 dL_law_3486 rfl (by decide) (by decide) ?_
    refine sc_rd (j := 1) W hC1 ⟨by omega, by omega⟩ rfl dL_law_3487 dL_law_3488 dL_law_3490 dL_law_3491 dL_law_3492 ?_
    refine sc_rd (j := 2) W hC1 ⟨by omega, by omega⟩ rfl dL_law_3493 dL_law_3494 dL_law_3496 dL_law_3497 dL_law_3498 ?_
    refine sc_rd (j := 3) W hC1 ⟨by omega, by omega⟩ rfl dL_law_3499 dL_law_3500 dL_law_3502 dL_law_3503 dL_law_3504 ?_
    refine st_invV (t := 20) (a := 66) (ci := 10) (As := [iV (sv xs (i + 1)), iV (sv xs (i + 2)), iV (sv xs (i + 3))]) (S := []) (y := MX11_tray) hC1 dL_law_3505 (show look (CLt 12) 335 = some (MX11_tray, false, 3) from rfl) rfl rfl (by decide) ⟨by decide, rfl, by decide +kernel⟩ (ctn g3 rfl rfl) ?_
    refine seg_C (t1 := 3519) W (by omega) (by omega) (show o80 τ σ2 66 5 = k by rw [o80_ne (by decide)]; exact g4) dL_law_3508 dL_law_3509 dL_law_3512 dL_law_3514 rfl ?_
    refine st_goto (tg := 3786) hC1 dL_law_3519 rfl ?_
    exact st_fg hC1 wk_L (h _ (W.2.2.2.2.2.2.2.2.2.2.2 _ _ ag_o g5))
  rcases hj with ⟨σ1, g1, g2⟩ | ⟨E, σ1, hE, g1, g2⟩
  · refine xs_callW (As := [rV 19 0, iV (sv xs (i + 1)), iV (sv xs (i + 2)), iV (sv xs (i + 3))]) (S := []) W.1 W.2.1 dL_law_3481 (csw_L 4 W.2.2.2.2.2.2.1 gW_tray ⟨by decide, by decide, rfl⟩ ⟨hfr, by omega⟩) W.2.2.2.2.2.1 rfl (by decide) hcl hsl (w_tray g1) ?_
    obtain ⟨σ2, g3, g4, g5⟩ := g2 _ (ag_o (σ := σ))
    exact tail 0 _ σ2 g3 g4 g5
  · refine xs_callW (As := [rV 19 0, iV (sv xs (i + 1)), iV (sv xs (i + 2)), iV (sv xs (i + 3))]) (S := []) W.1 W.2.1 dL_law_3481 (csw_L 4 W.2.2.2.2.2.2.1 gW_tray ⟨by decide, by decide, rfl⟩ ⟨hfr, by omega⟩) W.2.2.2.2.2.1 rfl (by decide) hcl hsl (w_tray_x hE g1) ?_
    obtain ⟨σ2, g3, g4, g5⟩ := g2 _ (ag_o (σ := σ))
    exact tail (cdNI E) _ σ2 g3 g4 g5
set_option maxRecDepth 20000 in
theorem lc_47 {p : Program} {l : Launch} {e : Env} {R : Room} {s : State} {m : MethodId} {args : Array Value} {below : List Frame} {meth : Method} {c : Code} {K : KT} {A : Nat → Prop} {nL cl sl : Nat} {hh : Prop} {Q : State → Prop} {r : Option FieldType} {σ : Sg} {n : Nat} {xs : Nat → Int32} {P : Sg → Prop} {i : Int} (W : LwC p l R s m args meth c K A nL r hh n xs P) (hi : 0 ≤ i ∧ i + 5 < (n : Int)) (hcl : cl + 1 ≤ R.cells) (hsl : sl + 6 ≤ R.slots) (hj : JtP P MX10_write MX11_write [iV (sv xs (i + 1)), iV (sv xs (i + 2)), lV (lg2 (sv xs (i + 3)) (sv xs (i + 4)))] (fun v => lV v) cdW σ) (h : ∀ σ2, P σ2 → XM p l e R s m args below meth c K A nL (cl + 1) (sl + 6) Q 3786 (LL i uV uV uV) [] σ2) : XM p l e R s m args below meth c K A nL cl sl Q 3522 (LL i uV uV uV) [] σ := by
  obtain ⟨hfr, hlo, hn⟩ := (⟨W.2.2.2.2.2.2.2.1, W.2.2.2.2.2.2.2.2.1, W.2.2.2.2.2.2.2.2.2.1⟩ : 61 ≤ R.frames ∧ 1940 ≤ R.locals ∧ n < 2147483648)
  have hC := clo_L (Q := Q) (R := R) (e := e) (below := below) (cl := cl) (sl := sl) (d := 40) W.1 W.2.1 (by omega) (by omega) (by omega) (by omega)
  refine st_aload_n hC dL_law_3522 rfl (by decide) (by decide) ?_
  refine sc_rd (j := 1) W hC ⟨by omega, by omega⟩ rfl dL_law_3523 dL_law_3524 dL_law_3526 dL_law_3527 dL_law_3528 ?_
  refine sc_rd (j := 2) W hC ⟨by omega, by omega⟩ rfl dL_law_3529 dL_law_3530 dL_law_3532 dL_law_3533 dL_law_3534 ?_
  refine sc_rl (j := 3) (j' := 4) W hC ⟨by omega, by omega⟩ rfl ⟨by omega, by omega⟩ rfl dL_law_3535 dL_law_3536 dL_law_3538 dL_law_3539 dL_law_3540 dL_law_3541 dL_law_3542 dL_law_3544 dL_law_3545 dL_law_3546 dL_law_3548 dL_law_3549 dL_law_3550 dL_law_3551 dL_law_3552 dL_law_3555 dL_law_3556 ?_
  refine st_aload_n hC dL_law_3557 rfl (by decide) (by decide) ?_
  have tail : ∀ (k : Int) (τ σ2 : Sg) (v : Int) , Ct 40 MX11_write (rV 20 66 :: [iV (sv xs (i + 1)), iV (sv xs (i + 2)), lV (lg2 (sv xs (i + 3)) (sv xs (i + 4)))]) τ (.inl [lV v]) σ2 → σ2 66 5 = k → (k = 0 → τ 88 0 = v) → P σ2 → XM p l e R s m args below meth c K A nL (cl + 1) (sl + 6) Q 3561 (LL i uV uV uV) [iV k] τ := by
    intro k τ σ2 v g3 g4 gv g5
    have hC1 := clo_L (Q := Q) (R := R) (e := e) (below := below) (cl := cl + 1) (sl := sl + 6) (d := 40) W.1 W.2.1 (by omega) (by omega) (by omega) (by omega)
    refine st_istore hC1 dL_law_3561 (Nat.le_of_ble_eq_true rfl) (L2 := LL i (iV k) uV uV) rfl ?_
    refine st_aload_n hC1 dL_law_3563 rfl (by decide) (by decide) ?_
    refine sc_rd (j := 1) W hC1 ⟨by omega, by omega⟩ rfl dL_law_3564 dL_law_3565 dL_law_3567 dL_law_3568 dL_law_3569 ?_
    refine sc_rd (j := 2) W hC1 ⟨by omega, by omega⟩ rfl dL_law_3570 dL_law_3571 dL_law_3573 dL_law_3574 dL_law_3575 ?_
    refine sc_rl (j := 3) (j' := 4) W hC1 ⟨by omega, by omega⟩ rfl ⟨by omega, by omega⟩ rfl dL_law_3576 dL_law_3577 dL_law_3579 dL_law_3580 dL_law_3581 dL_law_3582 dL_law_3583 dL_law_3585 dL_law_3586 dL_law_3587 dL_law_3589 dL_law_3590 dL_law_3591 dL_law_3592 dL_law_3593 dL_law_3596 dL_law_3597 ?_
    refine st_invV (t := 20) (a := 66) (ci := 10) (As := [iV (sv xs (i + 1)), iV (sv xs (i + 2)), lV (lg2 (sv xs (i + 3)) (sv xs (i + 4)))]) (S := []) (y := MX11_write) hC1 dL_law_3598 (show look (CLt 12) 338 = some (MX11_write, false, 3) from rfl) rfl rfl (by decide) ⟨by decide, rfl, by decide +kernel⟩ (ctn g3 rfl rfl) ?_
    refine st_lstore hC1 dL_law_3601 (Nat.le_of_ble_eq_true rfl) (L2 := LL i (iV k) (lV v) uV) rfl ?_
    refine seg_C (t1 := 3614) W (by omega) (by omega) (show o80 τ σ2 66 5 = k by rw [o80_ne (by decide)]; exact g4) dL_law_3603 dL_law_3604 dL_law_3607 dL_law_3609 rfl ?_
    have fin : XM p l e R s m args below meth c K A nL (cl + 1) (sl + 6) Q 3630 (LL i (iV k) (lV v) uV) [] (o80 τ σ2) := by
      refine st_goto (tg := 3786) hC1 dL_law_3630 rfl ?_
      exact st_fg hC1 wk_L (h _ (W.2.2.2.2.2.2.2.2.2.2.2 _ _ ag_o g5))
    refine seg_D (t1 := 3630) W (by omega) (by omega) dL_law_3614 dL_law_3616 rfl dL_law_3619 dL_law_3620 dL_law_3621 (fun hk => ?_) fin
    refine st_lload hC1 dL_law_3622 rfl ?_
    refine st_lcmp_eq (tg := 3630) hC1 dL_law_3624 dL_law_3625 rfl ?_
    rw [if_pos (show o80 τ σ2 88 0 = v by rw [o80_80]; exact gv hk)]
    exact fin
  rcases hj with ⟨v, σ1, g1, g2⟩ | ⟨E, σ1, hE, g1, g2⟩
  · refine xs_callW (As := [rV 19 0, iV (sv xs (i + 1)), iV (sv xs (i + 2)), lV (lg2 (sv xs (i + 3)) (sv xs (i + 4))), rV 35 88]) (S := []) W.1 W.2.1 dL_law_3558 (csw_L 5 W.2.2.2.2.2.2.1 gW_write ⟨by decide, by decide, rfl⟩ ⟨hfr, by omega⟩) W.2.2.2.2.2.1 rfl (by decide) hcl hsl (w_write g1) ?_
    obtain ⟨σ2, g3, g4, g5⟩ := g2 _ (ag_up (σ := σ))
    exact tail 0 _ σ2 v g3 g4 (fun _ => ups_eq9) g5
  · refine xs_callW (As := [rV 19 0, iV (sv xs (i + 1)), iV (sv xs (i + 2)), lV (lg2 (sv xs (i + 3)) (sv xs (i + 4))), rV 35 88]) (S := []) W.1 W.2.1 dL_law_3558 (csw_L 5 W.2.2.2.2.2.2.1 gW_write ⟨by decide, by decide, rfl⟩ ⟨hfr, by omega⟩) W.2.2.2.2.2.1 rfl (by decide) hcl hsl (w_write_x hE g1) ?_
    obtain ⟨v, σ2, g3, g4, g5⟩ := g2 _ (ag_o (σ := σ))
    exact tail (cdW E) _ σ2 v g3 g4 (fun z => absurd z hE) g5
set_option maxRecDepth 20000 in
theorem lc_48 {p : Program} {l : Launch} {e : Env} {R : Room} {s : State} {m : MethodId} {args : Array Value} {below : List Frame} {meth : Method} {c : Code} {K : KT} {A : Nat → Prop} {nL cl sl : Nat} {hh : Prop} {Q : State → Prop} {r : Option FieldType} {σ : Sg} {n : Nat} {xs : Nat → Int32} {P : Sg → Prop} {i : Int} (W : LwC p l R s m args meth c K A nL r hh n xs P) (hi : 0 ≤ i ∧ i + 5 < (n : Int)) (hcl : cl + 1 ≤ R.cells) (hsl : sl + 6 ≤ R.slots) (hj : JtP P MX10_pour MX11_pour [iV (sv xs (i + 1))] (fun v => iV v) cdP σ) (h : ∀ σ2, P σ2 → XM p l e R s m args below meth c K A nL (cl + 1) (sl + 6) Q 3786 (LL i uV uV uV) [] σ2) : XM p l e R s m args below meth c K A nL cl sl Q 3633 (LL i uV uV uV) [] σ := by
  obtain ⟨hfr, hlo, hn⟩ := (⟨W.2.2.2.2.2.2.2.1, W.2.2.2.2.2.2.2.2.1, W.2.2.2.2.2.2.2.2.2.1⟩ : 61 ≤ R.frames ∧ 1940 ≤ R.locals ∧ n < 2147483648)
  have hC := clo_L (Q := Q) (R := R) (e := e) (below := below) (cl := cl) (sl := sl) (d := 40) W.1 W.2.1 (by omega) (by omega) (by omega) (by omega)
  refine st_aload_n hC dL_law_3633 rfl (by decide) (by decide) ?_
  refine sc_rd (j := 1) W hC ⟨by omega, by omega⟩ rfl dL_law_3634 dL_law_3635 dL_law_3637 dL_law_3638 dL_law_3639 ?_
  refine st_aload_n hC dL_law_3640 rfl (by decide) (by decide) ?_
  have tail : ∀ (k : Int) (τ σ2 : Sg) (v : Int) , Ct 40 MX11_pour (rV 20 66 :: [iV (sv xs (i + 1))]) τ (.inl [iV v]) σ2 → σ2 66 5 = k → (k = 0 → τ 88 0 = v) → P σ2 → XM p l e R s m args below meth c K A nL (cl + 1) (sl + 6) Q 3644 (LL i uV uV uV) [iV k] τ := by
    intro k τ σ2 v g3 g4 gv g5
    have hC1 := clo_L (Q := Q) (R := R) (e := e) (below := below) (cl := cl + 1) (sl := sl + 6) (d := 40) W.1 W.2.1 (by omega) (by omega) (by omega) (by omega)
    refine st_istore hC1 dL_law_3644 (Nat.le_of_ble_eq_true rfl) (L2 := LL i (iV k) uV uV) rfl ?_
    refine st_aload_n hC1 dL_law_3646 rfl (by decide) (by decide) ?_
    refine sc_rd (j := 1) W hC1 ⟨by omega, by omega⟩ rfl dL_law_3647 dL_law_3648 dL_law_3650 dL_law_3651 dL_law_3652 ?_
    refine st_invV (t := 20) (a := 66) (ci := 10) (As := [iV (sv xs (i + 1))]) (S := []) (y := MX11_pour) hC1 dL_law_3653 (show look (CLt 12) 341 = some (MX11_pour, false, 1) from rfl) rfl rfl (by decide) ⟨by decide, rfl, by decide +kernel⟩ (ctn g3 rfl rfl) ?_
    refine st_istore hC1 dL_law_3656 (Nat.le_of_ble_eq_true rfl) (L2 := LL i (iV k) (iV v) uV) rfl ?_
    refine seg_C (t1 := 3669) W (by omega) (by omega) (show o80 τ σ2 66 5 = k by rw [o80_ne (by decide)]; exact g4) dL_law_3658 dL_law_3659 dL_law_3662 dL_law_3664 rfl ?_
    have fin : XM p l e R s m args below meth c K A nL (cl + 1) (sl + 6) Q 3686 (LL i (iV k) (iV v) uV) [] (o80 τ σ2) := by
      refine st_goto (tg := 3786) hC1 dL_law_3686 rfl ?_
      exact st_fg hC1 wk_L (h _ (W.2.2.2.2.2.2.2.2.2.2.2 _ _ ag_o g5))
    refine seg_D (t1 := 3686) W (by omega) (by omega) dL_law_3669 dL_law_3671 rfl dL_law_3674 dL_law_3675 dL_law_3676 (fun hk => ?_) fin
    refine st_iload hC1 dL_law_3677 rfl ?_
    refine st_i2l hC1 dL_law_3679 ?_
    refine st_lcmp_eq (tg := 3686) hC1 dL_law_3680 dL_law_3681 rfl ?_
    rw [if_pos (show o80 τ σ2 88 0 = v by rw [o80_80]; exact gv hk)]
    exact fin
  rcases hj with ⟨v, σ1, g1, g2⟩ | ⟨E, σ1, hE, g1, g2⟩
  · refine xs_callW (As := [rV 19 0, iV (sv xs (i + 1)), rV 35 88]) (S := []) W.1 W.2.1 dL_law_3641 (csw_L 3 W.2.2.2.2.2.2.1 gW_pour ⟨by decide, by decide, rfl⟩ ⟨hfr, by omega⟩) W.2.2.2.2.2.1 rfl (by decide) hcl hsl (w_pour g1) ?_
    obtain ⟨σ2, g3, g4, g5⟩ := g2 _ (ag_up (σ := σ))
    exact tail 0 _ σ2 v g3 g4 (fun _ => ups_eq9) g5
  · refine xs_callW (As := [rV 19 0, iV (sv xs (i + 1)), rV 35 88]) (S := []) W.1 W.2.1 dL_law_3641 (csw_L 3 W.2.2.2.2.2.2.1 gW_pour ⟨by decide, by decide, rfl⟩ ⟨hfr, by omega⟩) W.2.2.2.2.2.1 rfl (by decide) hcl hsl (w_pour_x hE g1) ?_
    obtain ⟨v, σ2, g3, g4, g5⟩ := g2 _ (ag_o (σ := σ))
    exact tail (cdP E) _ σ2 v g3 g4 (fun z => absurd z hE) g5
set_option maxRecDepth 20000 in
theorem lc_49 {p : Program} {l : Launch} {e : Env} {R : Room} {s : State} {m : MethodId} {args : Array Value} {below : List Frame} {meth : Method} {c : Code} {K : KT} {A : Nat → Prop} {nL cl sl : Nat} {hh : Prop} {Q : State → Prop} {r : Option FieldType} {σ : Sg} {n : Nat} {xs : Nat → Int32} {P : Sg → Prop} {i : Int} (W : LwC p l R s m args meth c K A nL r hh n xs P) (hi : 0 ≤ i ∧ i + 5 < (n : Int)) (hcl : cl + 1 ≤ R.cells) (hsl : sl + 6 ≤ R.slots) (hj : JvP P MX10_image MX11_image [iV (sv xs (i + 1))] cdN σ) (h : ∀ σ2, P σ2 → XM p l e R s m args below meth c K A nL (cl + 1) (sl + 6) Q 3786 (LL i uV uV uV) [] σ2) : XM p l e R s m args below meth c K A nL cl sl Q 3689 (LL i uV uV uV) [] σ := by
  obtain ⟨hfr, hlo, hn⟩ := (⟨W.2.2.2.2.2.2.2.1, W.2.2.2.2.2.2.2.2.1, W.2.2.2.2.2.2.2.2.2.1⟩ : 61 ≤ R.frames ∧ 1940 ≤ R.locals ∧ n < 2147483648)
  have hC := clo_L (Q := Q) (R := R) (e := e) (below := below) (cl := cl) (sl := sl) (d := 40) W.1 W.2.1 (by omega) (by omega) (by omega) (by omega)
  refine st_aload_n hC dL_law_3689 rfl (by decide) (by decide) ?_
  refine sc_rd (j := 1) W hC ⟨by omega, by omega⟩ rfl dL_law_3690 dL_law_3691 dL_law_3693 dL_law_3694 dL_law_3695 ?_
  have tail : ∀ (k : Int) (τ σ2 : Sg) , Ct 40 MX11_image (rV 20 66 :: [iV (sv xs (i + 1))]) τ (.inl []) σ2 → σ2 66 5 = k → P σ2 → XM p l e R s m args below meth c K A nL (cl + 1) (sl + 6) Q 3699 (LL i uV uV uV) [iV k] τ := by
    intro k τ σ2 g3 g4 g5
    have hC1 := clo_L (Q := Q) (R := R) (e := e) (below := below) (cl := cl + 1) (sl := sl + 6) (d := 40) W.1 W.2.1 (by omega) (by omega) (by omega) (by omega)
    refine st_istore hC1 dL_law_3699 (Nat.le_of_ble_eq_true rfl) (L2 := LL i (iV k) uV uV) rfl ?_
    refine st_aload_n hC1 dL_law_3701 rfl (by decide) (by decide) ?_
    refine sc_rd (j := 1) W hC1 ⟨by omega, by omega⟩ rfl dL_law_3702 dL_law_3703 dL_law_3705 dL_law_3706 dL_law_3707 ?_
    refine st_invV (t := 20) (a := 66) (ci := 10) (As := [iV (sv xs (i + 1))]) (S := []) (y := MX11_image) hC1 dL_law_3708 (show look (CLt 12) 345 = some (MX11_image, false, 1) from rfl) rfl rfl (by decide) ⟨by decide, rfl, by decide +kernel⟩ (ctn g3 rfl rfl) ?_
    refine seg_C (t1 := 3722) W (by omega) (by omega) (show o80 τ σ2 66 5 = k by rw [o80_ne (by decide)]; exact g4) dL_law_3711 dL_law_3712 dL_law_3715 dL_law_3717 rfl ?_
    refine st_goto (tg := 3786) hC1 dL_law_3722 rfl ?_
    exact st_fg hC1 wk_L (h _ (W.2.2.2.2.2.2.2.2.2.2.2 _ _ ag_o g5))
  rcases hj with ⟨σ1, g1, g2⟩ | ⟨E, σ1, hE, g1, g2⟩
  · refine xs_callW (As := [rV 19 0, iV (sv xs (i + 1))]) (S := []) W.1 W.2.1 dL_law_3696 (csw_L 2 W.2.2.2.2.2.2.1 gW_image ⟨by decide, by decide, rfl⟩ ⟨hfr, by omega⟩) W.2.2.2.2.2.1 rfl (by decide) hcl hsl (w_image g1) ?_
    obtain ⟨σ2, g3, g4, g5⟩ := g2 _ (ag_o (σ := σ))
    exact tail 0 _ σ2 g3 g4 g5
  · refine xs_callW (As := [rV 19 0, iV (sv xs (i + 1))]) (S := []) W.1 W.2.1 dL_law_3696 (csw_L 2 W.2.2.2.2.2.2.1 gW_image ⟨by decide, by decide, rfl⟩ ⟨hfr, by omega⟩) W.2.2.2.2.2.1 rfl (by decide) hcl hsl (w_image_x hE g1) ?_
    obtain ⟨σ2, g3, g4, g5⟩ := g2 _ (ag_o (σ := σ))
    exact tail (cdN E) _ σ2 g3 g4 g5
set_option maxRecDepth 20000 in
theorem lc_50 {p : Program} {l : Launch} {e : Env} {R : Room} {s : State} {m : MethodId} {args : Array Value} {below : List Frame} {meth : Method} {c : Code} {K : KT} {A : Nat → Prop} {nL cl sl : Nat} {hh : Prop} {Q : State → Prop} {r : Option FieldType} {σ : Sg} {n : Nat} {xs : Nat → Int32} {P : Sg → Prop} {i : Int} (W : LwC p l R s m args meth c K A nL r hh n xs P) (hi : 0 ≤ i ∧ i + 5 < (n : Int)) (hcl : cl + 1 ≤ R.cells) (hsl : sl + 6 ≤ R.slots) (hj : JvP P MX10_restore MX11_restore [iV (sv xs (i + 1))] cdP σ) (h : ∀ σ2, P σ2 → XM p l e R s m args below meth c K A nL (cl + 1) (sl + 6) Q 3786 (LL i uV uV uV) [] σ2) : XM p l e R s m args below meth c K A nL cl sl Q 3725 (LL i uV uV uV) [] σ := by
  obtain ⟨hfr, hlo, hn⟩ := (⟨W.2.2.2.2.2.2.2.1, W.2.2.2.2.2.2.2.2.1, W.2.2.2.2.2.2.2.2.2.1⟩ : 61 ≤ R.frames ∧ 1940 ≤ R.locals ∧ n < 2147483648)
  have hC := clo_L (Q := Q) (R := R) (e := e) (below := below) (cl := cl) (sl := sl) (d := 40) W.1 W.2.1 (by omega) (by omega) (by omega) (by omega)
  refine st_aload_n hC dL_law_3725 rfl (by decide) (by decide) ?_
  refine sc_rd (j := 1) W hC ⟨by omega, by omega⟩ rfl dL_law_3726 dL_law_3727 dL_law_3729 dL_law_3730 dL_law_3731 ?_
  have tail : ∀ (k : Int) (τ σ2 : Sg) , Ct 40 MX11_restore (rV 20 66 :: [iV (sv xs (i + 1))]) τ (.inl []) σ2 → σ2 66 5 = k → P σ2 → XM p l e R s m args below meth c K A nL (cl + 1) (sl + 6) Q 3735 (LL i uV uV uV) [iV k] τ := by
    intro k τ σ2 g3 g4 g5
    have hC1 := clo_L (Q := Q) (R := R) (e := e) (below := below) (cl := cl + 1) (sl := sl + 6) (d := 40) W.1 W.2.1 (by omega) (by omega) (by omega) (by omega)
    refine st_istore hC1 dL_law_3735 (Nat.le_of_ble_eq_true rfl) (L2 := LL i (iV k) uV uV) rfl ?_
    refine st_aload_n hC1 dL_law_3737 rfl (by decide) (by decide) ?_
    refine sc_rd (j := 1) W hC1 ⟨by omega, by omega⟩ rfl dL_law_3738 dL_law_3739 dL_law_3741 dL_law_3742 dL_law_3743 ?_
    refine st_invV (t := 20) (a := 66) (ci := 10) (As := [iV (sv xs (i + 1))]) (S := []) (y := MX11_restore) hC1 dL_law_3744 (show look (CLt 12) 348 = some (MX11_restore, false, 1) from rfl) rfl rfl (by decide) ⟨by decide, rfl, by decide +kernel⟩ (ctn g3 rfl rfl) ?_
    refine seg_C (t1 := 3758) W (by omega) (by omega) (show o80 τ σ2 66 5 = k by rw [o80_ne (by decide)]; exact g4) dL_law_3747 dL_law_3748 dL_law_3751 dL_law_3753 rfl ?_
    refine st_goto (tg := 3786) hC1 dL_law_3758 rfl ?_
    exact st_fg hC1 wk_L (h _ (W.2.2.2.2.2.2.2.2.2.2.2 _ _ ag_o g5))
  rcases hj with ⟨σ1, g1, g2⟩ | ⟨E, σ1, hE, g1, g2⟩
  · refine xs_callW (As := [rV 19 0, iV (sv xs (i + 1))]) (S := []) W.1 W.2.1 dL_law_3732 (csw_L 2 W.2.2.2.2.2.2.1 gW_restore ⟨by decide, by decide, rfl⟩ ⟨hfr, by omega⟩) W.2.2.2.2.2.1 rfl (by decide) hcl hsl (w_restore g1) ?_
    obtain ⟨σ2, g3, g4, g5⟩ := g2 _ (ag_o (σ := σ))
    exact tail 0 _ σ2 g3 g4 g5
  · refine xs_callW (As := [rV 19 0, iV (sv xs (i + 1))]) (S := []) W.1 W.2.1 dL_law_3732 (csw_L 2 W.2.2.2.2.2.2.1 gW_restore ⟨by decide, by decide, rfl⟩ ⟨hfr, by omega⟩) W.2.2.2.2.2.1 rfl (by decide) hcl hsl (w_restore_x hE g1) ?_
    obtain ⟨σ2, g3, g4, g5⟩ := g2 _ (ag_o (σ := σ))
    exact tail (cdP E) _ σ2 g3 g4 g5
set_option maxRecDepth 20000 in
theorem lc_51 {p : Program} {l : Launch} {e : Env} {R : Room} {s : State} {m : MethodId} {args : Array Value} {below : List Frame} {meth : Method} {c : Code} {K : KT} {A : Nat → Prop} {nL cl sl : Nat} {hh : Prop} {Q : State → Prop} {r : Option FieldType} {σ : Sg} {n : Nat} {xs : Nat → Int32} {P : Sg → Prop} {i : Int} (W : LwC p l R s m args meth c K A nL r hh n xs P) (hi : 0 ≤ i ∧ i + 5 < (n : Int)) (hcl : cl + 1 ≤ R.cells) (hsl : sl + 6 ≤ R.slots) (hj : JnP P MX10_count MX11_count [iV (sv xs (i + 1))] σ) (h : ∀ σ2, P σ2 → XM p l e R s m args below meth c K A nL (cl + 1) (sl + 6) Q 3786 (LL i uV uV uV) [] σ2) : XM p l e R s m args below meth c K A nL cl sl Q 3761 (LL i uV uV uV) [] σ := by
  obtain ⟨hfr, hlo, hn⟩ := (⟨W.2.2.2.2.2.2.2.1, W.2.2.2.2.2.2.2.2.1, W.2.2.2.2.2.2.2.2.2.1⟩ : 61 ≤ R.frames ∧ 1940 ≤ R.locals ∧ n < 2147483648)
  have hC := clo_L (Q := Q) (R := R) (e := e) (below := below) (cl := cl) (sl := sl) (d := 40) W.1 W.2.1 (by omega) (by omega) (by omega) (by omega)
  refine st_aload_n hC dL_law_3761 rfl (by decide) (by decide) ?_
  refine sc_rd (j := 1) W hC ⟨by omega, by omega⟩ rfl dL_law_3762 dL_law_3763 dL_law_3765 dL_law_3766 dL_law_3767 ?_
  obtain ⟨v, σ1, g1, σ2, g2, g3⟩ := hj
  refine xs_callG (d := 40) (t := 19) (a := 0) (As := [iV (sv xs (i + 1))]) (S := []) (τ := σ) W.1 W.2.1 dL_law_3768 (show look (CLt 12) 349 = some (MX10_count, false, 1) from rfl) rfl (by decide) (by omega) (by omega) (by show cl + 0 ≤ _; omega) (by show sl + 0 ≤ _; omega) ⟨9, by decide, rfl, by decide +kernel⟩ (n9 rfl) (fun vs hvs => by cases hvs; exact n9 rfl) (fun _ _ => rfl) (fun z => z) g1 (fun vs hvs hO1 => ?_) (fun E hE => by cases hE)
  cases hvs
  refine st_aload_n hC dL_law_3771 rfl (by decide) (by decide) ?_
  refine sc_rd (j := 1) W hC ⟨by omega, by omega⟩ rfl dL_law_3772 dL_law_3773 dL_law_3775 dL_law_3776 dL_law_3777 ?_
  refine xs_callG (d := 40) (t := 20) (a := 66) (As := [iV (sv xs (i + 1))]) (S := [iV v]) (τ := σ1) W.1 W.2.1 dL_law_3778 (show look (CLt 12) 352 = some (MX11_count, false, 1) from rfl) rfl (Nat.le_of_ble_eq_true rfl) (by omega) (by omega) (by show cl + 0 ≤ _; omega) (by show sl + 0 ≤ _; omega) ⟨10, by decide, rfl, by decide +kernel⟩ (n9 rfl) (fun vs hvs => by cases hvs; exact n9 rfl) (fun a ha => (ag_o a ha).symm) (fun _ => hO1) g2 (fun vs hvs hO2 => ?_) (fun E hE => by cases hE)
  cases hvs
  refine st_icmp_eq (tg := 3786) hC dL_law_3781 rfl ?_
  rw [if_pos rfl]
  exact XM_wid (Nat.le_add_right _ _) (Nat.le_add_right _ _) (h _ (W.2.2.2.2.2.2.2.2.2.2.2 _ _ ag_o g3))
