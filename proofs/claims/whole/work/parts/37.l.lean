/-! The law, its cases. Written by wip/gen/mklaw.py. -/
/-- what both sides owe of writer -/
def St_writer (ka : Nat → Nat) (x y : Nat) (Inv : Nat → TH → TH → Prop) : Prop := ∀ (n : Nat) (c m : TH) (a0 : Int32), n < 512 → Inv n c m → ∃ (r : Int32) (c1 m1 : TH), f_X11_writer ka c x a0 = some (r, c1) ∧ f_X15_writer (bm_ m c1) y a0 = some (r, m1) ∧ wf_ c1 ∧ wf_ m1 ∧ Inv (n + 1) (bm_ c1 m1) m1
set_option maxHeartbeats 4000000 in
theorem lw_writer {l : Launch} {D : va_G} {cy : Nat → ClassId} {ka : Nat → Nat} {Qf : QF} {σ0 : TH} {Pz : TH → Prop} {x y o n0 s0 : Nat} {Inv : Nat → TH → TH → Prop} {n : Nat} {c m : TH} (hI : iv_ x y o n0 s0 Inv) (hS : St_writer ka x y Inv) (hn : n < 512) (hInv : Inv n c m) (hb : 10 * n + 10 ≤ ka 302) (hN : ka 302 ≤ 5120) (hk : ∀ c1 m1, Inv (n + 1) c1 m1 → ∃ z, Pz z ∧ lwv_ l D cy ka Qf σ0 z (jn_ c1 m1) 2144 (lwL_ ka x y o n) []) : ∃ z, Pz z ∧ lwv_ l D cy ka Qf σ0 z (jn_ c m) 252 (lwL_ ka x y o n) [] := by
  obtain ⟨r, c1, m1, h1, h2, w1, w2, h3⟩ := hS n c m (sx_ ka n 1) hn hInv
  obtain ⟨g1, g2, g3, g4, g5, g6, g7, -⟩ := hI n c m hInv
  obtain ⟨z, hP, k⟩ := hk _ _ h3
  refine ⟨z, hP, ?_⟩
  have t1 := c_X11_writer (l := l) (D := D) (cy := cy) (ka := ka) h1
  have t2 := c_X15_writer (l := l) (D := D) (cy := cy) (ka := ka) h2
  have q1 := sp_z g1 g2 g3 g4 w1 t1.1
  have b1 : wf_ (bm_ m c1) := wf_bm g2 (by rw [g4]; exact t1.1.1)
  refine v_aload_n (x := some x) dL_law_252 rfl 3 rfl ?_
  refine v_arg 4 0 1 (by decide) hb hN rfl rfl dL_law_253 dL_law_254 (by decide) dL_law_256 dL_law_257 dL_law_258 ?_
  refine v_callV cb_12 (jk_c g6) (As := [.int (sx_ ka n 1)]) (rest := []) (jn_c g1 g2 g3 g4 w1 t1) yb_X11_writer kw_300 kw_301 kw_302 rfl ⟨Nat.le_of_ble_eq_true rfl, Nat.le_of_ble_eq_true rfl⟩ rfl (cat_len (Nat.le_of_ble_eq_true rfl)) dL_law_259 ?_
  refine v_aload_n (x := some y) dL_law_262 rfl 2 rfl ?_
  refine v_arg 4 0 1 (by decide) hb hN rfl rfl dL_law_263 dL_law_264 (by decide) dL_law_266 dL_law_267 dL_law_268 ?_
  refine v_callV cb_16 (jk_m q1 g7) (As := [.int (sx_ ka n 1)]) (rest := [.int r]) (jn_m w1 b1 q1 rfl rfl w2 t2) yb_X15_writer kw_1722 kw_1723 kw_1724 rfl ⟨Nat.le_of_ble_eq_true rfl, Nat.le_of_ble_eq_true rfl⟩ rfl (cat_len (Nat.le_of_ble_eq_true rfl)) dL_law_269 ?_
  exact v_icmp_eq (tgt := 2144) (A := some ()) (B := none) (u := ()) (if_pos rfl) dL_law_272 (by decide) (fun _ _ => k) (fun h9 _ => absurd rfl h9)
/-- what both sides owe of hours -/
def St_hours (ka : Nat → Nat) (x y : Nat) (Inv : Nat → TH → TH → Prop) : Prop := ∀ (n : Nat) (c m : TH) (a0 a1 : Int32), n < 512 → Inv n c m → ∃ (r : Int32) (c1 m1 : TH), f_X11_hours c x a0 a1 = some (r, c1) ∧ f_X15_hours (bm_ m c1) y a0 a1 = some (r, m1) ∧ wf_ c1 ∧ wf_ m1 ∧ Inv (n + 1) (bm_ c1 m1) m1
set_option maxHeartbeats 4000000 in
theorem lw_hours {l : Launch} {D : va_G} {cy : Nat → ClassId} {ka : Nat → Nat} {Qf : QF} {σ0 : TH} {Pz : TH → Prop} {x y o n0 s0 : Nat} {Inv : Nat → TH → TH → Prop} {n : Nat} {c m : TH} (hI : iv_ x y o n0 s0 Inv) (hS : St_hours ka x y Inv) (hn : n < 512) (hInv : Inv n c m) (hb : 10 * n + 10 ≤ ka 302) (hN : ka 302 ≤ 5120) (hk : ∀ c1 m1, Inv (n + 1) c1 m1 → ∃ z, Pz z ∧ lwv_ l D cy ka Qf σ0 z (jn_ c1 m1) 2144 (lwL_ ka x y o n) []) : ∃ z, Pz z ∧ lwv_ l D cy ka Qf σ0 z (jn_ c m) 277 (lwL_ ka x y o n) [] := by
  obtain ⟨r, c1, m1, h1, h2, w1, w2, h3⟩ := hS n c m (sx_ ka n 1) (sx_ ka n 2) hn hInv
  obtain ⟨g1, g2, g3, g4, g5, g6, g7, -⟩ := hI n c m hInv
  obtain ⟨z, hP, k⟩ := hk _ _ h3
  refine ⟨z, hP, ?_⟩
  have t1 := c_X11_hours (l := l) (D := D) (cy := cy) (ka := ka) h1
  have t2 := c_X15_hours (l := l) (D := D) (cy := cy) (ka := ka) h2
  have q1 := sp_z g1 g2 g3 g4 w1 t1.1
  have b1 : wf_ (bm_ m c1) := wf_bm g2 (by rw [g4]; exact t1.1.1)
  refine v_aload_n (x := some x) dL_law_277 rfl 3 rfl ?_
  refine v_arg 4 0 1 (by decide) hb hN rfl rfl dL_law_278 dL_law_279 (by decide) dL_law_281 dL_law_282 dL_law_283 ?_
  refine v_arg 4 0 2 (by decide) hb hN rfl rfl dL_law_284 dL_law_285 (by decide) dL_law_287 dL_law_288 dL_law_289 ?_
  refine v_callV cb_12 (jk_c g6) (As := [.int (sx_ ka n 1), .int (sx_ ka n 2)]) (rest := []) (jn_c g1 g2 g3 g4 w1 t1) yb_X11_hours kw_399 kw_400 kw_401 rfl ⟨Nat.le_of_ble_eq_true rfl, Nat.le_of_ble_eq_true rfl⟩ rfl (cat_len (Nat.le_of_ble_eq_true rfl)) dL_law_290 ?_
  refine v_aload_n (x := some y) dL_law_293 rfl 2 rfl ?_
  refine v_arg 4 0 1 (by decide) hb hN rfl rfl dL_law_294 dL_law_295 (by decide) dL_law_297 dL_law_298 dL_law_299 ?_
  refine v_arg 4 0 2 (by decide) hb hN rfl rfl dL_law_300 dL_law_301 (by decide) dL_law_303 dL_law_304 dL_law_305 ?_
  refine v_callV cb_16 (jk_m q1 g7) (As := [.int (sx_ ka n 1), .int (sx_ ka n 2)]) (rest := [.int r]) (jn_m w1 b1 q1 rfl rfl w2 t2) yb_X15_hours kw_1737 kw_1738 kw_1739 rfl ⟨Nat.le_of_ble_eq_true rfl, Nat.le_of_ble_eq_true rfl⟩ rfl (cat_len (Nat.le_of_ble_eq_true rfl)) dL_law_306 ?_
  exact v_icmp_eq (tgt := 2144) (A := some ()) (B := none) (u := ()) (if_pos rfl) dL_law_309 (by decide) (fun _ _ => k) (fun h9 _ => absurd rfl h9)
/-- what both sides owe of bury -/
def St_bury (ka : Nat → Nat) (x y : Nat) (Inv : Nat → TH → TH → Prop) : Prop := ∀ (n : Nat) (c m : TH) (a0 : Int32), n < 512 → Inv n c m → ∃ (r : Int32) (c1 m1 : TH), f_X11_bury c x a0 = some (r, c1) ∧ f_X15_bury (bm_ m c1) y a0 = some (r, m1) ∧ wf_ c1 ∧ wf_ m1 ∧ Inv (n + 1) (bm_ c1 m1) m1
set_option maxHeartbeats 4000000 in
theorem lw_bury {l : Launch} {D : va_G} {cy : Nat → ClassId} {ka : Nat → Nat} {Qf : QF} {σ0 : TH} {Pz : TH → Prop} {x y o n0 s0 : Nat} {Inv : Nat → TH → TH → Prop} {n : Nat} {c m : TH} (hI : iv_ x y o n0 s0 Inv) (hS : St_bury ka x y Inv) (hn : n < 512) (hInv : Inv n c m) (hb : 10 * n + 10 ≤ ka 302) (hN : ka 302 ≤ 5120) (hk : ∀ c1 m1, Inv (n + 1) c1 m1 → ∃ z, Pz z ∧ lwv_ l D cy ka Qf σ0 z (jn_ c1 m1) 2144 (lwL_ ka x y o n) []) : ∃ z, Pz z ∧ lwv_ l D cy ka Qf σ0 z (jn_ c m) 314 (lwL_ ka x y o n) [] := by
  obtain ⟨r, c1, m1, h1, h2, w1, w2, h3⟩ := hS n c m (sx_ ka n 1) hn hInv
  obtain ⟨g1, g2, g3, g4, g5, g6, g7, -⟩ := hI n c m hInv
  obtain ⟨z, hP, k⟩ := hk _ _ h3
  refine ⟨z, hP, ?_⟩
  have t1 := c_X11_bury (l := l) (D := D) (cy := cy) (ka := ka) h1
  have t2 := c_X15_bury (l := l) (D := D) (cy := cy) (ka := ka) h2
  have q1 := sp_z g1 g2 g3 g4 w1 t1.1
  have b1 : wf_ (bm_ m c1) := wf_bm g2 (by rw [g4]; exact t1.1.1)
  refine v_aload_n (x := some x) dL_law_314 rfl 3 rfl ?_
  refine v_arg 4 0 1 (by decide) hb hN rfl rfl dL_law_315 dL_law_316 (by decide) dL_law_318 dL_law_319 dL_law_320 ?_
  refine v_callV cb_12 (jk_c g6) (As := [.int (sx_ ka n 1)]) (rest := []) (jn_c g1 g2 g3 g4 w1 t1) yb_X11_bury kw_429 kw_430 kw_431 rfl ⟨Nat.le_of_ble_eq_true rfl, Nat.le_of_ble_eq_true rfl⟩ rfl (cat_len (Nat.le_of_ble_eq_true rfl)) dL_law_321 ?_
  refine v_aload_n (x := some y) dL_law_324 rfl 2 rfl ?_
  refine v_arg 4 0 1 (by decide) hb hN rfl rfl dL_law_325 dL_law_326 (by decide) dL_law_328 dL_law_329 dL_law_330 ?_
  refine v_callV cb_16 (jk_m q1 g7) (As := [.int (sx_ ka n 1)]) (rest := [.int r]) (jn_m w1 b1 q1 rfl rfl w2 t2) yb_X15_bury kw_1753 kw_1754 kw_1755 rfl ⟨Nat.le_of_ble_eq_true rfl, Nat.le_of_ble_eq_true rfl⟩ rfl (cat_len (Nat.le_of_ble_eq_true rfl)) dL_law_331 ?_
  exact v_icmp_eq (tgt := 2144) (A := some ()) (B := none) (u := ()) (if_pos rfl) dL_law_334 (by decide) (fun _ _ => k) (fun h9 _ => absurd rfl h9)
/-- what both sides owe of person -/
def St_person (ka : Nat → Nat) (x y : Nat) (Inv : Nat → TH → TH → Prop) : Prop := ∀ (n : Nat) (c m : TH) (a0 a1 a2 a3 : Int32), n < 512 → Inv n c m → ∃ (r : Int32) (c1 m1 : TH), f_X11_person ka c x a0 a1 a2 a3 = some (r, c1) ∧ f_X15_person (bm_ m c1) y a0 a1 a2 a3 = some (r, m1) ∧ wf_ c1 ∧ wf_ m1 ∧ Inv (n + 1) (bm_ c1 m1) m1
set_option maxHeartbeats 4000000 in
theorem lw_person {l : Launch} {D : va_G} {cy : Nat → ClassId} {ka : Nat → Nat} {Qf : QF} {σ0 : TH} {Pz : TH → Prop} {x y o n0 s0 : Nat} {Inv : Nat → TH → TH → Prop} {n : Nat} {c m : TH} (hI : iv_ x y o n0 s0 Inv) (hS : St_person ka x y Inv) (hn : n < 512) (hInv : Inv n c m) (hb : 10 * n + 10 ≤ ka 302) (hN : ka 302 ≤ 5120) (hk : ∀ c1 m1, Inv (n + 1) c1 m1 → ∃ z, Pz z ∧ lwv_ l D cy ka Qf σ0 z (jn_ c1 m1) 2144 (lwL_ ka x y o n) []) : ∃ z, Pz z ∧ lwv_ l D cy ka Qf σ0 z (jn_ c m) 339 (lwL_ ka x y o n) [] := by
  obtain ⟨r, c1, m1, h1, h2, w1, w2, h3⟩ := hS n c m (sx_ ka n 1) (sx_ ka n 2) (sx_ ka n 3) (sx_ ka n 4) hn hInv
  obtain ⟨g1, g2, g3, g4, g5, g6, g7, -⟩ := hI n c m hInv
  obtain ⟨z, hP, k⟩ := hk _ _ h3
  refine ⟨z, hP, ?_⟩
  have t1 := c_X11_person (l := l) (D := D) (cy := cy) (ka := ka) h1
  have t2 := c_X15_person (l := l) (D := D) (cy := cy) (ka := ka) h2
  have q1 := sp_z g1 g2 g3 g4 w1 t1.1
  have b1 : wf_ (bm_ m c1) := wf_bm g2 (by rw [g4]; exact t1.1.1)
  refine v_aload_n (x := some x) dL_law_339 rfl 3 rfl ?_
  refine v_arg 4 0 1 (by decide) hb hN rfl rfl dL_law_340 dL_law_341 (by decide) dL_law_343 dL_law_344 dL_law_345 ?_
  refine v_arg 4 0 2 (by decide) hb hN rfl rfl dL_law_346 dL_law_347 (by decide) dL_law_349 dL_law_350 dL_law_351 ?_
  refine v_arg 4 0 3 (by decide) hb hN rfl rfl dL_law_352 dL_law_353 (by decide) dL_law_355 dL_law_356 dL_law_357 ?_
  refine v_arg 4 0 4 (by decide) hb hN rfl rfl dL_law_358 dL_law_359 (by decide) dL_law_361 dL_law_362 dL_law_363 ?_
  refine v_callV cb_12 (jk_c g6) (As := [.int (sx_ ka n 1), .int (sx_ ka n 2), .int (sx_ ka n 3), .int (sx_ ka n 4)]) (rest := []) (jn_c g1 g2 g3 g4 w1 t1) yb_X11_person kw_449 kw_450 kw_451 rfl ⟨Nat.le_of_ble_eq_true rfl, Nat.le_of_ble_eq_true rfl⟩ rfl (cat_len (Nat.le_of_ble_eq_true rfl)) dL_law_364 ?_
  refine v_aload_n (x := some y) dL_law_367 rfl 2 rfl ?_
  refine v_arg 4 0 1 (by decide) hb hN rfl rfl dL_law_368 dL_law_369 (by decide) dL_law_371 dL_law_372 dL_law_373 ?_
  refine v_arg 4 0 2 (by decide) hb hN rfl rfl dL_law_374 dL_law_375 (by decide) dL_law_377 dL_law_378 dL_law_379 ?_
  refine v_arg 4 0 3 (by decide) hb hN rfl rfl dL_law_380 dL_law_381 (by decide) dL_law_383 dL_law_384 dL_law_385 ?_
  refine v_arg 4 0 4 (by decide) hb hN rfl rfl dL_law_386 dL_law_387 (by decide) dL_law_389 dL_law_390 dL_law_391 ?_
  refine v_callV cb_16 (jk_m q1 g7) (As := [.int (sx_ ka n 1), .int (sx_ ka n 2), .int (sx_ ka n 3), .int (sx_ ka n 4)]) (rest := [.int r]) (jn_m w1 b1 q1 rfl rfl w2 t2) yb_X15_person kw_1761 kw_1762 kw_1763 rfl ⟨Nat.le_of_ble_eq_true rfl, Nat.le_of_ble_eq_true rfl⟩ rfl (cat_len (Nat.le_of_ble_eq_true rfl)) dL_law_392 ?_
  exact v_icmp_eq (tgt := 2144) (A := some ()) (B := none) (u := ()) (if_pos rfl) dL_law_395 (by decide) (fun _ _ => k) (fun h9 _ => absurd rfl h9)
/-- what both sides owe of about -/
def St_about (ka : Nat → Nat) (x y : Nat) (Inv : Nat → TH → TH → Prop) : Prop := ∀ (n : Nat) (c m : TH) (a0 a1 : Int32), n < 512 → Inv n c m → ∃ (r : Int32) (c1 m1 : TH), f_X11_about c x a0 a1 = some (r, c1) ∧ f_X15_about (bm_ m c1) y a0 a1 = some (r, m1) ∧ wf_ c1 ∧ wf_ m1 ∧ Inv (n + 1) (bm_ c1 m1) m1
set_option maxHeartbeats 4000000 in
theorem lw_about {l : Launch} {D : va_G} {cy : Nat → ClassId} {ka : Nat → Nat} {Qf : QF} {σ0 : TH} {Pz : TH → Prop} {x y o n0 s0 : Nat} {Inv : Nat → TH → TH → Prop} {n : Nat} {c m : TH} (hI : iv_ x y o n0 s0 Inv) (hS : St_about ka x y Inv) (hn : n < 512) (hInv : Inv n c m) (hb : 10 * n + 10 ≤ ka 302) (hN : ka 302 ≤ 5120) (hk : ∀ c1 m1, Inv (n + 1) c1 m1 → ∃ z, Pz z ∧ lwv_ l D cy ka Qf σ0 z (jn_ c1 m1) 2144 (lwL_ ka x y o n) []) : ∃ z, Pz z ∧ lwv_ l D cy ka Qf σ0 z (jn_ c m) 400 (lwL_ ka x y o n) [] := by
  obtain ⟨r, c1, m1, h1, h2, w1, w2, h3⟩ := hS n c m (sx_ ka n 1) (sx_ ka n 2) hn hInv
  obtain ⟨g1, g2, g3, g4, g5, g6, g7, -⟩ := hI n c m hInv
  obtain ⟨z, hP, k⟩ := hk _ _ h3
  refine ⟨z, hP, ?_⟩
  have t1 := c_X11_about (l := l) (D := D) (cy := cy) (ka := ka) h1
  have t2 := c_X15_about (l := l) (D := D) (cy := cy) (ka := ka) h2
  have q1 := sp_z g1 g2 g3 g4 w1 t1.1
  have b1 : wf_ (bm_ m c1) := wf_bm g2 (by rw [g4]; exact t1.1.1)
  refine v_aload_n (x := some x) dL_law_400 rfl 3 rfl ?_
  refine v_arg 4 0 1 (by decide) hb hN rfl rfl dL_law_401 dL_law_402 (by decide) dL_law_404 dL_law_405 dL_law_406 ?_
  refine v_arg 4 0 2 (by decide) hb hN rfl rfl dL_law_407 dL_law_408 (by decide) dL_law_410 dL_law_411 dL_law_412 ?_
  refine v_callV cb_12 (jk_c g6) (As := [.int (sx_ ka n 1), .int (sx_ ka n 2)]) (rest := []) (jn_c g1 g2 g3 g4 w1 t1) yb_X11_about kw_522 kw_523 kw_524 rfl ⟨Nat.le_of_ble_eq_true rfl, Nat.le_of_ble_eq_true rfl⟩ rfl (cat_len (Nat.le_of_ble_eq_true rfl)) dL_law_413 ?_
  refine v_aload_n (x := some y) dL_law_416 rfl 2 rfl ?_
  refine v_arg 4 0 1 (by decide) hb hN rfl rfl dL_law_417 dL_law_418 (by decide) dL_law_420 dL_law_421 dL_law_422 ?_
  refine v_arg 4 0 2 (by decide) hb hN rfl rfl dL_law_423 dL_law_424 (by decide) dL_law_426 dL_law_427 dL_law_428 ?_
  refine v_callV cb_16 (jk_m q1 g7) (As := [.int (sx_ ka n 1), .int (sx_ ka n 2)]) (rest := [.int r]) (jn_m w1 b1 q1 rfl rfl w2 t2) yb_X15_about kw_1766 kw_1767 kw_1768 rfl ⟨Nat.le_of_ble_eq_true rfl, Nat.le_of_ble_eq_true rfl⟩ rfl (cat_len (Nat.le_of_ble_eq_true rfl)) dL_law_429 ?_
  exact v_icmp_eq (tgt := 2144) (A := some ()) (B := none) (u := ()) (if_pos rfl) dL_law_432 (by decide) (fun _ _ => k) (fun h9 _ => absurd rfl h9)
/-- what both sides owe of peril -/
def St_peril (ka : Nat → Nat) (x y : Nat) (Inv : Nat → TH → TH → Prop) : Prop := ∀ (n : Nat) (c m : TH) (a0 a1 : Int32), n < 512 → Inv n c m → ∃ (r : Int32) (c1 m1 : TH), f_X11_peril c x a0 (zo_ a1) = some (r, c1) ∧ f_X15_peril (bm_ m c1) y a0 (zo_ a1) = some (r, m1) ∧ wf_ c1 ∧ wf_ m1 ∧ Inv (n + 1) (bm_ c1 m1) m1
set_option maxHeartbeats 4000000 in
theorem lw_peril {l : Launch} {D : va_G} {cy : Nat → ClassId} {ka : Nat → Nat} {Qf : QF} {σ0 : TH} {Pz : TH → Prop} {x y o n0 s0 : Nat} {Inv : Nat → TH → TH → Prop} {n : Nat} {c m : TH} (hI : iv_ x y o n0 s0 Inv) (hS : St_peril ka x y Inv) (hn : n < 512) (hInv : Inv n c m) (hb : 10 * n + 10 ≤ ka 302) (hN : ka 302 ≤ 5120) (hk : ∀ c1 m1, Inv (n + 1) c1 m1 → ∃ z, Pz z ∧ lwv_ l D cy ka Qf σ0 z (jn_ c1 m1) 2144 (lwL_ ka x y o n) []) : ∃ z, Pz z ∧ lwv_ l D cy ka Qf σ0 z (jn_ c m) 437 (lwL_ ka x y o n) [] := by
  obtain ⟨r, c1, m1, h1, h2, w1, w2, h3⟩ := hS n c m (sx_ ka n 1) (sx_ ka n 2) hn hInv
  obtain ⟨g1, g2, g3, g4, g5, g6, g7, -⟩ := hI n c m hInv
  obtain ⟨z, hP, k⟩ := hk _ _ h3
  refine ⟨z, hP, ?_⟩
  have t1 := c_X11_peril (l := l) (D := D) (cy := cy) (ka := ka) h1
  have t2 := c_X15_peril (l := l) (D := D) (cy := cy) (ka := ka) h2
  have q1 := sp_z g1 g2 g3 g4 w1 t1.1
  have b1 : wf_ (bm_ m c1) := wf_bm g2 (by rw [g4]; exact t1.1.1)
  refine v_aload_n (x := some x) dL_law_437 rfl 3 rfl ?_
  refine v_arg 4 0 1 (by decide) hb hN rfl rfl dL_law_438 dL_law_439 (by decide) dL_law_441 dL_law_442 dL_law_443 ?_
  refine v_arg 4 0 2 (by decide) hb hN rfl rfl dL_law_444 dL_law_445 (by decide) dL_law_447 dL_law_448 dL_law_449 ?_
  refine v_bool (pc2 := 457) (pc3 := 458) dL_law_450 dL_law_453 dL_law_454 dL_law_457 rfl rfl ?_
  refine v_callV cb_12 (jk_c g6) (As := [.int (sx_ ka n 1), .int (zo_ (sx_ ka n 2))]) (rest := []) (jn_c g1 g2 g3 g4 w1 t1) yb_X11_peril kw_560 kw_561 kw_562 rfl ⟨Nat.le_of_ble_eq_true rfl, Nat.le_of_ble_eq_true rfl⟩ rfl (cat_len (Nat.le_of_ble_eq_true rfl)) dL_law_458 ?_
  refine v_aload_n (x := some y) dL_law_461 rfl 2 rfl ?_
  refine v_arg 4 0 1 (by decide) hb hN rfl rfl dL_law_462 dL_law_463 (by decide) dL_law_465 dL_law_466 dL_law_467 ?_
  refine v_arg 4 0 2 (by decide) hb hN rfl rfl dL_law_468 dL_law_469 (by decide) dL_law_471 dL_law_472 dL_law_473 ?_
  refine v_bool (pc2 := 481) (pc3 := 482) dL_law_474 dL_law_477 dL_law_478 dL_law_481 rfl rfl ?_
  refine v_callV cb_16 (jk_m q1 g7) (As := [.int (sx_ ka n 1), .int (zo_ (sx_ ka n 2))]) (rest := [.int r]) (jn_m w1 b1 q1 rfl rfl w2 t2) yb_X15_peril kw_1805 kw_1806 kw_1807 rfl ⟨Nat.le_of_ble_eq_true rfl, Nat.le_of_ble_eq_true rfl⟩ rfl (cat_len (Nat.le_of_ble_eq_true rfl)) dL_law_482 ?_
  exact v_icmp_eq (tgt := 2144) (A := some ()) (B := none) (u := ()) (if_pos rfl) dL_law_485 (by decide) (fun _ _ => k) (fun h9 _ => absurd rfl h9)
/-- what both sides owe of keeps -/
def St_keeps (ka : Nat → Nat) (x y : Nat) (Inv : Nat → TH → TH → Prop) : Prop := ∀ (n : Nat) (c m : TH) (a0 a1 : Int32), n < 512 → Inv n c m → ∃ (r : Int32) (c1 m1 : TH), f_X11_keeps c x a0 a1 = some (r, c1) ∧ f_X15_keeps (bm_ m c1) y a0 a1 = some (r, m1) ∧ wf_ c1 ∧ wf_ m1 ∧ Inv (n + 1) (bm_ c1 m1) m1
set_option maxHeartbeats 4000000 in
theorem lw_keeps {l : Launch} {D : va_G} {cy : Nat → ClassId} {ka : Nat → Nat} {Qf : QF} {σ0 : TH} {Pz : TH → Prop} {x y o n0 s0 : Nat} {Inv : Nat → TH → TH → Prop} {n : Nat} {c m : TH} (hI : iv_ x y o n0 s0 Inv) (hS : St_keeps ka x y Inv) (hn : n < 512) (hInv : Inv n c m) (hb : 10 * n + 10 ≤ ka 302) (hN : ka 302 ≤ 5120) (hk : ∀ c1 m1, Inv (n + 1) c1 m1 → ∃ z, Pz z ∧ lwv_ l D cy ka Qf σ0 z (jn_ c1 m1) 2144 (lwL_ ka x y o n) []) : ∃ z, Pz z ∧ lwv_ l D cy ka Qf σ0 z (jn_ c m) 490 (lwL_ ka x y o n) [] := by
  obtain ⟨r, c1, m1, h1, h2, w1, w2, h3⟩ := hS n c m (sx_ ka n 1) (sx_ ka n 2) hn hInv
  obtain ⟨g1, g2, g3, g4, g5, g6, g7, -⟩ := hI n c m hInv
  obtain ⟨z, hP, k⟩ := hk _ _ h3
  refine ⟨z, hP, ?_⟩
  have t1 := c_X11_keeps (l := l) (D := D) (cy := cy) (ka := ka) h1
  have t2 := c_X15_keeps (l := l) (D := D) (cy := cy) (ka := ka) h2
  have q1 := sp_z g1 g2 g3 g4 w1 t1.1
  have b1 : wf_ (bm_ m c1) := wf_bm g2 (by rw [g4]; exact t1.1.1)
  refine v_aload_n (x := some x) dL_law_490 rfl 3 rfl ?_
  refine v_arg 4 0 1 (by decide) hb hN rfl rfl dL_law_491 dL_law_492 (by decide) dL_law_494 dL_law_495 dL_law_496 ?_
  refine v_arg 4 0 2 (by decide) hb hN rfl rfl dL_law_497 dL_law_498 (by decide) dL_law_500 dL_law_501 dL_law_502 ?_
  refine v_callV cb_12 (jk_c g6) (As := [.int (sx_ ka n 1), .int (sx_ ka n 2)]) (rest := []) (jn_c g1 g2 g3 g4 w1 t1) yb_X11_keeps kw_564 kw_565 kw_566 rfl ⟨Nat.le_of_ble_eq_true rfl, Nat.le_of_ble_eq_true rfl⟩ rfl (cat_len (Nat.le_of_ble_eq_true rfl)) dL_law_503 ?_
  refine v_aload_n (x := some y) dL_law_506 rfl 2 rfl ?_
  refine v_arg 4 0 1 (by decide) hb hN rfl rfl dL_law_507 dL_law_508 (by decide) dL_law_510 dL_law_511 dL_law_512 ?_
  refine v_arg 4 0 2 (by decide) hb hN rfl rfl dL_law_513 dL_law_514 (by decide) dL_law_516 dL_law_517 dL_law_518 ?_
  refine v_callV cb_16 (jk_m q1 g7) (As := [.int (sx_ ka n 1), .int (sx_ ka n 2)]) (rest := [.int r]) (jn_m w1 b1 q1 rfl rfl w2 t2) yb_X15_keeps kw_1809 kw_1810 kw_1811 rfl ⟨Nat.le_of_ble_eq_true rfl, Nat.le_of_ble_eq_true rfl⟩ rfl (cat_len (Nat.le_of_ble_eq_true rfl)) dL_law_519 ?_
  exact v_icmp_eq (tgt := 2144) (A := some ()) (B := none) (u := ()) (if_pos rfl) dL_law_522 (by decide) (fun _ _ => k) (fun h9 _ => absurd rfl h9)
/-- what both sides owe of fact -/
def St_fact (ka : Nat → Nat) (x y : Nat) (Inv : Nat → TH → TH → Prop) : Prop := ∀ (n : Nat) (c m : TH) (a0 a1 a2 a3 : Int32), n < 512 → Inv n c m → ∃ (r : Int32) (c1 m1 : TH), f_X11_fact c x a0 a1 a2 (zo_ a3) = some (r, c1) ∧ f_X15_fact (bm_ m c1) y a0 a1 a2 (zo_ a3) = some (r, m1) ∧ wf_ c1 ∧ wf_ m1 ∧ Inv (n + 1) (bm_ c1 m1) m1
set_option maxHeartbeats 4000000 in
theorem lw_fact {l : Launch} {D : va_G} {cy : Nat → ClassId} {ka : Nat → Nat} {Qf : QF} {σ0 : TH} {Pz : TH → Prop} {x y o n0 s0 : Nat} {Inv : Nat → TH → TH → Prop} {n : Nat} {c m : TH} (hI : iv_ x y o n0 s0 Inv) (hS : St_fact ka x y Inv) (hn : n < 512) (hInv : Inv n c m) (hb : 10 * n + 10 ≤ ka 302) (hN : ka 302 ≤ 5120) (hk : ∀ c1 m1, Inv (n + 1) c1 m1 → ∃ z, Pz z ∧ lwv_ l D cy ka Qf σ0 z (jn_ c1 m1) 2144 (lwL_ ka x y o n) []) : ∃ z, Pz z ∧ lwv_ l D cy ka Qf σ0 z (jn_ c m) 527 (lwL_ ka x y o n) [] := by
  obtain ⟨r, c1, m1, h1, h2, w1, w2, h3⟩ := hS n c m (sx_ ka n 1) (sx_ ka n 2) (sx_ ka n 3) (sx_ ka n 4) hn hInv
  obtain ⟨g1, g2, g3, g4, g5, g6, g7, -⟩ := hI n c m hInv
  obtain ⟨z, hP, k⟩ := hk _ _ h3
  refine ⟨z, hP, ?_⟩
  have t1 := c_X11_fact (l := l) (D := D) (cy := cy) (ka := ka) h1
  have t2 := c_X15_fact (l := l) (D := D) (cy := cy) (ka := ka) h2
  have q1 := sp_z g1 g2 g3 g4 w1 t1.1
  have b1 : wf_ (bm_ m c1) := wf_bm g2 (by rw [g4]; exact t1.1.1)
  refine v_aload_n (x := some x) dL_law_527 rfl 3 rfl ?_
  refine v_arg 4 0 1 (by decide) hb hN rfl rfl dL_law_528 dL_law_529 (by decide) dL_law_531 dL_law_532 dL_law_533 ?_
  refine v_arg 4 0 2 (by decide) hb hN rfl rfl dL_law_534 dL_law_535 (by decide) dL_law_537 dL_law_538 dL_law_539 ?_
  refine v_arg 4 0 3 (by decide) hb hN rfl rfl dL_law_540 dL_law_541 (by decide) dL_law_543 dL_law_544 dL_law_545 ?_
  refine v_arg 4 0 4 (by decide) hb hN rfl rfl dL_law_546 dL_law_547 (by decide) dL_law_549 dL_law_550 dL_law_551 ?_
  refine v_bool (pc2 := 559) (pc3 := 560) dL_law_552 dL_law_555 dL_law_556 dL_law_559 rfl rfl ?_
  refine v_callV cb_12 (jk_c g6) (As := [.int (sx_ ka n 1), .int (sx_ ka n 2), .int (sx_ ka n 3), .int (zo_ (sx_ ka n 4))]) (rest := []) (jn_c g1 g2 g3 g4 w1 t1) yb_X11_fact kw_571 kw_572 kw_573 rfl ⟨Nat.le_of_ble_eq_true rfl, Nat.le_of_ble_eq_true rfl⟩ rfl (cat_len (Nat.le_of_ble_eq_true rfl)) dL_law_560 ?_
  refine v_aload_n (x := some y) dL_law_563 rfl 2 rfl ?_
  refine v_arg 4 0 1 (by decide) hb hN rfl rfl dL_law_564 dL_law_565 (by decide) dL_law_567 dL_law_568 dL_law_569 ?_
  refine v_arg 4 0 2 (by decide) hb hN rfl rfl dL_law_570 dL_law_571 (by decide) dL_law_573 dL_law_574 dL_law_575 ?_
  refine v_arg 4 0 3 (by decide) hb hN rfl rfl dL_law_576 dL_law_577 (by decide) dL_law_579 dL_law_580 dL_law_581 ?_
  refine v_arg 4 0 4 (by decide) hb hN rfl rfl dL_law_582 dL_law_583 (by decide) dL_law_585 dL_law_586 dL_law_587 ?_
  refine v_bool (pc2 := 595) (pc3 := 596) dL_law_588 dL_law_591 dL_law_592 dL_law_595 rfl rfl ?_
  refine v_callV cb_16 (jk_m q1 g7) (As := [.int (sx_ ka n 1), .int (sx_ ka n 2), .int (sx_ ka n 3), .int (zo_ (sx_ ka n 4))]) (rest := [.int r]) (jn_m w1 b1 q1 rfl rfl w2 t2) yb_X15_fact kw_1816 kw_1817 kw_1818 rfl ⟨Nat.le_of_ble_eq_true rfl, Nat.le_of_ble_eq_true rfl⟩ rfl (cat_len (Nat.le_of_ble_eq_true rfl)) dL_law_596 ?_
  exact v_icmp_eq (tgt := 2144) (A := some ()) (B := none) (u := ()) (if_pos rfl) dL_law_599 (by decide) (fun _ _ => k) (fun h9 _ => absurd rfl h9)
/-- what both sides owe of check -/
def St_check (ka : Nat → Nat) (x y : Nat) (Inv : Nat → TH → TH → Prop) : Prop := ∀ (n : Nat) (c m : TH) (a0 a1 : Int32), n < 512 → Inv n c m → ∃ (r : Int32) (c1 m1 : TH), f_X11_check c x a0 a1 = some (r, c1) ∧ f_X15_check (bm_ m c1) y a0 a1 = some (r, m1) ∧ wf_ c1 ∧ wf_ m1 ∧ Inv (n + 1) (bm_ c1 m1) m1
set_option maxHeartbeats 4000000 in
theorem lw_check {l : Launch} {D : va_G} {cy : Nat → ClassId} {ka : Nat → Nat} {Qf : QF} {σ0 : TH} {Pz : TH → Prop} {x y o n0 s0 : Nat} {Inv : Nat → TH → TH → Prop} {n : Nat} {c m : TH} (hI : iv_ x y o n0 s0 Inv) (hS : St_check ka x y Inv) (hn : n < 512) (hInv : Inv n c m) (hb : 10 * n + 10 ≤ ka 302) (hN : ka 302 ≤ 5120) (hk : ∀ c1 m1, Inv (n + 1) c1 m1 → ∃ z, Pz z ∧ lwv_ l D cy ka Qf σ0 z (jn_ c1 m1) 2144 (lwL_ ka x y o n) []) : ∃ z, Pz z ∧ lwv_ l D cy ka Qf σ0 z (jn_ c m) 604 (lwL_ ka x y o n) [] := by
  obtain ⟨r, c1, m1, h1, h2, w1, w2, h3⟩ := hS n c m (sx_ ka n 1) (sx_ ka n 2) hn hInv
  obtain ⟨g1, g2, g3, g4, g5, g6, g7, -⟩ := hI n c m hInv
  obtain ⟨z, hP, k⟩ := hk _ _ h3
  refine ⟨z, hP, ?_⟩
  have t1 := c_X11_check (l := l) (D := D) (cy := cy) (ka := ka) h1
  have t2 := c_X15_check (l := l) (D := D) (cy := cy) (ka := ka) h2
  have q1 := sp_z g1 g2 g3 g4 w1 t1.1
  have b1 : wf_ (bm_ m c1) := wf_bm g2 (by rw [g4]; exact t1.1.1)
  refine v_aload_n (x := some x) dL_law_604 rfl 3 rfl ?_
  refine v_arg 4 0 1 (by decide) hb hN rfl rfl dL_law_605 dL_law_606 (by decide) dL_law_608 dL_law_609 dL_law_610 ?_
  refine v_arg 4 0 2 (by decide) hb hN rfl rfl dL_law_611 dL_law_612 (by decide) dL_law_614 dL_law_615 dL_law_616 ?_
  refine v_callV cb_12 (jk_c g6) (As := [.int (sx_ ka n 1), .int (sx_ ka n 2)]) (rest := []) (jn_c g1 g2 g3 g4 w1 t1) yb_X11_check kw_610 kw_611 kw_612 rfl ⟨Nat.le_of_ble_eq_true rfl, Nat.le_of_ble_eq_true rfl⟩ rfl (cat_len (Nat.le_of_ble_eq_true rfl)) dL_law_617 ?_
  refine v_aload_n (x := some y) dL_law_620 rfl 2 rfl ?_
  refine v_arg 4 0 1 (by decide) hb hN rfl rfl dL_law_621 dL_law_622 (by decide) dL_law_624 dL_law_625 dL_law_626 ?_
  refine v_arg 4 0 2 (by decide) hb hN rfl rfl dL_law_627 dL_law_628 (by decide) dL_law_630 dL_law_631 dL_law_632 ?_
  refine v_callV cb_16 (jk_m q1 g7) (As := [.int (sx_ ka n 1), .int (sx_ ka n 2)]) (rest := [.int r]) (jn_m w1 b1 q1 rfl rfl w2 t2) yb_X15_check kw_1824 kw_1825 kw_1826 rfl ⟨Nat.le_of_ble_eq_true rfl, Nat.le_of_ble_eq_true rfl⟩ rfl (cat_len (Nat.le_of_ble_eq_true rfl)) dL_law_633 ?_
  exact v_icmp_eq (tgt := 2144) (A := some ()) (B := none) (u := ()) (if_pos rfl) dL_law_636 (by decide) (fun _ _ => k) (fun h9 _ => absurd rfl h9)
/-- what both sides owe of known -/
def St_known (ka : Nat → Nat) (x y : Nat) (Inv : Nat → TH → TH → Prop) : Prop := ∀ (n : Nat) (c m : TH) (a0 a1 a2 : Int32), n < 512 → Inv n c m → ∃ (r : Int32) (c1 m1 : TH), f_X11_known c x a0 a1 a2 = some (r, c1) ∧ f_X15_known (bm_ m c1) y a0 a1 a2 = some (r, m1) ∧ wf_ c1 ∧ wf_ m1 ∧ Inv (n + 1) (bm_ c1 m1) m1
set_option maxHeartbeats 4000000 in
theorem lw_known {l : Launch} {D : va_G} {cy : Nat → ClassId} {ka : Nat → Nat} {Qf : QF} {σ0 : TH} {Pz : TH → Prop} {x y o n0 s0 : Nat} {Inv : Nat → TH → TH → Prop} {n : Nat} {c m : TH} (hI : iv_ x y o n0 s0 Inv) (hS : St_known ka x y Inv) (hn : n < 512) (hInv : Inv n c m) (hb : 10 * n + 10 ≤ ka 302) (hN : ka 302 ≤ 5120) (hk : ∀ c1 m1, Inv (n + 1) c1 m1 → ∃ z, Pz z ∧ lwv_ l D cy ka Qf σ0 z (jn_ c1 m1) 2144 (lwL_ ka x y o n) []) : ∃ z, Pz z ∧ lwv_ l D cy ka Qf σ0 z (jn_ c m) 641 (lwL_ ka x y o n) [] := by
  obtain ⟨r, c1, m1, h1, h2, w1, w2, h3⟩ := hS n c m (sx_ ka n 1) (sx_ ka n 2) (sx_ ka n 3) hn hInv
  obtain ⟨g1, g2, g3, g4, g5, g6, g7, -⟩ := hI n c m hInv
  obtain ⟨z, hP, k⟩ := hk _ _ h3
  refine ⟨z, hP, ?_⟩
  have t1 := c_X11_known (l := l) (D := D) (cy := cy) (ka := ka) h1
  have t2 := c_X15_known (l := l) (D := D) (cy := cy) (ka := ka) h2
  have q1 := sp_z g1 g2 g3 g4 w1 t1.1
  have b1 : wf_ (bm_ m c1) := wf_bm g2 (by rw [g4]; exact t1.1.1)
  refine v_aload_n (x := some x) dL_law_641 rfl 3 rfl ?_
  refine v_arg 4 0 1 (by decide) hb hN rfl rfl dL_law_642 dL_law_643 (by decide) dL_law_645 dL_law_646 dL_law_647 ?_
  refine v_arg 4 0 2 (by decide) hb hN rfl rfl dL_law_648 dL_law_649 (by decide) dL_law_651 dL_law_652 dL_law_653 ?_
  refine v_arg 4 0 3 (by decide) hb hN rfl rfl dL_law_654 dL_law_655 (by decide) dL_law_657 dL_law_658 dL_law_659 ?_
  refine v_callV cb_12 (jk_c g6) (As := [.int (sx_ ka n 1), .int (sx_ ka n 2), .int (sx_ ka n 3)]) (rest := []) (jn_c g1 g2 g3 g4 w1 t1) yb_X11_known kw_614 kw_615 kw_616 rfl ⟨Nat.le_of_ble_eq_true rfl, Nat.le_of_ble_eq_true rfl⟩ rfl (cat_len (Nat.le_of_ble_eq_true rfl)) dL_law_660 ?_
  refine v_aload_n (x := some y) dL_law_663 rfl 2 rfl ?_
  refine v_arg 4 0 1 (by decide) hb hN rfl rfl dL_law_664 dL_law_665 (by decide) dL_law_667 dL_law_668 dL_law_669 ?_
  refine v_arg 4 0 2 (by decide) hb hN rfl rfl dL_law_670 dL_law_671 (by decide) dL_law_673 dL_law_674 dL_law_675 ?_
  refine v_arg 4 0 3 (by decide) hb hN rfl rfl dL_law_676 dL_law_677 (by decide) dL_law_679 dL_law_680 dL_law_681 ?_
  refine v_callV cb_16 (jk_m q1 g7) (As := [.int (sx_ ka n 1), .int (sx_ ka n 2), .int (sx_ ka n 3)]) (rest := [.int r]) (jn_m w1 b1 q1 rfl rfl w2 t2) yb_X15_known kw_1828 kw_1829 kw_1830 rfl ⟨Nat.le_of_ble_eq_true rfl, Nat.le_of_ble_eq_true rfl⟩ rfl (cat_len (Nat.le_of_ble_eq_true rfl)) dL_law_682 ?_
  exact v_icmp_eq (tgt := 2144) (A := some ()) (B := none) (u := ()) (if_pos rfl) dL_law_685 (by decide) (fun _ _ => k) (fun h9 _ => absurd rfl h9)
/-- what both sides owe of knownOn -/
def St_knownOn (ka : Nat → Nat) (x y : Nat) (Inv : Nat → TH → TH → Prop) : Prop := ∀ (n : Nat) (c m : TH) (a0 a1 a2 : Int32), n < 512 → Inv n c m → ∃ (r : Int32) (c1 m1 : TH), f_X11_knownOn c x a0 a1 a2 = some (r, c1) ∧ f_X15_knownOn (bm_ m c1) y a0 a1 a2 = some (r, m1) ∧ wf_ c1 ∧ wf_ m1 ∧ Inv (n + 1) (bm_ c1 m1) m1
set_option maxHeartbeats 4000000 in
theorem lw_knownOn {l : Launch} {D : va_G} {cy : Nat → ClassId} {ka : Nat → Nat} {Qf : QF} {σ0 : TH} {Pz : TH → Prop} {x y o n0 s0 : Nat} {Inv : Nat → TH → TH → Prop} {n : Nat} {c m : TH} (hI : iv_ x y o n0 s0 Inv) (hS : St_knownOn ka x y Inv) (hn : n < 512) (hInv : Inv n c m) (hb : 10 * n + 10 ≤ ka 302) (hN : ka 302 ≤ 5120) (hk : ∀ c1 m1, Inv (n + 1) c1 m1 → ∃ z, Pz z ∧ lwv_ l D cy ka Qf σ0 z (jn_ c1 m1) 2144 (lwL_ ka x y o n) []) : ∃ z, Pz z ∧ lwv_ l D cy ka Qf σ0 z (jn_ c m) 690 (lwL_ ka x y o n) [] := by
  obtain ⟨r, c1, m1, h1, h2, w1, w2, h3⟩ := hS n c m (sx_ ka n 1) (sx_ ka n 2) (sx_ ka n 3) hn hInv
  obtain ⟨g1, g2, g3, g4, g5, g6, g7, -⟩ := hI n c m hInv
  obtain ⟨z, hP, k⟩ := hk _ _ h3
  refine ⟨z, hP, ?_⟩
  have t1 := c_X11_knownOn (l := l) (D := D) (cy := cy) (ka := ka) h1
  have t2 := c_X15_knownOn (l := l) (D := D) (cy := cy) (ka := ka) h2
  have q1 := sp_z g1 g2 g3 g4 w1 t1.1
  have b1 : wf_ (bm_ m c1) := wf_bm g2 (by rw [g4]; exact t1.1.1)
  refine v_aload_n (x := some x) dL_law_690 rfl 3 rfl ?_
  refine v_arg 4 0 1 (by decide) hb hN rfl rfl dL_law_691 dL_law_692 (by decide) dL_law_694 dL_law_695 dL_law_696 ?_
  refine v_arg 4 0 2 (by decide) hb hN rfl rfl dL_law_697 dL_law_698 (by decide) dL_law_700 dL_law_701 dL_law_702 ?_
  refine v_arg 4 0 3 (by decide) hb hN rfl rfl dL_law_703 dL_law_704 (by decide) dL_law_706 dL_law_707 dL_law_708 ?_
  refine v_callV cb_12 (jk_c g6) (As := [.int (sx_ ka n 1), .int (sx_ ka n 2), .int (sx_ ka n 3)]) (rest := []) (jn_c g1 g2 g3 g4 w1 t1) yb_X11_knownOn kw_623 kw_624 kw_625 rfl ⟨Nat.le_of_ble_eq_true rfl, Nat.le_of_ble_eq_true rfl⟩ rfl (cat_len (Nat.le_of_ble_eq_true rfl)) dL_law_709 ?_
  refine v_aload_n (x := some y) dL_law_712 rfl 2 rfl ?_
  refine v_arg 4 0 1 (by decide) hb hN rfl rfl dL_law_713 dL_law_714 (by decide) dL_law_716 dL_law_717 dL_law_718 ?_
  refine v_arg 4 0 2 (by decide) hb hN rfl rfl dL_law_719 dL_law_720 (by decide) dL_law_722 dL_law_723 dL_law_724 ?_
  refine v_arg 4 0 3 (by decide) hb hN rfl rfl dL_law_725 dL_law_726 (by decide) dL_law_728 dL_law_729 dL_law_730 ?_
  refine v_callV cb_16 (jk_m q1 g7) (As := [.int (sx_ ka n 1), .int (sx_ ka n 2), .int (sx_ ka n 3)]) (rest := [.int r]) (jn_m w1 b1 q1 rfl rfl w2 t2) yb_X15_knownOn kw_1837 kw_1838 kw_1839 rfl ⟨Nat.le_of_ble_eq_true rfl, Nat.le_of_ble_eq_true rfl⟩ rfl (cat_len (Nat.le_of_ble_eq_true rfl)) dL_law_731 ?_
  exact v_icmp_eq (tgt := 2144) (A := some ()) (B := none) (u := ()) (if_pos rfl) dL_law_734 (by decide) (fun _ _ => k) (fun h9 _ => absurd rfl h9)
/-- what both sides owe of ages -/
def St_ages (ka : Nat → Nat) (x y : Nat) (Inv : Nat → TH → TH → Prop) : Prop := ∀ (n : Nat) (c m : TH) (a0 a1 : Int32), n < 512 → Inv n c m → ∃ (r : Int32) (c1 m1 : TH), f_X11_ages c x a0 a1 = some (r, c1) ∧ f_X15_ages (bm_ m c1) y a0 a1 = some (r, m1) ∧ wf_ c1 ∧ wf_ m1 ∧ Inv (n + 1) (bm_ c1 m1) m1
set_option maxHeartbeats 4000000 in
theorem lw_ages {l : Launch} {D : va_G} {cy : Nat → ClassId} {ka : Nat → Nat} {Qf : QF} {σ0 : TH} {Pz : TH → Prop} {x y o n0 s0 : Nat} {Inv : Nat → TH → TH → Prop} {n : Nat} {c m : TH} (hI : iv_ x y o n0 s0 Inv) (hS : St_ages ka x y Inv) (hn : n < 512) (hInv : Inv n c m) (hb : 10 * n + 10 ≤ ka 302) (hN : ka 302 ≤ 5120) (hk : ∀ c1 m1, Inv (n + 1) c1 m1 → ∃ z, Pz z ∧ lwv_ l D cy ka Qf σ0 z (jn_ c1 m1) 2144 (lwL_ ka x y o n) []) : ∃ z, Pz z ∧ lwv_ l D cy ka Qf σ0 z (jn_ c m) 739 (lwL_ ka x y o n) [] := by
  obtain ⟨r, c1, m1, h1, h2, w1, w2, h3⟩ := hS n c m (sx_ ka n 1) (sx_ ka n 2) hn hInv
  obtain ⟨g1, g2, g3, g4, g5, g6, g7, -⟩ := hI n c m hInv
  obtain ⟨z, hP, k⟩ := hk _ _ h3
  refine ⟨z, hP, ?_⟩
  have t1 := c_X11_ages (l := l) (D := D) (cy := cy) (ka := ka) h1
  have t2 := c_X15_ages (l := l) (D := D) (cy := cy) (ka := ka) h2
  have q1 := sp_z g1 g2 g3 g4 w1 t1.1
  have b1 : wf_ (bm_ m c1) := wf_bm g2 (by rw [g4]; exact t1.1.1)
  refine v_aload_n (x := some x) dL_law_739 rfl 3 rfl ?_
  refine v_arg 4 0 1 (by decide) hb hN rfl rfl dL_law_740 dL_law_741 (by decide) dL_law_743 dL_law_744 dL_law_745 ?_
  refine v_arg 4 0 2 (by decide) hb hN rfl rfl dL_law_746 dL_law_747 (by decide) dL_law_749 dL_law_750 dL_law_751 ?_
  refine v_callV cb_12 (jk_c g6) (As := [.int (sx_ ka n 1), .int (sx_ ka n 2)]) (rest := []) (jn_c g1 g2 g3 g4 w1 t1) yb_X11_ages kw_627 kw_628 kw_629 rfl ⟨Nat.le_of_ble_eq_true rfl, Nat.le_of_ble_eq_true rfl⟩ rfl (cat_len (Nat.le_of_ble_eq_true rfl)) dL_law_752 ?_
  refine v_aload_n (x := some y) dL_law_755 rfl 2 rfl ?_
  refine v_arg 4 0 1 (by decide) hb hN rfl rfl dL_law_756 dL_law_757 (by decide) dL_law_759 dL_law_760 dL_law_761 ?_
  refine v_arg 4 0 2 (by decide) hb hN rfl rfl dL_law_762 dL_law_763 (by decide) dL_law_765 dL_law_766 dL_law_767 ?_
  refine v_callV cb_16 (jk_m q1 g7) (As := [.int (sx_ ka n 1), .int (sx_ ka n 2)]) (rest := [.int r]) (jn_m w1 b1 q1 rfl rfl w2 t2) yb_X15_ages kw_1841 kw_1842 kw_1843 rfl ⟨Nat.le_of_ble_eq_true rfl, Nat.le_of_ble_eq_true rfl⟩ rfl (cat_len (Nat.le_of_ble_eq_true rfl)) dL_law_768 ?_
  exact v_icmp_eq (tgt := 2144) (A := some ()) (B := none) (u := ()) (if_pos rfl) dL_law_771 (by decide) (fun _ _ => k) (fun h9 _ => absurd rfl h9)
/-- what both sides owe of alike -/
def St_alike (ka : Nat → Nat) (x y : Nat) (Inv : Nat → TH → TH → Prop) : Prop := ∀ (n : Nat) (c m : TH) (a0 : Int32), n < 512 → Inv n c m → ∃ (r : Int32) (c1 m1 : TH), f_X11_alike c x a0 = some (r, c1) ∧ f_X15_alike (bm_ m c1) y a0 = some (r, m1) ∧ wf_ c1 ∧ wf_ m1 ∧ Inv (n + 1) (bm_ c1 m1) m1
set_option maxHeartbeats 4000000 in
theorem lw_alike {l : Launch} {D : va_G} {cy : Nat → ClassId} {ka : Nat → Nat} {Qf : QF} {σ0 : TH} {Pz : TH → Prop} {x y o n0 s0 : Nat} {Inv : Nat → TH → TH → Prop} {n : Nat} {c m : TH} (hI : iv_ x y o n0 s0 Inv) (hS : St_alike ka x y Inv) (hn : n < 512) (hInv : Inv n c m) (hb : 10 * n + 10 ≤ ka 302) (hN : ka 302 ≤ 5120) (hk : ∀ c1 m1, Inv (n + 1) c1 m1 → ∃ z, Pz z ∧ lwv_ l D cy ka Qf σ0 z (jn_ c1 m1) 2144 (lwL_ ka x y o n) []) : ∃ z, Pz z ∧ lwv_ l D cy ka Qf σ0 z (jn_ c m) 776 (lwL_ ka x y o n) [] := by
  obtain ⟨r, c1, m1, h1, h2, w1, w2, h3⟩ := hS n c m (sx_ ka n 1) hn hInv
  obtain ⟨g1, g2, g3, g4, g5, g6, g7, -⟩ := hI n c m hInv
  obtain ⟨z, hP, k⟩ := hk _ _ h3
  refine ⟨z, hP, ?_⟩
  have t1 := c_X11_alike (l := l) (D := D) (cy := cy) (ka := ka) h1
  have t2 := c_X15_alike (l := l) (D := D) (cy := cy) (ka := ka) h2
  have q1 := sp_z g1 g2 g3 g4 w1 t1.1
  have b1 : wf_ (bm_ m c1) := wf_bm g2 (by rw [g4]; exact t1.1.1)
  refine v_aload_n (x := some x) dL_law_776 rfl 3 rfl ?_
  refine v_arg 4 0 1 (by decide) hb hN rfl rfl dL_law_777 dL_law_778 (by decide) dL_law_780 dL_law_781 dL_law_782 ?_
  refine v_callV cb_12 (jk_c g6) (As := [.int (sx_ ka n 1)]) (rest := []) (jn_c g1 g2 g3 g4 w1 t1) yb_X11_alike kw_631 kw_632 kw_633 rfl ⟨Nat.le_of_ble_eq_true rfl, Nat.le_of_ble_eq_true rfl⟩ rfl (cat_len (Nat.le_of_ble_eq_true rfl)) dL_law_783 ?_
  refine v_aload_n (x := some y) dL_law_786 rfl 2 rfl ?_
  refine v_arg 4 0 1 (by decide) hb hN rfl rfl dL_law_787 dL_law_788 (by decide) dL_law_790 dL_law_791 dL_law_792 ?_
  refine v_callV cb_16 (jk_m q1 g7) (As := [.int (sx_ ka n 1)]) (rest := [.int r]) (jn_m w1 b1 q1 rfl rfl w2 t2) yb_X15_alike kw_1845 kw_1846 kw_1847 rfl ⟨Nat.le_of_ble_eq_true rfl, Nat.le_of_ble_eq_true rfl⟩ rfl (cat_len (Nat.le_of_ble_eq_true rfl)) dL_law_793 ?_
  exact v_icmp_eq (tgt := 2144) (A := some ()) (B := none) (u := ()) (if_pos rfl) dL_law_796 (by decide) (fun _ _ => k) (fun h9 _ => absurd rfl h9)
/-- what both sides owe of apart -/
def St_apart (ka : Nat → Nat) (x y : Nat) (Inv : Nat → TH → TH → Prop) : Prop := ∀ (n : Nat) (c m : TH) (a0 a1 : Int32), n < 512 → Inv n c m → ∃ (r : Int32) (c1 m1 : TH), f_X11_apart c x a0 a1 = some (r, c1) ∧ f_X15_apart (bm_ m c1) y a0 a1 = some (r, m1) ∧ wf_ c1 ∧ wf_ m1 ∧ Inv (n + 1) (bm_ c1 m1) m1
set_option maxHeartbeats 4000000 in
theorem lw_apart {l : Launch} {D : va_G} {cy : Nat → ClassId} {ka : Nat → Nat} {Qf : QF} {σ0 : TH} {Pz : TH → Prop} {x y o n0 s0 : Nat} {Inv : Nat → TH → TH → Prop} {n : Nat} {c m : TH} (hI : iv_ x y o n0 s0 Inv) (hS : St_apart ka x y Inv) (hn : n < 512) (hInv : Inv n c m) (hb : 10 * n + 10 ≤ ka 302) (hN : ka 302 ≤ 5120) (hk : ∀ c1 m1, Inv (n + 1) c1 m1 → ∃ z, Pz z ∧ lwv_ l D cy ka Qf σ0 z (jn_ c1 m1) 2144 (lwL_ ka x y o n) []) : ∃ z, Pz z ∧ lwv_ l D cy ka Qf σ0 z (jn_ c m) 801 (lwL_ ka x y o n) [] := by
  obtain ⟨r, c1, m1, h1, h2, w1, w2, h3⟩ := hS n c m (sx_ ka n 1) (sx_ ka n 2) hn hInv
  obtain ⟨g1, g2, g3, g4, g5, g6, g7, -⟩ := hI n c m hInv
  obtain ⟨z, hP, k⟩ := hk _ _ h3
  refine ⟨z, hP, ?_⟩
  have t1 := c_X11_apart (l := l) (D := D) (cy := cy) (ka := ka) h1
  have t2 := c_X15_apart (l := l) (D := D) (cy := cy) (ka := ka) h2
  have q1 := sp_z g1 g2 g3 g4 w1 t1.1
  have b1 : wf_ (bm_ m c1) := wf_bm g2 (by rw [g4]; exact t1.1.1)
  refine v_aload_n (x := some x) dL_law_801 rfl 3 rfl ?_
  refine v_arg 4 0 1 (by decide) hb hN rfl rfl dL_law_802 dL_law_803 (by decide) dL_law_805 dL_law_806 dL_law_807 ?_
  refine v_arg 4 0 2 (by decide) hb hN rfl rfl dL_law_808 dL_law_809 (by decide) dL_law_811 dL_law_812 dL_law_813 ?_
  refine v_callV cb_12 (jk_c g6) (As := [.int (sx_ ka n 1), .int (sx_ ka n 2)]) (rest := []) (jn_c g1 g2 g3 g4 w1 t1) yb_X11_apart kw_635 kw_636 kw_637 rfl ⟨Nat.le_of_ble_eq_true rfl, Nat.le_of_ble_eq_true rfl⟩ rfl (cat_len (Nat.le_of_ble_eq_true rfl)) dL_law_814 ?_
  refine v_aload_n (x := some y) dL_law_817 rfl 2 rfl ?_
  refine v_arg 4 0 1 (by decide) hb hN rfl rfl dL_law_818 dL_law_819 (by decide) dL_law_821 dL_law_822 dL_law_823 ?_
  refine v_arg 4 0 2 (by decide) hb hN rfl rfl dL_law_824 dL_law_825 (by decide) dL_law_827 dL_law_828 dL_law_829 ?_
  refine v_callV cb_16 (jk_m q1 g7) (As := [.int (sx_ ka n 1), .int (sx_ ka n 2)]) (rest := [.int r]) (jn_m w1 b1 q1 rfl rfl w2 t2) yb_X15_apart kw_1849 kw_1850 kw_1851 rfl ⟨Nat.le_of_ble_eq_true rfl, Nat.le_of_ble_eq_true rfl⟩ rfl (cat_len (Nat.le_of_ble_eq_true rfl)) dL_law_830 ?_
  exact v_icmp_eq (tgt := 2144) (A := some ()) (B := none) (u := ()) (if_pos rfl) dL_law_833 (by decide) (fun _ _ => k) (fun h9 _ => absurd rfl h9)
/-- what both sides owe of feed -/
def St_feed (ka : Nat → Nat) (x y : Nat) (Inv : Nat → TH → TH → Prop) : Prop := ∀ (n : Nat) (c m : TH) (a0 a1 a2 a3 a4 : Int32), n < 512 → Inv n c m → ∃ (r : Int32) (c1 m1 : TH), f_X11_feed c x a0 a1 a2 a3 a4 = some (r, c1) ∧ f_X15_feed (bm_ m c1) y a0 a1 a2 a3 a4 = some (r, m1) ∧ wf_ c1 ∧ wf_ m1 ∧ Inv (n + 1) (bm_ c1 m1) m1
set_option maxHeartbeats 4000000 in
theorem lw_feed {l : Launch} {D : va_G} {cy : Nat → ClassId} {ka : Nat → Nat} {Qf : QF} {σ0 : TH} {Pz : TH → Prop} {x y o n0 s0 : Nat} {Inv : Nat → TH → TH → Prop} {n : Nat} {c m : TH} (hI : iv_ x y o n0 s0 Inv) (hS : St_feed ka x y Inv) (hn : n < 512) (hInv : Inv n c m) (hb : 10 * n + 10 ≤ ka 302) (hN : ka 302 ≤ 5120) (hk : ∀ c1 m1, Inv (n + 1) c1 m1 → ∃ z, Pz z ∧ lwv_ l D cy ka Qf σ0 z (jn_ c1 m1) 2144 (lwL_ ka x y o n) []) : ∃ z, Pz z ∧ lwv_ l D cy ka Qf σ0 z (jn_ c m) 838 (lwL_ ka x y o n) [] := by
  obtain ⟨r, c1, m1, h1, h2, w1, w2, h3⟩ := hS n c m (sx_ ka n 1) (sx_ ka n 2) (sx_ ka n 3) (sx_ ka n 4) (sx_ ka n 5) hn hInv
  obtain ⟨g1, g2, g3, g4, g5, g6, g7, -⟩ := hI n c m hInv
  obtain ⟨z, hP, k⟩ := hk _ _ h3
  refine ⟨z, hP, ?_⟩
  have t1 := c_X11_feed (l := l) (D := D) (cy := cy) (ka := ka) h1
  have t2 := c_X15_feed (l := l) (D := D) (cy := cy) (ka := ka) h2
  have q1 := sp_z g1 g2 g3 g4 w1 t1.1
  have b1 : wf_ (bm_ m c1) := wf_bm g2 (by rw [g4]; exact t1.1.1)
  refine v_aload_n (x := some x) dL_law_838 rfl 3 rfl ?_
  refine v_arg 4 0 1 (by decide) hb hN rfl rfl dL_law_839 dL_law_840 (by decide) dL_law_842 dL_law_843 dL_law_844 ?_
  refine v_arg 4 0 2 (by decide) hb hN rfl rfl dL_law_845 dL_law_846 (by decide) dL_law_848 dL_law_849 dL_law_850 ?_
  refine v_arg 4 0 3 (by decide) hb hN rfl rfl dL_law_851 dL_law_852 (by decide) dL_law_854 dL_law_855 dL_law_856 ?_
  refine v_arg 4 0 4 (by decide) hb hN rfl rfl dL_law_857 dL_law_858 (by decide) dL_law_860 dL_law_861 dL_law_862 ?_
  refine v_arg 4 0 5 (by decide) hb hN rfl rfl dL_law_863 dL_law_864 (by decide) dL_law_866 dL_law_867 dL_law_868 ?_
  refine v_callV cb_12 (jk_c g6) (As := [.int (sx_ ka n 1), .int (sx_ ka n 2), .int (sx_ ka n 3), .int (sx_ ka n 4), .int (sx_ ka n 5)]) (rest := []) (jn_c g1 g2 g3 g4 w1 t1) yb_X11_feed kw_639 kw_640 kw_641 rfl ⟨Nat.le_of_ble_eq_true rfl, Nat.le_of_ble_eq_true rfl⟩ rfl (cat_len (Nat.le_of_ble_eq_true rfl)) dL_law_869 ?_
  refine v_aload_n (x := some y) dL_law_872 rfl 2 rfl ?_
  refine v_arg 4 0 1 (by decide) hb hN rfl rfl dL_law_873 dL_law_874 (by decide) dL_law_876 dL_law_877 dL_law_878 ?_
  refine v_arg 4 0 2 (by decide) hb hN rfl rfl dL_law_879 dL_law_880 (by decide) dL_law_882 dL_law_883 dL_law_884 ?_
  refine v_arg 4 0 3 (by decide) hb hN rfl rfl dL_law_885 dL_law_886 (by decide) dL_law_888 dL_law_889 dL_law_890 ?_
  refine v_arg 4 0 4 (by decide) hb hN rfl rfl dL_law_891 dL_law_892 (by decide) dL_law_894 dL_law_895 dL_law_896 ?_
  refine v_arg 4 0 5 (by decide) hb hN rfl rfl dL_law_897 dL_law_898 (by decide) dL_law_900 dL_law_901 dL_law_902 ?_
  refine v_callV cb_16 (jk_m q1 g7) (As := [.int (sx_ ka n 1), .int (sx_ ka n 2), .int (sx_ ka n 3), .int (sx_ ka n 4), .int (sx_ ka n 5)]) (rest := [.int r]) (jn_m w1 b1 q1 rfl rfl w2 t2) yb_X15_feed kw_1853 kw_1854 kw_1855 rfl ⟨Nat.le_of_ble_eq_true rfl, Nat.le_of_ble_eq_true rfl⟩ rfl (cat_len (Nat.le_of_ble_eq_true rfl)) dL_law_903 ?_
  exact v_icmp_eq (tgt := 2144) (A := some ()) (B := none) (u := ()) (if_pos rfl) dL_law_906 (by decide) (fun _ _ => k) (fun h9 _ => absurd rfl h9)
/-- what both sides owe of paragraph -/
def St_paragraph (ka : Nat → Nat) (x y : Nat) (Inv : Nat → TH → TH → Prop) : Prop := ∀ (n : Nat) (c m : TH) (a0 a1 a2 a3 : Int32), n < 512 → Inv n c m → ∃ (r : Int32) (c1 m1 : TH), f_X11_paragraph c x a0 a1 a2 a3 = some (r, c1) ∧ f_X15_paragraph (bm_ m c1) y a0 a1 a2 a3 = some (r, m1) ∧ wf_ c1 ∧ wf_ m1 ∧ Inv (n + 1) (bm_ c1 m1) m1
set_option maxHeartbeats 4000000 in
theorem lw_paragraph {l : Launch} {D : va_G} {cy : Nat → ClassId} {ka : Nat → Nat} {Qf : QF} {σ0 : TH} {Pz : TH → Prop} {x y o n0 s0 : Nat} {Inv : Nat → TH → TH → Prop} {n : Nat} {c m : TH} (hI : iv_ x y o n0 s0 Inv) (hS : St_paragraph ka x y Inv) (hn : n < 512) (hInv : Inv n c m) (hb : 10 * n + 10 ≤ ka 302) (hN : ka 302 ≤ 5120) (hk : ∀ c1 m1, Inv (n + 1) c1 m1 → ∃ z, Pz z ∧ lwv_ l D cy ka Qf σ0 z (jn_ c1 m1) 2144 (lwL_ ka x y o n) []) : ∃ z, Pz z ∧ lwv_ l D cy ka Qf σ0 z (jn_ c m) 911 (lwL_ ka x y o n) [] := by
  obtain ⟨r, c1, m1, h1, h2, w1, w2, h3⟩ := hS n c m (sx_ ka n 1) (sx_ ka n 2) (sx_ ka n 3) (sx_ ka n 4) hn hInv
  obtain ⟨g1, g2, g3, g4, g5, g6, g7, -⟩ := hI n c m hInv
  obtain ⟨z, hP, k⟩ := hk _ _ h3
  refine ⟨z, hP, ?_⟩
  have t1 := c_X11_paragraph (l := l) (D := D) (cy := cy) (ka := ka) h1
  have t2 := c_X15_paragraph (l := l) (D := D) (cy := cy) (ka := ka) h2
  have q1 := sp_z g1 g2 g3 g4 w1 t1.1
  have b1 : wf_ (bm_ m c1) := wf_bm g2 (by rw [g4]; exact t1.1.1)
  refine v_aload_n (x := some x) dL_law_911 rfl 3 rfl ?_
  refine v_arg 4 0 1 (by decide) hb hN rfl rfl dL_law_912 dL_law_913 (by decide) dL_law_915 dL_law_916 dL_law_917 ?_
  refine v_arg 4 0 2 (by decide) hb hN rfl rfl dL_law_918 dL_law_919 (by decide) dL_law_921 dL_law_922 dL_law_923 ?_
  refine v_arg 4 0 3 (by decide) hb hN rfl rfl dL_law_924 dL_law_925 (by decide) dL_law_927 dL_law_928 dL_law_929 ?_
  refine v_arg 4 0 4 (by decide) hb hN rfl rfl dL_law_930 dL_law_931 (by decide) dL_law_933 dL_law_934 dL_law_935 ?_
  refine v_callV cb_12 (jk_c g6) (As := [.int (sx_ ka n 1), .int (sx_ ka n 2), .int (sx_ ka n 3), .int (sx_ ka n 4)]) (rest := []) (jn_c g1 g2 g3 g4 w1 t1) yb_X11_paragraph kw_651 kw_652 kw_653 rfl ⟨Nat.le_of_ble_eq_true rfl, Nat.le_of_ble_eq_true rfl⟩ rfl (cat_len (Nat.le_of_ble_eq_true rfl)) dL_law_936 ?_
  refine v_aload_n (x := some y) dL_law_939 rfl 2 rfl ?_
  refine v_arg 4 0 1 (by decide) hb hN rfl rfl dL_law_940 dL_law_941 (by decide) dL_law_943 dL_law_944 dL_law_945 ?_
  refine v_arg 4 0 2 (by decide) hb hN rfl rfl dL_law_946 dL_law_947 (by decide) dL_law_949 dL_law_950 dL_law_951 ?_
  refine v_arg 4 0 3 (by decide) hb hN rfl rfl dL_law_952 dL_law_953 (by decide) dL_law_955 dL_law_956 dL_law_957 ?_
  refine v_arg 4 0 4 (by decide) hb hN rfl rfl dL_law_958 dL_law_959 (by decide) dL_law_961 dL_law_962 dL_law_963 ?_
  refine v_callV cb_16 (jk_m q1 g7) (As := [.int (sx_ ka n 1), .int (sx_ ka n 2), .int (sx_ ka n 3), .int (sx_ ka n 4)]) (rest := [.int r]) (jn_m w1 b1 q1 rfl rfl w2 t2) yb_X15_paragraph kw_1857 kw_1858 kw_1859 rfl ⟨Nat.le_of_ble_eq_true rfl, Nat.le_of_ble_eq_true rfl⟩ rfl (cat_len (Nat.le_of_ble_eq_true rfl)) dL_law_964 ?_
  exact v_icmp_eq (tgt := 2144) (A := some ()) (B := none) (u := ()) (if_pos rfl) dL_law_967 (by decide) (fun _ _ => k) (fun h9 _ => absurd rfl h9)
/-- what both sides owe of rewrite -/
def St_rewrite (ka : Nat → Nat) (x y : Nat) (Inv : Nat → TH → TH → Prop) : Prop := ∀ (n : Nat) (c m : TH) (a0 a1 a2 : Int32), n < 512 → Inv n c m → ∃ (r : Int32) (c1 m1 : TH), f_X11_rewrite c x a0 a1 a2 = some (r, c1) ∧ f_X15_rewrite (bm_ m c1) y a0 a1 a2 = some (r, m1) ∧ wf_ c1 ∧ wf_ m1 ∧ Inv (n + 1) (bm_ c1 m1) m1
set_option maxHeartbeats 4000000 in
theorem lw_rewrite {l : Launch} {D : va_G} {cy : Nat → ClassId} {ka : Nat → Nat} {Qf : QF} {σ0 : TH} {Pz : TH → Prop} {x y o n0 s0 : Nat} {Inv : Nat → TH → TH → Prop} {n : Nat} {c m : TH} (hI : iv_ x y o n0 s0 Inv) (hS : St_rewrite ka x y Inv) (hn : n < 512) (hInv : Inv n c m) (hb : 10 * n + 10 ≤ ka 302) (hN : ka 302 ≤ 5120) (hk : ∀ c1 m1, Inv (n + 1) c1 m1 → ∃ z, Pz z ∧ lwv_ l D cy ka Qf σ0 z (jn_ c1 m1) 2144 (lwL_ ka x y o n) []) : ∃ z, Pz z ∧ lwv_ l D cy ka Qf σ0 z (jn_ c m) 972 (lwL_ ka x y o n) [] := by
  obtain ⟨r, c1, m1, h1, h2, w1, w2, h3⟩ := hS n c m (sx_ ka n 1) (sx_ ka n 2) (sx_ ka n 3) hn hInv
  obtain ⟨g1, g2, g3, g4, g5, g6, g7, -⟩ := hI n c m hInv
  obtain ⟨z, hP, k⟩ := hk _ _ h3
  refine ⟨z, hP, ?_⟩
  have t1 := c_X11_rewrite (l := l) (D := D) (cy := cy) (ka := ka) h1
  have t2 := c_X15_rewrite (l := l) (D := D) (cy := cy) (ka := ka) h2
  have q1 := sp_z g1 g2 g3 g4 w1 t1.1
  have b1 : wf_ (bm_ m c1) := wf_bm g2 (by rw [g4]; exact t1.1.1)
  refine v_aload_n (x := some x) dL_law_972 rfl 3 rfl ?_
  refine v_arg 4 0 1 (by decide) hb hN rfl rfl dL_law_973 dL_law_974 (by decide) dL_law_976 dL_law_977 dL_law_978 ?_
  refine v_arg 4 0 2 (by decide) hb hN rfl rfl dL_law_979 dL_law_980 (by decide) dL_law_982 dL_law_983 dL_law_984 ?_
  refine v_arg 4 0 3 (by decide) hb hN rfl rfl dL_law_985 dL_law_986 (by decide) dL_law_988 dL_law_989 dL_law_990 ?_
  refine v_callV cb_12 (jk_c g6) (As := [.int (sx_ ka n 1), .int (sx_ ka n 2), .int (sx_ ka n 3)]) (rest := []) (jn_c g1 g2 g3 g4 w1 t1) yb_X11_rewrite kw_880 kw_881 kw_882 rfl ⟨Nat.le_of_ble_eq_true rfl, Nat.le_of_ble_eq_true rfl⟩ rfl (cat_len (Nat.le_of_ble_eq_true rfl)) dL_law_991 ?_
  refine v_aload_n (x := some y) dL_law_994 rfl 2 rfl ?_
  refine v_arg 4 0 1 (by decide) hb hN rfl rfl dL_law_995 dL_law_996 (by decide) dL_law_998 dL_law_999 dL_law_1000 ?_
  refine v_arg 4 0 2 (by decide) hb hN rfl rfl dL_law_1001 dL_law_1002 (by decide) dL_law_1004 dL_law_1005 dL_law_1006 ?_
  refine v_arg 4 0 3 (by decide) hb hN rfl rfl dL_law_1007 dL_law_1008 (by decide) dL_law_1010 dL_law_1011 dL_law_1012 ?_
  refine v_callV cb_16 (jk_m q1 g7) (As := [.int (sx_ ka n 1), .int (sx_ ka n 2), .int (sx_ ka n 3)]) (rest := [.int r]) (jn_m w1 b1 q1 rfl rfl w2 t2) yb_X15_rewrite kw_2054 kw_2055 kw_2056 rfl ⟨Nat.le_of_ble_eq_true rfl, Nat.le_of_ble_eq_true rfl⟩ rfl (cat_len (Nat.le_of_ble_eq_true rfl)) dL_law_1013 ?_
  exact v_icmp_eq (tgt := 2144) (A := some ()) (B := none) (u := ()) (if_pos rfl) dL_law_1016 (by decide) (fun _ _ => k) (fun h9 _ => absurd rfl h9)
/-- what both sides owe of fault -/
def St_fault (ka : Nat → Nat) (x y : Nat) (Inv : Nat → TH → TH → Prop) : Prop := ∀ (n : Nat) (c m : TH), n < 512 → Inv n c m → ∃ (r : Int32) (c1 m1 : TH), f_X11_fault c x  = some (r, c1) ∧ f_X15_fault (bm_ m c1) y  = some (r, m1) ∧ wf_ c1 ∧ wf_ m1 ∧ Inv (n + 1) (bm_ c1 m1) m1
set_option maxHeartbeats 4000000 in
theorem lw_fault {l : Launch} {D : va_G} {cy : Nat → ClassId} {ka : Nat → Nat} {Qf : QF} {σ0 : TH} {Pz : TH → Prop} {x y o n0 s0 : Nat} {Inv : Nat → TH → TH → Prop} {n : Nat} {c m : TH} (hI : iv_ x y o n0 s0 Inv) (hS : St_fault ka x y Inv) (hn : n < 512) (hInv : Inv n c m) (hb : 10 * n + 10 ≤ ka 302) (hN : ka 302 ≤ 5120) (hk : ∀ c1 m1, Inv (n + 1) c1 m1 → ∃ z, Pz z ∧ lwv_ l D cy ka Qf σ0 z (jn_ c1 m1) 2144 (lwL_ ka x y o n) []) : ∃ z, Pz z ∧ lwv_ l D cy ka Qf σ0 z (jn_ c m) 1021 (lwL_ ka x y o n) [] := by
  obtain ⟨r, c1, m1, h1, h2, w1, w2, h3⟩ := hS n c m  hn hInv
  obtain ⟨g1, g2, g3, g4, g5, g6, g7, -⟩ := hI n c m hInv
  obtain ⟨z, hP, k⟩ := hk _ _ h3
  refine ⟨z, hP, ?_⟩
  have t1 := c_X11_fault (l := l) (D := D) (cy := cy) (ka := ka) h1
  have t2 := c_X15_fault (l := l) (D := D) (cy := cy) (ka := ka) h2
  have q1 := sp_z g1 g2 g3 g4 w1 t1.1
  have b1 : wf_ (bm_ m c1) := wf_bm g2 (by rw [g4]; exact t1.1.1)
  refine v_aload_n (x := some x) dL_law_1021 rfl 3 rfl ?_
  refine v_callV cb_12 (jk_c g6) (As := []) (rest := []) (jn_c g1 g2 g3 g4 w1 t1) yb_X11_fault kw_887 kw_888 kw_889 rfl ⟨Nat.le_of_ble_eq_true rfl, Nat.le_of_ble_eq_true rfl⟩ rfl (cat_len (Nat.le_of_ble_eq_true rfl)) dL_law_1022 ?_
  refine v_aload_n (x := some y) dL_law_1025 rfl 2 rfl ?_
  refine v_callV cb_16 (jk_m q1 g7) (As := []) (rest := [.int r]) (jn_m w1 b1 q1 rfl rfl w2 t2) yb_X15_fault kw_2062 kw_2063 kw_2064 rfl ⟨Nat.le_of_ble_eq_true rfl, Nat.le_of_ble_eq_true rfl⟩ rfl (cat_len (Nat.le_of_ble_eq_true rfl)) dL_law_1026 ?_
  exact v_icmp_eq (tgt := 2144) (A := some ()) (B := none) (u := ()) (if_pos rfl) dL_law_1029 (by decide) (fun _ _ => k) (fun h9 _ => absurd rfl h9)
/-- what both sides owe of where -/
def St_where (ka : Nat → Nat) (x y : Nat) (Inv : Nat → TH → TH → Prop) : Prop := ∀ (n : Nat) (c m : TH), n < 512 → Inv n c m → ∃ (r : Int32) (c1 m1 : TH), f_X11_where c x  = some (r, c1) ∧ f_X15_where (bm_ m c1) y  = some (r, m1) ∧ wf_ c1 ∧ wf_ m1 ∧ Inv (n + 1) (bm_ c1 m1) m1
set_option maxHeartbeats 4000000 in
theorem lw_where {l : Launch} {D : va_G} {cy : Nat → ClassId} {ka : Nat → Nat} {Qf : QF} {σ0 : TH} {Pz : TH → Prop} {x y o n0 s0 : Nat} {Inv : Nat → TH → TH → Prop} {n : Nat} {c m : TH} (hI : iv_ x y o n0 s0 Inv) (hS : St_where ka x y Inv) (hn : n < 512) (hInv : Inv n c m) (hb : 10 * n + 10 ≤ ka 302) (hN : ka 302 ≤ 5120) (hk : ∀ c1 m1, Inv (n + 1) c1 m1 → ∃ z, Pz z ∧ lwv_ l D cy ka Qf σ0 z (jn_ c1 m1) 2144 (lwL_ ka x y o n) []) : ∃ z, Pz z ∧ lwv_ l D cy ka Qf σ0 z (jn_ c m) 1034 (lwL_ ka x y o n) [] := by
  obtain ⟨r, c1, m1, h1, h2, w1, w2, h3⟩ := hS n c m  hn hInv
  obtain ⟨g1, g2, g3, g4, g5, g6, g7, -⟩ := hI n c m hInv
  obtain ⟨z, hP, k⟩ := hk _ _ h3
  refine ⟨z, hP, ?_⟩
  have t1 := c_X11_where (l := l) (D := D) (cy := cy) (ka := ka) h1
  have t2 := c_X15_where (l := l) (D := D) (cy := cy) (ka := ka) h2
  have q1 := sp_z g1 g2 g3 g4 w1 t1.1
  have b1 : wf_ (bm_ m c1) := wf_bm g2 (by rw [g4]; exact t1.1.1)
  refine v_aload_n (x := some x) dL_law_1034 rfl 3 rfl ?_
  refine v_callV cb_12 (jk_c g6) (As := []) (rest := []) (jn_c g1 g2 g3 g4 w1 t1) yb_X11_where kw_891 kw_892 kw_893 rfl ⟨Nat.le_of_ble_eq_true rfl, Nat.le_of_ble_eq_true rfl⟩ rfl (cat_len (Nat.le_of_ble_eq_true rfl)) dL_law_1035 ?_
  refine v_aload_n (x := some y) dL_law_1038 rfl 2 rfl ?_
  refine v_callV cb_16 (jk_m q1 g7) (As := []) (rest := [.int r]) (jn_m w1 b1 q1 rfl rfl w2 t2) yb_X15_where kw_2066 kw_2067 kw_2068 rfl ⟨Nat.le_of_ble_eq_true rfl, Nat.le_of_ble_eq_true rfl⟩ rfl (cat_len (Nat.le_of_ble_eq_true rfl)) dL_law_1039 ?_
  exact v_icmp_eq (tgt := 2144) (A := some ()) (B := none) (u := ()) (if_pos rfl) dL_law_1042 (by decide) (fun _ _ => k) (fun h9 _ => absurd rfl h9)
/-- what both sides owe of paragraphOf -/
def St_paragraphOf (ka : Nat → Nat) (x y : Nat) (Inv : Nat → TH → TH → Prop) : Prop := ∀ (n : Nat) (c m : TH) (a0 a1 a2 : Int32), n < 512 → Inv n c m → ∃ (r : Int32) (c1 m1 : TH), f_X11_paragraphOf c x a0 a1 a2 = some (r, c1) ∧ f_X15_paragraphOf (bm_ m c1) y a0 a1 a2 = some (r, m1) ∧ wf_ c1 ∧ wf_ m1 ∧ Inv (n + 1) (bm_ c1 m1) m1
set_option maxHeartbeats 4000000 in
theorem lw_paragraphOf {l : Launch} {D : va_G} {cy : Nat → ClassId} {ka : Nat → Nat} {Qf : QF} {σ0 : TH} {Pz : TH → Prop} {x y o n0 s0 : Nat} {Inv : Nat → TH → TH → Prop} {n : Nat} {c m : TH} (hI : iv_ x y o n0 s0 Inv) (hS : St_paragraphOf ka x y Inv) (hn : n < 512) (hInv : Inv n c m) (hb : 10 * n + 10 ≤ ka 302) (hN : ka 302 ≤ 5120) (hk : ∀ c1 m1, Inv (n + 1) c1 m1 → ∃ z, Pz z ∧ lwv_ l D cy ka Qf σ0 z (jn_ c1 m1) 2144 (lwL_ ka x y o n) []) : ∃ z, Pz z ∧ lwv_ l D cy ka Qf σ0 z (jn_ c m) 1047 (lwL_ ka x y o n) [] := by
  obtain ⟨r, c1, m1, h1, h2, w1, w2, h3⟩ := hS n c m (sx_ ka n 1) (sx_ ka n 2) (sx_ ka n 3) hn hInv
  obtain ⟨g1, g2, g3, g4, g5, g6, g7, -⟩ := hI n c m hInv
  obtain ⟨z, hP, k⟩ := hk _ _ h3
  refine ⟨z, hP, ?_⟩
  have t1 := c_X11_paragraphOf (l := l) (D := D) (cy := cy) (ka := ka) h1
  have t2 := c_X15_paragraphOf (l := l) (D := D) (cy := cy) (ka := ka) h2
  have q1 := sp_z g1 g2 g3 g4 w1 t1.1
  have b1 : wf_ (bm_ m c1) := wf_bm g2 (by rw [g4]; exact t1.1.1)
  refine v_aload_n (x := some x) dL_law_1047 rfl 3 rfl ?_
  refine v_arg 4 0 1 (by decide) hb hN rfl rfl dL_law_1048 dL_law_1049 (by decide) dL_law_1051 dL_law_1052 dL_law_1053 ?_
  refine v_arg 4 0 2 (by decide) hb hN rfl rfl dL_law_1054 dL_law_1055 (by decide) dL_law_1057 dL_law_1058 dL_law_1059 ?_
  refine v_arg 4 0 3 (by decide) hb hN rfl rfl dL_law_1060 dL_law_1061 (by decide) dL_law_1063 dL_law_1064 dL_law_1065 ?_
  refine v_callV cb_12 (jk_c g6) (As := [.int (sx_ ka n 1), .int (sx_ ka n 2), .int (sx_ ka n 3)]) (rest := []) (jn_c g1 g2 g3 g4 w1 t1) yb_X11_paragraphOf kw_895 kw_896 kw_897 rfl ⟨Nat.le_of_ble_eq_true rfl, Nat.le_of_ble_eq_true rfl⟩ rfl (cat_len (Nat.le_of_ble_eq_true rfl)) dL_law_1066 ?_
  refine v_aload_n (x := some y) dL_law_1069 rfl 2 rfl ?_
  refine v_arg 4 0 1 (by decide) hb hN rfl rfl dL_law_1070 dL_law_1071 (by decide) dL_law_1073 dL_law_1074 dL_law_1075 ?_
  refine v_arg 4 0 2 (by decide) hb hN rfl rfl dL_law_1076 dL_law_1077 (by decide) dL_law_1079 dL_law_1080 dL_law_1081 ?_
  refine v_arg 4 0 3 (by decide) hb hN rfl rfl dL_law_1082 dL_law_1083 (by decide) dL_law_1085 dL_law_1086 dL_law_1087 ?_
  refine v_callV cb_16 (jk_m q1 g7) (As := [.int (sx_ ka n 1), .int (sx_ ka n 2), .int (sx_ ka n 3)]) (rest := [.int r]) (jn_m w1 b1 q1 rfl rfl w2 t2) yb_X15_paragraphOf kw_2070 kw_2071 kw_2072 rfl ⟨Nat.le_of_ble_eq_true rfl, Nat.le_of_ble_eq_true rfl⟩ rfl (cat_len (Nat.le_of_ble_eq_true rfl)) dL_law_1088 ?_
  exact v_icmp_eq (tgt := 2144) (A := some ()) (B := none) (u := ()) (if_pos rfl) dL_law_1091 (by decide) (fun _ _ => k) (fun h9 _ => absurd rfl h9)
/-- what both sides owe of print -/
def St_print (ka : Nat → Nat) (x y : Nat) (Inv : Nat → TH → TH → Prop) : Prop := ∀ (n : Nat) (c m : TH) (a0 a1 : Int32), n < 512 → Inv n c m → ∃ (r : Int32) (c1 m1 : TH), f_X11_print c x a0 a1 = some (r, c1) ∧ f_X15_print (bm_ m c1) y a0 a1 = some (r, m1) ∧ wf_ c1 ∧ wf_ m1 ∧ Inv (n + 1) (bm_ c1 m1) m1
set_option maxHeartbeats 4000000 in
theorem lw_print {l : Launch} {D : va_G} {cy : Nat → ClassId} {ka : Nat → Nat} {Qf : QF} {σ0 : TH} {Pz : TH → Prop} {x y o n0 s0 : Nat} {Inv : Nat → TH → TH → Prop} {n : Nat} {c m : TH} (hI : iv_ x y o n0 s0 Inv) (hS : St_print ka x y Inv) (hn : n < 512) (hInv : Inv n c m) (hb : 10 * n + 10 ≤ ka 302) (hN : ka 302 ≤ 5120) (hk : ∀ c1 m1, Inv (n + 1) c1 m1 → ∃ z, Pz z ∧ lwv_ l D cy ka Qf σ0 z (jn_ c1 m1) 2144 (lwL_ ka x y o n) []) : ∃ z, Pz z ∧ lwv_ l D cy ka Qf σ0 z (jn_ c m) 1096 (lwL_ ka x y o n) [] := by
  obtain ⟨r, c1, m1, h1, h2, w1, w2, h3⟩ := hS n c m (sx_ ka n 1) (sx_ ka n 2) hn hInv
  obtain ⟨g1, g2, g3, g4, g5, g6, g7, -⟩ := hI n c m hInv
  obtain ⟨z, hP, k⟩ := hk _ _ h3
  refine ⟨z, hP, ?_⟩
  have t1 := c_X11_print (l := l) (D := D) (cy := cy) (ka := ka) h1
  have t2 := c_X15_print (l := l) (D := D) (cy := cy) (ka := ka) h2
  have q1 := sp_z g1 g2 g3 g4 w1 t1.1
  have b1 : wf_ (bm_ m c1) := wf_bm g2 (by rw [g4]; exact t1.1.1)
  refine v_aload_n (x := some x) dL_law_1096 rfl 3 rfl ?_
  refine v_arg 4 0 1 (by decide) hb hN rfl rfl dL_law_1097 dL_law_1098 (by decide) dL_law_1100 dL_law_1101 dL_law_1102 ?_
  refine v_arg 4 0 2 (by decide) hb hN rfl rfl dL_law_1103 dL_law_1104 (by decide) dL_law_1106 dL_law_1107 dL_law_1108 ?_
  refine v_callV cb_12 (jk_c g6) (As := [.int (sx_ ka n 1), .int (sx_ ka n 2)]) (rest := []) (jn_c g1 g2 g3 g4 w1 t1) yb_X11_print kw_949 kw_950 kw_951 rfl ⟨Nat.le_of_ble_eq_true rfl, Nat.le_of_ble_eq_true rfl⟩ rfl (cat_len (Nat.le_of_ble_eq_true rfl)) dL_law_1109 ?_
  refine v_aload_n (x := some y) dL_law_1112 rfl 2 rfl ?_
  refine v_arg 4 0 1 (by decide) hb hN rfl rfl dL_law_1113 dL_law_1114 (by decide) dL_law_1116 dL_law_1117 dL_law_1118 ?_
  refine v_arg 4 0 2 (by decide) hb hN rfl rfl dL_law_1119 dL_law_1120 (by decide) dL_law_1122 dL_law_1123 dL_law_1124 ?_
  refine v_callV cb_16 (jk_m q1 g7) (As := [.int (sx_ ka n 1), .int (sx_ ka n 2)]) (rest := [.int r]) (jn_m w1 b1 q1 rfl rfl w2 t2) yb_X15_print kw_2082 kw_2083 kw_2084 rfl ⟨Nat.le_of_ble_eq_true rfl, Nat.le_of_ble_eq_true rfl⟩ rfl (cat_len (Nat.le_of_ble_eq_true rfl)) dL_law_1125 ?_
  exact v_icmp_eq (tgt := 2144) (A := some ()) (B := none) (u := ()) (if_pos rfl) dL_law_1128 (by decide) (fun _ _ => k) (fun h9 _ => absurd rfl h9)
/-- what both sides owe of cut -/
def St_cut (ka : Nat → Nat) (x y : Nat) (Inv : Nat → TH → TH → Prop) : Prop := ∀ (n : Nat) (c m : TH) (a0 a1 a2 : Int32), n < 512 → Inv n c m → ∃ (r : Int32) (c1 m1 : TH), f_X11_cut c x a0 a1 (zo_ a2) = some (r, c1) ∧ f_X15_cut (bm_ m c1) y a0 a1 (zo_ a2) = some (r, m1) ∧ wf_ c1 ∧ wf_ m1 ∧ Inv (n + 1) (bm_ c1 m1) m1
set_option maxHeartbeats 4000000 in
theorem lw_cut {l : Launch} {D : va_G} {cy : Nat → ClassId} {ka : Nat → Nat} {Qf : QF} {σ0 : TH} {Pz : TH → Prop} {x y o n0 s0 : Nat} {Inv : Nat → TH → TH → Prop} {n : Nat} {c m : TH} (hI : iv_ x y o n0 s0 Inv) (hS : St_cut ka x y Inv) (hn : n < 512) (hInv : Inv n c m) (hb : 10 * n + 10 ≤ ka 302) (hN : ka 302 ≤ 5120) (hk : ∀ c1 m1, Inv (n + 1) c1 m1 → ∃ z, Pz z ∧ lwv_ l D cy ka Qf σ0 z (jn_ c1 m1) 2144 (lwL_ ka x y o n) []) : ∃ z, Pz z ∧ lwv_ l D cy ka Qf σ0 z (jn_ c m) 1189 (lwL_ ka x y o n) [] := by
  obtain ⟨r, c1, m1, h1, h2, w1, w2, h3⟩ := hS n c m (sx_ ka n 1) (sx_ ka n 2) (sx_ ka n 3) hn hInv
  obtain ⟨g1, g2, g3, g4, g5, g6, g7, -⟩ := hI n c m hInv
  obtain ⟨z, hP, k⟩ := hk _ _ h3
  refine ⟨z, hP, ?_⟩
  have t1 := c_X11_cut (l := l) (D := D) (cy := cy) (ka := ka) h1
  have t2 := c_X15_cut (l := l) (D := D) (cy := cy) (ka := ka) h2
  have q1 := sp_z g1 g2 g3 g4 w1 t1.1
  have b1 : wf_ (bm_ m c1) := wf_bm g2 (by rw [g4]; exact t1.1.1)
  refine v_aload_n (x := some x) dL_law_1189 rfl 3 rfl ?_
  refine v_arg 4 0 1 (by decide) hb hN rfl rfl dL_law_1190 dL_law_1191 (by decide) dL_law_1193 dL_law_1194 dL_law_1195 ?_
  refine v_arg 4 0 2 (by decide) hb hN rfl rfl dL_law_1196 dL_law_1197 (by decide) dL_law_1199 dL_law_1200 dL_law_1201 ?_
  refine v_arg 4 0 3 (by decide) hb hN rfl rfl dL_law_1202 dL_law_1203 (by decide) dL_law_1205 dL_law_1206 dL_law_1207 ?_
  refine v_bool (pc2 := 1215) (pc3 := 1216) dL_law_1208 dL_law_1211 dL_law_1212 dL_law_1215 rfl rfl ?_
  refine v_callV cb_12 (jk_c g6) (As := [.int (sx_ ka n 1), .int (sx_ ka n 2), .int (zo_ (sx_ ka n 3))]) (rest := []) (jn_c g1 g2 g3 g4 w1 t1) yb_X11_cut kw_953 kw_954 kw_955 rfl ⟨Nat.le_of_ble_eq_true rfl, Nat.le_of_ble_eq_true rfl⟩ rfl (cat_len (Nat.le_of_ble_eq_true rfl)) dL_law_1216 ?_
  refine v_aload_n (x := some y) dL_law_1219 rfl 2 rfl ?_
  refine v_arg 4 0 1 (by decide) hb hN rfl rfl dL_law_1220 dL_law_1221 (by decide) dL_law_1223 dL_law_1224 dL_law_1225 ?_
  refine v_arg 4 0 2 (by decide) hb hN rfl rfl dL_law_1226 dL_law_1227 (by decide) dL_law_1229 dL_law_1230 dL_law_1231 ?_
  refine v_arg 4 0 3 (by decide) hb hN rfl rfl dL_law_1232 dL_law_1233 (by decide) dL_law_1235 dL_law_1236 dL_law_1237 ?_
  refine v_bool (pc2 := 1245) (pc3 := 1246) dL_law_1238 dL_law_1241 dL_law_1242 dL_law_1245 rfl rfl ?_
  refine v_callV cb_16 (jk_m q1 g7) (As := [.int (sx_ ka n 1), .int (sx_ ka n 2), .int (zo_ (sx_ ka n 3))]) (rest := [.int r]) (jn_m w1 b1 q1 rfl rfl w2 t2) yb_X15_cut kw_2090 kw_2091 kw_2092 rfl ⟨Nat.le_of_ble_eq_true rfl, Nat.le_of_ble_eq_true rfl⟩ rfl (cat_len (Nat.le_of_ble_eq_true rfl)) dL_law_1246 ?_
  exact v_icmp_eq (tgt := 2144) (A := some ()) (B := none) (u := ()) (if_pos rfl) dL_law_1249 (by decide) (fun _ _ => k) (fun h9 _ => absurd rfl h9)
/-- what both sides owe of cutOf -/
def St_cutOf (ka : Nat → Nat) (x y : Nat) (Inv : Nat → TH → TH → Prop) : Prop := ∀ (n : Nat) (c m : TH), n < 512 → Inv n c m → ∃ (r : Int32) (c1 m1 : TH), f_X11_cutOf c x  = some (r, c1) ∧ f_X15_cutOf (bm_ m c1) y  = some (r, m1) ∧ wf_ c1 ∧ wf_ m1 ∧ Inv (n + 1) (bm_ c1 m1) m1
set_option maxHeartbeats 4000000 in
theorem lw_cutOf {l : Launch} {D : va_G} {cy : Nat → ClassId} {ka : Nat → Nat} {Qf : QF} {σ0 : TH} {Pz : TH → Prop} {x y o n0 s0 : Nat} {Inv : Nat → TH → TH → Prop} {n : Nat} {c m : TH} (hI : iv_ x y o n0 s0 Inv) (hS : St_cutOf ka x y Inv) (hn : n < 512) (hInv : Inv n c m) (hb : 10 * n + 10 ≤ ka 302) (hN : ka 302 ≤ 5120) (hk : ∀ c1 m1, Inv (n + 1) c1 m1 → ∃ z, Pz z ∧ lwv_ l D cy ka Qf σ0 z (jn_ c1 m1) 2144 (lwL_ ka x y o n) []) : ∃ z, Pz z ∧ lwv_ l D cy ka Qf σ0 z (jn_ c m) 1254 (lwL_ ka x y o n) [] := by
  obtain ⟨r, c1, m1, h1, h2, w1, w2, h3⟩ := hS n c m  hn hInv
  obtain ⟨g1, g2, g3, g4, g5, g6, g7, -⟩ := hI n c m hInv
  obtain ⟨z, hP, k⟩ := hk _ _ h3
  refine ⟨z, hP, ?_⟩
  have t1 := c_X11_cutOf (l := l) (D := D) (cy := cy) (ka := ka) h1
  have t2 := c_X15_cutOf (l := l) (D := D) (cy := cy) (ka := ka) h2
  have q1 := sp_z g1 g2 g3 g4 w1 t1.1
  have b1 : wf_ (bm_ m c1) := wf_bm g2 (by rw [g4]; exact t1.1.1)
  refine v_aload_n (x := some x) dL_law_1254 rfl 3 rfl ?_
  refine v_callV cb_12 (jk_c g6) (As := []) (rest := []) (jn_c g1 g2 g3 g4 w1 t1) yb_X11_cutOf kw_976 kw_977 kw_978 rfl ⟨Nat.le_of_ble_eq_true rfl, Nat.le_of_ble_eq_true rfl⟩ rfl (cat_len (Nat.le_of_ble_eq_true rfl)) dL_law_1255 ?_
  refine v_aload_n (x := some y) dL_law_1258 rfl 2 rfl ?_
  refine v_callV cb_16 (jk_m q1 g7) (As := []) (rest := [.int r]) (jn_m w1 b1 q1 rfl rfl w2 t2) yb_X15_cutOf kw_2098 kw_2099 kw_2100 rfl ⟨Nat.le_of_ble_eq_true rfl, Nat.le_of_ble_eq_true rfl⟩ rfl (cat_len (Nat.le_of_ble_eq_true rfl)) dL_law_1259 ?_
  exact v_icmp_eq (tgt := 2144) (A := some ()) (B := none) (u := ()) (if_pos rfl) dL_law_1262 (by decide) (fun _ _ => k) (fun h9 _ => absurd rfl h9)
/-- what both sides owe of cutLong -/
def St_cutLong (ka : Nat → Nat) (x y : Nat) (Inv : Nat → TH → TH → Prop) : Prop := ∀ (n : Nat) (c m : TH), n < 512 → Inv n c m → ∃ (r : Int32) (c1 m1 : TH), f_X11_cutLong c x  = some (r, c1) ∧ f_X15_cutLong (bm_ m c1) y  = some (r, m1) ∧ wf_ c1 ∧ wf_ m1 ∧ Inv (n + 1) (bm_ c1 m1) m1
set_option maxHeartbeats 4000000 in
theorem lw_cutLong {l : Launch} {D : va_G} {cy : Nat → ClassId} {ka : Nat → Nat} {Qf : QF} {σ0 : TH} {Pz : TH → Prop} {x y o n0 s0 : Nat} {Inv : Nat → TH → TH → Prop} {n : Nat} {c m : TH} (hI : iv_ x y o n0 s0 Inv) (hS : St_cutLong ka x y Inv) (hn : n < 512) (hInv : Inv n c m) (hb : 10 * n + 10 ≤ ka 302) (hN : ka 302 ≤ 5120) (hk : ∀ c1 m1, Inv (n + 1) c1 m1 → ∃ z, Pz z ∧ lwv_ l D cy ka Qf σ0 z (jn_ c1 m1) 2144 (lwL_ ka x y o n) []) : ∃ z, Pz z ∧ lwv_ l D cy ka Qf σ0 z (jn_ c m) 1267 (lwL_ ka x y o n) [] := by
  obtain ⟨r, c1, m1, h1, h2, w1, w2, h3⟩ := hS n c m  hn hInv
  obtain ⟨g1, g2, g3, g4, g5, g6, g7, -⟩ := hI n c m hInv
  obtain ⟨z, hP, k⟩ := hk _ _ h3
  refine ⟨z, hP, ?_⟩
  have t1 := c_X11_cutLong (l := l) (D := D) (cy := cy) (ka := ka) h1
  have t2 := c_X15_cutLong (l := l) (D := D) (cy := cy) (ka := ka) h2
  have q1 := sp_z g1 g2 g3 g4 w1 t1.1
  have b1 : wf_ (bm_ m c1) := wf_bm g2 (by rw [g4]; exact t1.1.1)
  refine v_aload_n (x := some x) dL_law_1267 rfl 3 rfl ?_
  refine v_callV cb_12 (jk_c g6) (As := []) (rest := []) (jn_c g1 g2 g3 g4 w1 t1) yb_X11_cutLong kw_980 kw_981 kw_982 rfl ⟨Nat.le_of_ble_eq_true rfl, Nat.le_of_ble_eq_true rfl⟩ rfl (cat_len (Nat.le_of_ble_eq_true rfl)) dL_law_1268 ?_
  refine v_aload_n (x := some y) dL_law_1271 rfl 2 rfl ?_
  refine v_callV cb_16 (jk_m q1 g7) (As := []) (rest := [.int r]) (jn_m w1 b1 q1 rfl rfl w2 t2) yb_X15_cutLong kw_2102 kw_2103 kw_2104 rfl ⟨Nat.le_of_ble_eq_true rfl, Nat.le_of_ble_eq_true rfl⟩ rfl (cat_len (Nat.le_of_ble_eq_true rfl)) dL_law_1272 ?_
  exact v_icmp_eq (tgt := 2144) (A := some ()) (B := none) (u := ()) (if_pos rfl) dL_law_1275 (by decide) (fun _ _ => k) (fun h9 _ => absurd rfl h9)
/-- what both sides owe of rule -/
def St_rule (ka : Nat → Nat) (x y : Nat) (Inv : Nat → TH → TH → Prop) : Prop := ∀ (n : Nat) (c m : TH) (a0 : Int32), n < 512 → Inv n c m → ∃ (r : Int32) (c1 m1 : TH), f_X11_rule ka c x a0 = some (r, c1) ∧ f_X15_rule (bm_ m c1) y a0 = some (r, m1) ∧ wf_ c1 ∧ wf_ m1 ∧ Inv (n + 1) (bm_ c1 m1) m1
set_option maxHeartbeats 4000000 in
theorem lw_rule {l : Launch} {D : va_G} {cy : Nat → ClassId} {ka : Nat → Nat} {Qf : QF} {σ0 : TH} {Pz : TH → Prop} {x y o n0 s0 : Nat} {Inv : Nat → TH → TH → Prop} {n : Nat} {c m : TH} (hI : iv_ x y o n0 s0 Inv) (hS : St_rule ka x y Inv) (hn : n < 512) (hInv : Inv n c m) (hb : 10 * n + 10 ≤ ka 302) (hN : ka 302 ≤ 5120) (hk : ∀ c1 m1, Inv (n + 1) c1 m1 → ∃ z, Pz z ∧ lwv_ l D cy ka Qf σ0 z (jn_ c1 m1) 2144 (lwL_ ka x y o n) []) : ∃ z, Pz z ∧ lwv_ l D cy ka Qf σ0 z (jn_ c m) 1280 (lwL_ ka x y o n) [] := by
  obtain ⟨r, c1, m1, h1, h2, w1, w2, h3⟩ := hS n c m (sx_ ka n 1) hn hInv
  obtain ⟨g1, g2, g3, g4, g5, g6, g7, -⟩ := hI n c m hInv
  obtain ⟨z, hP, k⟩ := hk _ _ h3
  refine ⟨z, hP, ?_⟩
  have t1 := c_X11_rule (l := l) (D := D) (cy := cy) (ka := ka) h1
  have t2 := c_X15_rule (l := l) (D := D) (cy := cy) (ka := ka) h2
  have q1 := sp_z g1 g2 g3 g4 w1 t1.1
  have b1 : wf_ (bm_ m c1) := wf_bm g2 (by rw [g4]; exact t1.1.1)
  refine v_aload_n (x := some x) dL_law_1280 rfl 3 rfl ?_
  refine v_arg 4 0 1 (by decide) hb hN rfl rfl dL_law_1281 dL_law_1282 (by decide) dL_law_1284 dL_law_1285 dL_law_1286 ?_
  refine v_callV cb_12 (jk_c g6) (As := [.int (sx_ ka n 1)]) (rest := []) (jn_c g1 g2 g3 g4 w1 t1) yb_X11_rule kw_984 kw_985 kw_986 rfl ⟨Nat.le_of_ble_eq_true rfl, Nat.le_of_ble_eq_true rfl⟩ rfl (cat_len (Nat.le_of_ble_eq_true rfl)) dL_law_1287 ?_
  refine v_aload_n (x := some y) dL_law_1290 rfl 2 rfl ?_
  refine v_arg 4 0 1 (by decide) hb hN rfl rfl dL_law_1291 dL_law_1292 (by decide) dL_law_1294 dL_law_1295 dL_law_1296 ?_
  refine v_callVW cb_16 (jk_m q1 g7) (As := [.int (sx_ ka n 1)]) (rest := [.int r]) (jn_m w1 b1 q1 rfl rfl w2 t2) yw_X15_rule kw_2106 kw_2107 kw_2108 rfl ⟨Nat.le_of_ble_eq_true rfl, Nat.le_of_ble_eq_true rfl⟩ rfl (cat_len (Nat.le_of_ble_eq_true rfl)) dL_law_1297 ?_
  exact v_icmp_eq (tgt := 2144) (A := some ()) (B := none) (u := ()) (if_pos rfl) dL_law_1300 (by decide) (fun _ _ => k) (fun h9 _ => absurd rfl h9)
/-- what both sides owe of report -/
def St_report (ka : Nat → Nat) (x y : Nat) (Inv : Nat → TH → TH → Prop) : Prop := ∀ (n : Nat) (c m : TH) (a0 a1 a2 : Int32), n < 512 → Inv n c m → ∃ (r : Int32) (c1 m1 : TH), f_X11_report ka c x a0 a1 a2 = some (r, c1) ∧ f_X15_report (bm_ m c1) y a0 a1 a2 = some (r, m1) ∧ wf_ c1 ∧ wf_ m1 ∧ Inv (n + 1) (bm_ c1 m1) m1
set_option maxHeartbeats 4000000 in
theorem lw_report {l : Launch} {D : va_G} {cy : Nat → ClassId} {ka : Nat → Nat} {Qf : QF} {σ0 : TH} {Pz : TH → Prop} {x y o n0 s0 : Nat} {Inv : Nat → TH → TH → Prop} {n : Nat} {c m : TH} (hI : iv_ x y o n0 s0 Inv) (hS : St_report ka x y Inv) (hn : n < 512) (hInv : Inv n c m) (hb : 10 * n + 10 ≤ ka 302) (hN : ka 302 ≤ 5120) (hk : ∀ c1 m1, Inv (n + 1) c1 m1 → ∃ z, Pz z ∧ lwv_ l D cy ka Qf σ0 z (jn_ c1 m1) 2144 (lwL_ ka x y o n) []) : ∃ z, Pz z ∧ lwv_ l D cy ka Qf σ0 z (jn_ c m) 1305 (lwL_ ka x y o n) [] := by
  obtain ⟨r, c1, m1, h1, h2, w1, w2, h3⟩ := hS n c m (sx_ ka n 1) (sx_ ka n 2) (sx_ ka n 3) hn hInv
  obtain ⟨g1, g2, g3, g4, g5, g6, g7, -⟩ := hI n c m hInv
  obtain ⟨z, hP, k⟩ := hk _ _ h3
  refine ⟨z, hP, ?_⟩
  have t1 := c_X11_report (l := l) (D := D) (cy := cy) (ka := ka) h1
  have t2 := c_X15_report (l := l) (D := D) (cy := cy) (ka := ka) h2
  have q1 := sp_z g1 g2 g3 g4 w1 t1.1
  have b1 : wf_ (bm_ m c1) := wf_bm g2 (by rw [g4]; exact t1.1.1)
  refine v_aload_n (x := some x) dL_law_1305 rfl 3 rfl ?_
  refine v_arg 4 0 1 (by decide) hb hN rfl rfl dL_law_1306 dL_law_1307 (by decide) dL_law_1309 dL_law_1310 dL_law_1311 ?_
  refine v_arg 4 0 2 (by decide) hb hN rfl rfl dL_law_1312 dL_law_1313 (by decide) dL_law_1315 dL_law_1316 dL_law_1317 ?_
  refine v_arg 4 0 3 (by decide) hb hN rfl rfl dL_law_1318 dL_law_1319 (by decide) dL_law_1321 dL_law_1322 dL_law_1323 ?_
  refine v_callV cb_12 (jk_c g6) (As := [.int (sx_ ka n 1), .int (sx_ ka n 2), .int (sx_ ka n 3)]) (rest := []) (jn_c g1 g2 g3 g4 w1 t1) yb_X11_report kw_988 kw_989 kw_990 rfl ⟨Nat.le_of_ble_eq_true rfl, Nat.le_of_ble_eq_true rfl⟩ rfl (cat_len (Nat.le_of_ble_eq_true rfl)) dL_law_1324 ?_
  refine v_aload_n (x := some y) dL_law_1327 rfl 2 rfl ?_
  refine v_arg 4 0 1 (by decide) hb hN rfl rfl dL_law_1328 dL_law_1329 (by decide) dL_law_1331 dL_law_1332 dL_law_1333 ?_
  refine v_arg 4 0 2 (by decide) hb hN rfl rfl dL_law_1334 dL_law_1335 (by decide) dL_law_1337 dL_law_1338 dL_law_1339 ?_
  refine v_arg 4 0 3 (by decide) hb hN rfl rfl dL_law_1340 dL_law_1341 (by decide) dL_law_1343 dL_law_1344 dL_law_1345 ?_
  refine v_callV cb_16 (jk_m q1 g7) (As := [.int (sx_ ka n 1), .int (sx_ ka n 2), .int (sx_ ka n 3)]) (rest := [.int r]) (jn_m w1 b1 q1 rfl rfl w2 t2) yb_X15_report kw_2114 kw_2115 kw_2116 rfl ⟨Nat.le_of_ble_eq_true rfl, Nat.le_of_ble_eq_true rfl⟩ rfl (cat_len (Nat.le_of_ble_eq_true rfl)) dL_law_1346 ?_
  exact v_icmp_eq (tgt := 2144) (A := some ()) (B := none) (u := ()) (if_pos rfl) dL_law_1349 (by decide) (fun _ _ => k) (fun h9 _ => absurd rfl h9)
/-- what both sides owe of rumour -/
def St_rumour (ka : Nat → Nat) (x y : Nat) (Inv : Nat → TH → TH → Prop) : Prop := ∀ (n : Nat) (c m : TH) (a0 a1 a2 a3 a4 a5 a6 a7 a8 : Int32), n < 512 → Inv n c m → ∃ (r : Int32) (c1 m1 : TH), f_X11_rumour ka c x a0 a1 a2 a3 a4 a5 a6 a7 a8 = some (r, c1) ∧ f_X15_rumour (bm_ m c1) y a0 a1 a2 a3 a4 a5 a6 a7 a8 = some (r, m1) ∧ wf_ c1 ∧ wf_ m1 ∧ Inv (n + 1) (bm_ c1 m1) m1
set_option maxHeartbeats 4000000 in
theorem lw_rumour {l : Launch} {D : va_G} {cy : Nat → ClassId} {ka : Nat → Nat} {Qf : QF} {σ0 : TH} {Pz : TH → Prop} {x y o n0 s0 : Nat} {Inv : Nat → TH → TH → Prop} {n : Nat} {c m : TH} (hI : iv_ x y o n0 s0 Inv) (hS : St_rumour ka x y Inv) (hn : n < 512) (hInv : Inv n c m) (hb : 10 * n + 10 ≤ ka 302) (hN : ka 302 ≤ 5120) (hk : ∀ c1 m1, Inv (n + 1) c1 m1 → ∃ z, Pz z ∧ lwv_ l D cy ka Qf σ0 z (jn_ c1 m1) 2144 (lwL_ ka x y o n) []) : ∃ z, Pz z ∧ lwv_ l D cy ka Qf σ0 z (jn_ c m) 1354 (lwL_ ka x y o n) [] := by
  obtain ⟨r, c1, m1, h1, h2, w1, w2, h3⟩ := hS n c m (sx_ ka n 1) (sx_ ka n 2) (sx_ ka n 3) (sx_ ka n 4) (sx_ ka n 5) (sx_ ka n 6) (sx_ ka n 7) (sx_ ka n 8) (sx_ ka n 9) hn hInv
  obtain ⟨g1, g2, g3, g4, g5, g6, g7, -⟩ := hI n c m hInv
  obtain ⟨z, hP, k⟩ := hk _ _ h3
  refine ⟨z, hP, ?_⟩
  have t1 := c_X11_rumour (l := l) (D := D) (cy := cy) (ka := ka) h1
  have t2 := c_X15_rumour (l := l) (D := D) (cy := cy) (ka := ka) h2
  have q1 := sp_z g1 g2 g3 g4 w1 t1.1
  have b1 : wf_ (bm_ m c1) := wf_bm g2 (by rw [g4]; exact t1.1.1)
  refine v_aload_n (x := some x) dL_law_1354 rfl 3 rfl ?_
  refine v_arg 4 0 1 (by decide) hb hN rfl rfl dL_law_1355 dL_law_1356 (by decide) dL_law_1358 dL_law_1359 dL_law_1360 ?_
  refine v_arg 4 0 2 (by decide) hb hN rfl rfl dL_law_1361 dL_law_1362 (by decide) dL_law_1364 dL_law_1365 dL_law_1366 ?_
  refine v_arg 4 0 3 (by decide) hb hN rfl rfl dL_law_1367 dL_law_1368 (by decide) dL_law_1370 dL_law_1371 dL_law_1372 ?_
  refine v_arg 4 0 4 (by decide) hb hN rfl rfl dL_law_1373 dL_law_1374 (by decide) dL_law_1376 dL_law_1377 dL_law_1378 ?_
  refine v_arg 4 0 5 (by decide) hb hN rfl rfl dL_law_1379 dL_law_1380 (by decide) dL_law_1382 dL_law_1383 dL_law_1384 ?_
  refine v_argB 4 0 6 (by decide) hb hN rfl rfl dL_law_1385 dL_law_1386 (by decide) dL_law_1388 dL_law_1390 dL_law_1391 ?_
  refine v_argB 4 0 7 (by decide) hb hN rfl rfl dL_law_1392 dL_law_1393 (by decide) dL_law_1395 dL_law_1397 dL_law_1398 ?_
  refine v_argB 4 0 8 (by decide) hb hN rfl rfl dL_law_1399 dL_law_1400 (by decide) dL_law_1402 dL_law_1404 dL_law_1405 ?_
  refine v_argB 4 0 9 (by decide) hb hN rfl rfl dL_law_1406 dL_law_1407 (by decide) dL_law_1409 dL_law_1411 dL_law_1412 ?_
  refine v_callV cb_12 (jk_c g6) (As := [.int (sx_ ka n 1), .int (sx_ ka n 2), .int (sx_ ka n 3), .int (sx_ ka n 4), .int (sx_ ka n 5), .int (sx_ ka n 6), .int (sx_ ka n 7), .int (sx_ ka n 8), .int (sx_ ka n 9)]) (rest := []) (jn_c g1 g2 g3 g4 w1 t1) yb_X11_rumour kw_1042 kw_1043 kw_1044 rfl ⟨Nat.le_of_ble_eq_true rfl, Nat.le_of_ble_eq_true rfl⟩ rfl (cat_len (Nat.le_of_ble_eq_true rfl)) dL_law_1413 ?_
  refine v_aload_n (x := some y) dL_law_1416 rfl 2 rfl ?_
  refine v_arg 4 0 1 (by decide) hb hN rfl rfl dL_law_1417 dL_law_1418 (by decide) dL_law_1420 dL_law_1421 dL_law_1422 ?_
  refine v_arg 4 0 2 (by decide) hb hN rfl rfl dL_law_1423 dL_law_1424 (by decide) dL_law_1426 dL_law_1427 dL_law_1428 ?_
  refine v_arg 4 0 3 (by decide) hb hN rfl rfl dL_law_1429 dL_law_1430 (by decide) dL_law_1432 dL_law_1433 dL_law_1434 ?_
  refine v_arg 4 0 4 (by decide) hb hN rfl rfl dL_law_1435 dL_law_1436 (by decide) dL_law_1438 dL_law_1439 dL_law_1440 ?_
  refine v_arg 4 0 5 (by decide) hb hN rfl rfl dL_law_1441 dL_law_1442 (by decide) dL_law_1444 dL_law_1445 dL_law_1446 ?_
  refine v_argB 4 0 6 (by decide) hb hN rfl rfl dL_law_1447 dL_law_1448 (by decide) dL_law_1450 dL_law_1452 dL_law_1453 ?_
  refine v_argB 4 0 7 (by decide) hb hN rfl rfl dL_law_1454 dL_law_1455 (by decide) dL_law_1457 dL_law_1459 dL_law_1460 ?_
  refine v_argB 4 0 8 (by decide) hb hN rfl rfl dL_law_1461 dL_law_1462 (by decide) dL_law_1464 dL_law_1466 dL_law_1467 ?_
  refine v_argB 4 0 9 (by decide) hb hN rfl rfl dL_law_1468 dL_law_1469 (by decide) dL_law_1471 dL_law_1473 dL_law_1474 ?_
  refine v_callV cb_16 (jk_m q1 g7) (As := [.int (sx_ ka n 1), .int (sx_ ka n 2), .int (sx_ ka n 3), .int (sx_ ka n 4), .int (sx_ ka n 5), .int (sx_ ka n 6), .int (sx_ ka n 7), .int (sx_ ka n 8), .int (sx_ ka n 9)]) (rest := [.int r]) (jn_m w1 b1 q1 rfl rfl w2 t2) yb_X15_rumour kw_2122 kw_2123 kw_2124 rfl ⟨Nat.le_of_ble_eq_true rfl, Nat.le_of_ble_eq_true rfl⟩ rfl (cat_len (Nat.le_of_ble_eq_true rfl)) dL_law_1475 ?_
  exact v_icmp_eq (tgt := 2144) (A := some ()) (B := none) (u := ()) (if_pos rfl) dL_law_1478 (by decide) (fun _ _ => k) (fun h9 _ => absurd rfl h9)
/-- what both sides owe of fits -/
def St_fits (ka : Nat → Nat) (x y : Nat) (Inv : Nat → TH → TH → Prop) : Prop := ∀ (n : Nat) (c m : TH) (a0 : Int32), n < 512 → Inv n c m → ∃ (r : Int32) (c1 m1 : TH), f_X11_fits c x a0 = some (r, c1) ∧ f_X15_fits (bm_ m c1) y a0 = some (r, m1) ∧ wf_ c1 ∧ wf_ m1 ∧ Inv (n + 1) (bm_ c1 m1) m1
set_option maxHeartbeats 4000000 in
theorem lw_fits {l : Launch} {D : va_G} {cy : Nat → ClassId} {ka : Nat → Nat} {Qf : QF} {σ0 : TH} {Pz : TH → Prop} {x y o n0 s0 : Nat} {Inv : Nat → TH → TH → Prop} {n : Nat} {c m : TH} (hI : iv_ x y o n0 s0 Inv) (hS : St_fits ka x y Inv) (hn : n < 512) (hInv : Inv n c m) (hb : 10 * n + 10 ≤ ka 302) (hN : ka 302 ≤ 5120) (hk : ∀ c1 m1, Inv (n + 1) c1 m1 → ∃ z, Pz z ∧ lwv_ l D cy ka Qf σ0 z (jn_ c1 m1) 2144 (lwL_ ka x y o n) []) : ∃ z, Pz z ∧ lwv_ l D cy ka Qf σ0 z (jn_ c m) 1483 (lwL_ ka x y o n) [] := by
  obtain ⟨r, c1, m1, h1, h2, w1, w2, h3⟩ := hS n c m (sx_ ka n 1) hn hInv
  obtain ⟨g1, g2, g3, g4, g5, g6, g7, -⟩ := hI n c m hInv
  obtain ⟨z, hP, k⟩ := hk _ _ h3
  refine ⟨z, hP, ?_⟩
  have t1 := c_X11_fits (l := l) (D := D) (cy := cy) (ka := ka) h1
  have t2 := c_X15_fits (l := l) (D := D) (cy := cy) (ka := ka) h2
  have q1 := sp_z g1 g2 g3 g4 w1 t1.1
  have b1 : wf_ (bm_ m c1) := wf_bm g2 (by rw [g4]; exact t1.1.1)
  refine v_aload_n (x := some x) dL_law_1483 rfl 3 rfl ?_
  refine v_arg 4 0 1 (by decide) hb hN rfl rfl dL_law_1484 dL_law_1485 (by decide) dL_law_1487 dL_law_1488 dL_law_1489 ?_
  refine v_callV cb_12 (jk_c g6) (As := [.int (sx_ ka n 1)]) (rest := []) (jn_c g1 g2 g3 g4 w1 t1) yb_X11_fits kw_1052 kw_1053 kw_1054 rfl ⟨Nat.le_of_ble_eq_true rfl, Nat.le_of_ble_eq_true rfl⟩ rfl (cat_len (Nat.le_of_ble_eq_true rfl)) dL_law_1490 ?_
  refine v_aload_n (x := some y) dL_law_1493 rfl 2 rfl ?_
  refine v_arg 4 0 1 (by decide) hb hN rfl rfl dL_law_1494 dL_law_1495 (by decide) dL_law_1497 dL_law_1498 dL_law_1499 ?_
  refine v_callV cb_16 (jk_m q1 g7) (As := [.int (sx_ ka n 1)]) (rest := [.int r]) (jn_m w1 b1 q1 rfl rfl w2 t2) yb_X15_fits kw_2126 kw_2127 kw_2128 rfl ⟨Nat.le_of_ble_eq_true rfl, Nat.le_of_ble_eq_true rfl⟩ rfl (cat_len (Nat.le_of_ble_eq_true rfl)) dL_law_1500 ?_
  exact v_icmp_eq (tgt := 2144) (A := some ()) (B := none) (u := ()) (if_pos rfl) dL_law_1503 (by decide) (fun _ _ => k) (fun h9 _ => absurd rfl h9)
/-- what both sides owe of withdraw -/
def St_withdraw (ka : Nat → Nat) (x y : Nat) (Inv : Nat → TH → TH → Prop) : Prop := ∀ (n : Nat) (c m : TH) (a0 : Int32), n < 512 → Inv n c m → ∃ (r : Int32) (c1 m1 : TH), f_X11_withdraw c x a0 = some (r, c1) ∧ f_X15_withdraw (bm_ m c1) y a0 = some (r, m1) ∧ wf_ c1 ∧ wf_ m1 ∧ Inv (n + 1) (bm_ c1 m1) m1
set_option maxHeartbeats 4000000 in
theorem lw_withdraw {l : Launch} {D : va_G} {cy : Nat → ClassId} {ka : Nat → Nat} {Qf : QF} {σ0 : TH} {Pz : TH → Prop} {x y o n0 s0 : Nat} {Inv : Nat → TH → TH → Prop} {n : Nat} {c m : TH} (hI : iv_ x y o n0 s0 Inv) (hS : St_withdraw ka x y Inv) (hn : n < 512) (hInv : Inv n c m) (hb : 10 * n + 10 ≤ ka 302) (hN : ka 302 ≤ 5120) (hk : ∀ c1 m1, Inv (n + 1) c1 m1 → ∃ z, Pz z ∧ lwv_ l D cy ka Qf σ0 z (jn_ c1 m1) 2144 (lwL_ ka x y o n) []) : ∃ z, Pz z ∧ lwv_ l D cy ka Qf σ0 z (jn_ c m) 1508 (lwL_ ka x y o n) [] := by
  obtain ⟨r, c1, m1, h1, h2, w1, w2, h3⟩ := hS n c m (sx_ ka n 1) hn hInv
  obtain ⟨g1, g2, g3, g4, g5, g6, g7, -⟩ := hI n c m hInv
  obtain ⟨z, hP, k⟩ := hk _ _ h3
  refine ⟨z, hP, ?_⟩
  have t1 := c_X11_withdraw (l := l) (D := D) (cy := cy) (ka := ka) h1
  have t2 := c_X15_withdraw (l := l) (D := D) (cy := cy) (ka := ka) h2
  have q1 := sp_z g1 g2 g3 g4 w1 t1.1
  have b1 : wf_ (bm_ m c1) := wf_bm g2 (by rw [g4]; exact t1.1.1)
  refine v_aload_n (x := some x) dL_law_1508 rfl 3 rfl ?_
  refine v_arg 4 0 1 (by decide) hb hN rfl rfl dL_law_1509 dL_law_1510 (by decide) dL_law_1512 dL_law_1513 dL_law_1514 ?_
  refine v_callV cb_12 (jk_c g6) (As := [.int (sx_ ka n 1)]) (rest := []) (jn_c g1 g2 g3 g4 w1 t1) yb_X11_withdraw kw_1064 kw_1065 kw_1066 rfl ⟨Nat.le_of_ble_eq_true rfl, Nat.le_of_ble_eq_true rfl⟩ rfl (cat_len (Nat.le_of_ble_eq_true rfl)) dL_law_1515 ?_
  refine v_aload_n (x := some y) dL_law_1518 rfl 2 rfl ?_
  refine v_arg 4 0 1 (by decide) hb hN rfl rfl dL_law_1519 dL_law_1520 (by decide) dL_law_1522 dL_law_1523 dL_law_1524 ?_
  refine v_callV cb_16 (jk_m q1 g7) (As := [.int (sx_ ka n 1)]) (rest := [.int r]) (jn_m w1 b1 q1 rfl rfl w2 t2) yb_X15_withdraw kw_2130 kw_2131 kw_2132 rfl ⟨Nat.le_of_ble_eq_true rfl, Nat.le_of_ble_eq_true rfl⟩ rfl (cat_len (Nat.le_of_ble_eq_true rfl)) dL_law_1525 ?_
  exact v_icmp_eq (tgt := 2144) (A := some ()) (B := none) (u := ()) (if_pos rfl) dL_law_1528 (by decide) (fun _ _ => k) (fun h9 _ => absurd rfl h9)
/-- what both sides owe of may -/
def St_may (ka : Nat → Nat) (x y : Nat) (Inv : Nat → TH → TH → Prop) : Prop := ∀ (n : Nat) (c m : TH) (a0 : Int32), n < 512 → Inv n c m → ∃ (r : Int32) (c1 m1 : TH), f_X11_may ka c x a0 = some (r, c1) ∧ f_X15_may (bm_ m c1) y a0 = some (r, m1) ∧ wf_ c1 ∧ wf_ m1 ∧ Inv (n + 1) (bm_ c1 m1) m1
set_option maxHeartbeats 4000000 in
theorem lw_may {l : Launch} {D : va_G} {cy : Nat → ClassId} {ka : Nat → Nat} {Qf : QF} {σ0 : TH} {Pz : TH → Prop} {x y o n0 s0 : Nat} {Inv : Nat → TH → TH → Prop} {n : Nat} {c m : TH} (hI : iv_ x y o n0 s0 Inv) (hS : St_may ka x y Inv) (hn : n < 512) (hInv : Inv n c m) (hb : 10 * n + 10 ≤ ka 302) (hN : ka 302 ≤ 5120) (hk : ∀ c1 m1, Inv (n + 1) c1 m1 → ∃ z, Pz z ∧ lwv_ l D cy ka Qf σ0 z (jn_ c1 m1) 2144 (lwL_ ka x y o n) []) : ∃ z, Pz z ∧ lwv_ l D cy ka Qf σ0 z (jn_ c m) 1533 (lwL_ ka x y o n) [] := by
  obtain ⟨r, c1, m1, h1, h2, w1, w2, h3⟩ := hS n c m (sx_ ka n 1) hn hInv
  obtain ⟨g1, g2, g3, g4, g5, g6, g7, -⟩ := hI n c m hInv
  obtain ⟨z, hP, k⟩ := hk _ _ h3
  refine ⟨z, hP, ?_⟩
  have t1 := c_X11_may (l := l) (D := D) (cy := cy) (ka := ka) h1
  have t2 := c_X15_may (l := l) (D := D) (cy := cy) (ka := ka) h2
  have q1 := sp_z g1 g2 g3 g4 w1 t1.1
  have b1 : wf_ (bm_ m c1) := wf_bm g2 (by rw [g4]; exact t1.1.1)
  refine v_aload_n (x := some x) dL_law_1533 rfl 3 rfl ?_
  refine v_arg 4 0 1 (by decide) hb hN rfl rfl dL_law_1534 dL_law_1535 (by decide) dL_law_1537 dL_law_1538 dL_law_1539 ?_
  refine v_callV cb_12 (jk_c g6) (As := [.int (sx_ ka n 1)]) (rest := []) (jn_c g1 g2 g3 g4 w1 t1) yb_X11_may kw_1068 kw_1069 kw_1070 rfl ⟨Nat.le_of_ble_eq_true rfl, Nat.le_of_ble_eq_true rfl⟩ rfl (cat_len (Nat.le_of_ble_eq_true rfl)) dL_law_1540 ?_
  refine v_aload_n (x := some y) dL_law_1543 rfl 2 rfl ?_
  refine v_arg 4 0 1 (by decide) hb hN rfl rfl dL_law_1544 dL_law_1545 (by decide) dL_law_1547 dL_law_1548 dL_law_1549 ?_
  refine v_callV cb_16 (jk_m q1 g7) (As := [.int (sx_ ka n 1)]) (rest := [.int r]) (jn_m w1 b1 q1 rfl rfl w2 t2) yb_X15_may kw_2134 kw_2135 kw_2136 rfl ⟨Nat.le_of_ble_eq_true rfl, Nat.le_of_ble_eq_true rfl⟩ rfl (cat_len (Nat.le_of_ble_eq_true rfl)) dL_law_1550 ?_
  exact v_icmp_eq (tgt := 2144) (A := some ()) (B := none) (u := ()) (if_pos rfl) dL_law_1553 (by decide) (fun _ _ => k) (fun h9 _ => absurd rfl h9)
/-- what both sides owe of tell -/
def St_tell (ka : Nat → Nat) (x y : Nat) (Inv : Nat → TH → TH → Prop) : Prop := ∀ (n : Nat) (c m : TH) (a0 : Int32), n < 512 → Inv n c m → ∃ (r : Int32) (c1 m1 : TH), f_X11_tell ka c x a0 = some (r, c1) ∧ f_X15_tell (bm_ m c1) y a0 = some (r, m1) ∧ wf_ c1 ∧ wf_ m1 ∧ Inv (n + 1) (bm_ c1 m1) m1
set_option maxHeartbeats 4000000 in
theorem lw_tell {l : Launch} {D : va_G} {cy : Nat → ClassId} {ka : Nat → Nat} {Qf : QF} {σ0 : TH} {Pz : TH → Prop} {x y o n0 s0 : Nat} {Inv : Nat → TH → TH → Prop} {n : Nat} {c m : TH} (hI : iv_ x y o n0 s0 Inv) (hS : St_tell ka x y Inv) (hn : n < 512) (hInv : Inv n c m) (hb : 10 * n + 10 ≤ ka 302) (hN : ka 302 ≤ 5120) (hk : ∀ c1 m1, Inv (n + 1) c1 m1 → ∃ z, Pz z ∧ lwv_ l D cy ka Qf σ0 z (jn_ c1 m1) 2144 (lwL_ ka x y o n) []) : ∃ z, Pz z ∧ lwv_ l D cy ka Qf σ0 z (jn_ c m) 1558 (lwL_ ka x y o n) [] := by
  obtain ⟨r, c1, m1, h1, h2, w1, w2, h3⟩ := hS n c m (sx_ ka n 1) hn hInv
  obtain ⟨g1, g2, g3, g4, g5, g6, g7, -⟩ := hI n c m hInv
  obtain ⟨z, hP, k⟩ := hk _ _ h3
  refine ⟨z, hP, ?_⟩
  have t1 := c_X11_tell (l := l) (D := D) (cy := cy) (ka := ka) h1
  have t2 := c_X15_tell (l := l) (D := D) (cy := cy) (ka := ka) h2
  have q1 := sp_z g1 g2 g3 g4 w1 t1.1
  have b1 : wf_ (bm_ m c1) := wf_bm g2 (by rw [g4]; exact t1.1.1)
  refine v_aload_n (x := some x) dL_law_1558 rfl 3 rfl ?_
  refine v_arg 4 0 1 (by decide) hb hN rfl rfl dL_law_1559 dL_law_1560 (by decide) dL_law_1562 dL_law_1563 dL_law_1564 ?_
  refine v_callV cb_12 (jk_c g6) (As := [.int (sx_ ka n 1)]) (rest := []) (jn_c g1 g2 g3 g4 w1 t1) yb_X11_tell kw_1090 kw_1091 kw_1092 rfl ⟨Nat.le_of_ble_eq_true rfl, Nat.le_of_ble_eq_true rfl⟩ rfl (cat_len (Nat.le_of_ble_eq_true rfl)) dL_law_1565 ?_
  refine v_aload_n (x := some y) dL_law_1568 rfl 2 rfl ?_
  refine v_arg 4 0 1 (by decide) hb hN rfl rfl dL_law_1569 dL_law_1570 (by decide) dL_law_1572 dL_law_1573 dL_law_1574 ?_
  refine v_callV cb_16 (jk_m q1 g7) (As := [.int (sx_ ka n 1)]) (rest := [.int r]) (jn_m w1 b1 q1 rfl rfl w2 t2) yb_X15_tell kw_2142 kw_2143 kw_2144 rfl ⟨Nat.le_of_ble_eq_true rfl, Nat.le_of_ble_eq_true rfl⟩ rfl (cat_len (Nat.le_of_ble_eq_true rfl)) dL_law_1575 ?_
  exact v_icmp_eq (tgt := 2144) (A := some ()) (B := none) (u := ()) (if_pos rfl) dL_law_1578 (by decide) (fun _ _ => k) (fun h9 _ => absurd rfl h9)
/-- what both sides owe of picture -/
def St_picture (ka : Nat → Nat) (x y : Nat) (Inv : Nat → TH → TH → Prop) : Prop := ∀ (n : Nat) (c m : TH) (a0 a1 a2 a3 a4 : Int32), n < 512 → Inv n c m → ∃ (r : Int32) (c1 m1 : TH), f_X11_picture ka c x a0 a1 a2 a3 a4 = some (r, c1) ∧ f_X15_picture (bm_ m c1) y a0 a1 a2 a3 a4 = some (r, m1) ∧ wf_ c1 ∧ wf_ m1 ∧ Inv (n + 1) (bm_ c1 m1) m1
set_option maxHeartbeats 4000000 in
theorem lw_picture {l : Launch} {D : va_G} {cy : Nat → ClassId} {ka : Nat → Nat} {Qf : QF} {σ0 : TH} {Pz : TH → Prop} {x y o n0 s0 : Nat} {Inv : Nat → TH → TH → Prop} {n : Nat} {c m : TH} (hI : iv_ x y o n0 s0 Inv) (hS : St_picture ka x y Inv) (hn : n < 512) (hInv : Inv n c m) (hb : 10 * n + 10 ≤ ka 302) (hN : ka 302 ≤ 5120) (hk : ∀ c1 m1, Inv (n + 1) c1 m1 → ∃ z, Pz z ∧ lwv_ l D cy ka Qf σ0 z (jn_ c1 m1) 2144 (lwL_ ka x y o n) []) : ∃ z, Pz z ∧ lwv_ l D cy ka Qf σ0 z (jn_ c m) 1583 (lwL_ ka x y o n) [] := by
  obtain ⟨r, c1, m1, h1, h2, w1, w2, h3⟩ := hS n c m (sx_ ka n 1) (sx_ ka n 2) (sx_ ka n 3) (sx_ ka n 4) (sx_ ka n 5) hn hInv
  obtain ⟨g1, g2, g3, g4, g5, g6, g7, -⟩ := hI n c m hInv
  obtain ⟨z, hP, k⟩ := hk _ _ h3
  refine ⟨z, hP, ?_⟩
  have t1 := c_X11_picture (l := l) (D := D) (cy := cy) (ka := ka) h1
  have t2 := c_X15_picture (l := l) (D := D) (cy := cy) (ka := ka) h2
  have q1 := sp_z g1 g2 g3 g4 w1 t1.1
  have b1 : wf_ (bm_ m c1) := wf_bm g2 (by rw [g4]; exact t1.1.1)
  refine v_aload_n (x := some x) dL_law_1583 rfl 3 rfl ?_
  refine v_arg 4 0 1 (by decide) hb hN rfl rfl dL_law_1584 dL_law_1585 (by decide) dL_law_1587 dL_law_1588 dL_law_1589 ?_
  refine v_arg 4 0 2 (by decide) hb hN rfl rfl dL_law_1590 dL_law_1591 (by decide) dL_law_1593 dL_law_1594 dL_law_1595 ?_
  refine v_arg 4 0 3 (by decide) hb hN rfl rfl dL_law_1596 dL_law_1597 (by decide) dL_law_1599 dL_law_1600 dL_law_1601 ?_
  refine v_arg 4 0 4 (by decide) hb hN rfl rfl dL_law_1602 dL_law_1603 (by decide) dL_law_1605 dL_law_1606 dL_law_1607 ?_
  refine v_arg 4 0 5 (by decide) hb hN rfl rfl dL_law_1608 dL_law_1609 (by decide) dL_law_1611 dL_law_1612 dL_law_1613 ?_
  refine v_callV cb_12 (jk_c g6) (As := [.int (sx_ ka n 1), .int (sx_ ka n 2), .int (sx_ ka n 3), .int (sx_ ka n 4), .int (sx_ ka n 5)]) (rest := []) (jn_c g1 g2 g3 g4 w1 t1) yb_X11_picture kw_1097 kw_1098 kw_1099 rfl ⟨Nat.le_of_ble_eq_true rfl, Nat.le_of_ble_eq_true rfl⟩ rfl (cat_len (Nat.le_of_ble_eq_true rfl)) dL_law_1614 ?_
  refine v_aload_n (x := some y) dL_law_1617 rfl 2 rfl ?_
  refine v_arg 4 0 1 (by decide) hb hN rfl rfl dL_law_1618 dL_law_1619 (by decide) dL_law_1621 dL_law_1622 dL_law_1623 ?_
  refine v_arg 4 0 2 (by decide) hb hN rfl rfl dL_law_1624 dL_law_1625 (by decide) dL_law_1627 dL_law_1628 dL_law_1629 ?_
  refine v_arg 4 0 3 (by decide) hb hN rfl rfl dL_law_1630 dL_law_1631 (by decide) dL_law_1633 dL_law_1634 dL_law_1635 ?_
  refine v_arg 4 0 4 (by decide) hb hN rfl rfl dL_law_1636 dL_law_1637 (by decide) dL_law_1639 dL_law_1640 dL_law_1641 ?_
  refine v_arg 4 0 5 (by decide) hb hN rfl rfl dL_law_1642 dL_law_1643 (by decide) dL_law_1645 dL_law_1646 dL_law_1647 ?_
  refine v_callV cb_16 (jk_m q1 g7) (As := [.int (sx_ ka n 1), .int (sx_ ka n 2), .int (sx_ ka n 3), .int (sx_ ka n 4), .int (sx_ ka n 5)]) (rest := [.int r]) (jn_m w1 b1 q1 rfl rfl w2 t2) yb_X15_picture kw_2146 kw_2147 kw_2148 rfl ⟨Nat.le_of_ble_eq_true rfl, Nat.le_of_ble_eq_true rfl⟩ rfl (cat_len (Nat.le_of_ble_eq_true rfl)) dL_law_1648 ?_
  exact v_icmp_eq (tgt := 2144) (A := some ()) (B := none) (u := ()) (if_pos rfl) dL_law_1651 (by decide) (fun _ _ => k) (fun h9 _ => absurd rfl h9)
/-- what both sides owe of used -/
def St_used (ka : Nat → Nat) (x y : Nat) (Inv : Nat → TH → TH → Prop) : Prop := ∀ (n : Nat) (c m : TH) (a0 : Int32), n < 512 → Inv n c m → ∃ (r : Int32) (c1 m1 : TH), f_X11_used c x a0 = some (r, c1) ∧ f_X15_used (bm_ m c1) y a0 = some (r, m1) ∧ wf_ c1 ∧ wf_ m1 ∧ Inv (n + 1) (bm_ c1 m1) m1
set_option maxHeartbeats 4000000 in
theorem lw_used {l : Launch} {D : va_G} {cy : Nat → ClassId} {ka : Nat → Nat} {Qf : QF} {σ0 : TH} {Pz : TH → Prop} {x y o n0 s0 : Nat} {Inv : Nat → TH → TH → Prop} {n : Nat} {c m : TH} (hI : iv_ x y o n0 s0 Inv) (hS : St_used ka x y Inv) (hn : n < 512) (hInv : Inv n c m) (hb : 10 * n + 10 ≤ ka 302) (hN : ka 302 ≤ 5120) (hk : ∀ c1 m1, Inv (n + 1) c1 m1 → ∃ z, Pz z ∧ lwv_ l D cy ka Qf σ0 z (jn_ c1 m1) 2144 (lwL_ ka x y o n) []) : ∃ z, Pz z ∧ lwv_ l D cy ka Qf σ0 z (jn_ c m) 1656 (lwL_ ka x y o n) [] := by
  obtain ⟨r, c1, m1, h1, h2, w1, w2, h3⟩ := hS n c m (sx_ ka n 1) hn hInv
  obtain ⟨g1, g2, g3, g4, g5, g6, g7, -⟩ := hI n c m hInv
  obtain ⟨z, hP, k⟩ := hk _ _ h3
  refine ⟨z, hP, ?_⟩
  have t1 := c_X11_used (l := l) (D := D) (cy := cy) (ka := ka) h1
  have t2 := c_X15_used (l := l) (D := D) (cy := cy) (ka := ka) h2
  have q1 := sp_z g1 g2 g3 g4 w1 t1.1
  have b1 : wf_ (bm_ m c1) := wf_bm g2 (by rw [g4]; exact t1.1.1)
  refine v_aload_n (x := some x) dL_law_1656 rfl 3 rfl ?_
  refine v_arg 4 0 1 (by decide) hb hN rfl rfl dL_law_1657 dL_law_1658 (by decide) dL_law_1660 dL_law_1661 dL_law_1662 ?_
  refine v_callV cb_12 (jk_c g6) (As := [.int (sx_ ka n 1)]) (rest := []) (jn_c g1 g2 g3 g4 w1 t1) yb_X11_used kw_1129 kw_1130 kw_1131 rfl ⟨Nat.le_of_ble_eq_true rfl, Nat.le_of_ble_eq_true rfl⟩ rfl (cat_len (Nat.le_of_ble_eq_true rfl)) dL_law_1663 ?_
  refine v_aload_n (x := some y) dL_law_1666 rfl 2 rfl ?_
  refine v_arg 4 0 1 (by decide) hb hN rfl rfl dL_law_1667 dL_law_1668 (by decide) dL_law_1670 dL_law_1671 dL_law_1672 ?_
  refine v_callV cb_16 (jk_m q1 g7) (As := [.int (sx_ ka n 1)]) (rest := [.int r]) (jn_m w1 b1 q1 rfl rfl w2 t2) yb_X15_used kw_2150 kw_2151 kw_2152 rfl ⟨Nat.le_of_ble_eq_true rfl, Nat.le_of_ble_eq_true rfl⟩ rfl (cat_len (Nat.le_of_ble_eq_true rfl)) dL_law_1673 ?_
  exact v_icmp_eq (tgt := 2144) (A := some ()) (B := none) (u := ()) (if_pos rfl) dL_law_1676 (by decide) (fun _ _ => k) (fun h9 _ => absurd rfl h9)
/-- what both sides owe of ask -/
def St_ask (ka : Nat → Nat) (x y : Nat) (Inv : Nat → TH → TH → Prop) : Prop := ∀ (n : Nat) (c m : TH) (a0 a1 : Int32), n < 512 → Inv n c m → ∃ (r : Int32) (c1 m1 : TH), f_X11_ask ka c x a0 a1 = some (r, c1) ∧ f_X15_ask (bm_ m c1) y a0 a1 = some (r, m1) ∧ wf_ c1 ∧ wf_ m1 ∧ Inv (n + 1) (bm_ c1 m1) m1
set_option maxHeartbeats 4000000 in
theorem lw_ask {l : Launch} {D : va_G} {cy : Nat → ClassId} {ka : Nat → Nat} {Qf : QF} {σ0 : TH} {Pz : TH → Prop} {x y o n0 s0 : Nat} {Inv : Nat → TH → TH → Prop} {n : Nat} {c m : TH} (hI : iv_ x y o n0 s0 Inv) (hS : St_ask ka x y Inv) (hn : n < 512) (hInv : Inv n c m) (hb : 10 * n + 10 ≤ ka 302) (hN : ka 302 ≤ 5120) (hk : ∀ c1 m1, Inv (n + 1) c1 m1 → ∃ z, Pz z ∧ lwv_ l D cy ka Qf σ0 z (jn_ c1 m1) 2144 (lwL_ ka x y o n) []) : ∃ z, Pz z ∧ lwv_ l D cy ka Qf σ0 z (jn_ c m) 1681 (lwL_ ka x y o n) [] := by
  obtain ⟨r, c1, m1, h1, h2, w1, w2, h3⟩ := hS n c m (sx_ ka n 1) (sx_ ka n 2) hn hInv
  obtain ⟨g1, g2, g3, g4, g5, g6, g7, -⟩ := hI n c m hInv
  obtain ⟨z, hP, k⟩ := hk _ _ h3
  refine ⟨z, hP, ?_⟩
  have t1 := c_X11_ask (l := l) (D := D) (cy := cy) (ka := ka) h1
  have t2 := c_X15_ask (l := l) (D := D) (cy := cy) (ka := ka) h2
  have q1 := sp_z g1 g2 g3 g4 w1 t1.1
  have b1 : wf_ (bm_ m c1) := wf_bm g2 (by rw [g4]; exact t1.1.1)
  refine v_aload_n (x := some x) dL_law_1681 rfl 3 rfl ?_
  refine v_arg 4 0 1 (by decide) hb hN rfl rfl dL_law_1682 dL_law_1683 (by decide) dL_law_1685 dL_law_1686 dL_law_1687 ?_
  refine v_arg 4 0 2 (by decide) hb hN rfl rfl dL_law_1688 dL_law_1689 (by decide) dL_law_1691 dL_law_1692 dL_law_1693 ?_
  refine v_callV cb_12 (jk_c g6) (As := [.int (sx_ ka n 1), .int (sx_ ka n 2)]) (rest := []) (jn_c g1 g2 g3 g4 w1 t1) yb_X11_ask kw_1133 kw_1134 kw_1135 rfl ⟨Nat.le_of_ble_eq_true rfl, Nat.le_of_ble_eq_true rfl⟩ rfl (cat_len (Nat.le_of_ble_eq_true rfl)) dL_law_1694 ?_
  refine v_aload_n (x := some y) dL_law_1697 rfl 2 rfl ?_
  refine v_arg 4 0 1 (by decide) hb hN rfl rfl dL_law_1698 dL_law_1699 (by decide) dL_law_1701 dL_law_1702 dL_law_1703 ?_
  refine v_arg 4 0 2 (by decide) hb hN rfl rfl dL_law_1704 dL_law_1705 (by decide) dL_law_1707 dL_law_1708 dL_law_1709 ?_
  refine v_callV cb_16 (jk_m q1 g7) (As := [.int (sx_ ka n 1), .int (sx_ ka n 2)]) (rest := [.int r]) (jn_m w1 b1 q1 rfl rfl w2 t2) yb_X15_ask kw_2154 kw_2155 kw_2156 rfl ⟨Nat.le_of_ble_eq_true rfl, Nat.le_of_ble_eq_true rfl⟩ rfl (cat_len (Nat.le_of_ble_eq_true rfl)) dL_law_1710 ?_
  exact v_icmp_eq (tgt := 2144) (A := some ()) (B := none) (u := ()) (if_pos rfl) dL_law_1713 (by decide) (fun _ _ => k) (fun h9 _ => absurd rfl h9)
/-- what both sides owe of answer -/
def St_answer (ka : Nat → Nat) (x y : Nat) (Inv : Nat → TH → TH → Prop) : Prop := ∀ (n : Nat) (c m : TH) (a0 a1 : Int32), n < 512 → Inv n c m → ∃ (r : Int32) (c1 m1 : TH), f_X11_answer c x a0 a1 = some (r, c1) ∧ f_X15_answer (bm_ m c1) y a0 a1 = some (r, m1) ∧ wf_ c1 ∧ wf_ m1 ∧ Inv (n + 1) (bm_ c1 m1) m1
set_option maxHeartbeats 4000000 in
theorem lw_answer {l : Launch} {D : va_G} {cy : Nat → ClassId} {ka : Nat → Nat} {Qf : QF} {σ0 : TH} {Pz : TH → Prop} {x y o n0 s0 : Nat} {Inv : Nat → TH → TH → Prop} {n : Nat} {c m : TH} (hI : iv_ x y o n0 s0 Inv) (hS : St_answer ka x y Inv) (hn : n < 512) (hInv : Inv n c m) (hb : 10 * n + 10 ≤ ka 302) (hN : ka 302 ≤ 5120) (hk : ∀ c1 m1, Inv (n + 1) c1 m1 → ∃ z, Pz z ∧ lwv_ l D cy ka Qf σ0 z (jn_ c1 m1) 2144 (lwL_ ka x y o n) []) : ∃ z, Pz z ∧ lwv_ l D cy ka Qf σ0 z (jn_ c m) 1718 (lwL_ ka x y o n) [] := by
  obtain ⟨r, c1, m1, h1, h2, w1, w2, h3⟩ := hS n c m (sx_ ka n 1) (sx_ ka n 2) hn hInv
  obtain ⟨g1, g2, g3, g4, g5, g6, g7, -⟩ := hI n c m hInv
  obtain ⟨z, hP, k⟩ := hk _ _ h3
  refine ⟨z, hP, ?_⟩
  have t1 := c_X11_answer (l := l) (D := D) (cy := cy) (ka := ka) h1
  have t2 := c_X15_answer (l := l) (D := D) (cy := cy) (ka := ka) h2
  have q1 := sp_z g1 g2 g3 g4 w1 t1.1
  have b1 : wf_ (bm_ m c1) := wf_bm g2 (by rw [g4]; exact t1.1.1)
  refine v_aload_n (x := some x) dL_law_1718 rfl 3 rfl ?_
  refine v_arg 4 0 1 (by decide) hb hN rfl rfl dL_law_1719 dL_law_1720 (by decide) dL_law_1722 dL_law_1723 dL_law_1724 ?_
  refine v_arg 4 0 2 (by decide) hb hN rfl rfl dL_law_1725 dL_law_1726 (by decide) dL_law_1728 dL_law_1729 dL_law_1730 ?_
  refine v_callV cb_12 (jk_c g6) (As := [.int (sx_ ka n 1), .int (sx_ ka n 2)]) (rest := []) (jn_c g1 g2 g3 g4 w1 t1) yb_X11_answer kw_1160 kw_1161 kw_1162 rfl ⟨Nat.le_of_ble_eq_true rfl, Nat.le_of_ble_eq_true rfl⟩ rfl (cat_len (Nat.le_of_ble_eq_true rfl)) dL_law_1731 ?_
  refine v_aload_n (x := some y) dL_law_1734 rfl 2 rfl ?_
  refine v_arg 4 0 1 (by decide) hb hN rfl rfl dL_law_1735 dL_law_1736 (by decide) dL_law_1738 dL_law_1739 dL_law_1740 ?_
  refine v_arg 4 0 2 (by decide) hb hN rfl rfl dL_law_1741 dL_law_1742 (by decide) dL_law_1744 dL_law_1745 dL_law_1746 ?_
  refine v_callV cb_16 (jk_m q1 g7) (As := [.int (sx_ ka n 1), .int (sx_ ka n 2)]) (rest := [.int r]) (jn_m w1 b1 q1 rfl rfl w2 t2) yb_X15_answer kw_2158 kw_2159 kw_2160 rfl ⟨Nat.le_of_ble_eq_true rfl, Nat.le_of_ble_eq_true rfl⟩ rfl (cat_len (Nat.le_of_ble_eq_true rfl)) dL_law_1747 ?_
  exact v_icmp_eq (tgt := 2144) (A := some ()) (B := none) (u := ()) (if_pos rfl) dL_law_1750 (by decide) (fun _ _ => k) (fun h9 _ => absurd rfl h9)
/-- what both sides owe of embargo -/
def St_embargo (ka : Nat → Nat) (x y : Nat) (Inv : Nat → TH → TH → Prop) : Prop := ∀ (n : Nat) (c m : TH) (a0 a1 a2 : Int32), n < 512 → Inv n c m → ∃ (r : Int32) (c1 m1 : TH), f_X11_embargo c x a0 a1 a2 = some (r, c1) ∧ f_X15_embargo (bm_ m c1) y a0 a1 a2 = some (r, m1) ∧ wf_ c1 ∧ wf_ m1 ∧ Inv (n + 1) (bm_ c1 m1) m1
set_option maxHeartbeats 4000000 in
theorem lw_embargo {l : Launch} {D : va_G} {cy : Nat → ClassId} {ka : Nat → Nat} {Qf : QF} {σ0 : TH} {Pz : TH → Prop} {x y o n0 s0 : Nat} {Inv : Nat → TH → TH → Prop} {n : Nat} {c m : TH} (hI : iv_ x y o n0 s0 Inv) (hS : St_embargo ka x y Inv) (hn : n < 512) (hInv : Inv n c m) (hb : 10 * n + 10 ≤ ka 302) (hN : ka 302 ≤ 5120) (hk : ∀ c1 m1, Inv (n + 1) c1 m1 → ∃ z, Pz z ∧ lwv_ l D cy ka Qf σ0 z (jn_ c1 m1) 2144 (lwL_ ka x y o n) []) : ∃ z, Pz z ∧ lwv_ l D cy ka Qf σ0 z (jn_ c m) 1755 (lwL_ ka x y o n) [] := by
  obtain ⟨r, c1, m1, h1, h2, w1, w2, h3⟩ := hS n c m (sx_ ka n 1) (sx_ ka n 2) (sx_ ka n 3) hn hInv
  obtain ⟨g1, g2, g3, g4, g5, g6, g7, -⟩ := hI n c m hInv
  obtain ⟨z, hP, k⟩ := hk _ _ h3
  refine ⟨z, hP, ?_⟩
  have t1 := c_X11_embargo (l := l) (D := D) (cy := cy) (ka := ka) h1
  have t2 := c_X15_embargo (l := l) (D := D) (cy := cy) (ka := ka) h2
  have q1 := sp_z g1 g2 g3 g4 w1 t1.1
  have b1 : wf_ (bm_ m c1) := wf_bm g2 (by rw [g4]; exact t1.1.1)
  refine v_aload_n (x := some x) dL_law_1755 rfl 3 rfl ?_
  refine v_arg 4 0 1 (by decide) hb hN rfl rfl dL_law_1756 dL_law_1757 (by decide) dL_law_1759 dL_law_1760 dL_law_1761 ?_
  refine v_arg 4 0 2 (by decide) hb hN rfl rfl dL_law_1762 dL_law_1763 (by decide) dL_law_1765 dL_law_1766 dL_law_1767 ?_
  refine v_arg 4 0 3 (by decide) hb hN rfl rfl dL_law_1768 dL_law_1769 (by decide) dL_law_1771 dL_law_1772 dL_law_1773 ?_
  refine v_callV cb_12 (jk_c g6) (As := [.int (sx_ ka n 1), .int (sx_ ka n 2), .int (sx_ ka n 3)]) (rest := []) (jn_c g1 g2 g3 g4 w1 t1) yb_X11_embargo kw_1164 kw_1165 kw_1166 rfl ⟨Nat.le_of_ble_eq_true rfl, Nat.le_of_ble_eq_true rfl⟩ rfl (cat_len (Nat.le_of_ble_eq_true rfl)) dL_law_1774 ?_
  refine v_aload_n (x := some y) dL_law_1777 rfl 2 rfl ?_
  refine v_arg 4 0 1 (by decide) hb hN rfl rfl dL_law_1778 dL_law_1779 (by decide) dL_law_1781 dL_law_1782 dL_law_1783 ?_
  refine v_arg 4 0 2 (by decide) hb hN rfl rfl dL_law_1784 dL_law_1785 (by decide) dL_law_1787 dL_law_1788 dL_law_1789 ?_
  refine v_arg 4 0 3 (by decide) hb hN rfl rfl dL_law_1790 dL_law_1791 (by decide) dL_law_1793 dL_law_1794 dL_law_1795 ?_
  refine v_callV cb_16 (jk_m q1 g7) (As := [.int (sx_ ka n 1), .int (sx_ ka n 2), .int (sx_ ka n 3)]) (rest := [.int r]) (jn_m w1 b1 q1 rfl rfl w2 t2) yb_X15_embargo kw_2162 kw_2163 kw_2164 rfl ⟨Nat.le_of_ble_eq_true rfl, Nat.le_of_ble_eq_true rfl⟩ rfl (cat_len (Nat.le_of_ble_eq_true rfl)) dL_law_1796 ?_
  exact v_icmp_eq (tgt := 2144) (A := some ()) (B := none) (u := ()) (if_pos rfl) dL_law_1799 (by decide) (fun _ _ => k) (fun h9 _ => absurd rfl h9)
/-- what both sides owe of edition -/
def St_edition (ka : Nat → Nat) (x y : Nat) (Inv : Nat → TH → TH → Prop) : Prop := ∀ (n : Nat) (c m : TH) (a0 a1 a2 : Int32), n < 512 → Inv n c m → ∃ (r : Int32) (c1 m1 : TH), f_X11_edition ka c x a0 a1 (zo_ a2) = some (r, c1) ∧ f_X15_edition (bm_ m c1) y a0 a1 (zo_ a2) = some (r, m1) ∧ wf_ c1 ∧ wf_ m1 ∧ Inv (n + 1) (bm_ c1 m1) m1
set_option maxHeartbeats 4000000 in
theorem lw_edition {l : Launch} {D : va_G} {cy : Nat → ClassId} {ka : Nat → Nat} {Qf : QF} {σ0 : TH} {Pz : TH → Prop} {x y o n0 s0 : Nat} {Inv : Nat → TH → TH → Prop} {n : Nat} {c m : TH} (hI : iv_ x y o n0 s0 Inv) (hS : St_edition ka x y Inv) (hn : n < 512) (hInv : Inv n c m) (hb : 10 * n + 10 ≤ ka 302) (hN : ka 302 ≤ 5120) (hk : ∀ c1 m1, Inv (n + 1) c1 m1 → ∃ z, Pz z ∧ lwv_ l D cy ka Qf σ0 z (jn_ c1 m1) 2144 (lwL_ ka x y o n) []) : ∃ z, Pz z ∧ lwv_ l D cy ka Qf σ0 z (jn_ c m) 1804 (lwL_ ka x y o n) [] := by
  obtain ⟨r, c1, m1, h1, h2, w1, w2, h3⟩ := hS n c m (sx_ ka n 1) (sx_ ka n 2) (sx_ ka n 3) hn hInv
  obtain ⟨g1, g2, g3, g4, g5, g6, g7, -⟩ := hI n c m hInv
  obtain ⟨z, hP, k⟩ := hk _ _ h3
  refine ⟨z, hP, ?_⟩
  have t1 := c_X11_edition (l := l) (D := D) (cy := cy) (ka := ka) h1
  have t2 := c_X15_edition (l := l) (D := D) (cy := cy) (ka := ka) h2
  have q1 := sp_z g1 g2 g3 g4 w1 t1.1
  have b1 : wf_ (bm_ m c1) := wf_bm g2 (by rw [g4]; exact t1.1.1)
  refine v_aload_n (x := some x) dL_law_1804 rfl 3 rfl ?_
  refine v_arg 4 0 1 (by decide) hb hN rfl rfl dL_law_1805 dL_law_1806 (by decide) dL_law_1808 dL_law_1809 dL_law_1810 ?_
  refine v_arg 4 0 2 (by decide) hb hN rfl rfl dL_law_1811 dL_law_1812 (by decide) dL_law_1814 dL_law_1815 dL_law_1816 ?_
  refine v_arg 4 0 3 (by decide) hb hN rfl rfl dL_law_1817 dL_law_1818 (by decide) dL_law_1820 dL_law_1821 dL_law_1822 ?_
  refine v_bool (pc2 := 1830) (pc3 := 1831) dL_law_1823 dL_law_1826 dL_law_1827 dL_law_1830 rfl rfl ?_
  refine v_callV cb_12 (jk_c g6) (As := [.int (sx_ ka n 1), .int (sx_ ka n 2), .int (zo_ (sx_ ka n 3))]) (rest := []) (jn_c g1 g2 g3 g4 w1 t1) yb_X11_edition kw_1168 kw_1169 kw_1170 rfl ⟨Nat.le_of_ble_eq_true rfl, Nat.le_of_ble_eq_true rfl⟩ rfl (cat_len (Nat.le_of_ble_eq_true rfl)) dL_law_1831 ?_
  refine v_aload_n (x := some y) dL_law_1834 rfl 2 rfl ?_
  refine v_arg 4 0 1 (by decide) hb hN rfl rfl dL_law_1835 dL_law_1836 (by decide) dL_law_1838 dL_law_1839 dL_law_1840 ?_
  refine v_arg 4 0 2 (by decide) hb hN rfl rfl dL_law_1841 dL_law_1842 (by decide) dL_law_1844 dL_law_1845 dL_law_1846 ?_
  refine v_arg 4 0 3 (by decide) hb hN rfl rfl dL_law_1847 dL_law_1848 (by decide) dL_law_1850 dL_law_1851 dL_law_1852 ?_
  refine v_bool (pc2 := 1860) (pc3 := 1861) dL_law_1853 dL_law_1856 dL_law_1857 dL_law_1860 rfl rfl ?_
  refine v_callV cb_16 (jk_m q1 g7) (As := [.int (sx_ ka n 1), .int (sx_ ka n 2), .int (zo_ (sx_ ka n 3))]) (rest := [.int r]) (jn_m w1 b1 q1 rfl rfl w2 t2) yb_X15_edition kw_2166 kw_2167 kw_2168 rfl ⟨Nat.le_of_ble_eq_true rfl, Nat.le_of_ble_eq_true rfl⟩ rfl (cat_len (Nat.le_of_ble_eq_true rfl)) dL_law_1861 ?_
  exact v_icmp_eq (tgt := 2144) (A := some ()) (B := none) (u := ()) (if_pos rfl) dL_law_1864 (by decide) (fun _ _ => k) (fun h9 _ => absurd rfl h9)
/-- what both sides owe of editionOf -/
def St_editionOf (ka : Nat → Nat) (x y : Nat) (Inv : Nat → TH → TH → Prop) : Prop := ∀ (n : Nat) (c m : TH) (a0 a1 : Int32), n < 512 → Inv n c m → ∃ (r : Int32) (c1 m1 : TH), f_X11_editionOf c x a0 a1 = some (r, c1) ∧ f_X15_editionOf (bm_ m c1) y a0 a1 = some (r, m1) ∧ wf_ c1 ∧ wf_ m1 ∧ Inv (n + 1) (bm_ c1 m1) m1
set_option maxHeartbeats 4000000 in
theorem lw_editionOf {l : Launch} {D : va_G} {cy : Nat → ClassId} {ka : Nat → Nat} {Qf : QF} {σ0 : TH} {Pz : TH → Prop} {x y o n0 s0 : Nat} {Inv : Nat → TH → TH → Prop} {n : Nat} {c m : TH} (hI : iv_ x y o n0 s0 Inv) (hS : St_editionOf ka x y Inv) (hn : n < 512) (hInv : Inv n c m) (hb : 10 * n + 10 ≤ ka 302) (hN : ka 302 ≤ 5120) (hk : ∀ c1 m1, Inv (n + 1) c1 m1 → ∃ z, Pz z ∧ lwv_ l D cy ka Qf σ0 z (jn_ c1 m1) 2144 (lwL_ ka x y o n) []) : ∃ z, Pz z ∧ lwv_ l D cy ka Qf σ0 z (jn_ c m) 1869 (lwL_ ka x y o n) [] := by
  obtain ⟨r, c1, m1, h1, h2, w1, w2, h3⟩ := hS n c m (sx_ ka n 1) (sx_ ka n 2) hn hInv
  obtain ⟨g1, g2, g3, g4, g5, g6, g7, -⟩ := hI n c m hInv
  obtain ⟨z, hP, k⟩ := hk _ _ h3
  refine ⟨z, hP, ?_⟩
  have t1 := c_X11_editionOf (l := l) (D := D) (cy := cy) (ka := ka) h1
  have t2 := c_X15_editionOf (l := l) (D := D) (cy := cy) (ka := ka) h2
  have q1 := sp_z g1 g2 g3 g4 w1 t1.1
  have b1 : wf_ (bm_ m c1) := wf_bm g2 (by rw [g4]; exact t1.1.1)
  refine v_aload_n (x := some x) dL_law_1869 rfl 3 rfl ?_
  refine v_arg 4 0 1 (by decide) hb hN rfl rfl dL_law_1870 dL_law_1871 (by decide) dL_law_1873 dL_law_1874 dL_law_1875 ?_
  refine v_arg 4 0 2 (by decide) hb hN rfl rfl dL_law_1876 dL_law_1877 (by decide) dL_law_1879 dL_law_1880 dL_law_1881 ?_
  refine v_callV cb_12 (jk_c g6) (As := [.int (sx_ ka n 1), .int (sx_ ka n 2)]) (rest := []) (jn_c g1 g2 g3 g4 w1 t1) yb_X11_editionOf kw_1239 kw_1240 kw_1241 rfl ⟨Nat.le_of_ble_eq_true rfl, Nat.le_of_ble_eq_true rfl⟩ rfl (cat_len (Nat.le_of_ble_eq_true rfl)) dL_law_1882 ?_
  refine v_aload_n (x := some y) dL_law_1885 rfl 2 rfl ?_
  refine v_arg 4 0 1 (by decide) hb hN rfl rfl dL_law_1886 dL_law_1887 (by decide) dL_law_1889 dL_law_1890 dL_law_1891 ?_
  refine v_arg 4 0 2 (by decide) hb hN rfl rfl dL_law_1892 dL_law_1893 (by decide) dL_law_1895 dL_law_1896 dL_law_1897 ?_
  refine v_callV cb_16 (jk_m q1 g7) (As := [.int (sx_ ka n 1), .int (sx_ ka n 2)]) (rest := [.int r]) (jn_m w1 b1 q1 rfl rfl w2 t2) yb_X15_editionOf kw_2215 kw_2216 kw_2217 rfl ⟨Nat.le_of_ble_eq_true rfl, Nat.le_of_ble_eq_true rfl⟩ rfl (cat_len (Nat.le_of_ble_eq_true rfl)) dL_law_1898 ?_
  exact v_icmp_eq (tgt := 2144) (A := some ()) (B := none) (u := ()) (if_pos rfl) dL_law_1901 (by decide) (fun _ _ => k) (fun h9 _ => absurd rfl h9)
/-- what both sides owe of wrong -/
def St_wrong (ka : Nat → Nat) (x y : Nat) (Inv : Nat → TH → TH → Prop) : Prop := ∀ (n : Nat) (c m : TH) (a0 : Int32), n < 512 → Inv n c m → ∃ (r : Int32) (c1 m1 : TH), f_X11_wrong c x a0 = some (r, c1) ∧ f_X15_wrong (bm_ m c1) y a0 = some (r, m1) ∧ wf_ c1 ∧ wf_ m1 ∧ Inv (n + 1) (bm_ c1 m1) m1
set_option maxHeartbeats 4000000 in
theorem lw_wrong {l : Launch} {D : va_G} {cy : Nat → ClassId} {ka : Nat → Nat} {Qf : QF} {σ0 : TH} {Pz : TH → Prop} {x y o n0 s0 : Nat} {Inv : Nat → TH → TH → Prop} {n : Nat} {c m : TH} (hI : iv_ x y o n0 s0 Inv) (hS : St_wrong ka x y Inv) (hn : n < 512) (hInv : Inv n c m) (hb : 10 * n + 10 ≤ ka 302) (hN : ka 302 ≤ 5120) (hk : ∀ c1 m1, Inv (n + 1) c1 m1 → ∃ z, Pz z ∧ lwv_ l D cy ka Qf σ0 z (jn_ c1 m1) 2144 (lwL_ ka x y o n) []) : ∃ z, Pz z ∧ lwv_ l D cy ka Qf σ0 z (jn_ c m) 1906 (lwL_ ka x y o n) [] := by
  obtain ⟨r, c1, m1, h1, h2, w1, w2, h3⟩ := hS n c m (sx_ ka n 1) hn hInv
  obtain ⟨g1, g2, g3, g4, g5, g6, g7, -⟩ := hI n c m hInv
  obtain ⟨z, hP, k⟩ := hk _ _ h3
  refine ⟨z, hP, ?_⟩
  have t1 := c_X11_wrong (l := l) (D := D) (cy := cy) (ka := ka) h1
  have t2 := c_X15_wrong (l := l) (D := D) (cy := cy) (ka := ka) h2
  have q1 := sp_z g1 g2 g3 g4 w1 t1.1
  have b1 : wf_ (bm_ m c1) := wf_bm g2 (by rw [g4]; exact t1.1.1)
  refine v_aload_n (x := some x) dL_law_1906 rfl 3 rfl ?_
  refine v_arg 4 0 1 (by decide) hb hN rfl rfl dL_law_1907 dL_law_1908 (by decide) dL_law_1910 dL_law_1911 dL_law_1912 ?_
  refine v_callV cb_12 (jk_c g6) (As := [.int (sx_ ka n 1)]) (rest := []) (jn_c g1 g2 g3 g4 w1 t1) yb_X11_wrong kw_1247 kw_1248 kw_1249 rfl ⟨Nat.le_of_ble_eq_true rfl, Nat.le_of_ble_eq_true rfl⟩ rfl (cat_len (Nat.le_of_ble_eq_true rfl)) dL_law_1913 ?_
  refine v_aload_n (x := some y) dL_law_1916 rfl 2 rfl ?_
  refine v_arg 4 0 1 (by decide) hb hN rfl rfl dL_law_1917 dL_law_1918 (by decide) dL_law_1920 dL_law_1921 dL_law_1922 ?_
  refine v_callV cb_16 (jk_m q1 g7) (As := [.int (sx_ ka n 1)]) (rest := [.int r]) (jn_m w1 b1 q1 rfl rfl w2 t2) yb_X15_wrong kw_2223 kw_2224 kw_2225 rfl ⟨Nat.le_of_ble_eq_true rfl, Nat.le_of_ble_eq_true rfl⟩ rfl (cat_len (Nat.le_of_ble_eq_true rfl)) dL_law_1923 ?_
  exact v_icmp_eq (tgt := 2144) (A := some ()) (B := none) (u := ()) (if_pos rfl) dL_law_1926 (by decide) (fun _ _ => k) (fun h9 _ => absurd rfl h9)
/-- what both sides owe of correct -/
def St_correct (ka : Nat → Nat) (x y : Nat) (Inv : Nat → TH → TH → Prop) : Prop := ∀ (n : Nat) (c m : TH) (a0 a1 : Int32), n < 512 → Inv n c m → ∃ (r : Int32) (c1 m1 : TH), f_X11_correct c x a0 a1 = some (r, c1) ∧ f_X15_correct (bm_ m c1) y a0 a1 = some (r, m1) ∧ wf_ c1 ∧ wf_ m1 ∧ Inv (n + 1) (bm_ c1 m1) m1
set_option maxHeartbeats 4000000 in
theorem lw_correct {l : Launch} {D : va_G} {cy : Nat → ClassId} {ka : Nat → Nat} {Qf : QF} {σ0 : TH} {Pz : TH → Prop} {x y o n0 s0 : Nat} {Inv : Nat → TH → TH → Prop} {n : Nat} {c m : TH} (hI : iv_ x y o n0 s0 Inv) (hS : St_correct ka x y Inv) (hn : n < 512) (hInv : Inv n c m) (hb : 10 * n + 10 ≤ ka 302) (hN : ka 302 ≤ 5120) (hk : ∀ c1 m1, Inv (n + 1) c1 m1 → ∃ z, Pz z ∧ lwv_ l D cy ka Qf σ0 z (jn_ c1 m1) 2144 (lwL_ ka x y o n) []) : ∃ z, Pz z ∧ lwv_ l D cy ka Qf σ0 z (jn_ c m) 1931 (lwL_ ka x y o n) [] := by
  obtain ⟨r, c1, m1, h1, h2, w1, w2, h3⟩ := hS n c m (sx_ ka n 1) (sx_ ka n 2) hn hInv
  obtain ⟨g1, g2, g3, g4, g5, g6, g7, -⟩ := hI n c m hInv
  obtain ⟨z, hP, k⟩ := hk _ _ h3
  refine ⟨z, hP, ?_⟩
  have t1 := c_X11_correct (l := l) (D := D) (cy := cy) (ka := ka) h1
  have t2 := c_X15_correct (l := l) (D := D) (cy := cy) (ka := ka) h2
  have q1 := sp_z g1 g2 g3 g4 w1 t1.1
  have b1 : wf_ (bm_ m c1) := wf_bm g2 (by rw [g4]; exact t1.1.1)
  refine v_aload_n (x := some x) dL_law_1931 rfl 3 rfl ?_
  refine v_arg 4 0 1 (by decide) hb hN rfl rfl dL_law_1932 dL_law_1933 (by decide) dL_law_1935 dL_law_1936 dL_law_1937 ?_
  refine v_arg 4 0 2 (by decide) hb hN rfl rfl dL_law_1938 dL_law_1939 (by decide) dL_law_1941 dL_law_1942 dL_law_1943 ?_
  refine v_callV cb_12 (jk_c g6) (As := [.int (sx_ ka n 1), .int (sx_ ka n 2)]) (rest := []) (jn_c g1 g2 g3 g4 w1 t1) yb_X11_correct kw_1259 kw_1260 kw_1261 rfl ⟨Nat.le_of_ble_eq_true rfl, Nat.le_of_ble_eq_true rfl⟩ rfl (cat_len (Nat.le_of_ble_eq_true rfl)) dL_law_1944 ?_
  refine v_aload_n (x := some y) dL_law_1947 rfl 2 rfl ?_
  refine v_arg 4 0 1 (by decide) hb hN rfl rfl dL_law_1948 dL_law_1949 (by decide) dL_law_1951 dL_law_1952 dL_law_1953 ?_
  refine v_arg 4 0 2 (by decide) hb hN rfl rfl dL_law_1954 dL_law_1955 (by decide) dL_law_1957 dL_law_1958 dL_law_1959 ?_
  refine v_callV cb_16 (jk_m q1 g7) (As := [.int (sx_ ka n 1), .int (sx_ ka n 2)]) (rest := [.int r]) (jn_m w1 b1 q1 rfl rfl w2 t2) yb_X15_correct kw_2231 kw_2232 kw_2233 rfl ⟨Nat.le_of_ble_eq_true rfl, Nat.le_of_ble_eq_true rfl⟩ rfl (cat_len (Nat.le_of_ble_eq_true rfl)) dL_law_1960 ?_
  exact v_icmp_eq (tgt := 2144) (A := some ()) (B := none) (u := ()) (if_pos rfl) dL_law_1963 (by decide) (fun _ _ => k) (fun h9 _ => absurd rfl h9)
/-- what both sides owe of said -/
def St_said (ka : Nat → Nat) (x y : Nat) (Inv : Nat → TH → TH → Prop) : Prop := ∀ (n : Nat) (c m : TH) (a0 a1 : Int32), n < 512 → Inv n c m → ∃ (r : Int32) (c1 m1 : TH), f_X11_said c x a0 a1 = some (r, c1) ∧ f_X15_said (bm_ m c1) y a0 a1 = some (r, m1) ∧ wf_ c1 ∧ wf_ m1 ∧ Inv (n + 1) (bm_ c1 m1) m1
set_option maxHeartbeats 4000000 in
theorem lw_said {l : Launch} {D : va_G} {cy : Nat → ClassId} {ka : Nat → Nat} {Qf : QF} {σ0 : TH} {Pz : TH → Prop} {x y o n0 s0 : Nat} {Inv : Nat → TH → TH → Prop} {n : Nat} {c m : TH} (hI : iv_ x y o n0 s0 Inv) (hS : St_said ka x y Inv) (hn : n < 512) (hInv : Inv n c m) (hb : 10 * n + 10 ≤ ka 302) (hN : ka 302 ≤ 5120) (hk : ∀ c1 m1, Inv (n + 1) c1 m1 → ∃ z, Pz z ∧ lwv_ l D cy ka Qf σ0 z (jn_ c1 m1) 2144 (lwL_ ka x y o n) []) : ∃ z, Pz z ∧ lwv_ l D cy ka Qf σ0 z (jn_ c m) 1968 (lwL_ ka x y o n) [] := by
  obtain ⟨r, c1, m1, h1, h2, w1, w2, h3⟩ := hS n c m (sx_ ka n 1) (sx_ ka n 2) hn hInv
  obtain ⟨g1, g2, g3, g4, g5, g6, g7, -⟩ := hI n c m hInv
  obtain ⟨z, hP, k⟩ := hk _ _ h3
  refine ⟨z, hP, ?_⟩
  have t1 := c_X11_said (l := l) (D := D) (cy := cy) (ka := ka) h1
  have t2 := c_X15_said (l := l) (D := D) (cy := cy) (ka := ka) h2
  have q1 := sp_z g1 g2 g3 g4 w1 t1.1
  have b1 : wf_ (bm_ m c1) := wf_bm g2 (by rw [g4]; exact t1.1.1)
  refine v_aload_n (x := some x) dL_law_1968 rfl 3 rfl ?_
  refine v_arg 4 0 1 (by decide) hb hN rfl rfl dL_law_1969 dL_law_1970 (by decide) dL_law_1972 dL_law_1973 dL_law_1974 ?_
  refine v_arg 4 0 2 (by decide) hb hN rfl rfl dL_law_1975 dL_law_1976 (by decide) dL_law_1978 dL_law_1979 dL_law_1980 ?_
  refine v_callV cb_12 (jk_c g6) (As := [.int (sx_ ka n 1), .int (sx_ ka n 2)]) (rest := []) (jn_c g1 g2 g3 g4 w1 t1) yb_X11_said kw_1263 kw_1264 kw_1265 rfl ⟨Nat.le_of_ble_eq_true rfl, Nat.le_of_ble_eq_true rfl⟩ rfl (cat_len (Nat.le_of_ble_eq_true rfl)) dL_law_1981 ?_
  refine v_aload_n (x := some y) dL_law_1984 rfl 2 rfl ?_
  refine v_arg 4 0 1 (by decide) hb hN rfl rfl dL_law_1985 dL_law_1986 (by decide) dL_law_1988 dL_law_1989 dL_law_1990 ?_
  refine v_arg 4 0 2 (by decide) hb hN rfl rfl dL_law_1991 dL_law_1992 (by decide) dL_law_1994 dL_law_1995 dL_law_1996 ?_
  refine v_callV cb_16 (jk_m q1 g7) (As := [.int (sx_ ka n 1), .int (sx_ ka n 2)]) (rest := [.int r]) (jn_m w1 b1 q1 rfl rfl w2 t2) yb_X15_said kw_2235 kw_2236 kw_2237 rfl ⟨Nat.le_of_ble_eq_true rfl, Nat.le_of_ble_eq_true rfl⟩ rfl (cat_len (Nat.le_of_ble_eq_true rfl)) dL_law_1997 ?_
  exact v_icmp_eq (tgt := 2144) (A := some ()) (B := none) (u := ()) (if_pos rfl) dL_law_2000 (by decide) (fun _ _ => k) (fun h9 _ => absurd rfl h9)
/-- what both sides owe of week -/
def St_week (ka : Nat → Nat) (x y : Nat) (Inv : Nat → TH → TH → Prop) : Prop := ∀ (n : Nat) (c m : TH) (a0 : Int32), n < 512 → Inv n c m → ∃ (r : Int32) (c1 m1 : TH), f_X11_week ka c x a0 = some (r, c1) ∧ f_X15_week (bm_ m c1) y a0 = some (r, m1) ∧ wf_ c1 ∧ wf_ m1 ∧ Inv (n + 1) (bm_ c1 m1) m1
set_option maxHeartbeats 4000000 in
theorem lw_week {l : Launch} {D : va_G} {cy : Nat → ClassId} {ka : Nat → Nat} {Qf : QF} {σ0 : TH} {Pz : TH → Prop} {x y o n0 s0 : Nat} {Inv : Nat → TH → TH → Prop} {n : Nat} {c m : TH} (hI : iv_ x y o n0 s0 Inv) (hS : St_week ka x y Inv) (hn : n < 512) (hInv : Inv n c m) (hb : 10 * n + 10 ≤ ka 302) (hN : ka 302 ≤ 5120) (hk : ∀ c1 m1, Inv (n + 1) c1 m1 → ∃ z, Pz z ∧ lwv_ l D cy ka Qf σ0 z (jn_ c1 m1) 2144 (lwL_ ka x y o n) []) : ∃ z, Pz z ∧ lwv_ l D cy ka Qf σ0 z (jn_ c m) 2005 (lwL_ ka x y o n) [] := by
  obtain ⟨r, c1, m1, h1, h2, w1, w2, h3⟩ := hS n c m (sx_ ka n 1) hn hInv
  obtain ⟨g1, g2, g3, g4, g5, g6, g7, -⟩ := hI n c m hInv
  obtain ⟨z, hP, k⟩ := hk _ _ h3
  refine ⟨z, hP, ?_⟩
  have t1 := c_X11_week (l := l) (D := D) (cy := cy) (ka := ka) h1
  have t2 := c_X15_week (l := l) (D := D) (cy := cy) (ka := ka) h2
  have q1 := sp_z g1 g2 g3 g4 w1 t1.1
  have b1 : wf_ (bm_ m c1) := wf_bm g2 (by rw [g4]; exact t1.1.1)
  refine v_aload_n (x := some x) dL_law_2005 rfl 3 rfl ?_
  refine v_arg 4 0 1 (by decide) hb hN rfl rfl dL_law_2006 dL_law_2007 (by decide) dL_law_2009 dL_law_2010 dL_law_2011 ?_
  refine v_callV cb_12 (jk_c g6) (As := [.int (sx_ ka n 1)]) (rest := []) (jn_c g1 g2 g3 g4 w1 t1) yb_X11_week kw_1267 kw_1268 kw_1269 rfl ⟨Nat.le_of_ble_eq_true rfl, Nat.le_of_ble_eq_true rfl⟩ rfl (cat_len (Nat.le_of_ble_eq_true rfl)) dL_law_2012 ?_
  refine v_aload_n (x := some y) dL_law_2015 rfl 2 rfl ?_
  refine v_arg 4 0 1 (by decide) hb hN rfl rfl dL_law_2016 dL_law_2017 (by decide) dL_law_2019 dL_law_2020 dL_law_2021 ?_
  refine v_callV cb_16 (jk_m q1 g7) (As := [.int (sx_ ka n 1)]) (rest := [.int r]) (jn_m w1 b1 q1 rfl rfl w2 t2) yb_X15_week kw_2239 kw_2240 kw_2241 rfl ⟨Nat.le_of_ble_eq_true rfl, Nat.le_of_ble_eq_true rfl⟩ rfl (cat_len (Nat.le_of_ble_eq_true rfl)) dL_law_2022 ?_
  exact v_icmp_eq (tgt := 2144) (A := some ()) (B := none) (u := ()) (if_pos rfl) dL_law_2025 (by decide) (fun _ _ => k) (fun h9 _ => absurd rfl h9)
/-- what both sides owe of fresh -/
def St_fresh (ka : Nat → Nat) (x y : Nat) (Inv : Nat → TH → TH → Prop) : Prop := ∀ (n : Nat) (c m : TH) (a0 : Int32), n < 512 → Inv n c m → ∃ (r : Int32) (c1 m1 : TH), f_X11_fresh c x a0 = some (r, c1) ∧ f_X15_fresh (bm_ m c1) y a0 = some (r, m1) ∧ wf_ c1 ∧ wf_ m1 ∧ Inv (n + 1) (bm_ c1 m1) m1
set_option maxHeartbeats 4000000 in
theorem lw_fresh {l : Launch} {D : va_G} {cy : Nat → ClassId} {ka : Nat → Nat} {Qf : QF} {σ0 : TH} {Pz : TH → Prop} {x y o n0 s0 : Nat} {Inv : Nat → TH → TH → Prop} {n : Nat} {c m : TH} (hI : iv_ x y o n0 s0 Inv) (hS : St_fresh ka x y Inv) (hn : n < 512) (hInv : Inv n c m) (hb : 10 * n + 10 ≤ ka 302) (hN : ka 302 ≤ 5120) (hk : ∀ c1 m1, Inv (n + 1) c1 m1 → ∃ z, Pz z ∧ lwv_ l D cy ka Qf σ0 z (jn_ c1 m1) 2144 (lwL_ ka x y o n) []) : ∃ z, Pz z ∧ lwv_ l D cy ka Qf σ0 z (jn_ c m) 2030 (lwL_ ka x y o n) [] := by
  obtain ⟨r, c1, m1, h1, h2, w1, w2, h3⟩ := hS n c m (sx_ ka n 1) hn hInv
  obtain ⟨g1, g2, g3, g4, g5, g6, g7, -⟩ := hI n c m hInv
  obtain ⟨z, hP, k⟩ := hk _ _ h3
  refine ⟨z, hP, ?_⟩
  have t1 := c_X11_fresh (l := l) (D := D) (cy := cy) (ka := ka) h1
  have t2 := c_X15_fresh (l := l) (D := D) (cy := cy) (ka := ka) h2
  have q1 := sp_z g1 g2 g3 g4 w1 t1.1
  have b1 : wf_ (bm_ m c1) := wf_bm g2 (by rw [g4]; exact t1.1.1)
  refine v_aload_n (x := some x) dL_law_2030 rfl 3 rfl ?_
  refine v_arg 4 0 1 (by decide) hb hN rfl rfl dL_law_2031 dL_law_2032 (by decide) dL_law_2034 dL_law_2035 dL_law_2036 ?_
  refine v_callV cb_12 (jk_c g6) (As := [.int (sx_ ka n 1)]) (rest := []) (jn_c g1 g2 g3 g4 w1 t1) yb_X11_fresh kw_1306 kw_1307 kw_1308 rfl ⟨Nat.le_of_ble_eq_true rfl, Nat.le_of_ble_eq_true rfl⟩ rfl (cat_len (Nat.le_of_ble_eq_true rfl)) dL_law_2037 ?_
  refine v_aload_n (x := some y) dL_law_2040 rfl 2 rfl ?_
  refine v_arg 4 0 1 (by decide) hb hN rfl rfl dL_law_2041 dL_law_2042 (by decide) dL_law_2044 dL_law_2045 dL_law_2046 ?_
  refine v_callV cb_16 (jk_m q1 g7) (As := [.int (sx_ ka n 1)]) (rest := [.int r]) (jn_m w1 b1 q1 rfl rfl w2 t2) yb_X15_fresh kw_2259 kw_2260 kw_2261 rfl ⟨Nat.le_of_ble_eq_true rfl, Nat.le_of_ble_eq_true rfl⟩ rfl (cat_len (Nat.le_of_ble_eq_true rfl)) dL_law_2047 ?_
  exact v_icmp_eq (tgt := 2144) (A := some ()) (B := none) (u := ()) (if_pos rfl) dL_law_2050 (by decide) (fun _ _ => k) (fun h9 _ => absurd rfl h9)
/-- what both sides owe of takes -/
def St_takes (ka : Nat → Nat) (x y : Nat) (Inv : Nat → TH → TH → Prop) : Prop := ∀ (n : Nat) (c m : TH), n < 512 → Inv n c m → ∃ (r : Int32) (c1 m1 : TH), f_X11_takes c x  = some (r, c1) ∧ f_X15_takes (bm_ m c1) y  = some (r, m1) ∧ wf_ c1 ∧ wf_ m1 ∧ Inv (n + 1) (bm_ c1 m1) m1
set_option maxHeartbeats 4000000 in
theorem lw_takes {l : Launch} {D : va_G} {cy : Nat → ClassId} {ka : Nat → Nat} {Qf : QF} {σ0 : TH} {Pz : TH → Prop} {x y o n0 s0 : Nat} {Inv : Nat → TH → TH → Prop} {n : Nat} {c m : TH} (hI : iv_ x y o n0 s0 Inv) (hS : St_takes ka x y Inv) (hn : n < 512) (hInv : Inv n c m) (hb : 10 * n + 10 ≤ ka 302) (hN : ka 302 ≤ 5120) (hk : ∀ c1 m1, Inv (n + 1) c1 m1 → ∃ z, Pz z ∧ lwv_ l D cy ka Qf σ0 z (jn_ c1 m1) 2144 (lwL_ ka x y o n) []) : ∃ z, Pz z ∧ lwv_ l D cy ka Qf σ0 z (jn_ c m) 2055 (lwL_ ka x y o n) [] := by
  obtain ⟨r, c1, m1, h1, h2, w1, w2, h3⟩ := hS n c m  hn hInv
  obtain ⟨g1, g2, g3, g4, g5, g6, g7, -⟩ := hI n c m hInv
  obtain ⟨z, hP, k⟩ := hk _ _ h3
  refine ⟨z, hP, ?_⟩
  have t1 := c_X11_takes (l := l) (D := D) (cy := cy) (ka := ka) h1
  have t2 := c_X15_takes (l := l) (D := D) (cy := cy) (ka := ka) h2
  have q1 := sp_z g1 g2 g3 g4 w1 t1.1
  have b1 : wf_ (bm_ m c1) := wf_bm g2 (by rw [g4]; exact t1.1.1)
  refine v_aload_n (x := some x) dL_law_2055 rfl 3 rfl ?_
  refine v_callV cb_12 (jk_c g6) (As := []) (rest := []) (jn_c g1 g2 g3 g4 w1 t1) yb_X11_takes kw_1310 kw_1311 kw_1312 rfl ⟨Nat.le_of_ble_eq_true rfl, Nat.le_of_ble_eq_true rfl⟩ rfl (cat_len (Nat.le_of_ble_eq_true rfl)) dL_law_2056 ?_
  refine v_aload_n (x := some y) dL_law_2059 rfl 2 rfl ?_
  refine v_callV cb_16 (jk_m q1 g7) (As := []) (rest := [.int r]) (jn_m w1 b1 q1 rfl rfl w2 t2) yb_X15_takes kw_2263 kw_2264 kw_2265 rfl ⟨Nat.le_of_ble_eq_true rfl, Nat.le_of_ble_eq_true rfl⟩ rfl (cat_len (Nat.le_of_ble_eq_true rfl)) dL_law_2060 ?_
  exact v_icmp_eq (tgt := 2144) (A := some ()) (B := none) (u := ()) (if_pos rfl) dL_law_2063 (by decide) (fun _ _ => k) (fun h9 _ => absurd rfl h9)
/-- what both sides owe of freshen -/
def St_freshen (ka : Nat → Nat) (x y : Nat) (Inv : Nat → TH → TH → Prop) : Prop := ∀ (n : Nat) (c m : TH), n < 512 → Inv n c m → ∃ (r : Int32) (c1 m1 : TH), f_X11_freshen c x  = some (r, c1) ∧ f_X15_freshen (bm_ m c1) y  = some (r, m1) ∧ wf_ c1 ∧ wf_ m1 ∧ Inv (n + 1) (bm_ c1 m1) m1
set_option maxHeartbeats 4000000 in
theorem lw_freshen {l : Launch} {D : va_G} {cy : Nat → ClassId} {ka : Nat → Nat} {Qf : QF} {σ0 : TH} {Pz : TH → Prop} {x y o n0 s0 : Nat} {Inv : Nat → TH → TH → Prop} {n : Nat} {c m : TH} (hI : iv_ x y o n0 s0 Inv) (hS : St_freshen ka x y Inv) (hn : n < 512) (hInv : Inv n c m) (hb : 10 * n + 10 ≤ ka 302) (hN : ka 302 ≤ 5120) (hk : ∀ c1 m1, Inv (n + 1) c1 m1 → ∃ z, Pz z ∧ lwv_ l D cy ka Qf σ0 z (jn_ c1 m1) 2144 (lwL_ ka x y o n) []) : ∃ z, Pz z ∧ lwv_ l D cy ka Qf σ0 z (jn_ c m) 2068 (lwL_ ka x y o n) [] := by
  obtain ⟨r, c1, m1, h1, h2, w1, w2, h3⟩ := hS n c m  hn hInv
  obtain ⟨g1, g2, g3, g4, g5, g6, g7, -⟩ := hI n c m hInv
  obtain ⟨z, hP, k⟩ := hk _ _ h3
  refine ⟨z, hP, ?_⟩
  have t1 := c_X11_freshen (l := l) (D := D) (cy := cy) (ka := ka) h1
  have t2 := c_X15_freshen (l := l) (D := D) (cy := cy) (ka := ka) h2
  have q1 := sp_z g1 g2 g3 g4 w1 t1.1
  have b1 : wf_ (bm_ m c1) := wf_bm g2 (by rw [g4]; exact t1.1.1)
  refine v_aload_n (x := some x) dL_law_2068 rfl 3 rfl ?_
  refine v_callV cb_12 (jk_c g6) (As := []) (rest := []) (jn_c g1 g2 g3 g4 w1 t1) yb_X11_freshen kw_1314 kw_1315 kw_1316 rfl ⟨Nat.le_of_ble_eq_true rfl, Nat.le_of_ble_eq_true rfl⟩ rfl (cat_len (Nat.le_of_ble_eq_true rfl)) dL_law_2069 ?_
  refine v_aload_n (x := some y) dL_law_2072 rfl 2 rfl ?_
  refine v_callV cb_16 (jk_m q1 g7) (As := []) (rest := [.int r]) (jn_m w1 b1 q1 rfl rfl w2 t2) yb_X15_freshen kw_2267 kw_2268 kw_2269 rfl ⟨Nat.le_of_ble_eq_true rfl, Nat.le_of_ble_eq_true rfl⟩ rfl (cat_len (Nat.le_of_ble_eq_true rfl)) dL_law_2073 ?_
  exact v_icmp_eq (tgt := 2144) (A := some ()) (B := none) (u := ()) (if_pos rfl) dL_law_2076 (by decide) (fun _ _ => k) (fun h9 _ => absurd rfl h9)
/-- what both sides owe of pass -/
def St_pass (ka : Nat → Nat) (x y : Nat) (Inv : Nat → TH → TH → Prop) : Prop := ∀ (n : Nat) (c m : TH) (a0 : Int32), n < 512 → Inv n c m → ∃ (r : Int32) (c1 m1 : TH), f_X11_pass c x a0 = some (r, c1) ∧ f_X15_pass (bm_ m c1) y a0 = some (r, m1) ∧ wf_ c1 ∧ wf_ m1 ∧ Inv (n + 1) (bm_ c1 m1) m1
set_option maxHeartbeats 4000000 in
theorem lw_pass {l : Launch} {D : va_G} {cy : Nat → ClassId} {ka : Nat → Nat} {Qf : QF} {σ0 : TH} {Pz : TH → Prop} {x y o n0 s0 : Nat} {Inv : Nat → TH → TH → Prop} {n : Nat} {c m : TH} (hI : iv_ x y o n0 s0 Inv) (hS : St_pass ka x y Inv) (hn : n < 512) (hInv : Inv n c m) (hb : 10 * n + 10 ≤ ka 302) (hN : ka 302 ≤ 5120) (hk : ∀ c1 m1, Inv (n + 1) c1 m1 → ∃ z, Pz z ∧ lwv_ l D cy ka Qf σ0 z (jn_ c1 m1) 2144 (lwL_ ka x y o n) []) : ∃ z, Pz z ∧ lwv_ l D cy ka Qf σ0 z (jn_ c m) 2081 (lwL_ ka x y o n) [] := by
  obtain ⟨r, c1, m1, h1, h2, w1, w2, h3⟩ := hS n c m (sx_ ka n 1) hn hInv
  obtain ⟨g1, g2, g3, g4, g5, g6, g7, -⟩ := hI n c m hInv
  obtain ⟨z, hP, k⟩ := hk _ _ h3
  refine ⟨z, hP, ?_⟩
  have t1 := c_X11_pass (l := l) (D := D) (cy := cy) (ka := ka) h1
  have t2 := c_X15_pass (l := l) (D := D) (cy := cy) (ka := ka) h2
  have q1 := sp_z g1 g2 g3 g4 w1 t1.1
  have b1 : wf_ (bm_ m c1) := wf_bm g2 (by rw [g4]; exact t1.1.1)
  refine v_aload_n (x := some x) dL_law_2081 rfl 3 rfl ?_
  refine v_arg 4 0 1 (by decide) hb hN rfl rfl dL_law_2082 dL_law_2083 (by decide) dL_law_2085 dL_law_2086 dL_law_2087 ?_
  refine v_callV cb_12 (jk_c g6) (As := [.int (sx_ ka n 1)]) (rest := []) (jn_c g1 g2 g3 g4 w1 t1) yb_X11_pass kw_1322 kw_1323 kw_1324 rfl ⟨Nat.le_of_ble_eq_true rfl, Nat.le_of_ble_eq_true rfl⟩ rfl (cat_len (Nat.le_of_ble_eq_true rfl)) dL_law_2088 ?_
  refine v_aload_n (x := some y) dL_law_2091 rfl 2 rfl ?_
  refine v_arg 4 0 1 (by decide) hb hN rfl rfl dL_law_2092 dL_law_2093 (by decide) dL_law_2095 dL_law_2096 dL_law_2097 ?_
  refine v_callV cb_16 (jk_m q1 g7) (As := [.int (sx_ ka n 1)]) (rest := [.int r]) (jn_m w1 b1 q1 rfl rfl w2 t2) yb_X15_pass kw_2271 kw_2272 kw_2273 rfl ⟨Nat.le_of_ble_eq_true rfl, Nat.le_of_ble_eq_true rfl⟩ rfl (cat_len (Nat.le_of_ble_eq_true rfl)) dL_law_2098 ?_
  exact v_icmp_eq (tgt := 2144) (A := some ()) (B := none) (u := ()) (if_pos rfl) dL_law_2101 (by decide) (fun _ _ => k) (fun h9 _ => absurd rfl h9)
/-- what both sides owe of count -/
def St_count (ka : Nat → Nat) (x y : Nat) (Inv : Nat → TH → TH → Prop) : Prop := ∀ (n : Nat) (c m : TH) (a0 : Int32), n < 512 → Inv n c m → ∃ (r : Int32) (c1 m1 : TH), f_X11_count c x a0 = some (r, c1) ∧ f_X15_count (bm_ m c1) y a0 = some (r, m1) ∧ wf_ c1 ∧ wf_ m1 ∧ Inv (n + 1) (bm_ c1 m1) m1
set_option maxHeartbeats 4000000 in
theorem lw_count {l : Launch} {D : va_G} {cy : Nat → ClassId} {ka : Nat → Nat} {Qf : QF} {σ0 : TH} {Pz : TH → Prop} {x y o n0 s0 : Nat} {Inv : Nat → TH → TH → Prop} {n : Nat} {c m : TH} (hI : iv_ x y o n0 s0 Inv) (hS : St_count ka x y Inv) (hn : n < 512) (hInv : Inv n c m) (hb : 10 * n + 10 ≤ ka 302) (hN : ka 302 ≤ 5120) (hk : ∀ c1 m1, Inv (n + 1) c1 m1 → ∃ z, Pz z ∧ lwv_ l D cy ka Qf σ0 z (jn_ c1 m1) 2144 (lwL_ ka x y o n) []) : ∃ z, Pz z ∧ lwv_ l D cy ka Qf σ0 z (jn_ c m) 2106 (lwL_ ka x y o n) [] := by
  obtain ⟨r, c1, m1, h1, h2, w1, w2, h3⟩ := hS n c m (sx_ ka n 1) hn hInv
  obtain ⟨g1, g2, g3, g4, g5, g6, g7, -⟩ := hI n c m hInv
  obtain ⟨z, hP, k⟩ := hk _ _ h3
  refine ⟨z, hP, ?_⟩
  have t1 := c_X11_count (l := l) (D := D) (cy := cy) (ka := ka) h1
  have t2 := c_X15_count (l := l) (D := D) (cy := cy) (ka := ka) h2
  have q1 := sp_z g1 g2 g3 g4 w1 t1.1
  have b1 : wf_ (bm_ m c1) := wf_bm g2 (by rw [g4]; exact t1.1.1)
  refine v_aload_n (x := some x) dL_law_2106 rfl 3 rfl ?_
  refine v_arg 4 0 1 (by decide) hb hN rfl rfl dL_law_2107 dL_law_2108 (by decide) dL_law_2110 dL_law_2111 dL_law_2112 ?_
  refine v_callV cb_12 (jk_c g6) (As := [.int (sx_ ka n 1)]) (rest := []) (jn_c g1 g2 g3 g4 w1 t1) yb_X11_count kw_1327 kw_1328 kw_1329 rfl ⟨Nat.le_of_ble_eq_true rfl, Nat.le_of_ble_eq_true rfl⟩ rfl (cat_len (Nat.le_of_ble_eq_true rfl)) dL_law_2113 ?_
  refine v_aload_n (x := some y) dL_law_2116 rfl 2 rfl ?_
  refine v_arg 4 0 1 (by decide) hb hN rfl rfl dL_law_2117 dL_law_2118 (by decide) dL_law_2120 dL_law_2121 dL_law_2122 ?_
  refine v_callV cb_16 (jk_m q1 g7) (As := [.int (sx_ ka n 1)]) (rest := [.int r]) (jn_m w1 b1 q1 rfl rfl w2 t2) yb_X15_count kw_2277 kw_2278 kw_2279 rfl ⟨Nat.le_of_ble_eq_true rfl, Nat.le_of_ble_eq_true rfl⟩ rfl (cat_len (Nat.le_of_ble_eq_true rfl)) dL_law_2123 ?_
  exact v_icmp_eq (tgt := 2144) (A := some ()) (B := none) (u := ()) (if_pos rfl) dL_law_2126 (by decide) (fun _ _ => k) (fun h9 _ => absurd rfl h9)
/-- what both sides owe of trouble -/
def St_trouble (ka : Nat → Nat) (x y : Nat) (Inv : Nat → TH → TH → Prop) : Prop := ∀ (n : Nat) (c m : TH), n < 512 → Inv n c m → ∃ (r : Int32) (c1 m1 : TH), f_X11_trouble c x  = some (r, c1) ∧ f_X15_trouble (bm_ m c1) y  = some (r, m1) ∧ wf_ c1 ∧ wf_ m1 ∧ Inv (n + 1) (bm_ c1 m1) m1
set_option maxHeartbeats 4000000 in
theorem lw_trouble {l : Launch} {D : va_G} {cy : Nat → ClassId} {ka : Nat → Nat} {Qf : QF} {σ0 : TH} {Pz : TH → Prop} {x y o n0 s0 : Nat} {Inv : Nat → TH → TH → Prop} {n : Nat} {c m : TH} (hI : iv_ x y o n0 s0 Inv) (hS : St_trouble ka x y Inv) (hn : n < 512) (hInv : Inv n c m) (hb : 10 * n + 10 ≤ ka 302) (hN : ka 302 ≤ 5120) (hk : ∀ c1 m1, Inv (n + 1) c1 m1 → ∃ z, Pz z ∧ lwv_ l D cy ka Qf σ0 z (jn_ c1 m1) 2144 (lwL_ ka x y o n) []) : ∃ z, Pz z ∧ lwv_ l D cy ka Qf σ0 z (jn_ c m) 2131 (lwL_ ka x y o n) [] := by
  obtain ⟨r, c1, m1, h1, h2, w1, w2, h3⟩ := hS n c m  hn hInv
  obtain ⟨g1, g2, g3, g4, g5, g6, g7, -⟩ := hI n c m hInv
  obtain ⟨z, hP, k⟩ := hk _ _ h3
  refine ⟨z, hP, ?_⟩
  have t1 := c_X11_trouble (l := l) (D := D) (cy := cy) (ka := ka) h1
  have t2 := c_X15_trouble (l := l) (D := D) (cy := cy) (ka := ka) h2
  have q1 := sp_z g1 g2 g3 g4 w1 t1.1
  have b1 : wf_ (bm_ m c1) := wf_bm g2 (by rw [g4]; exact t1.1.1)
  refine v_aload_n (x := some x) dL_law_2131 rfl 3 rfl ?_
  refine v_callV cb_12 (jk_c g6) (As := []) (rest := []) (jn_c g1 g2 g3 g4 w1 t1) yb_X11_trouble kw_1339 kw_1340 kw_1341 rfl ⟨Nat.le_of_ble_eq_true rfl, Nat.le_of_ble_eq_true rfl⟩ rfl (cat_len (Nat.le_of_ble_eq_true rfl)) dL_law_2132 ?_
  refine v_aload_n (x := some y) dL_law_2135 rfl 2 rfl ?_
  refine v_callV cb_16 (jk_m q1 g7) (As := []) (rest := [.int r]) (jn_m w1 b1 q1 rfl rfl w2 t2) yb_X15_trouble kw_2289 kw_2290 kw_2291 rfl ⟨Nat.le_of_ble_eq_true rfl, Nat.le_of_ble_eq_true rfl⟩ rfl (cat_len (Nat.le_of_ble_eq_true rfl)) dL_law_2136 ?_
  exact v_icmp_eq (tgt := 2144) (A := some ()) (B := none) (u := ()) (if_pos rfl) dL_law_2139 (by decide) (fun _ _ => k) (fun h9 _ => absurd rfl h9)
/-- what both sides owe of out -/
def St_out (ka : Nat → Nat) (x y o : Nat) (Inv : Nat → TH → TH → Prop) : Prop := ∀ (n : Nat) (c m : TH) (a0 : Int32), n < 512 → Inv n c m → ∃ (r b : Int32) (c1 m1 m2 : TH), f_L_out c (some x) a0 (some o) = some (r, c1) ∧ f_X15_out (bm_ m c1) y a0 = some (b, m1) ∧ f_X15_thrown m1 y = some (r, m2) ∧ wf_ c1 ∧ wf_ m1 ∧ wf_ m2 ∧ (r = 0 → al_ c1 o 0 = Int32.toInt64 b) ∧ Inv (n + 1) (bm_ c1 m2) m2
set_option maxHeartbeats 4000000 in
theorem lw_out {l : Launch} {D : va_G} {cy : Nat → ClassId} {ka : Nat → Nat} {Qf : QF} {σ0 : TH} {Pz : TH → Prop} {x y o n0 s0 : Nat} {Inv : Nat → TH → TH → Prop} {n : Nat} {c m : TH} (hl9 : l.stackTraces = false) (hI : iv_ x y o n0 s0 Inv) (hS : St_out ka x y o Inv) (hn : n < 512) (hInv : Inv n c m) (hb : 10 * n + 10 ≤ ka 302) (hN : ka 302 ≤ 5120) (hk : ∀ c1 m1, Inv (n + 1) c1 m1 → ∃ z, Pz z ∧ lwv_ l D cy ka Qf σ0 z (jn_ c1 m1) 2144 (lwL_ ka x y o n) []) : ∃ z, Pz z ∧ lwv_ l D cy ka Qf σ0 z (jn_ c m) 1133 (lwL_ ka x y o n) [] := by
  obtain ⟨r, b, c1, m1, m2, h1, h2, h4, w1, w2, w3, h5, h3⟩ := hS n c m (sx_ ka n 1) hn hInv
  obtain ⟨g1, g2, g3, g4, g5, g6, g7, g8, g9, -⟩ := hI n c m hInv
  obtain ⟨z, hP, k⟩ := hk _ _ h3
  refine ⟨z, hP, ?_⟩
  have t1 := c_L_out (l := l) (D := D) (cy := cy) (ka := ka) hl9 h1
  have t2 := c_X15_out (l := l) (D := D) (cy := cy) (ka := ka) h2
  have t3 := c_X15_thrown (l := l) (D := D) (cy := cy) (ka := ka) h4
  have q1 := sp_z g1 g2 g3 g4 w1 t1.1
  have b1 : wf_ (bm_ m c1) := wf_bm g2 (by rw [g4]; exact t1.1.1)
  have b2 : wf_ (bm_ c1 m1) := wf_bm w1 t2.1.1
  have q2 := sp_zm w1 b1 q1 rfl w2 t2.1
  have g7' : kd_ m1 y = 17 := (t2.1.2.2.2.2 y (show kd_ (bm_ m c1) y ≠ 0 from by show kd_ m y ≠ 0; rw [g7]; decide)).1.trans g7
  have g8' := t1.1.2.2.2.2 o (by rw [g8]; decide)
  have e8 : kd_ (bm_ c1 m2) o = 23 := g8'.1.trans g8
  have e9 : ln_ (bm_ c1 m2) o = 1 := g8'.2.trans g9
  have f8 : kd_ (jn_ (bm_ c1 m2) m2) o = 23 := jk_c e8
  have f9 : ln_ (jn_ (bm_ c1 m2) m2) o = 1 := (if_neg (by rw [e8]; decide)).trans e9
  have f10 : al_ (jn_ (bm_ c1 m2) m2) o = al_ c1 o := if_neg (by rw [e8]; decide)
  refine v_aload_n (x := some x) dL_law_1133 rfl 3 rfl ?_
  refine v_arg 4 0 1 (by decide) hb hN rfl rfl dL_law_1134 dL_law_1135 (by decide) dL_law_1137 dL_law_1138 dL_law_1139 ?_
  refine v_aload_n (x := some o) dL_law_1140 rfl 1 rfl ?_
  refine v_callSW (As := [va_rf (some x), .int (sx_ ka n 1), va_rf (some o)]) (rest := []) (jn_c g1 g2 g3 g4 w1 t1) yw_L_out kw_1343 kw_1344 rfl ⟨Nat.le_of_ble_eq_true rfl, Nat.le_of_ble_eq_true rfl⟩ rfl (cat_len (Nat.le_of_ble_eq_true rfl)) dL_law_1141 ?_
  refine v_istore ((5, .int r) :: lwL_ ka x y o n) dL_law_1144 (by decide) (by simp [va_rf_cat, cat_i, cat_l]) ?_
  refine v_aload_n (x := some y) dL_law_1146 rfl 3 rfl ?_
  refine v_arg 5 1 1 (by decide) hb hN rfl rfl dL_law_1147 dL_law_1148 (by decide) dL_law_1150 dL_law_1151 dL_law_1152 ?_
  refine v_callV cb_16 (jk_m q1 g7) (As := [.int (sx_ ka n 1)]) (rest := []) (jn_m w1 b1 q1 rfl rfl w2 t2) yb_X15_out kw_2086 kw_2087 kw_2088 rfl ⟨Nat.le_of_ble_eq_true rfl, Nat.le_of_ble_eq_true rfl⟩ rfl (cat_len (Nat.le_of_ble_eq_true rfl)) dL_law_1153 ?_
  refine v_istore ((6, .int b) :: (5, .int r) :: lwL_ ka x y o n) dL_law_1156 (by decide) (by simp [va_rf_cat, cat_i, cat_l]) ?_
  refine v_aload_n (x := some y) dL_law_1158 rfl 4 rfl ?_
  refine v_callV cb_16 (jk_m q2 g7') (As := []) (rest := []) (jn_m b2 w2 q2 rfl rfl w3 t3) yb_X15_thrown kw_1414 kw_1415 kw_1416 rfl ⟨Nat.le_of_ble_eq_true rfl, Nat.le_of_ble_eq_true rfl⟩ rfl (cat_len (Nat.le_of_ble_eq_true rfl)) dL_law_1159 ?_
  show lwv_ l D cy ka Qf σ0 z (jn_ (bm_ c1 m2) m2) 1162 ((6, .int b) :: (5, .int r) :: lwL_ ka x y o n) [.int r]
  have k' : lwv_ l D cy ka Qf σ0 z (jn_ (bm_ c1 m2) m2) 2144 ((6, .int b) :: (5, .int r) :: lwL_ ka x y o n) [] := v_sub [2, 3, 4, 5, 6] rfl k
  refine v_iload (x := r) dL_law_1162 1 rfl ?_
  refine v_icmp_eq (tgt := 1169) (A := some ()) (B := none) (u := ()) (if_pos rfl) dL_law_1164 (by decide) (fun _ _ => ?_) (fun h9 _ => absurd rfl h9)
  refine v_iload (x := r) dL_law_1169 1 rfl ?_
  refine v_if_ne (tgt := 1186) (A := some ()) (B := some ()) (u := ()) (by split <;> rfl) dL_law_1171 (by decide) (fun hq _ => ?_) (fun hq _ => ?_)
  · refine v_aload_n (x := some o) dL_law_1174 rfl 3 rfl ?_
    refine v_iconst (v := 0) dL_law_1175 (by decide) ?_
    refine v_lald (i := 0) (f := fun q => if q = Int32.toInt64 b then some () else none) (u := ()) f8 ?_ dL_law_1176 (fun q hq9 => ?_)
    · rw [f9, f10]
      have e : (0 : Int32).toNatClampNeg = 0 := by decide
      rw [e, gt_t (by decide), lt_e, h5 hq, if_pos rfl]
    · have hq8 : q = Int32.toInt64 b := by
        by_cases hh : q = Int32.toInt64 b
        · exact hh
        · rw [if_neg hh] at hq9; cases hq9
      subst hq8
      refine v_iload (x := b) dL_law_1177 0 rfl ?_
      refine v_i2l dL_law_1179 ?_
      refine v_lcmp dL_law_1180 ?_
      refine v_if_eq (tgt := 1186) (A := some ()) (B := none) (u := ()) (if_pos (lg_cmp_self _)) dL_law_1181 (by decide) (fun _ _ => ?_) (fun h9 _ => absurd (lg_cmp_self _) h9)
      exact v_goto (tgt := 2144) dL_law_1186 (by decide) k'
  · exact v_goto (tgt := 2144) dL_law_1186 (by decide) k'
