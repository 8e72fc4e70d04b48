/-! The law's cases 0. -/
set_option linter.unusedVariables false
theorem ek_le {α : Type} (r : α ⊕ Nat) : ek r ≤ 1 := by cases r <;> simp [ek]
theorem es_le {α : Type} (r : α ⊕ Nat) : es r ≤ 6 := by cases r <;> simp [es]
theorem LQ_no {l : List Nat} {O : Nat} {r : Int32 ⊕ Nat} {h1 h3 : XH} {ec : Nat} (q : LQ l O r h1 (.inr ec, h3)) : False := by
  cases r with
  | inl v =>
    have q : ((.inr ec, h3) : XO) = (.inl (some (.int 0)), yj h1 O 0 v.toInt64) := q
    cases q
  | inr c =>
    obtain ⟨t, -, q⟩ : ∃ t, xt h1 ≤ t ∧ ((.inr ec, h3) : XO) = (.inl (some (.int (nI (cmT l c)))), yt h1 t) := q
    cases q
/-- what is answered, if a value, is 0 or 1 -/
def bq (m : XP Int32) : Prop := ∀ v h1, m = some (.inl v, h1) → v = 0 ∨ v = 1
theorem bq_g {c : Prop} [Decidable c] {m : XP Int32} (q : bq m) : bq (xg c m) := fun v h1 e => by
  unfold xg at e
  split at e
  · exact q v h1 e
  · cases e
theorem bq_b {α : Type} {m : XP α} {f : α → XH → XP Int32} (q : ∀ v h, bq (f v h)) : bq (xb m f) := fun v h1 e => by
  unfold xb at e
  split at e
  · cases e
  · exact q _ _ v h1 e
  · cases e
theorem bq_n {o : Option Nat} {f : Nat → XP Int32} (q : ∀ w, bq (f w)) : bq (xnn o f) := fun v h1 e => by
  unfold xnn at e
  split at e
  · cases e
  · exact q _ v h1 e
theorem bq_v {x : Int32} {h : XH} : bq (xg (x = 0 ∨ x = 1) (xv x h)) := fun v h1 e => by
  unfold xg at e
  split at e
  · rename_i q
    cases e
    exact q
  · cases e
theorem bq_i {c : Prop} [Decidable c] {m n : XP Int32} (q : bq m) (r : bq n) : bq (if c then m else n) := by
  split
  · exact q
  · exact r
theorem bv_isCentral {E : XG} {X : Nat} {p v : Int32} {h1 : XH} (h : XH) (e : FX8_isCentral E X p h = some (.inl v, h1)) : v = 0 ∨ v = 1 := by
  refine (show bq (FX8_isCentral E X p h) from ?_) v h1 e
  unfold FX8_isCentral
  refine bq_g (bq_b fun _ _ => bq_g (bq_b fun _ _ => bq_g (bq_n fun _ => bq_g (bq_b fun _ _ => ?_))))
  exact bq_i bq_v bq_v
theorem bv_isEquivalence {E : XG} {X : Nat} {p v : Int32} {h1 : XH} (h : XH) (e : FX8_isEquivalence E X p h = some (.inl v, h1)) : v = 0 ∨ v = 1 := by
  refine (show bq (FX8_isEquivalence E X p h) from ?_) v h1 e
  unfold FX8_isEquivalence
  exact bq_g (bq_b fun _ _ => bq_g (bq_b fun _ _ => bq_v))
theorem bv_areAlike {E : XG} {X : Nat} {p q v : Int32} {h1 : XH} (h : XH) (e : FX8_areAlike E X p q h = some (.inl v, h1)) : v = 0 ∨ v = 1 := by
  refine (show bq (FX8_areAlike E X p q h) from ?_) v h1 e
  unfold FX8_areAlike
  refine bq_g (bq_b fun _ _ => bq_g (bq_b fun _ _ => bq_g ?_))
  have jq : ∀ (v1 v3 : Nat) (x : Int32) (h6 : XH), bq (xb (FX8_demandFit E x h6) fun _ h7 => xg (xk h7 v1 = 2) <| xb (FX1_freshPair E v1 h7) fun v8 h9 => xg (xk h9 v3 = 2) <| xb (FX1_freshPair E v3 h9) fun v10 h11 => xg (xk h11 v8 = 5) <| xb (FX4_matches E v8 v10 h11) fun v12 h13 => xg ((v12 : Int32) = 0 ∨ (v12 : Int32) = 1) <| xv v12 h13) := fun v1 v3 x h6 => bq_b fun _ _ => bq_g (bq_b fun _ _ => bq_g (bq_b fun _ _ => bq_g (bq_b fun _ _ => bq_v)))
  exact bq_i (bq_g (bq_i (jq _ _ _ _) (jq _ _ _ _))) (jq _ _ _ _)
section LC
variable {E : XG} {k u : Nat} {h : XH} {X Y O i : Nat} {Z : ZD} {x5 x6 : Option Value}
theorem LC_0 (j : JJ h X Y O Z) (ha : i + 6 ≤ eN E) (hN : eN E < 2 ^ 31) (kk : ∀ h2 Z' y5 y6, JJ h2 X Y O Z' → XV E mL_law k u 4038 (Lw E X Y O i y5 y6) [] h2 QT) : XV E mL_law (3 + k) (17 + u) 296 (Lw E X Y O i x5 x6) [] h QT := by
  refine V_aload_1 296 dL_law_296 ?_
  refine V_arg 297 i 1 ha hN (by decide) (by decide) dL_law_297 dL_law_298 dL_law_300 dL_law_301 dL_law_302 ?_
  refine V_arg 303 i 2 ha hN (by decide) (by decide) dL_law_303 dL_law_304 dL_law_306 dL_law_307 dL_law_308 ?_
  refine V_arg 309 i 3 ha hN (by decide) (by decide) dL_law_309 dL_law_310 dL_law_312 dL_law_313 dL_law_314 ?_
  refine V_arg 315 i 4 ha hN (by decide) (by decide) dL_law_315 dL_law_316 dL_law_318 dL_law_319 dL_law_320 ?_
  refine V_arg 321 i 5 ha hN (by decide) (by decide) dL_law_321 dL_law_322 dL_law_324 dL_law_325 dL_law_326 ?_
  obtain ⟨b, h1, h2, Z', e1, kX, m1, k1, j2⟩ := JJ_dir (FC := FX8_append E X (eX E (i + 1)) (eX E (i + 2)) (eX E (i + 3)) (eX E (i + 4)) (eX E (i + 5))) (FM := FX9_append E Y (eX E (i + 1)) (eX E (i + 2)) (eX E (i + 3)) (eX E (i + 4)) (eX E (i + 5))) j (AGw_z (ag0_append (O := O) j (eX E (i + 1)) (eX E (i + 2)) (eX E (i + 3)) (eX E (i + 4)) (eX E (i + 5))))
  refine V_less (k' := 0 + k) (u' := 0 + u) (by omega) (by omega) ?_
  refine V_callV (k := k) (u := u) (k' := 0) (u' := 0) (ci := 8) 327 (As := [.int (eX E (i + 1)), .int (eX E (i + 2)), .int (eX E (i + 3)), .int (eX E (i + 4)), .int (eX E (i + 5))]) calX8_append imX8_append seX8_append mkL_193 rfl rfl rfl rfl rfl kX (by decide) rfl rfl dL_law_327 (CX8_append E X (eX E (i + 1)) (eX E (i + 2)) (eX E (i + 3)) (eX E (i + 4)) (eX E (i + 5)) h (.inl b) h1 e1) (fun ec h3 q => by cases q) (fun v h3 q => ?_)
  cases q
  refine V_aload_2 330 dL_law_330 ?_
  refine V_arg 331 i 1 ha hN (by decide) (by decide) dL_law_331 dL_law_332 dL_law_334 dL_law_335 dL_law_336 ?_
  refine V_arg 337 i 2 ha hN (by decide) (by decide) dL_law_337 dL_law_338 dL_law_340 dL_law_341 dL_law_342 ?_
  refine V_arg 343 i 3 ha hN (by decide) (by decide) dL_law_343 dL_law_344 dL_law_346 dL_law_347 dL_law_348 ?_
  refine V_arg 349 i 4 ha hN (by decide) (by decide) dL_law_349 dL_law_350 dL_law_352 dL_law_353 dL_law_354 ?_
  refine V_arg 355 i 5 ha hN (by decide) (by decide) dL_law_355 dL_law_356 dL_law_358 dL_law_359 dL_law_360 ?_
  exact V_dir (b := b) (args := [.int (eX E (i + 1)), .int (eX E (i + 2)), .int (eX E (i + 3)), .int (eX E (i + 4)), .int (eX E (i + 5))]) 361 calX9_append imX9_append seX9_append mkL_197 rfl rfl rfl (CX9_append E Y (eX E (i + 1)) (eX E (i + 2)) (eX E (i + 3)) (eX E (i + 4)) (eX E (i + 5)) _ (.inl b) h2 m1) k1 dL_law_361 dL_law_364 (by decide) (kk h2 Z' _ _ j2)
theorem calL_load : xcalH mL_load (0, 9, 12, 13) [(0, 9, 15, 15)] 3 := ⟨okL_load.1, okL_load.2, by decide +kernel, by decide +kernel, rfl⟩
theorem LC_1 (j : JJ h X Y O Z) (ha : i + 6 ≤ eN E) (hN : eN E < 2 ^ 31) (kk : ∀ h2 Z' y5 y6, JJ h2 X Y O Z' → XV E mL_law k u 4038 (Lw E X Y O i y5 y6) [] h2 QT) : XV E mL_law (3 + k) (17 + u) 369 (Lw E X Y O i x5 x6) [] h QT := by
  refine V_aload_1 369 dL_law_369 ?_
  refine V_arg 370 i 1 ha hN (by decide) (by decide) dL_law_370 dL_law_371 dL_law_373 dL_law_374 dL_law_375 ?_
  refine V_aload_3 376 dL_law_376 ?_
  obtain ⟨r, h1, e1, kX, hO, hc, hM⟩ := JJ_call j (ag_load j (eX E (i + 1)))
  refine V_less (k' := (2 + ek r) + k) (u' := (11 + es r) + u) (by have := ek_le r; omega) (by have := es_le r; omega) ?_
  refine V_callSH (k := k) (u := u) (k' := 2 + ek r) (u' := 11 + es r) 377 (As := [.ref X, .int (eX E (i + 1)), .ref O]) calL_load stL_load mkL_198 rfl rfl rfl rfl rfl dL_law_377 (CL_load E X O (eX E (i + 1)) h e1 kX hO hc) (fun ec h3 q => LQ_no q) (fun v h3 q => ?_)
  obtain ⟨c, h', b, h2, Z', q0, m1, k1, j2, k2, t2, c2, v2⟩ := hM _ q
  cases q0
  refine V_istore_5 380 dL_law_380 rfl ?_
  refine V_aload_2 382 dL_law_382 ?_
  refine V_arg 383 i 1 ha hN (by decide) (by decide) dL_law_383 dL_law_384 dL_law_386 dL_law_387 dL_law_388 ?_
  exact V_tail (b := b) (args := [.int (eX E (i + 1))]) 389 calX9_load imX9_load seX9_load mkL_203 rfl rfl rfl (CX9_load E Y (eX E (i + 1)) _ (.inl b) h2 m1) k1 k2 j2.2.2.1 t2 c2 (fun q => (v2 q).1) dL_law_389 dL_law_392 dL_law_394 dL_law_395 dL_law_398 dL_law_400 dL_law_405 dL_law_407 dL_law_410 dL_law_411 dL_law_412 dL_law_413 dL_law_415 dL_law_416 dL_law_417 dL_law_422 (by decide) (kk h2 Z' _ _ j2)
theorem LC_2 (j : JJ h X Y O Z) (ha : i + 6 ≤ eN E) (hN : eN E < 2 ^ 31) (kk : ∀ h2 Z' y5 y6, JJ h2 X Y O Z' → XV E mL_law k u 4038 (Lw E X Y O i y5 y6) [] h2 QT) : XV E mL_law (3 + k) (17 + u) 425 (Lw E X Y O i x5 x6) [] h QT := by
  refine V_aload_1 425 dL_law_425 ?_
  obtain ⟨b, h1, h2, Z', e1, kX, m1, k1, j2⟩ := JJ_dir (FC := FX8_parseError E X) (FM := FX9_parseError E Y) j (AGw_z (AGz_x j (ag0_parseError (O := O) j)))
  refine V_less (k' := 0 + k) (u' := 0 + u) (by omega) (by omega) ?_
  refine V_callV (k := k) (u := u) (k' := 0) (u' := 0) (ci := 8) 426 (As := []) calX8_parseError imX8_parseError seX8_parseError mkL_207 rfl rfl rfl rfl rfl kX (by decide) rfl rfl dL_law_426 (CX8_parseError E X h (.inl b) h1 e1) (fun ec h3 q => by cases q) (fun v h3 q => ?_)
  cases q
  refine V_aload_2 429 dL_law_429 ?_
  exact V_dir (b := b) (args := []) 430 calX9_parseError imX9_parseError seX9_parseError mkL_210 rfl rfl rfl (CX9_parseError E Y _ (.inl b) h2 m1) k1 dL_law_430 dL_law_433 (by decide) (kk h2 Z' _ _ j2)
theorem LC_3 (j : JJ h X Y O Z) (ha : i + 6 ≤ eN E) (hN : eN E < 2 ^ 31) (kk : ∀ h2 Z' y5 y6, JJ h2 X Y O Z' → XV E mL_law k u 4038 (Lw E X Y O i y5 y6) [] h2 QT) : XV E mL_law (3 + k) (17 + u) 438 (Lw E X Y O i x5 x6) [] h QT := by
  refine V_aload_1 438 dL_law_438 ?_
  obtain ⟨b, h1, h2, Z', e1, kX, m1, k1, j2⟩ := JJ_dir (FC := FX8_errorPosition E X) (FM := FX9_errorPosition E Y) j (AGw_z (AGz_x j (ag0_errorPosition (O := O) j)))
  refine V_less (k' := 0 + k) (u' := 0 + u) (by omega) (by omega) ?_
  refine V_callV (k := k) (u := u) (k' := 0) (u' := 0) (ci := 8) 439 (As := []) calX8_errorPosition imX8_errorPosition seX8_errorPosition mkL_211 rfl rfl rfl rfl rfl kX (by decide) rfl rfl dL_law_439 (CX8_errorPosition E X h (.inl b) h1 e1) (fun ec h3 q => by cases q) (fun v h3 q => ?_)
  cases q
  refine V_aload_2 442 dL_law_442 ?_
  exact V_dir (b := b) (args := []) 443 calX9_errorPosition imX9_errorPosition seX9_errorPosition mkL_214 rfl rfl rfl (CX9_errorPosition E Y _ (.inl b) h2 m1) k1 dL_law_443 dL_law_446 (by decide) (kk h2 Z' _ _ j2)
theorem LC_4 (j : JJ h X Y O Z) (ha : i + 6 ≤ eN E) (hN : eN E < 2 ^ 31) (kk : ∀ h2 Z' y5 y6, JJ h2 X Y O Z' → XV E mL_law k u 4038 (Lw E X Y O i y5 y6) [] h2 QT) : XV E mL_law (3 + k) (17 + u) 451 (Lw E X Y O i x5 x6) [] h QT := by
  refine V_aload_1 451 dL_law_451 ?_
  obtain ⟨b, h1, h2, Z', e1, kX, m1, k1, j2⟩ := JJ_dir (FC := FX8_buffered E X) (FM := FX9_buffered E Y) j (AGw_z (AGz_x j (ag0_buffered (O := O) j)))
  refine V_less (k' := 0 + k) (u' := 0 + u) (by omega) (by omega) ?_
  refine V_callV (k := k) (u := u) (k' := 0) (u' := 0) (ci := 8) 452 (As := []) calX8_buffered imX8_buffered seX8_buffered mkL_215 rfl rfl rfl rfl rfl kX (by decide) rfl rfl dL_law_452 (CX8_buffered E X h (.inl b) h1 e1) (fun ec h3 q => by cases q) (fun v h3 q => ?_)
  cases q
  refine V_aload_2 455 dL_law_455 ?_
  exact V_dir (b := b) (args := []) 456 calX9_buffered imX9_buffered seX9_buffered mkL_218 rfl rfl rfl (CX9_buffered E Y _ (.inl b) h2 m1) k1 dL_law_456 dL_law_459 (by decide) (kk h2 Z' _ _ j2)
theorem calL_count : xcalH mL_count (0, 9, 12, 20) [(0, 9, 15, 15)] 3 := ⟨okL_count.1, okL_count.2, by decide +kernel, by decide +kernel, rfl⟩
theorem LC_5 (j : JJ h X Y O Z) (ha : i + 6 ≤ eN E) (hN : eN E < 2 ^ 31) (kk : ∀ h2 Z' y5 y6, JJ h2 X Y O Z' → XV E mL_law k u 4038 (Lw E X Y O i y5 y6) [] h2 QT) : XV E mL_law (3 + k) (17 + u) 464 (Lw E X Y O i x5 x6) [] h QT := by
  refine V_aload_1 464 dL_law_464 ?_
  refine V_arg 465 i 1 ha hN (by decide) (by decide) dL_law_465 dL_law_466 dL_law_468 dL_law_469 dL_law_470 ?_
  refine V_aload_3 471 dL_law_471 ?_
  obtain ⟨r, h1, e1, kX, hO, hc, hM⟩ := JJ_call j (AGw_z (AGz_x j (ag_count j (eX E (i + 1)))))
  refine V_less (k' := (0 + ek r) + k) (u' := (0 + es r) + u) (by have := ek_le r; omega) (by have := es_le r; omega) ?_
  refine V_callSH (k := k) (u := u) (k' := 0 + ek r) (u' := 0 + es r) 472 (As := [.ref X, .int (eX E (i + 1)), .ref O]) calL_count stL_count mkL_219 rfl rfl rfl rfl rfl dL_law_472 (CL_count E X O (eX E (i + 1)) h e1 kX hO hc) (fun ec h3 q => LQ_no q) (fun v h3 q => ?_)
  obtain ⟨c, h', b, h2, Z', q0, m1, k1, j2, k2, t2, c2, v2⟩ := hM _ q
  cases q0
  refine V_istore_5 475 dL_law_475 rfl ?_
  refine V_aload_2 477 dL_law_477 ?_
  refine V_arg 478 i 1 ha hN (by decide) (by decide) dL_law_478 dL_law_479 dL_law_481 dL_law_482 dL_law_483 ?_
  exact V_tail (b := b) (args := [.int (eX E (i + 1))]) 484 calX9_count imX9_count seX9_count mkL_221 rfl rfl rfl (CX9_count E Y (eX E (i + 1)) _ (.inl b) h2 m1) k1 k2 j2.2.2.1 t2 c2 (fun q => (v2 q).1) dL_law_484 dL_law_487 dL_law_489 dL_law_490 dL_law_493 dL_law_495 dL_law_500 dL_law_502 dL_law_505 dL_law_506 dL_law_507 dL_law_508 dL_law_510 dL_law_511 dL_law_512 dL_law_517 (by decide) (kk h2 Z' _ _ j2)
theorem calL_letter : xcalH mL_letter (0, 12, 15, 20) [(0, 12, 19, 13), (0, 12, 23, 15)] 5 := ⟨okL_letter.1, okL_letter.2, by decide +kernel, by decide +kernel, rfl⟩
theorem LC_6 (j : JJ h X Y O Z) (ha : i + 6 ≤ eN E) (hN : eN E < 2 ^ 31) (kk : ∀ h2 Z' y5 y6, JJ h2 X Y O Z' → XV E mL_law k u 4038 (Lw E X Y O i y5 y6) [] h2 QT) : XV E mL_law (3 + k) (17 + u) 520 (Lw E X Y O i x5 x6) [] h QT := by
  refine V_aload_1 520 dL_law_520 ?_
  refine V_arg 521 i 1 ha hN (by decide) (by decide) dL_law_521 dL_law_522 dL_law_524 dL_law_525 dL_law_526 ?_
  refine V_arg 527 i 2 ha hN (by decide) (by decide) dL_law_527 dL_law_528 dL_law_530 dL_law_531 dL_law_532 ?_
  refine V_arg 533 i 3 ha hN (by decide) (by decide) dL_law_533 dL_law_534 dL_law_536 dL_law_537 dL_law_538 ?_
  refine V_aload_3 539 dL_law_539 ?_
  obtain ⟨r, h1, e1, kX, hO, hc, hM⟩ := JJ_call j (AGw_z (AGz_x j (ag_letter j (eX E (i + 1)) (eX E (i + 2)) (eX E (i + 3)))))
  refine V_less (k' := (0 + ek r) + k) (u' := (0 + es r) + u) (by have := ek_le r; omega) (by have := es_le r; omega) ?_
  refine V_callSH (k := k) (u := u) (k' := 0 + ek r) (u' := 0 + es r) 540 (As := [.ref X, .int (eX E (i + 1)), .int (eX E (i + 2)), .int (eX E (i + 3)), .ref O]) calL_letter stL_letter mkL_222 rfl rfl rfl rfl rfl dL_law_540 (CL_letter E X O (eX E (i + 1)) (eX E (i + 2)) (eX E (i + 3)) h e1 kX hO hc) (fun ec h3 q => LQ_no q) (fun v h3 q => ?_)
  obtain ⟨c, h', b, h2, Z', q0, m1, k1, j2, k2, t2, c2, v2⟩ := hM _ q
  cases q0
  refine V_istore_5 543 dL_law_543 rfl ?_
  refine V_aload_2 545 dL_law_545 ?_
  refine V_arg 546 i 1 ha hN (by decide) (by decide) dL_law_546 dL_law_547 dL_law_549 dL_law_550 dL_law_551 ?_
  refine V_arg 552 i 2 ha hN (by decide) (by decide) dL_law_552 dL_law_553 dL_law_555 dL_law_556 dL_law_557 ?_
  refine V_arg 558 i 3 ha hN (by decide) (by decide) dL_law_558 dL_law_559 dL_law_561 dL_law_562 dL_law_563 ?_
  exact V_tail (b := b) (args := [.int (eX E (i + 1)), .int (eX E (i + 2)), .int (eX E (i + 3))]) 564 calX9_letter imX9_letter seX9_letter mkL_225 rfl rfl rfl (CX9_letter E Y (eX E (i + 1)) (eX E (i + 2)) (eX E (i + 3)) _ (.inl b) h2 m1) k1 k2 j2.2.2.1 t2 c2 (fun q => (v2 q).1) dL_law_564 dL_law_567 dL_law_569 dL_law_570 dL_law_573 dL_law_575 dL_law_580 dL_law_582 dL_law_585 dL_law_586 dL_law_587 dL_law_588 dL_law_590 dL_law_591 dL_law_592 dL_law_597 (by decide) (kk h2 Z' _ _ j2)
theorem calL_size : xcalH mL_size (0, 9, 12, 20) [(0, 9, 15, 13)] 3 := ⟨okL_size.1, okL_size.2, by decide +kernel, by decide +kernel, rfl⟩
theorem LC_7 (j : JJ h X Y O Z) (ha : i + 6 ≤ eN E) (hN : eN E < 2 ^ 31) (kk : ∀ h2 Z' y5 y6, JJ h2 X Y O Z' → XV E mL_law k u 4038 (Lw E X Y O i y5 y6) [] h2 QT) : XV E mL_law (3 + k) (17 + u) 600 (Lw E X Y O i x5 x6) [] h QT := by
  refine V_aload_1 600 dL_law_600 ?_
  refine V_arg 601 i 1 ha hN (by decide) (by decide) dL_law_601 dL_law_602 dL_law_604 dL_law_605 dL_law_606 ?_
  refine V_aload_3 607 dL_law_607 ?_
  obtain ⟨r, h1, e1, kX, hO, hc, hM⟩ := JJ_call j (AGw_z (AGz_x j (ag_size j (eX E (i + 1)))))
  refine V_less (k' := (0 + ek r) + k) (u' := (0 + es r) + u) (by have := ek_le r; omega) (by have := es_le r; omega) ?_
  refine V_callSH (k := k) (u := u) (k' := 0 + ek r) (u' := 0 + es r) 608 (As := [.ref X, .int (eX E (i + 1)), .ref O]) calL_size stL_size mkL_226 rfl rfl rfl rfl rfl dL_law_608 (CL_size E X O (eX E (i + 1)) h e1 kX hO hc) (fun ec h3 q => LQ_no q) (fun v h3 q => ?_)
  obtain ⟨c, h', b, h2, Z', q0, m1, k1, j2, k2, t2, c2, v2⟩ := hM _ q
  cases q0
  refine V_istore_5 611 dL_law_611 rfl ?_
  refine V_aload_2 613 dL_law_613 ?_
  refine V_arg 614 i 1 ha hN (by decide) (by decide) dL_law_614 dL_law_615 dL_law_617 dL_law_618 dL_law_619 ?_
  exact V_tail (b := b) (args := [.int (eX E (i + 1))]) 620 calX9_size imX9_size seX9_size mkL_228 rfl rfl rfl (CX9_size E Y (eX E (i + 1)) _ (.inl b) h2 m1) k1 k2 j2.2.2.1 t2 c2 (fun q => (v2 q).1) dL_law_620 dL_law_623 dL_law_625 dL_law_626 dL_law_629 dL_law_631 dL_law_636 dL_law_638 dL_law_641 dL_law_642 dL_law_643 dL_law_644 dL_law_646 dL_law_647 dL_law_648 dL_law_653 (by decide) (kk h2 Z' _ _ j2)
theorem calL_times : xcalH mL_times (0, 12, 15, 20) [(0, 12, 19, 13)] 5 := ⟨okL_times.1, okL_times.2, by decide +kernel, by decide +kernel, rfl⟩
theorem LC_8 (j : JJ h X Y O Z) (ha : i + 6 ≤ eN E) (hN : eN E < 2 ^ 31) (kk : ∀ h2 Z' y5 y6, JJ h2 X Y O Z' → XV E mL_law k u 4038 (Lw E X Y O i y5 y6) [] h2 QT) : XV E mL_law (3 + k) (17 + u) 656 (Lw E X Y O i x5 x6) [] h QT := by
  refine V_aload_1 656 dL_law_656 ?_
  refine V_arg 657 i 1 ha hN (by decide) (by decide) dL_law_657 dL_law_658 dL_law_660 dL_law_661 dL_law_662 ?_
  refine V_arg 663 i 2 ha hN (by decide) (by decide) dL_law_663 dL_law_664 dL_law_666 dL_law_667 dL_law_668 ?_
  refine V_arg 669 i 3 ha hN (by decide) (by decide) dL_law_669 dL_law_670 dL_law_672 dL_law_673 dL_law_674 ?_
  refine V_aload_3 675 dL_law_675 ?_
  obtain ⟨r, h1, e1, kX, hO, hc, hM⟩ := JJ_call j (AGw_z (AGz_x j (ag_times j (eX E (i + 1)) (eX E (i + 2)) (eX E (i + 3)))))
  refine V_less (k' := (0 + ek r) + k) (u' := (0 + es r) + u) (by have := ek_le r; omega) (by have := es_le r; omega) ?_
  refine V_callSH (k := k) (u := u) (k' := 0 + ek r) (u' := 0 + es r) 676 (As := [.ref X, .int (eX E (i + 1)), .int (eX E (i + 2)), .int (eX E (i + 3)), .ref O]) calL_times stL_times mkL_229 rfl rfl rfl rfl rfl dL_law_676 (CL_times E X O (eX E (i + 1)) (eX E (i + 2)) (eX E (i + 3)) h e1 kX hO hc) (fun ec h3 q => LQ_no q) (fun v h3 q => ?_)
  obtain ⟨c, h', b, h2, Z', q0, m1, k1, j2, k2, t2, c2, v2⟩ := hM _ q
  cases q0
  refine V_istore_5 679 dL_law_679 rfl ?_
  refine V_aload_2 681 dL_law_681 ?_
  refine V_arg 682 i 1 ha hN (by decide) (by decide) dL_law_682 dL_law_683 dL_law_685 dL_law_686 dL_law_687 ?_
  refine V_arg 688 i 2 ha hN (by decide) (by decide) dL_law_688 dL_law_689 dL_law_691 dL_law_692 dL_law_693 ?_
  refine V_arg 694 i 3 ha hN (by decide) (by decide) dL_law_694 dL_law_695 dL_law_697 dL_law_698 dL_law_699 ?_
  exact V_tail (b := b) (args := [.int (eX E (i + 1)), .int (eX E (i + 2)), .int (eX E (i + 3))]) 700 calX9_times imX9_times seX9_times mkL_231 rfl rfl rfl (CX9_times E Y (eX E (i + 1)) (eX E (i + 2)) (eX E (i + 3)) _ (.inl b) h2 m1) k1 k2 j2.2.2.1 t2 c2 (fun q => (v2 q).1) dL_law_700 dL_law_703 dL_law_705 dL_law_706 dL_law_709 dL_law_711 dL_law_716 dL_law_718 dL_law_721 dL_law_722 dL_law_723 dL_law_724 dL_law_726 dL_law_727 dL_law_728 dL_law_733 (by decide) (kk h2 Z' _ _ j2)
theorem calL_inverse : xcalH mL_inverse (0, 10, 13, 20) [(0, 10, 17, 13)] 4 := ⟨okL_inverse.1, okL_inverse.2, by decide +kernel, by decide +kernel, rfl⟩
theorem LC_9 (j : JJ h X Y O Z) (ha : i + 6 ≤ eN E) (hN : eN E < 2 ^ 31) (kk : ∀ h2 Z' y5 y6, JJ h2 X Y O Z' → XV E mL_law k u 4038 (Lw E X Y O i y5 y6) [] h2 QT) : XV E mL_law (3 + k) (17 + u) 736 (Lw E X Y O i x5 x6) [] h QT := by
  refine V_aload_1 736 dL_law_736 ?_
  refine V_arg 737 i 1 ha hN (by decide) (by decide) dL_law_737 dL_law_738 dL_law_740 dL_law_741 dL_law_742 ?_
  refine V_arg 743 i 2 ha hN (by decide) (by decide) dL_law_743 dL_law_744 dL_law_746 dL_law_747 dL_law_748 ?_
  refine V_aload_3 749 dL_law_749 ?_
  obtain ⟨r, h1, e1, kX, hO, hc, hM⟩ := JJ_call j (AGw_z (AGz_x j (ag_inverse j (eX E (i + 1)) (eX E (i + 2)))))
  refine V_less (k' := (0 + ek r) + k) (u' := (0 + es r) + u) (by have := ek_le r; omega) (by have := es_le r; omega) ?_
  refine V_callSH (k := k) (u := u) (k' := 0 + ek r) (u' := 0 + es r) 750 (As := [.ref X, .int (eX E (i + 1)), .int (eX E (i + 2)), .ref O]) calL_inverse stL_inverse mkL_232 rfl rfl rfl rfl rfl dL_law_750 (CL_inverse E X O (eX E (i + 1)) (eX E (i + 2)) h e1 kX hO hc) (fun ec h3 q => LQ_no q) (fun v h3 q => ?_)
  obtain ⟨c, h', b, h2, Z', q0, m1, k1, j2, k2, t2, c2, v2⟩ := hM _ q
  cases q0
  refine V_istore_5 753 dL_law_753 rfl ?_
  refine V_aload_2 755 dL_law_755 ?_
  refine V_arg 756 i 1 ha hN (by decide) (by decide) dL_law_756 dL_law_757 dL_law_759 dL_law_760 dL_law_761 ?_
  refine V_arg 762 i 2 ha hN (by decide) (by decide) dL_law_762 dL_law_763 dL_law_765 dL_law_766 dL_law_767 ?_
  exact V_tail (b := b) (args := [.int (eX E (i + 1)), .int (eX E (i + 2))]) 768 calX9_inverse imX9_inverse seX9_inverse mkL_235 rfl rfl rfl (CX9_inverse E Y (eX E (i + 1)) (eX E (i + 2)) _ (.inl b) h2 m1) k1 k2 j2.2.2.1 t2 c2 (fun q => (v2 q).1) dL_law_768 dL_law_771 dL_law_773 dL_law_774 dL_law_777 dL_law_779 dL_law_784 dL_law_786 dL_law_789 dL_law_790 dL_law_791 dL_law_792 dL_law_794 dL_law_795 dL_law_796 dL_law_801 (by decide) (kk h2 Z' _ _ j2)
theorem calL_orderOf : xcalH mL_orderOf (0, 10, 13, 20) [(0, 10, 17, 13)] 4 := ⟨okL_orderOf.1, okL_orderOf.2, by decide +kernel, by decide +kernel, rfl⟩
theorem LC_10 (j : JJ h X Y O Z) (ha : i + 6 ≤ eN E) (hN : eN E < 2 ^ 31) (kk : ∀ h2 Z' y5 y6, JJ h2 X Y O Z' → XV E mL_law k u 4038 (Lw E X Y O i y5 y6) [] h2 QT) : XV E mL_law (3 + k) (17 + u) 804 (Lw E X Y O i x5 x6) [] h QT := by
  refine V_aload_1 804 dL_law_804 ?_
  refine V_arg 805 i 1 ha hN (by decide) (by decide) dL_law_805 dL_law_806 dL_law_808 dL_law_809 dL_law_810 ?_
  refine V_arg 811 i 2 ha hN (by decide) (by decide) dL_law_811 dL_law_812 dL_law_814 dL_law_815 dL_law_816 ?_
  refine V_aload_3 817 dL_law_817 ?_
  obtain ⟨r, h1, e1, kX, hO, hc, hM⟩ := JJ_call j (AGw_z (AGz_x j (ag_orderOf j (eX E (i + 1)) (eX E (i + 2)))))
  refine V_less (k' := (0 + ek r) + k) (u' := (0 + es r) + u) (by have := ek_le r; omega) (by have := es_le r; omega) ?_
  refine V_callSH (k := k) (u := u) (k' := 0 + ek r) (u' := 0 + es r) 818 (As := [.ref X, .int (eX E (i + 1)), .int (eX E (i + 2)), .ref O]) calL_orderOf stL_orderOf mkL_236 rfl rfl rfl rfl rfl dL_law_818 (CL_orderOf E X O (eX E (i + 1)) (eX E (i + 2)) h e1 kX hO hc) (fun ec h3 q => LQ_no q) (fun v h3 q => ?_)
  obtain ⟨c, h', b, h2, Z', q0, m1, k1, j2, k2, t2, c2, v2⟩ := hM _ q
  cases q0
  refine V_istore_5 821 dL_law_821 rfl ?_
  refine V_aload_2 823 dL_law_823 ?_
  refine V_arg 824 i 1 ha hN (by decide) (by decide) dL_law_824 dL_law_825 dL_law_827 dL_law_828 dL_law_829 ?_
  refine V_arg 830 i 2 ha hN (by decide) (by decide) dL_law_830 dL_law_831 dL_law_833 dL_law_834 dL_law_835 ?_
  exact V_tail (b := b) (args := [.int (eX E (i + 1)), .int (eX E (i + 2))]) 836 calX9_orderOf imX9_orderOf seX9_orderOf mkL_238 rfl rfl rfl (CX9_orderOf E Y (eX E (i + 1)) (eX E (i + 2)) _ (.inl b) h2 m1) k1 k2 j2.2.2.1 t2 c2 (fun q => (v2 q).1) dL_law_836 dL_law_839 dL_law_841 dL_law_842 dL_law_845 dL_law_847 dL_law_852 dL_law_854 dL_law_857 dL_law_858 dL_law_859 dL_law_860 dL_law_862 dL_law_863 dL_law_864 dL_law_869 (by decide) (kk h2 Z' _ _ j2)
theorem calL_centre : xcalH mL_centre (0, 9, 12, 20) [(0, 9, 15, 13)] 3 := ⟨okL_centre.1, okL_centre.2, by decide +kernel, by decide +kernel, rfl⟩
theorem LC_11 (j : JJ h X Y O Z) (ha : i + 6 ≤ eN E) (hN : eN E < 2 ^ 31) (kk : ∀ h2 Z' y5 y6, JJ h2 X Y O Z' → XV E mL_law k u 4038 (Lw E X Y O i y5 y6) [] h2 QT) : XV E mL_law (3 + k) (17 + u) 872 (Lw E X Y O i x5 x6) [] h QT := by
  refine V_aload_1 872 dL_law_872 ?_
  refine V_arg 873 i 1 ha hN (by decide) (by decide) dL_law_873 dL_law_874 dL_law_876 dL_law_877 dL_law_878 ?_
  refine V_aload_3 879 dL_law_879 ?_
  obtain ⟨r, h1, e1, kX, hO, hc, hM⟩ := JJ_call j (AGw_z (AGz_x j (ag_centre j (eX E (i + 1)))))
  refine V_less (k' := (0 + ek r) + k) (u' := (0 + es r) + u) (by have := ek_le r; omega) (by have := es_le r; omega) ?_
  refine V_callSH (k := k) (u := u) (k' := 0 + ek r) (u' := 0 + es r) 880 (As := [.ref X, .int (eX E (i + 1)), .ref O]) calL_centre stL_centre mkL_239 rfl rfl rfl rfl rfl dL_law_880 (CL_centre E X O (eX E (i + 1)) h e1 kX hO hc) (fun ec h3 q => LQ_no q) (fun v h3 q => ?_)
  obtain ⟨c, h', b, h2, Z', q0, m1, k1, j2, k2, t2, c2, v2⟩ := hM _ q
  cases q0
  refine V_istore_5 883 dL_law_883 rfl ?_
  refine V_aload_2 885 dL_law_885 ?_
  refine V_arg 886 i 1 ha hN (by decide) (by decide) dL_law_886 dL_law_887 dL_law_889 dL_law_890 dL_law_891 ?_
  exact V_tail (b := b) (args := [.int (eX E (i + 1))]) 892 calX9_centre imX9_centre seX9_centre mkL_241 rfl rfl rfl (CX9_centre E Y (eX E (i + 1)) _ (.inl b) h2 m1) k1 k2 j2.2.2.1 t2 c2 (fun q => (v2 q).1) dL_law_892 dL_law_895 dL_law_897 dL_law_898 dL_law_901 dL_law_903 dL_law_908 dL_law_910 dL_law_913 dL_law_914 dL_law_915 dL_law_916 dL_law_918 dL_law_919 dL_law_920 dL_law_925 (by decide) (kk h2 Z' _ _ j2)
theorem calL_conjugacy : xcalH mL_conjugacy (0, 9, 12, 20) [(0, 9, 15, 13)] 3 := ⟨okL_conjugacy.1, okL_conjugacy.2, by decide +kernel, by decide +kernel, rfl⟩
theorem LC_12 (j : JJ h X Y O Z) (ha : i + 6 ≤ eN E) (hN : eN E < 2 ^ 31) (kk : ∀ h2 Z' y5 y6, JJ h2 X Y O Z' → XV E mL_law k u 4038 (Lw E X Y O i y5 y6) [] h2 QT) : XV E mL_law (3 + k) (17 + u) 928 (Lw E X Y O i x5 x6) [] h QT := by
  refine V_aload_1 928 dL_law_928 ?_
  refine V_arg 929 i 1 ha hN (by decide) (by decide) dL_law_929 dL_law_930 dL_law_932 dL_law_933 dL_law_934 ?_
  refine V_aload_3 935 dL_law_935 ?_
  obtain ⟨r, h1, e1, kX, hO, hc, hM⟩ := JJ_call j (AGw_z (AGz_x j (ag_conjugacy j (eX E (i + 1)))))
  refine V_less (k' := (0 + ek r) + k) (u' := (0 + es r) + u) (by have := ek_le r; omega) (by have := es_le r; omega) ?_
  refine V_callSH (k := k) (u := u) (k' := 0 + ek r) (u' := 0 + es r) 936 (As := [.ref X, .int (eX E (i + 1)), .ref O]) calL_conjugacy stL_conjugacy mkL_242 rfl rfl rfl rfl rfl dL_law_936 (CL_conjugacy E X O (eX E (i + 1)) h e1 kX hO hc) (fun ec h3 q => LQ_no q) (fun v h3 q => ?_)
  obtain ⟨c, h', b, h2, Z', q0, m1, k1, j2, k2, t2, c2, v2⟩ := hM _ q
  cases q0
  refine V_istore_5 939 dL_law_939 rfl ?_
  refine V_aload_2 941 dL_law_941 ?_
  refine V_arg 942 i 1 ha hN (by decide) (by decide) dL_law_942 dL_law_943 dL_law_945 dL_law_946 dL_law_947 ?_
  exact V_tail (b := b) (args := [.int (eX E (i + 1))]) 948 calX9_conjugacy imX9_conjugacy seX9_conjugacy mkL_244 rfl rfl rfl (CX9_conjugacy E Y (eX E (i + 1)) _ (.inl b) h2 m1) k1 k2 j2.2.2.1 t2 c2 (fun q => (v2 q).1) dL_law_948 dL_law_951 dL_law_953 dL_law_954 dL_law_957 dL_law_959 dL_law_964 dL_law_966 dL_law_969 dL_law_970 dL_law_971 dL_law_972 dL_law_974 dL_law_975 dL_law_976 dL_law_981 (by decide) (kk h2 Z' _ _ j2)
theorem calL_generated : xcalH mL_generated (0, 10, 13, 20) [(0, 10, 17, 13), (0, 10, 21, 15)] 4 := ⟨okL_generated.1, okL_generated.2, by decide +kernel, by decide +kernel, rfl⟩
theorem LC_13 (j : JJ h X Y O Z) (ha : i + 6 ≤ eN E) (hN : eN E < 2 ^ 31) (kk : ∀ h2 Z' y5 y6, JJ h2 X Y O Z' → XV E mL_law k u 4038 (Lw E X Y O i y5 y6) [] h2 QT) : XV E mL_law (3 + k) (17 + u) 984 (Lw E X Y O i x5 x6) [] h QT := by
  refine V_aload_1 984 dL_law_984 ?_
  refine V_arg 985 i 1 ha hN (by decide) (by decide) dL_law_985 dL_law_986 dL_law_988 dL_law_989 dL_law_990 ?_
  refine V_arg 991 i 2 ha hN (by decide) (by decide) dL_law_991 dL_law_992 dL_law_994 dL_law_995 dL_law_996 ?_
  refine V_aload_3 997 dL_law_997 ?_
  obtain ⟨r, h1, e1, kX, hO, hc, hM⟩ := JJ_call j (AGw_z (AGz_x j (ag_generated j (eX E (i + 1)) (eX E (i + 2)))))
  refine V_less (k' := (0 + ek r) + k) (u' := (0 + es r) + u) (by have := ek_le r; omega) (by have := es_le r; omega) ?_
  refine V_callSH (k := k) (u := u) (k' := 0 + ek r) (u' := 0 + es r) 998 (As := [.ref X, .int (eX E (i + 1)), .int (eX E (i + 2)), .ref O]) calL_generated stL_generated mkL_245 rfl rfl rfl rfl rfl dL_law_998 (CL_generated E X O (eX E (i + 1)) (eX E (i + 2)) h e1 kX hO hc) (fun ec h3 q => LQ_no q) (fun v h3 q => ?_)
  obtain ⟨c, h', b, h2, Z', q0, m1, k1, j2, k2, t2, c2, v2⟩ := hM _ q
  cases q0
  refine V_istore_5 1001 dL_law_1001 rfl ?_
  refine V_aload_2 1003 dL_law_1003 ?_
  refine V_arg 1004 i 1 ha hN (by decide) (by decide) dL_law_1004 dL_law_1005 dL_law_1007 dL_law_1008 dL_law_1009 ?_
  refine V_arg 1010 i 2 ha hN (by decide) (by decide) dL_law_1010 dL_law_1011 dL_law_1013 dL_law_1014 dL_law_1015 ?_
  exact V_tail (b := b) (args := [.int (eX E (i + 1)), .int (eX E (i + 2))]) 1016 calX9_generated imX9_generated seX9_generated mkL_247 rfl rfl rfl (CX9_generated E Y (eX E (i + 1)) (eX E (i + 2)) _ (.inl b) h2 m1) k1 k2 j2.2.2.1 t2 c2 (fun q => (v2 q).1) dL_law_1016 dL_law_1019 dL_law_1021 dL_law_1022 dL_law_1025 dL_law_1027 dL_law_1032 dL_law_1034 dL_law_1037 dL_law_1038 dL_law_1039 dL_law_1040 dL_law_1042 dL_law_1043 dL_law_1044 dL_law_1049 (by decide) (kk h2 Z' _ _ j2)
theorem calL_normal : xcalH mL_normal (0, 10, 13, 20) [(0, 10, 17, 13), (0, 10, 21, 15)] 4 := ⟨okL_normal.1, okL_normal.2, by decide +kernel, by decide +kernel, rfl⟩
theorem LC_14 (j : JJ h X Y O Z) (ha : i + 6 ≤ eN E) (hN : eN E < 2 ^ 31) (kk : ∀ h2 Z' y5 y6, JJ h2 X Y O Z' → XV E mL_law k u 4038 (Lw E X Y O i y5 y6) [] h2 QT) : XV E mL_law (3 + k) (17 + u) 1052 (Lw E X Y O i x5 x6) [] h QT := by
  refine V_aload_1 1052 dL_law_1052 ?_
  refine V_arg 1053 i 1 ha hN (by decide) (by decide) dL_law_1053 dL_law_1054 dL_law_1056 dL_law_1057 dL_law_1058 ?_
  refine V_arg 1059 i 2 ha hN (by decide) (by decide) dL_law_1059 dL_law_1060 dL_law_1062 dL_law_1063 dL_law_1064 ?_
  refine V_aload_3 1065 dL_law_1065 ?_
  obtain ⟨r, h1, e1, kX, hO, hc, hM⟩ := JJ_call j (AGw_z (AGz_x j (ag_normal j (eX E (i + 1)) (eX E (i + 2)))))
  refine V_less (k' := (0 + ek r) + k) (u' := (0 + es r) + u) (by have := ek_le r; omega) (by have := es_le r; omega) ?_
  refine V_callSH (k := k) (u := u) (k' := 0 + ek r) (u' := 0 + es r) 1066 (As := [.ref X, .int (eX E (i + 1)), .int (eX E (i + 2)), .ref O]) calL_normal stL_normal mkL_248 rfl rfl rfl rfl rfl dL_law_1066 (CL_normal E X O (eX E (i + 1)) (eX E (i + 2)) h e1 kX hO hc) (fun ec h3 q => LQ_no q) (fun v h3 q => ?_)
  obtain ⟨c, h', b, h2, Z', q0, m1, k1, j2, k2, t2, c2, v2⟩ := hM _ q
  cases q0
  refine V_istore_5 1069 dL_law_1069 rfl ?_
  refine V_aload_2 1071 dL_law_1071 ?_
  refine V_arg 1072 i 1 ha hN (by decide) (by decide) dL_law_1072 dL_law_1073 dL_law_1075 dL_law_1076 dL_law_1077 ?_
  refine V_arg 1078 i 2 ha hN (by decide) (by decide) dL_law_1078 dL_law_1079 dL_law_1081 dL_law_1082 dL_law_1083 ?_
  exact V_tail (b := b) (args := [.int (eX E (i + 1)), .int (eX E (i + 2))]) 1084 calX9_normal imX9_normal seX9_normal mkL_250 rfl rfl rfl (CX9_normal E Y (eX E (i + 1)) (eX E (i + 2)) _ (.inl b) h2 m1) k1 k2 j2.2.2.1 t2 c2 (fun q => (v2 q).1) dL_law_1084 dL_law_1087 dL_law_1089 dL_law_1090 dL_law_1093 dL_law_1095 dL_law_1100 dL_law_1102 dL_law_1105 dL_law_1106 dL_law_1107 dL_law_1108 dL_law_1110 dL_law_1111 dL_law_1112 dL_law_1117 (by decide) (kk h2 Z' _ _ j2)
end LC
