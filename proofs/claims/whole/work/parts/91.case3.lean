/-! The law's cases 3. -/
set_option linter.unusedVariables false
section LC
variable {E : XG} {k u : Nat} {h : XH} {X Y O i : Nat} {Z : ZD} {x5 x6 : Option Value}
theorem calL_through : xcalH mL_through (0, 12, 15, 20) [(0, 12, 19, 13), (0, 12, 23, 15)] 5 := ⟨okL_through.1, okL_through.2, by decide +kernel, by decide +kernel, rfl⟩
theorem LC_45 (j : JJ h X Y O Z) (ha : i + 6 ≤ eN E) (hN : eN E < 2 ^ 31) (kk : ∀ h2 Z' y5 y6, JJ h2 X Y O Z' → XV E mL_law k u 4038 (Lw E X Y O i y5 y6) [] h2 QT) : XV E mL_law (3 + k) (17 + u) 3121 (Lw E X Y O i x5 x6) [] h QT := by
  refine V_aload_1 3121 dL_law_3121 ?_
  refine V_arg 3122 i 1 ha hN (by decide) (by decide) dL_law_3122 dL_law_3123 dL_law_3125 dL_law_3126 dL_law_3127 ?_
  refine V_arg 3128 i 2 ha hN (by decide) (by decide) dL_law_3128 dL_law_3129 dL_law_3131 dL_law_3132 dL_law_3133 ?_
  refine V_arg 3134 i 3 ha hN (by decide) (by decide) dL_law_3134 dL_law_3135 dL_law_3137 dL_law_3138 dL_law_3139 ?_
  refine V_aload_3 3140 dL_law_3140 ?_
  obtain ⟨r, h1, e1, kX, hO, hc, hM⟩ := JJ_call j (AGw_z (AGz_x j (ag_through j (eX E (i + 1)) (eX E (i + 2)) (eX E (i + 3)))))
  refine V_less (k' := (0 + ek r) + k) (u' := (0 + es r) + u) (by have := ek_le r; omega) (by have := es_le r; omega) ?_
  refine V_callSH (k := k) (u := u) (k' := 0 + ek r) (u' := 0 + es r) 3141 (As := [.ref X, .int (eX E (i + 1)), .int (eX E (i + 2)), .int (eX E (i + 3)), .ref O]) calL_through stL_through mkL_344 rfl rfl rfl rfl rfl dL_law_3141 (CL_through E X O (eX E (i + 1)) (eX E (i + 2)) (eX E (i + 3)) h e1 kX hO hc) (fun ec h3 q => LQ_no q) (fun v h3 q => ?_)
  obtain ⟨c, h', b, h2, Z', q0, m1, k1, j2, k2, t2, c2, v2⟩ := hM _ q
  cases q0
  refine V_istore_5 3144 dL_law_3144 rfl ?_
  refine V_aload_2 3146 dL_law_3146 ?_
  refine V_arg 3147 i 1 ha hN (by decide) (by decide) dL_law_3147 dL_law_3148 dL_law_3150 dL_law_3151 dL_law_3152 ?_
  refine V_arg 3153 i 2 ha hN (by decide) (by decide) dL_law_3153 dL_law_3154 dL_law_3156 dL_law_3157 dL_law_3158 ?_
  refine V_arg 3159 i 3 ha hN (by decide) (by decide) dL_law_3159 dL_law_3160 dL_law_3162 dL_law_3163 dL_law_3164 ?_
  exact V_tail (b := b) (args := [.int (eX E (i + 1)), .int (eX E (i + 2)), .int (eX E (i + 3))]) 3165 calX9_through imX9_through seX9_through mkL_346 rfl rfl rfl (CX9_through E Y (eX E (i + 1)) (eX E (i + 2)) (eX E (i + 3)) _ (.inl b) h2 m1) k1 k2 j2.2.2.1 t2 c2 (fun q => (v2 q).1) dL_law_3165 dL_law_3168 dL_law_3170 dL_law_3171 dL_law_3174 dL_law_3176 dL_law_3181 dL_law_3183 dL_law_3186 dL_law_3187 dL_law_3188 dL_law_3189 dL_law_3191 dL_law_3192 dL_law_3193 dL_law_3198 (by decide) (kk h2 Z' _ _ j2)
theorem calL_account : xcalH mL_account (0, 9, 12, 20) [(0, 9, 15, 15)] 3 := ⟨okL_account.1, okL_account.2, by decide +kernel, by decide +kernel, rfl⟩
theorem LC_46 (j : JJ h X Y O Z) (ha : i + 6 ≤ eN E) (hN : eN E < 2 ^ 31) (kk : ∀ h2 Z' y5 y6, JJ h2 X Y O Z' → XV E mL_law k u 4038 (Lw E X Y O i y5 y6) [] h2 QT) : XV E mL_law (3 + k) (17 + u) 3201 (Lw E X Y O i x5 x6) [] h QT := by
  refine V_aload_1 3201 dL_law_3201 ?_
  refine V_arg 3202 i 1 ha hN (by decide) (by decide) dL_law_3202 dL_law_3203 dL_law_3205 dL_law_3206 dL_law_3207 ?_
  refine V_aload_3 3208 dL_law_3208 ?_
  obtain ⟨r, h1, e1, kX, hO, hc, hM⟩ := JJ_call j (AGw_z (AGz_x j (ag_account j (eX E (i + 1)))))
  refine V_less (k' := (0 + ek r) + k) (u' := (0 + es r) + u) (by have := ek_le r; omega) (by have := es_le r; omega) ?_
  refine V_callSH (k := k) (u := u) (k' := 0 + ek r) (u' := 0 + es r) 3209 (As := [.ref X, .int (eX E (i + 1)), .ref O]) calL_account stL_account mkL_347 rfl rfl rfl rfl rfl dL_law_3209 (CL_account E X O (eX E (i + 1)) h e1 kX hO hc) (fun ec h3 q => LQ_no q) (fun v h3 q => ?_)
  obtain ⟨c, h', b, h2, Z', q0, m1, k1, j2, k2, t2, c2, v2⟩ := hM _ q
  cases q0
  refine V_istore_5 3212 dL_law_3212 rfl ?_
  refine V_aload_2 3214 dL_law_3214 ?_
  refine V_arg 3215 i 1 ha hN (by decide) (by decide) dL_law_3215 dL_law_3216 dL_law_3218 dL_law_3219 dL_law_3220 ?_
  exact V_tail (b := b) (args := [.int (eX E (i + 1))]) 3221 calX9_account imX9_account seX9_account mkL_349 rfl rfl rfl (CX9_account E Y (eX E (i + 1)) _ (.inl b) h2 m1) k1 k2 j2.2.2.1 t2 c2 (fun q => (v2 q).1) dL_law_3221 dL_law_3224 dL_law_3226 dL_law_3227 dL_law_3230 dL_law_3232 dL_law_3237 dL_law_3239 dL_law_3242 dL_law_3243 dL_law_3244 dL_law_3245 dL_law_3247 dL_law_3248 dL_law_3249 dL_law_3254 (by decide) (kk h2 Z' _ _ j2)
theorem calL_writeModule : xcalH mL_writeModule (0, 9, 12, 20) [(0, 9, 15, 13)] 3 := ⟨okL_writeModule.1, okL_writeModule.2, by decide +kernel, by decide +kernel, rfl⟩
theorem LC_47 (j : JJ h X Y O Z) (ha : i + 6 ≤ eN E) (hN : eN E < 2 ^ 31) (kk : ∀ h2 Z' y5 y6, JJ h2 X Y O Z' → XV E mL_law k u 4038 (Lw E X Y O i y5 y6) [] h2 QT) : XV E mL_law (3 + k) (17 + u) 3257 (Lw E X Y O i x5 x6) [] h QT := by
  refine V_aload_1 3257 dL_law_3257 ?_
  refine V_arg 3258 i 1 ha hN (by decide) (by decide) dL_law_3258 dL_law_3259 dL_law_3261 dL_law_3262 dL_law_3263 ?_
  refine V_aload_3 3264 dL_law_3264 ?_
  obtain ⟨r, h1, e1, kX, hO, hc, hM⟩ := JJ_call j (AGw_z (ag_writeModule j (eX E (i + 1))))
  refine V_less (k' := (0 + ek r) + k) (u' := (0 + es r) + u) (by have := ek_le r; omega) (by have := es_le r; omega) ?_
  refine V_callSH (k := k) (u := u) (k' := 0 + ek r) (u' := 0 + es r) 3265 (As := [.ref X, .int (eX E (i + 1)), .ref O]) calL_writeModule stL_writeModule mkL_350 rfl rfl rfl rfl rfl dL_law_3265 (CL_writeModule E X O (eX E (i + 1)) h e1 kX hO hc) (fun ec h3 q => LQ_no q) (fun v h3 q => ?_)
  obtain ⟨c, h', b, h2, Z', q0, m1, k1, j2, k2, t2, c2, v2⟩ := hM _ q
  cases q0
  refine V_istore_5 3268 dL_law_3268 rfl ?_
  refine V_aload_2 3270 dL_law_3270 ?_
  refine V_arg 3271 i 1 ha hN (by decide) (by decide) dL_law_3271 dL_law_3272 dL_law_3274 dL_law_3275 dL_law_3276 ?_
  exact V_tail (b := b) (args := [.int (eX E (i + 1))]) 3277 calX9_writeModule imX9_writeModule seX9_writeModule mkL_352 rfl rfl rfl (CX9_writeModule E Y (eX E (i + 1)) _ (.inl b) h2 m1) k1 k2 j2.2.2.1 t2 c2 (fun q => (v2 q).1) dL_law_3277 dL_law_3280 dL_law_3282 dL_law_3283 dL_law_3286 dL_law_3288 dL_law_3293 dL_law_3295 dL_law_3298 dL_law_3299 dL_law_3300 dL_law_3301 dL_law_3303 dL_law_3304 dL_law_3305 dL_law_3310 (by decide) (kk h2 Z' _ _ j2)
theorem calL_writeTable : xcalH mL_writeTable (0, 9, 12, 20) [(0, 9, 15, 13)] 3 := ⟨okL_writeTable.1, okL_writeTable.2, by decide +kernel, by decide +kernel, rfl⟩
theorem LC_48 (j : JJ h X Y O Z) (ha : i + 6 ≤ eN E) (hN : eN E < 2 ^ 31) (kk : ∀ h2 Z' y5 y6, JJ h2 X Y O Z' → XV E mL_law k u 4038 (Lw E X Y O i y5 y6) [] h2 QT) : XV E mL_law (3 + k) (17 + u) 3313 (Lw E X Y O i x5 x6) [] h QT := by
  refine V_aload_1 3313 dL_law_3313 ?_
  refine V_arg 3314 i 1 ha hN (by decide) (by decide) dL_law_3314 dL_law_3315 dL_law_3317 dL_law_3318 dL_law_3319 ?_
  refine V_aload_3 3320 dL_law_3320 ?_
  obtain ⟨r, h1, e1, kX, hO, hc, hM⟩ := JJ_call j (AGw_z (ag_writeTable j (eX E (i + 1))))
  refine V_less (k' := (0 + ek r) + k) (u' := (0 + es r) + u) (by have := ek_le r; omega) (by have := es_le r; omega) ?_
  refine V_callSH (k := k) (u := u) (k' := 0 + ek r) (u' := 0 + es r) 3321 (As := [.ref X, .int (eX E (i + 1)), .ref O]) calL_writeTable stL_writeTable mkL_353 rfl rfl rfl rfl rfl dL_law_3321 (CL_writeTable E X O (eX E (i + 1)) h e1 kX hO hc) (fun ec h3 q => LQ_no q) (fun v h3 q => ?_)
  obtain ⟨c, h', b, h2, Z', q0, m1, k1, j2, k2, t2, c2, v2⟩ := hM _ q
  cases q0
  refine V_istore_5 3324 dL_law_3324 rfl ?_
  refine V_aload_2 3326 dL_law_3326 ?_
  refine V_arg 3327 i 1 ha hN (by decide) (by decide) dL_law_3327 dL_law_3328 dL_law_3330 dL_law_3331 dL_law_3332 ?_
  exact V_tail (b := b) (args := [.int (eX E (i + 1))]) 3333 calX9_writeTable imX9_writeTable seX9_writeTable mkL_355 rfl rfl rfl (CX9_writeTable E Y (eX E (i + 1)) _ (.inl b) h2 m1) k1 k2 j2.2.2.1 t2 c2 (fun q => (v2 q).1) dL_law_3333 dL_law_3336 dL_law_3338 dL_law_3339 dL_law_3342 dL_law_3344 dL_law_3349 dL_law_3351 dL_law_3354 dL_law_3355 dL_law_3356 dL_law_3357 dL_law_3359 dL_law_3360 dL_law_3361 dL_law_3366 (by decide) (kk h2 Z' _ _ j2)
theorem calL_textByte : xcalH mL_textByte (0, 9, 12, 13) [] 3 := ⟨okL_textByte.1, okL_textByte.2, by decide +kernel, by decide +kernel, rfl⟩
theorem LC_49 (j : JJ h X Y O Z) (ha : i + 6 ≤ eN E) (hN : eN E < 2 ^ 31) (kk : ∀ h2 Z' y5 y6, JJ h2 X Y O Z' → XV E mL_law k u 4038 (Lw E X Y O i y5 y6) [] h2 QT) : XV E mL_law (3 + k) (17 + u) 3369 (Lw E X Y O i x5 x6) [] h QT := by
  refine V_aload_1 3369 dL_law_3369 ?_
  refine V_arg 3370 i 1 ha hN (by decide) (by decide) dL_law_3370 dL_law_3371 dL_law_3373 dL_law_3374 dL_law_3375 ?_
  refine V_aload_3 3376 dL_law_3376 ?_
  obtain ⟨r, h1, e1, kX, hO, hc, hM⟩ := JJ_call j (AGw_z (AGz_x j (ag_textByte j (eX E (i + 1)))))
  refine V_less (k' := (0 + ek r) + k) (u' := (0 + es r) + u) (by have := ek_le r; omega) (by have := es_le r; omega) ?_
  refine V_callSH (k := k) (u := u) (k' := 0 + ek r) (u' := 0 + es r) 3377 (As := [.ref X, .int (eX E (i + 1)), .ref O]) calL_textByte stL_textByte mkL_356 rfl rfl rfl rfl rfl dL_law_3377 (CL_textByte E X O (eX E (i + 1)) h e1 kX hO hc) (fun ec h3 q => LQ_no q) (fun v h3 q => ?_)
  obtain ⟨c, h', b, h2, Z', q0, m1, k1, j2, k2, t2, c2, v2⟩ := hM _ q
  cases q0
  refine V_istore_5 3380 dL_law_3380 rfl ?_
  refine V_aload_2 3382 dL_law_3382 ?_
  refine V_arg 3383 i 1 ha hN (by decide) (by decide) dL_law_3383 dL_law_3384 dL_law_3386 dL_law_3387 dL_law_3388 ?_
  exact V_tail (b := b) (args := [.int (eX E (i + 1))]) 3389 calX9_textByte imX9_textByte seX9_textByte mkL_358 rfl rfl rfl (CX9_textByte E Y (eX E (i + 1)) _ (.inl b) h2 m1) k1 k2 j2.2.2.1 t2 c2 (fun q => (v2 q).1) dL_law_3389 dL_law_3392 dL_law_3394 dL_law_3395 dL_law_3398 dL_law_3400 dL_law_3405 dL_law_3407 dL_law_3410 dL_law_3411 dL_law_3412 dL_law_3413 dL_law_3415 dL_law_3416 dL_law_3417 dL_law_3422 (by decide) (kk h2 Z' _ _ j2)
theorem calL_setBoundary : xcalH mL_setBoundary (0, 12, 15, 20) [(0, 12, 19, 13)] 5 := ⟨okL_setBoundary.1, okL_setBoundary.2, by decide +kernel, by decide +kernel, rfl⟩
theorem LC_50 (j : JJ h X Y O Z) (ha : i + 6 ≤ eN E) (hN : eN E < 2 ^ 31) (kk : ∀ h2 Z' y5 y6, JJ h2 X Y O Z' → XV E mL_law k u 4038 (Lw E X Y O i y5 y6) [] h2 QT) : XV E mL_law (3 + k) (17 + u) 3425 (Lw E X Y O i x5 x6) [] h QT := by
  refine V_aload_1 3425 dL_law_3425 ?_
  refine V_arg 3426 i 1 ha hN (by decide) (by decide) dL_law_3426 dL_law_3427 dL_law_3429 dL_law_3430 dL_law_3431 ?_
  refine V_arg 3432 i 2 ha hN (by decide) (by decide) dL_law_3432 dL_law_3433 dL_law_3435 dL_law_3436 dL_law_3437 ?_
  refine V_arg 3438 i 3 ha hN (by decide) (by decide) dL_law_3438 dL_law_3439 dL_law_3441 dL_law_3442 dL_law_3443 ?_
  refine V_aload_3 3444 dL_law_3444 ?_
  obtain ⟨r, h1, e1, kX, hO, hc, hM⟩ := JJ_call j (AGw_z (ag_setBoundary j (eX E (i + 1)) (eX E (i + 2)) (eX E (i + 3))))
  refine V_less (k' := (0 + ek r) + k) (u' := (0 + es r) + u) (by have := ek_le r; omega) (by have := es_le r; omega) ?_
  refine V_callSH (k := k) (u := u) (k' := 0 + ek r) (u' := 0 + es r) 3445 (As := [.ref X, .int (eX E (i + 1)), .int (eX E (i + 2)), .int (eX E (i + 3)), .ref O]) calL_setBoundary stL_setBoundary mkL_359 rfl rfl rfl rfl rfl dL_law_3445 (CL_setBoundary E X O (eX E (i + 1)) (eX E (i + 2)) (eX E (i + 3)) h e1 kX hO hc) (fun ec h3 q => LQ_no q) (fun v h3 q => ?_)
  obtain ⟨c, h', b, h2, Z', q0, m1, k1, j2, k2, t2, c2, v2⟩ := hM _ q
  cases q0
  refine V_istore_5 3448 dL_law_3448 rfl ?_
  refine V_aload_2 3450 dL_law_3450 ?_
  refine V_arg 3451 i 1 ha hN (by decide) (by decide) dL_law_3451 dL_law_3452 dL_law_3454 dL_law_3455 dL_law_3456 ?_
  refine V_arg 3457 i 2 ha hN (by decide) (by decide) dL_law_3457 dL_law_3458 dL_law_3460 dL_law_3461 dL_law_3462 ?_
  refine V_arg 3463 i 3 ha hN (by decide) (by decide) dL_law_3463 dL_law_3464 dL_law_3466 dL_law_3467 dL_law_3468 ?_
  exact V_tail (b := b) (args := [.int (eX E (i + 1)), .int (eX E (i + 2)), .int (eX E (i + 3))]) 3469 calX9_setBoundary imX9_setBoundary seX9_setBoundary mkL_361 rfl rfl rfl (CX9_setBoundary E Y (eX E (i + 1)) (eX E (i + 2)) (eX E (i + 3)) _ (.inl b) h2 m1) k1 k2 j2.2.2.1 t2 c2 (fun q => (v2 q).1) dL_law_3469 dL_law_3472 dL_law_3474 dL_law_3475 dL_law_3478 dL_law_3480 dL_law_3485 dL_law_3487 dL_law_3490 dL_law_3491 dL_law_3492 dL_law_3493 dL_law_3495 dL_law_3496 dL_law_3497 dL_law_3502 (by decide) (kk h2 Z' _ _ j2)
theorem calL_setAct : xcalH mL_setAct (0, 14, 17, 20) [(0, 14, 21, 13)] 6 := ⟨okL_setAct.1, okL_setAct.2, by decide +kernel, by decide +kernel, rfl⟩
theorem LC_51 (j : JJ h X Y O Z) (ha : i + 6 ≤ eN E) (hN : eN E < 2 ^ 31) (kk : ∀ h2 Z' y5 y6, JJ h2 X Y O Z' → XV E mL_law k u 4038 (Lw E X Y O i y5 y6) [] h2 QT) : XV E mL_law (3 + k) (17 + u) 3505 (Lw E X Y O i x5 x6) [] h QT := by
  refine V_aload_1 3505 dL_law_3505 ?_
  refine V_arg 3506 i 1 ha hN (by decide) (by decide) dL_law_3506 dL_law_3507 dL_law_3509 dL_law_3510 dL_law_3511 ?_
  refine V_arg 3512 i 2 ha hN (by decide) (by decide) dL_law_3512 dL_law_3513 dL_law_3515 dL_law_3516 dL_law_3517 ?_
  refine V_arg 3518 i 3 ha hN (by decide) (by decide) dL_law_3518 dL_law_3519 dL_law_3521 dL_law_3522 dL_law_3523 ?_
  refine V_arg 3524 i 4 ha hN (by decide) (by decide) dL_law_3524 dL_law_3525 dL_law_3527 dL_law_3528 dL_law_3529 ?_
  refine V_aload_3 3530 dL_law_3530 ?_
  obtain ⟨r, h1, e1, kX, hO, hc, hM⟩ := JJ_call j (AGw_z (ag_setAct j (eX E (i + 1)) (eX E (i + 2)) (eX E (i + 3)) (eX E (i + 4))))
  refine V_less (k' := (0 + ek r) + k) (u' := (0 + es r) + u) (by have := ek_le r; omega) (by have := es_le r; omega) ?_
  refine V_callSH (k := k) (u := u) (k' := 0 + ek r) (u' := 0 + es r) 3531 (As := [.ref X, .int (eX E (i + 1)), .int (eX E (i + 2)), .int (eX E (i + 3)), .int (eX E (i + 4)), .ref O]) calL_setAct stL_setAct mkL_362 rfl rfl rfl rfl rfl dL_law_3531 (CL_setAct E X O (eX E (i + 1)) (eX E (i + 2)) (eX E (i + 3)) (eX E (i + 4)) h e1 kX hO hc) (fun ec h3 q => LQ_no q) (fun v h3 q => ?_)
  obtain ⟨c, h', b, h2, Z', q0, m1, k1, j2, k2, t2, c2, v2⟩ := hM _ q
  cases q0
  refine V_istore_5 3534 dL_law_3534 rfl ?_
  refine V_aload_2 3536 dL_law_3536 ?_
  refine V_arg 3537 i 1 ha hN (by decide) (by decide) dL_law_3537 dL_law_3538 dL_law_3540 dL_law_3541 dL_law_3542 ?_
  refine V_arg 3543 i 2 ha hN (by decide) (by decide) dL_law_3543 dL_law_3544 dL_law_3546 dL_law_3547 dL_law_3548 ?_
  refine V_arg 3549 i 3 ha hN (by decide) (by decide) dL_law_3549 dL_law_3550 dL_law_3552 dL_law_3553 dL_law_3554 ?_
  refine V_arg 3555 i 4 ha hN (by decide) (by decide) dL_law_3555 dL_law_3556 dL_law_3558 dL_law_3559 dL_law_3560 ?_
  exact V_tail (b := b) (args := [.int (eX E (i + 1)), .int (eX E (i + 2)), .int (eX E (i + 3)), .int (eX E (i + 4))]) 3561 calX9_setAct imX9_setAct seX9_setAct mkL_365 rfl rfl rfl (CX9_setAct E Y (eX E (i + 1)) (eX E (i + 2)) (eX E (i + 3)) (eX E (i + 4)) _ (.inl b) h2 m1) k1 k2 j2.2.2.1 t2 c2 (fun q => (v2 q).1) dL_law_3561 dL_law_3564 dL_law_3566 dL_law_3567 dL_law_3570 dL_law_3572 dL_law_3577 dL_law_3579 dL_law_3582 dL_law_3583 dL_law_3584 dL_law_3585 dL_law_3587 dL_law_3588 dL_law_3589 dL_law_3594 (by decide) (kk h2 Z' _ _ j2)
theorem calL_rest : xcalH mL_rest (0, 9, 12, 20) [(0, 9, 15, 13)] 3 := ⟨okL_rest.1, okL_rest.2, by decide +kernel, by decide +kernel, rfl⟩
theorem LC_52 (j : JJ h X Y O Z) (ha : i + 6 ≤ eN E) (hN : eN E < 2 ^ 31) (kk : ∀ h2 Z' y5 y6, JJ h2 X Y O Z' → XV E mL_law k u 4038 (Lw E X Y O i y5 y6) [] h2 QT) : XV E mL_law (3 + k) (17 + u) 3597 (Lw E X Y O i x5 x6) [] h QT := by
  refine V_aload_1 3597 dL_law_3597 ?_
  refine V_arg 3598 i 1 ha hN (by decide) (by decide) dL_law_3598 dL_law_3599 dL_law_3601 dL_law_3602 dL_law_3603 ?_
  refine V_aload_3 3604 dL_law_3604 ?_
  obtain ⟨r, h1, e1, kX, hO, hc, hM⟩ := JJ_call j (AGw_z (ag_rest j (eX E (i + 1))))
  refine V_less (k' := (0 + ek r) + k) (u' := (0 + es r) + u) (by have := ek_le r; omega) (by have := es_le r; omega) ?_
  refine V_callSH (k := k) (u := u) (k' := 0 + ek r) (u' := 0 + es r) 3605 (As := [.ref X, .int (eX E (i + 1)), .ref O]) calL_rest stL_rest mkL_366 rfl rfl rfl rfl rfl dL_law_3605 (CL_rest E X O (eX E (i + 1)) h e1 kX hO hc) (fun ec h3 q => LQ_no q) (fun v h3 q => ?_)
  obtain ⟨c, h', b, h2, Z', q0, m1, k1, j2, k2, t2, c2, v2⟩ := hM _ q
  cases q0
  refine V_istore_5 3608 dL_law_3608 rfl ?_
  refine V_aload_2 3610 dL_law_3610 ?_
  refine V_arg 3611 i 1 ha hN (by decide) (by decide) dL_law_3611 dL_law_3612 dL_law_3614 dL_law_3615 dL_law_3616 ?_
  exact V_tail (b := b) (args := [.int (eX E (i + 1))]) 3617 calX9_rest imX9_rest seX9_rest mkL_368 rfl rfl rfl (CX9_rest E Y (eX E (i + 1)) _ (.inl b) h2 m1) k1 k2 j2.2.2.1 t2 c2 (fun q => (v2 q).1) dL_law_3617 dL_law_3620 dL_law_3622 dL_law_3623 dL_law_3626 dL_law_3628 dL_law_3633 dL_law_3635 dL_law_3638 dL_law_3639 dL_law_3640 dL_law_3641 dL_law_3643 dL_law_3644 dL_law_3645 dL_law_3650 (by decide) (kk h2 Z' _ _ j2)
theorem calL_conjugate : xcalH mL_conjugate (0, 9, 12, 20) [(0, 9, 15, 13), (0, 9, 18, 15)] 3 := ⟨okL_conjugate.1, okL_conjugate.2, by decide +kernel, by decide +kernel, rfl⟩
theorem LC_53 (j : JJ h X Y O Z) (ha : i + 6 ≤ eN E) (hN : eN E < 2 ^ 31) (kk : ∀ h2 Z' y5 y6, JJ h2 X Y O Z' → XV E mL_law k u 4038 (Lw E X Y O i y5 y6) [] h2 QT) : XV E mL_law (3 + k) (17 + u) 3653 (Lw E X Y O i x5 x6) [] h QT := by
  refine V_aload_1 3653 dL_law_3653 ?_
  refine V_arg 3654 i 1 ha hN (by decide) (by decide) dL_law_3654 dL_law_3655 dL_law_3657 dL_law_3658 dL_law_3659 ?_
  refine V_aload_3 3660 dL_law_3660 ?_
  obtain ⟨r, h1, e1, kX, hO, hc, hM⟩ := JJ_call j (AGw_z (ag_conjugate j (eX E (i + 1))))
  refine V_less (k' := (0 + ek r) + k) (u' := (0 + es r) + u) (by have := ek_le r; omega) (by have := es_le r; omega) ?_
  refine V_callSH (k := k) (u := u) (k' := 0 + ek r) (u' := 0 + es r) 3661 (As := [.ref X, .int (eX E (i + 1)), .ref O]) calL_conjugate stL_conjugate mkL_369 rfl rfl rfl rfl rfl dL_law_3661 (CL_conjugate E X O (eX E (i + 1)) h e1 kX hO hc) (fun ec h3 q => LQ_no q) (fun v h3 q => ?_)
  obtain ⟨c, h', b, h2, Z', q0, m1, k1, j2, k2, t2, c2, v2⟩ := hM _ q
  cases q0
  refine V_istore_5 3664 dL_law_3664 rfl ?_
  refine V_aload_2 3666 dL_law_3666 ?_
  refine V_arg 3667 i 1 ha hN (by decide) (by decide) dL_law_3667 dL_law_3668 dL_law_3670 dL_law_3671 dL_law_3672 ?_
  exact V_tail (b := b) (args := [.int (eX E (i + 1))]) 3673 calX9_conjugate imX9_conjugate seX9_conjugate mkL_371 rfl rfl rfl (CX9_conjugate E Y (eX E (i + 1)) _ (.inl b) h2 m1) k1 k2 j2.2.2.1 t2 c2 (fun q => (v2 q).1) dL_law_3673 dL_law_3676 dL_law_3678 dL_law_3679 dL_law_3682 dL_law_3684 dL_law_3689 dL_law_3691 dL_law_3694 dL_law_3695 dL_law_3696 dL_law_3697 dL_law_3699 dL_law_3700 dL_law_3701 dL_law_3706 (by decide) (kk h2 Z' _ _ j2)
theorem calL_setTop : xcalH mL_setTop (0, 12, 15, 20) [(0, 12, 19, 13)] 5 := ⟨okL_setTop.1, okL_setTop.2, by decide +kernel, by decide +kernel, rfl⟩
theorem LC_54 (j : JJ h X Y O Z) (ha : i + 6 ≤ eN E) (hN : eN E < 2 ^ 31) (kk : ∀ h2 Z' y5 y6, JJ h2 X Y O Z' → XV E mL_law k u 4038 (Lw E X Y O i y5 y6) [] h2 QT) : XV E mL_law (3 + k) (17 + u) 3709 (Lw E X Y O i x5 x6) [] h QT := by
  refine V_aload_1 3709 dL_law_3709 ?_
  refine V_arg 3710 i 1 ha hN (by decide) (by decide) dL_law_3710 dL_law_3711 dL_law_3713 dL_law_3714 dL_law_3715 ?_
  refine V_arg 3716 i 2 ha hN (by decide) (by decide) dL_law_3716 dL_law_3717 dL_law_3719 dL_law_3720 dL_law_3721 ?_
  refine V_arg 3722 i 3 ha hN (by decide) (by decide) dL_law_3722 dL_law_3723 dL_law_3725 dL_law_3726 dL_law_3727 ?_
  refine V_aload_3 3728 dL_law_3728 ?_
  obtain ⟨r, h1, e1, kX, hO, hc, hM⟩ := JJ_call j (AGw_z (ag_setTop j (eX E (i + 1)) (eX E (i + 2)) (eX E (i + 3))))
  refine V_less (k' := (0 + ek r) + k) (u' := (0 + es r) + u) (by have := ek_le r; omega) (by have := es_le r; omega) ?_
  refine V_callSH (k := k) (u := u) (k' := 0 + ek r) (u' := 0 + es r) 3729 (As := [.ref X, .int (eX E (i + 1)), .int (eX E (i + 2)), .int (eX E (i + 3)), .ref O]) calL_setTop stL_setTop mkL_372 rfl rfl rfl rfl rfl dL_law_3729 (CL_setTop E X O (eX E (i + 1)) (eX E (i + 2)) (eX E (i + 3)) h e1 kX hO hc) (fun ec h3 q => LQ_no q) (fun v h3 q => ?_)
  obtain ⟨c, h', b, h2, Z', q0, m1, k1, j2, k2, t2, c2, v2⟩ := hM _ q
  cases q0
  refine V_istore_5 3732 dL_law_3732 rfl ?_
  refine V_aload_2 3734 dL_law_3734 ?_
  refine V_arg 3735 i 1 ha hN (by decide) (by decide) dL_law_3735 dL_law_3736 dL_law_3738 dL_law_3739 dL_law_3740 ?_
  refine V_arg 3741 i 2 ha hN (by decide) (by decide) dL_law_3741 dL_law_3742 dL_law_3744 dL_law_3745 dL_law_3746 ?_
  refine V_arg 3747 i 3 ha hN (by decide) (by decide) dL_law_3747 dL_law_3748 dL_law_3750 dL_law_3751 dL_law_3752 ?_
  exact V_tail (b := b) (args := [.int (eX E (i + 1)), .int (eX E (i + 2)), .int (eX E (i + 3))]) 3753 calX9_setTop imX9_setTop seX9_setTop mkL_374 rfl rfl rfl (CX9_setTop E Y (eX E (i + 1)) (eX E (i + 2)) (eX E (i + 3)) _ (.inl b) h2 m1) k1 k2 j2.2.2.1 t2 c2 (fun q => (v2 q).1) dL_law_3753 dL_law_3756 dL_law_3758 dL_law_3759 dL_law_3762 dL_law_3764 dL_law_3769 dL_law_3771 dL_law_3774 dL_law_3775 dL_law_3776 dL_law_3777 dL_law_3779 dL_law_3780 dL_law_3781 dL_law_3786 (by decide) (kk h2 Z' _ _ j2)
theorem calL_setBottom : xcalH mL_setBottom (0, 12, 15, 20) [(0, 12, 19, 13)] 5 := ⟨okL_setBottom.1, okL_setBottom.2, by decide +kernel, by decide +kernel, rfl⟩
theorem LC_55 (j : JJ h X Y O Z) (ha : i + 6 ≤ eN E) (hN : eN E < 2 ^ 31) (kk : ∀ h2 Z' y5 y6, JJ h2 X Y O Z' → XV E mL_law k u 4038 (Lw E X Y O i y5 y6) [] h2 QT) : XV E mL_law (3 + k) (17 + u) 3789 (Lw E X Y O i x5 x6) [] h QT := by
  refine V_aload_1 3789 dL_law_3789 ?_
  refine V_arg 3790 i 1 ha hN (by decide) (by decide) dL_law_3790 dL_law_3791 dL_law_3793 dL_law_3794 dL_law_3795 ?_
  refine V_arg 3796 i 2 ha hN (by decide) (by decide) dL_law_3796 dL_law_3797 dL_law_3799 dL_law_3800 dL_law_3801 ?_
  refine V_arg 3802 i 3 ha hN (by decide) (by decide) dL_law_3802 dL_law_3803 dL_law_3805 dL_law_3806 dL_law_3807 ?_
  refine V_aload_3 3808 dL_law_3808 ?_
  obtain ⟨r, h1, e1, kX, hO, hc, hM⟩ := JJ_call j (AGw_z (ag_setBottom j (eX E (i + 1)) (eX E (i + 2)) (eX E (i + 3))))
  refine V_less (k' := (0 + ek r) + k) (u' := (0 + es r) + u) (by have := ek_le r; omega) (by have := es_le r; omega) ?_
  refine V_callSH (k := k) (u := u) (k' := 0 + ek r) (u' := 0 + es r) 3809 (As := [.ref X, .int (eX E (i + 1)), .int (eX E (i + 2)), .int (eX E (i + 3)), .ref O]) calL_setBottom stL_setBottom mkL_375 rfl rfl rfl rfl rfl dL_law_3809 (CL_setBottom E X O (eX E (i + 1)) (eX E (i + 2)) (eX E (i + 3)) h e1 kX hO hc) (fun ec h3 q => LQ_no q) (fun v h3 q => ?_)
  obtain ⟨c, h', b, h2, Z', q0, m1, k1, j2, k2, t2, c2, v2⟩ := hM _ q
  cases q0
  refine V_istore_5 3812 dL_law_3812 rfl ?_
  refine V_aload_2 3814 dL_law_3814 ?_
  refine V_arg 3815 i 1 ha hN (by decide) (by decide) dL_law_3815 dL_law_3816 dL_law_3818 dL_law_3819 dL_law_3820 ?_
  refine V_arg 3821 i 2 ha hN (by decide) (by decide) dL_law_3821 dL_law_3822 dL_law_3824 dL_law_3825 dL_law_3826 ?_
  refine V_arg 3827 i 3 ha hN (by decide) (by decide) dL_law_3827 dL_law_3828 dL_law_3830 dL_law_3831 dL_law_3832 ?_
  exact V_tail (b := b) (args := [.int (eX E (i + 1)), .int (eX E (i + 2)), .int (eX E (i + 3))]) 3833 calX9_setBottom imX9_setBottom seX9_setBottom mkL_377 rfl rfl rfl (CX9_setBottom E Y (eX E (i + 1)) (eX E (i + 2)) (eX E (i + 3)) _ (.inl b) h2 m1) k1 k2 j2.2.2.1 t2 c2 (fun q => (v2 q).1) dL_law_3833 dL_law_3836 dL_law_3838 dL_law_3839 dL_law_3842 dL_law_3844 dL_law_3849 dL_law_3851 dL_law_3854 dL_law_3855 dL_law_3856 dL_law_3857 dL_law_3859 dL_law_3860 dL_law_3861 dL_law_3866 (by decide) (kk h2 Z' _ _ j2)
theorem calL_undo : xcalH mL_undo (0, 8, 11, 20) [] 2 := ⟨okL_undo.1, okL_undo.2, by decide +kernel, by decide +kernel, rfl⟩
theorem LC_56 (j : JJ h X Y O Z) (ha : i + 6 ≤ eN E) (hN : eN E < 2 ^ 31) (kk : ∀ h2 Z' y5 y6, JJ h2 X Y O Z' → XV E mL_law k u 4038 (Lw E X Y O i y5 y6) [] h2 QT) : XV E mL_law (3 + k) (17 + u) 3869 (Lw E X Y O i x5 x6) [] h QT := by
  refine V_aload_1 3869 dL_law_3869 ?_
  refine V_aload_3 3870 dL_law_3870 ?_
  obtain ⟨r, h1, e1, kX, hO, hc, hM⟩ := JJ_call j (AGw_z (ag_undo j))
  refine V_less (k' := (0 + ek r) + k) (u' := (0 + es r) + u) (by have := ek_le r; omega) (by have := es_le r; omega) ?_
  refine V_callSH (k := k) (u := u) (k' := 0 + ek r) (u' := 0 + es r) 3871 (As := [.ref X, .ref O]) calL_undo stL_undo mkL_378 rfl rfl rfl rfl rfl dL_law_3871 (CL_undo E X O h e1 kX hO hc) (fun ec h3 q => LQ_no q) (fun v h3 q => ?_)
  obtain ⟨c, h', b, h2, Z', q0, m1, k1, j2, k2, t2, c2, v2⟩ := hM _ q
  cases q0
  refine V_istore_5 3874 dL_law_3874 rfl ?_
  refine V_aload_2 3876 dL_law_3876 ?_
  exact V_tail (b := b) (args := []) 3877 calX9_undo imX9_undo seX9_undo mkL_380 rfl rfl rfl (CX9_undo E Y _ (.inl b) h2 m1) k1 k2 j2.2.2.1 t2 c2 (fun q => (v2 q).1) dL_law_3877 dL_law_3880 dL_law_3882 dL_law_3883 dL_law_3886 dL_law_3888 dL_law_3893 dL_law_3895 dL_law_3898 dL_law_3899 dL_law_3900 dL_law_3901 dL_law_3903 dL_law_3904 dL_law_3905 dL_law_3910 (by decide) (kk h2 Z' _ _ j2)
theorem LC_57 (j : JJ h X Y O Z) (ha : i + 6 ≤ eN E) (hN : eN E < 2 ^ 31) (kk : ∀ h2 Z' y5 y6, JJ h2 X Y O Z' → XV E mL_law k u 4038 (Lw E X Y O i y5 y6) [] h2 QT) : XV E mL_law (3 + k) (17 + u) 3913 (Lw E X Y O i x5 x6) [] h QT := by
  refine V_aload_1 3913 dL_law_3913 ?_
  obtain ⟨b, h1, h2, Z', e1, kX, m1, k1, j2⟩ := JJ_dir (FC := FX8_undoable E X) (FM := FX9_undoable E Y) j (AGw_z (AGz_x j (ag0_undoable (O := O) j)))
  refine V_less (k' := 0 + k) (u' := 0 + u) (by omega) (by omega) ?_
  refine V_callV (k := k) (u := u) (k' := 0) (u' := 0) (ci := 8) 3914 (As := []) calX8_undoable imX8_undoable seX8_undoable mkL_381 rfl rfl rfl rfl rfl kX (by decide) rfl rfl dL_law_3914 (CX8_undoable E X h (.inl b) h1 e1) (fun ec h3 q => by cases q) (fun v h3 q => ?_)
  cases q
  refine V_aload_2 3917 dL_law_3917 ?_
  exact V_dir (b := b) (args := []) 3918 calX9_undoable imX9_undoable seX9_undoable mkL_384 rfl rfl rfl (CX9_undoable E Y _ (.inl b) h2 m1) k1 dL_law_3918 dL_law_3921 (by decide) (kk h2 Z' _ _ j2)
theorem calL_save : xcalH mL_save (0, 9, 12, 20) [(0, 9, 15, 13)] 3 := ⟨okL_save.1, okL_save.2, by decide +kernel, by decide +kernel, rfl⟩
theorem LC_58 (j : JJ h X Y O Z) (ha : i + 6 ≤ eN E) (hN : eN E < 2 ^ 31) (kk : ∀ h2 Z' y5 y6, JJ h2 X Y O Z' → XV E mL_law k u 4038 (Lw E X Y O i y5 y6) [] h2 QT) : XV E mL_law (3 + k) (17 + u) 3926 (Lw E X Y O i x5 x6) [] h QT := by
  refine V_aload_1 3926 dL_law_3926 ?_
  refine V_arg 3927 i 1 ha hN (by decide) (by decide) dL_law_3927 dL_law_3928 dL_law_3930 dL_law_3931 dL_law_3932 ?_
  refine V_aload_3 3933 dL_law_3933 ?_
  obtain ⟨r, h1, e1, kX, hO, hc, hM⟩ := JJ_call j (AGw_z (ag_save j (eX E (i + 1))))
  refine V_less (k' := (0 + ek r) + k) (u' := (0 + es r) + u) (by have := ek_le r; omega) (by have := es_le r; omega) ?_
  refine V_callSH (k := k) (u := u) (k' := 0 + ek r) (u' := 0 + es r) 3934 (As := [.ref X, .int (eX E (i + 1)), .ref O]) calL_save stL_save mkL_385 rfl rfl rfl rfl rfl dL_law_3934 (CL_save E X O (eX E (i + 1)) h e1 kX hO hc) (fun ec h3 q => LQ_no q) (fun v h3 q => ?_)
  obtain ⟨c, h', b, h2, Z', q0, m1, k1, j2, k2, t2, c2, v2⟩ := hM _ q
  cases q0
  refine V_istore_5 3937 dL_law_3937 rfl ?_
  refine V_aload_2 3939 dL_law_3939 ?_
  refine V_arg 3940 i 1 ha hN (by decide) (by decide) dL_law_3940 dL_law_3941 dL_law_3943 dL_law_3944 dL_law_3945 ?_
  exact V_tail (b := b) (args := [.int (eX E (i + 1))]) 3946 calX9_save imX9_save seX9_save mkL_387 rfl rfl rfl (CX9_save E Y (eX E (i + 1)) _ (.inl b) h2 m1) k1 k2 j2.2.2.1 t2 c2 (fun q => (v2 q).1) dL_law_3946 dL_law_3949 dL_law_3951 dL_law_3952 dL_law_3955 dL_law_3957 dL_law_3962 dL_law_3964 dL_law_3967 dL_law_3968 dL_law_3969 dL_law_3970 dL_law_3972 dL_law_3973 dL_law_3974 dL_law_3979 (by decide) (kk h2 Z' _ _ j2)
theorem calL_restore : xcalH mL_restore (0, 9, 12, 13) [(0, 9, 15, 20)] 3 := ⟨okL_restore.1, okL_restore.2, by decide +kernel, by decide +kernel, rfl⟩
theorem LC_59 (j : JJ h X Y O Z) (ha : i + 6 ≤ eN E) (hN : eN E < 2 ^ 31) (kk : ∀ h2 Z' y5 y6, JJ h2 X Y O Z' → XV E mL_law k u 4038 (Lw E X Y O i y5 y6) [] h2 QT) : XV E mL_law (3 + k) (17 + u) 3982 (Lw E X Y O i x5 x6) [] h QT := by
  refine V_aload_1 3982 dL_law_3982 ?_
  refine V_arg 3983 i 1 ha hN (by decide) (by decide) dL_law_3983 dL_law_3984 dL_law_3986 dL_law_3987 dL_law_3988 ?_
  refine V_aload_3 3989 dL_law_3989 ?_
  obtain ⟨r, h1, e1, kX, hO, hc, hM⟩ := JJ_call j (AGw_z (ag_restore j (eX E (i + 1))))
  refine V_less (k' := (0 + ek r) + k) (u' := (0 + es r) + u) (by have := ek_le r; omega) (by have := es_le r; omega) ?_
  refine V_callSH (k := k) (u := u) (k' := 0 + ek r) (u' := 0 + es r) 3990 (As := [.ref X, .int (eX E (i + 1)), .ref O]) calL_restore stL_restore mkL_388 rfl rfl rfl rfl rfl dL_law_3990 (CL_restore E X O (eX E (i + 1)) h e1 kX hO hc) (fun ec h3 q => LQ_no q) (fun v h3 q => ?_)
  obtain ⟨c, h', b, h2, Z', q0, m1, k1, j2, k2, t2, c2, v2⟩ := hM _ q
  cases q0
  refine V_istore_5 3993 dL_law_3993 rfl ?_
  refine V_aload_2 3995 dL_law_3995 ?_
  refine V_arg 3996 i 1 ha hN (by decide) (by decide) dL_law_3996 dL_law_3997 dL_law_3999 dL_law_4000 dL_law_4001 ?_
  exact V_tail (b := b) (args := [.int (eX E (i + 1))]) 4002 calX9_restore imX9_restore seX9_restore mkL_390 rfl rfl rfl (CX9_restore E Y (eX E (i + 1)) _ (.inl b) h2 m1) k1 k2 j2.2.2.1 t2 c2 (fun q => (v2 q).1) dL_law_4002 dL_law_4005 dL_law_4007 dL_law_4008 dL_law_4011 dL_law_4013 dL_law_4018 dL_law_4020 dL_law_4023 dL_law_4024 dL_law_4025 dL_law_4026 dL_law_4028 dL_law_4029 dL_law_4030 dL_law_4035 (by decide) (kk h2 Z' _ _ j2)
end LC
