/-! The law's cases 2. -/
set_option linter.unusedVariables false
section LC
variable {E : XG} {k u : Nat} {h : XH} {X Y O i : Nat} {Z : ZD} {x5 x6 : Option Value}
theorem calL_areAlike : xcalH mL_areAlike (0, 17, 20, 20) [(0, 17, 24, 13), (0, 17, 28, 15)] 4 := ⟨okL_areAlike.1, okL_areAlike.2, by decide +kernel, by decide +kernel, rfl⟩
theorem LC_30 (j : JJ h X Y O Z) (ha : i + 6 ≤ eN E) (hN : eN E < 2 ^ 31) (kk : ∀ h2 Z' y5 y6, JJ h2 X Y O Z' → XV E mL_law k u 4038 (Lw E X Y O i y5 y6) [] h2 QT) : XV E mL_law (3 + k) (17 + u) 2143 (Lw E X Y O i x5 x6) [] h QT := by
  refine V_aload_1 2143 dL_law_2143 ?_
  refine V_arg 2144 i 1 ha hN (by decide) (by decide) dL_law_2144 dL_law_2145 dL_law_2147 dL_law_2148 dL_law_2149 ?_
  refine V_arg 2150 i 2 ha hN (by decide) (by decide) dL_law_2150 dL_law_2151 dL_law_2153 dL_law_2154 dL_law_2155 ?_
  refine V_aload_3 2156 dL_law_2156 ?_
  obtain ⟨r, h1, e1, kX, hO, hc, hM⟩ := JJ_call j (AGw_z (AGz_x j (ag_areAlike j (eX E (i + 1)) (eX E (i + 2)))))
  refine V_less (k' := (0 + ek r) + k) (u' := (0 + es r) + u) (by have := ek_le r; omega) (by have := es_le r; omega) ?_
  refine V_callSH (k := k) (u := u) (k' := 0 + ek r) (u' := 0 + es r) 2157 (As := [.ref X, .int (eX E (i + 1)), .int (eX E (i + 2)), .ref O]) calL_areAlike stL_areAlike mkL_299 rfl rfl rfl rfl rfl dL_law_2157 (CL_areAlike E X O (eX E (i + 1)) (eX E (i + 2)) h e1 kX hO hc (fun v hv => bv_areAlike h (by rw [hv] at e1; exact e1))) (fun ec h3 q => LQ_no q) (fun v h3 q => ?_)
  obtain ⟨c, h', b, h2, Z', q0, m1, k1, j2, k2, t2, c2, v2⟩ := hM _ q
  cases q0
  refine V_istore_5 2160 dL_law_2160 rfl ?_
  refine V_aload_2 2162 dL_law_2162 ?_
  refine V_arg 2163 i 1 ha hN (by decide) (by decide) dL_law_2163 dL_law_2164 dL_law_2166 dL_law_2167 dL_law_2168 ?_
  refine V_arg 2169 i 2 ha hN (by decide) (by decide) dL_law_2169 dL_law_2170 dL_law_2172 dL_law_2173 dL_law_2174 ?_
  exact V_tailZ (b := b) (args := [.int (eX E (i + 1)), .int (eX E (i + 2))]) 2175 calX9_areAlike imX9_areAlike seX9_areAlike mkL_301 rfl rfl rfl (CX9_areAlike E Y (eX E (i + 1)) (eX E (i + 2)) _ (.inl b) h2 m1) k1 k2 j2.2.2.1 t2 c2 (fun q => (v2 q).1) (fun q => bv_areAlike h (by rw [(v2 q).2] at e1; exact e1)) dL_law_2175 dL_law_2178 dL_law_2180 dL_law_2181 dL_law_2184 dL_law_2186 dL_law_2191 dL_law_2193 dL_law_2196 dL_law_2197 dL_law_2198 dL_law_2199 dL_law_2201 dL_law_2204 dL_law_2205 dL_law_2208 dL_law_2209 dL_law_2210 dL_law_2215 (by decide) (kk h2 Z' _ _ j2)
theorem calL_kinds : xcalH mL_kinds (0, 8, 11, 20) [] 2 := ⟨okL_kinds.1, okL_kinds.2, by decide +kernel, by decide +kernel, rfl⟩
theorem LC_31 (j : JJ h X Y O Z) (ha : i + 6 ≤ eN E) (hN : eN E < 2 ^ 31) (kk : ∀ h2 Z' y5 y6, JJ h2 X Y O Z' → XV E mL_law k u 4038 (Lw E X Y O i y5 y6) [] h2 QT) : XV E mL_law (3 + k) (17 + u) 2218 (Lw E X Y O i x5 x6) [] h QT := by
  refine V_aload_1 2218 dL_law_2218 ?_
  refine V_aload_3 2219 dL_law_2219 ?_
  obtain ⟨r, h1, e1, kX, hO, hc, hM⟩ := JJ_call j (AGw_z (AGz_x j (ag_kinds j)))
  refine V_less (k' := (0 + ek r) + k) (u' := (0 + es r) + u) (by have := ek_le r; omega) (by have := es_le r; omega) ?_
  refine V_callSH (k := k) (u := u) (k' := 0 + ek r) (u' := 0 + es r) 2220 (As := [.ref X, .ref O]) calL_kinds stL_kinds mkL_302 rfl rfl rfl rfl rfl dL_law_2220 (CL_kinds E X O h e1 kX hO hc) (fun ec h3 q => LQ_no q) (fun v h3 q => ?_)
  obtain ⟨c, h', b, h2, Z', q0, m1, k1, j2, k2, t2, c2, v2⟩ := hM _ q
  cases q0
  refine V_istore_5 2223 dL_law_2223 rfl ?_
  refine V_aload_2 2225 dL_law_2225 ?_
  exact V_tail (b := b) (args := []) 2226 calX9_kinds imX9_kinds seX9_kinds mkL_304 rfl rfl rfl (CX9_kinds E Y _ (.inl b) h2 m1) k1 k2 j2.2.2.1 t2 c2 (fun q => (v2 q).1) dL_law_2226 dL_law_2229 dL_law_2231 dL_law_2232 dL_law_2235 dL_law_2237 dL_law_2242 dL_law_2244 dL_law_2247 dL_law_2248 dL_law_2249 dL_law_2250 dL_law_2252 dL_law_2253 dL_law_2254 dL_law_2259 (by decide) (kk h2 Z' _ _ j2)
theorem calL_firstAlike : xcalH mL_firstAlike (0, 9, 12, 20) [(0, 9, 15, 13), (0, 9, 18, 15)] 3 := ⟨okL_firstAlike.1, okL_firstAlike.2, by decide +kernel, by decide +kernel, rfl⟩
theorem LC_32 (j : JJ h X Y O Z) (ha : i + 6 ≤ eN E) (hN : eN E < 2 ^ 31) (kk : ∀ h2 Z' y5 y6, JJ h2 X Y O Z' → XV E mL_law k u 4038 (Lw E X Y O i y5 y6) [] h2 QT) : XV E mL_law (3 + k) (17 + u) 2262 (Lw E X Y O i x5 x6) [] h QT := by
  refine V_aload_1 2262 dL_law_2262 ?_
  refine V_arg 2263 i 1 ha hN (by decide) (by decide) dL_law_2263 dL_law_2264 dL_law_2266 dL_law_2267 dL_law_2268 ?_
  refine V_aload_3 2269 dL_law_2269 ?_
  obtain ⟨r, h1, e1, kX, hO, hc, hM⟩ := JJ_call j (AGw_z (AGz_x j (ag_firstAlike j (eX E (i + 1)))))
  refine V_less (k' := (0 + ek r) + k) (u' := (0 + es r) + u) (by have := ek_le r; omega) (by have := es_le r; omega) ?_
  refine V_callSH (k := k) (u := u) (k' := 0 + ek r) (u' := 0 + es r) 2270 (As := [.ref X, .int (eX E (i + 1)), .ref O]) calL_firstAlike stL_firstAlike mkL_305 rfl rfl rfl rfl rfl dL_law_2270 (CL_firstAlike E X O (eX E (i + 1)) h e1 kX hO hc) (fun ec h3 q => LQ_no q) (fun v h3 q => ?_)
  obtain ⟨c, h', b, h2, Z', q0, m1, k1, j2, k2, t2, c2, v2⟩ := hM _ q
  cases q0
  refine V_istore_5 2273 dL_law_2273 rfl ?_
  refine V_aload_2 2275 dL_law_2275 ?_
  refine V_arg 2276 i 1 ha hN (by decide) (by decide) dL_law_2276 dL_law_2277 dL_law_2279 dL_law_2280 dL_law_2281 ?_
  exact V_tail (b := b) (args := [.int (eX E (i + 1))]) 2282 calX9_firstAlike imX9_firstAlike seX9_firstAlike mkL_307 rfl rfl rfl (CX9_firstAlike E Y (eX E (i + 1)) _ (.inl b) h2 m1) k1 k2 j2.2.2.1 t2 c2 (fun q => (v2 q).1) dL_law_2282 dL_law_2285 dL_law_2287 dL_law_2288 dL_law_2291 dL_law_2293 dL_law_2298 dL_law_2300 dL_law_2303 dL_law_2304 dL_law_2305 dL_law_2306 dL_law_2308 dL_law_2309 dL_law_2310 dL_law_2315 (by decide) (kk h2 Z' _ _ j2)
theorem calL_largeTimes : xcalH mL_largeTimes (0, 12, 15, 20) [(0, 12, 19, 13), (0, 12, 23, 15)] 5 := ⟨okL_largeTimes.1, okL_largeTimes.2, by decide +kernel, by decide +kernel, rfl⟩
theorem LC_33 (j : JJ h X Y O Z) (ha : i + 6 ≤ eN E) (hN : eN E < 2 ^ 31) (kk : ∀ h2 Z' y5 y6, JJ h2 X Y O Z' → XV E mL_law k u 4038 (Lw E X Y O i y5 y6) [] h2 QT) : XV E mL_law (3 + k) (17 + u) 2318 (Lw E X Y O i x5 x6) [] h QT := by
  refine V_aload_1 2318 dL_law_2318 ?_
  refine V_arg 2319 i 1 ha hN (by decide) (by decide) dL_law_2319 dL_law_2320 dL_law_2322 dL_law_2323 dL_law_2324 ?_
  refine V_arg 2325 i 2 ha hN (by decide) (by decide) dL_law_2325 dL_law_2326 dL_law_2328 dL_law_2329 dL_law_2330 ?_
  refine V_arg 2331 i 3 ha hN (by decide) (by decide) dL_law_2331 dL_law_2332 dL_law_2334 dL_law_2335 dL_law_2336 ?_
  refine V_aload_3 2337 dL_law_2337 ?_
  obtain ⟨r, h1, e1, kX, hO, hc, hM⟩ := JJ_call j (AGw_z (AGz_x j (ag_largeTimes j (eX E (i + 1)) (eX E (i + 2)) (eX E (i + 3)))))
  refine V_less (k' := (0 + ek r) + k) (u' := (0 + es r) + u) (by have := ek_le r; omega) (by have := es_le r; omega) ?_
  refine V_callSH (k := k) (u := u) (k' := 0 + ek r) (u' := 0 + es r) 2338 (As := [.ref X, .int (eX E (i + 1)), .int (eX E (i + 2)), .int (eX E (i + 3)), .ref O]) calL_largeTimes stL_largeTimes mkL_308 rfl rfl rfl rfl rfl dL_law_2338 (CL_largeTimes E X O (eX E (i + 1)) (eX E (i + 2)) (eX E (i + 3)) h e1 kX hO hc) (fun ec h3 q => LQ_no q) (fun v h3 q => ?_)
  obtain ⟨c, h', b, h2, Z', q0, m1, k1, j2, k2, t2, c2, v2⟩ := hM _ q
  cases q0
  refine V_istore_5 2341 dL_law_2341 rfl ?_
  refine V_aload_2 2343 dL_law_2343 ?_
  refine V_arg 2344 i 1 ha hN (by decide) (by decide) dL_law_2344 dL_law_2345 dL_law_2347 dL_law_2348 dL_law_2349 ?_
  refine V_arg 2350 i 2 ha hN (by decide) (by decide) dL_law_2350 dL_law_2351 dL_law_2353 dL_law_2354 dL_law_2355 ?_
  refine V_arg 2356 i 3 ha hN (by decide) (by decide) dL_law_2356 dL_law_2357 dL_law_2359 dL_law_2360 dL_law_2361 ?_
  exact V_tail (b := b) (args := [.int (eX E (i + 1)), .int (eX E (i + 2)), .int (eX E (i + 3))]) 2362 calX9_largeTimes imX9_largeTimes seX9_largeTimes mkL_310 rfl rfl rfl (CX9_largeTimes E Y (eX E (i + 1)) (eX E (i + 2)) (eX E (i + 3)) _ (.inl b) h2 m1) k1 k2 j2.2.2.1 t2 c2 (fun q => (v2 q).1) dL_law_2362 dL_law_2365 dL_law_2367 dL_law_2368 dL_law_2371 dL_law_2373 dL_law_2378 dL_law_2380 dL_law_2383 dL_law_2384 dL_law_2385 dL_law_2386 dL_law_2388 dL_law_2389 dL_law_2390 dL_law_2395 (by decide) (kk h2 Z' _ _ j2)
theorem calL_target : xcalH mL_target (0, 10, 13, 20) [(0, 10, 17, 13), (0, 10, 21, 15)] 4 := ⟨okL_target.1, okL_target.2, by decide +kernel, by decide +kernel, rfl⟩
theorem LC_34 (j : JJ h X Y O Z) (ha : i + 6 ≤ eN E) (hN : eN E < 2 ^ 31) (kk : ∀ h2 Z' y5 y6, JJ h2 X Y O Z' → XV E mL_law k u 4038 (Lw E X Y O i y5 y6) [] h2 QT) : XV E mL_law (3 + k) (17 + u) 2398 (Lw E X Y O i x5 x6) [] h QT := by
  refine V_aload_1 2398 dL_law_2398 ?_
  refine V_arg 2399 i 1 ha hN (by decide) (by decide) dL_law_2399 dL_law_2400 dL_law_2402 dL_law_2403 dL_law_2404 ?_
  refine V_arg 2405 i 2 ha hN (by decide) (by decide) dL_law_2405 dL_law_2406 dL_law_2408 dL_law_2409 dL_law_2410 ?_
  refine V_aload_3 2411 dL_law_2411 ?_
  obtain ⟨r, h1, e1, kX, hO, hc, hM⟩ := JJ_call j (AGw_z (AGz_x j (ag_target j (eX E (i + 1)) (eX E (i + 2)))))
  refine V_less (k' := (0 + ek r) + k) (u' := (0 + es r) + u) (by have := ek_le r; omega) (by have := es_le r; omega) ?_
  refine V_callSH (k := k) (u := u) (k' := 0 + ek r) (u' := 0 + es r) 2412 (As := [.ref X, .int (eX E (i + 1)), .int (eX E (i + 2)), .ref O]) calL_target stL_target mkL_311 rfl rfl rfl rfl rfl dL_law_2412 (CL_target E X O (eX E (i + 1)) (eX E (i + 2)) h e1 kX hO hc) (fun ec h3 q => LQ_no q) (fun v h3 q => ?_)
  obtain ⟨c, h', b, h2, Z', q0, m1, k1, j2, k2, t2, c2, v2⟩ := hM _ q
  cases q0
  refine V_istore_5 2415 dL_law_2415 rfl ?_
  refine V_aload_2 2417 dL_law_2417 ?_
  refine V_arg 2418 i 1 ha hN (by decide) (by decide) dL_law_2418 dL_law_2419 dL_law_2421 dL_law_2422 dL_law_2423 ?_
  refine V_arg 2424 i 2 ha hN (by decide) (by decide) dL_law_2424 dL_law_2425 dL_law_2427 dL_law_2428 dL_law_2429 ?_
  exact V_tail (b := b) (args := [.int (eX E (i + 1)), .int (eX E (i + 2))]) 2430 calX9_target imX9_target seX9_target mkL_313 rfl rfl rfl (CX9_target E Y (eX E (i + 1)) (eX E (i + 2)) _ (.inl b) h2 m1) k1 k2 j2.2.2.1 t2 c2 (fun q => (v2 q).1) dL_law_2430 dL_law_2433 dL_law_2435 dL_law_2436 dL_law_2439 dL_law_2441 dL_law_2446 dL_law_2448 dL_law_2451 dL_law_2452 dL_law_2453 dL_law_2454 dL_law_2456 dL_law_2457 dL_law_2458 dL_law_2463 (by decide) (kk h2 Z' _ _ j2)
theorem calL_largeOrder : xcalH mL_largeOrder (0, 10, 13, 20) [(0, 10, 17, 13), (0, 10, 21, 15)] 4 := ⟨okL_largeOrder.1, okL_largeOrder.2, by decide +kernel, by decide +kernel, rfl⟩
theorem LC_35 (j : JJ h X Y O Z) (ha : i + 6 ≤ eN E) (hN : eN E < 2 ^ 31) (kk : ∀ h2 Z' y5 y6, JJ h2 X Y O Z' → XV E mL_law k u 4038 (Lw E X Y O i y5 y6) [] h2 QT) : XV E mL_law (3 + k) (17 + u) 2466 (Lw E X Y O i x5 x6) [] h QT := by
  refine V_aload_1 2466 dL_law_2466 ?_
  refine V_arg 2467 i 1 ha hN (by decide) (by decide) dL_law_2467 dL_law_2468 dL_law_2470 dL_law_2471 dL_law_2472 ?_
  refine V_arg 2473 i 2 ha hN (by decide) (by decide) dL_law_2473 dL_law_2474 dL_law_2476 dL_law_2477 dL_law_2478 ?_
  refine V_aload_3 2479 dL_law_2479 ?_
  obtain ⟨r, h1, e1, kX, hO, hc, hM⟩ := JJ_call j (AGw_z (AGz_x j (ag_largeOrder j (eX E (i + 1)) (eX E (i + 2)))))
  refine V_less (k' := (0 + ek r) + k) (u' := (0 + es r) + u) (by have := ek_le r; omega) (by have := es_le r; omega) ?_
  refine V_callSH (k := k) (u := u) (k' := 0 + ek r) (u' := 0 + es r) 2480 (As := [.ref X, .int (eX E (i + 1)), .int (eX E (i + 2)), .ref O]) calL_largeOrder stL_largeOrder mkL_314 rfl rfl rfl rfl rfl dL_law_2480 (CL_largeOrder E X O (eX E (i + 1)) (eX E (i + 2)) h e1 kX hO hc) (fun ec h3 q => LQ_no q) (fun v h3 q => ?_)
  obtain ⟨c, h', b, h2, Z', q0, m1, k1, j2, k2, t2, c2, v2⟩ := hM _ q
  cases q0
  refine V_istore_5 2483 dL_law_2483 rfl ?_
  refine V_aload_2 2485 dL_law_2485 ?_
  refine V_arg 2486 i 1 ha hN (by decide) (by decide) dL_law_2486 dL_law_2487 dL_law_2489 dL_law_2490 dL_law_2491 ?_
  refine V_arg 2492 i 2 ha hN (by decide) (by decide) dL_law_2492 dL_law_2493 dL_law_2495 dL_law_2496 dL_law_2497 ?_
  exact V_tail (b := b) (args := [.int (eX E (i + 1)), .int (eX E (i + 2))]) 2498 calX9_largeOrder imX9_largeOrder seX9_largeOrder mkL_316 rfl rfl rfl (CX9_largeOrder E Y (eX E (i + 1)) (eX E (i + 2)) _ (.inl b) h2 m1) k1 k2 j2.2.2.1 t2 c2 (fun q => (v2 q).1) dL_law_2498 dL_law_2501 dL_law_2503 dL_law_2504 dL_law_2507 dL_law_2509 dL_law_2514 dL_law_2516 dL_law_2519 dL_law_2520 dL_law_2521 dL_law_2522 dL_law_2524 dL_law_2525 dL_law_2526 dL_law_2531 (by decide) (kk h2 Z' _ _ j2)
theorem calL_between : xcalH mL_between (0, 12, 15, 20) [(0, 12, 19, 13), (0, 12, 23, 15)] 5 := ⟨okL_between.1, okL_between.2, by decide +kernel, by decide +kernel, rfl⟩
theorem LC_36 (j : JJ h X Y O Z) (ha : i + 6 ≤ eN E) (hN : eN E < 2 ^ 31) (kk : ∀ h2 Z' y5 y6, JJ h2 X Y O Z' → XV E mL_law k u 4038 (Lw E X Y O i y5 y6) [] h2 QT) : XV E mL_law (3 + k) (17 + u) 2534 (Lw E X Y O i x5 x6) [] h QT := by
  refine V_aload_1 2534 dL_law_2534 ?_
  refine V_arg 2535 i 1 ha hN (by decide) (by decide) dL_law_2535 dL_law_2536 dL_law_2538 dL_law_2539 dL_law_2540 ?_
  refine V_arg 2541 i 2 ha hN (by decide) (by decide) dL_law_2541 dL_law_2542 dL_law_2544 dL_law_2545 dL_law_2546 ?_
  refine V_arg 2547 i 3 ha hN (by decide) (by decide) dL_law_2547 dL_law_2548 dL_law_2550 dL_law_2551 dL_law_2552 ?_
  refine V_aload_3 2553 dL_law_2553 ?_
  obtain ⟨r, h1, e1, kX, hO, hc, hM⟩ := JJ_call j (AGw_z (AGz_x j (ag_between j (eX E (i + 1)) (eX E (i + 2)) (eX E (i + 3)))))
  refine V_less (k' := (0 + ek r) + k) (u' := (0 + es r) + u) (by have := ek_le r; omega) (by have := es_le r; omega) ?_
  refine V_callSH (k := k) (u := u) (k' := 0 + ek r) (u' := 0 + es r) 2554 (As := [.ref X, .int (eX E (i + 1)), .int (eX E (i + 2)), .int (eX E (i + 3)), .ref O]) calL_between stL_between mkL_317 rfl rfl rfl rfl rfl dL_law_2554 (CL_between E X O (eX E (i + 1)) (eX E (i + 2)) (eX E (i + 3)) h e1 kX hO hc) (fun ec h3 q => LQ_no q) (fun v h3 q => ?_)
  obtain ⟨c, h', b, h2, Z', q0, m1, k1, j2, k2, t2, c2, v2⟩ := hM _ q
  cases q0
  refine V_istore_5 2557 dL_law_2557 rfl ?_
  refine V_aload_2 2559 dL_law_2559 ?_
  refine V_arg 2560 i 1 ha hN (by decide) (by decide) dL_law_2560 dL_law_2561 dL_law_2563 dL_law_2564 dL_law_2565 ?_
  refine V_arg 2566 i 2 ha hN (by decide) (by decide) dL_law_2566 dL_law_2567 dL_law_2569 dL_law_2570 dL_law_2571 ?_
  refine V_arg 2572 i 3 ha hN (by decide) (by decide) dL_law_2572 dL_law_2573 dL_law_2575 dL_law_2576 dL_law_2577 ?_
  exact V_tail (b := b) (args := [.int (eX E (i + 1)), .int (eX E (i + 2)), .int (eX E (i + 3))]) 2578 calX9_between imX9_between seX9_between mkL_319 rfl rfl rfl (CX9_between E Y (eX E (i + 1)) (eX E (i + 2)) (eX E (i + 3)) _ (.inl b) h2 m1) k1 k2 j2.2.2.1 t2 c2 (fun q => (v2 q).1) dL_law_2578 dL_law_2581 dL_law_2583 dL_law_2584 dL_law_2587 dL_law_2589 dL_law_2594 dL_law_2596 dL_law_2599 dL_law_2600 dL_law_2601 dL_law_2602 dL_law_2604 dL_law_2605 dL_law_2606 dL_law_2611 (by decide) (kk h2 Z' _ _ j2)
theorem calL_end : xcalH mL_end (0, 10, 13, 20) [(0, 10, 17, 13)] 4 := ⟨okL_end.1, okL_end.2, by decide +kernel, by decide +kernel, rfl⟩
theorem LC_37 (j : JJ h X Y O Z) (ha : i + 6 ≤ eN E) (hN : eN E < 2 ^ 31) (kk : ∀ h2 Z' y5 y6, JJ h2 X Y O Z' → XV E mL_law k u 4038 (Lw E X Y O i y5 y6) [] h2 QT) : XV E mL_law (3 + k) (17 + u) 2614 (Lw E X Y O i x5 x6) [] h QT := by
  refine V_aload_1 2614 dL_law_2614 ?_
  refine V_arg 2615 i 1 ha hN (by decide) (by decide) dL_law_2615 dL_law_2616 dL_law_2618 dL_law_2619 dL_law_2620 ?_
  refine V_arg 2621 i 2 ha hN (by decide) (by decide) dL_law_2621 dL_law_2622 dL_law_2624 dL_law_2625 dL_law_2626 ?_
  refine V_bool 2627 dL_law_2627 dL_law_2630 dL_law_2631 dL_law_2634 ?_
  refine V_aload_3 2635 dL_law_2635 ?_
  obtain ⟨r, h1, e1, kX, hO, hc, hM⟩ := JJ_call j (AGw_z (AGz_x j (ag_end j (eX E (i + 1)) (if eX E (i + 2) = 0 then (0 : Int32) else 1))))
  refine V_less (k' := (0 + ek r) + k) (u' := (0 + es r) + u) (by have := ek_le r; omega) (by have := es_le r; omega) ?_
  refine V_callSH (k := k) (u := u) (k' := 0 + ek r) (u' := 0 + es r) 2636 (As := [.ref X, .int (eX E (i + 1)), .int (if eX E (i + 2) = 0 then (0 : Int32) else 1), .ref O]) calL_end stL_end mkL_320 rfl rfl rfl rfl rfl dL_law_2636 (CL_end E X O (eX E (i + 1)) (if eX E (i + 2) = 0 then (0 : Int32) else 1) h e1 kX hO hc) (fun ec h3 q => LQ_no q) (fun v h3 q => ?_)
  obtain ⟨c, h', b, h2, Z', q0, m1, k1, j2, k2, t2, c2, v2⟩ := hM _ q
  cases q0
  refine V_istore_5 2639 dL_law_2639 rfl ?_
  refine V_aload_2 2641 dL_law_2641 ?_
  refine V_arg 2642 i 1 ha hN (by decide) (by decide) dL_law_2642 dL_law_2643 dL_law_2645 dL_law_2646 dL_law_2647 ?_
  refine V_arg 2648 i 2 ha hN (by decide) (by decide) dL_law_2648 dL_law_2649 dL_law_2651 dL_law_2652 dL_law_2653 ?_
  refine V_bool 2654 dL_law_2654 dL_law_2657 dL_law_2658 dL_law_2661 ?_
  exact V_tail (b := b) (args := [.int (eX E (i + 1)), .int (if eX E (i + 2) = 0 then (0 : Int32) else 1)]) 2662 calX9_end imX9_end seX9_end mkL_322 rfl rfl rfl (CX9_end E Y (eX E (i + 1)) (if eX E (i + 2) = 0 then (0 : Int32) else 1) _ (.inl b) h2 m1) k1 k2 j2.2.2.1 t2 c2 (fun q => (v2 q).1) dL_law_2662 dL_law_2665 dL_law_2667 dL_law_2668 dL_law_2671 dL_law_2673 dL_law_2678 dL_law_2680 dL_law_2683 dL_law_2684 dL_law_2685 dL_law_2686 dL_law_2688 dL_law_2689 dL_law_2690 dL_law_2695 (by decide) (kk h2 Z' _ _ j2)
theorem calL_top : xcalH mL_top (0, 10, 13, 20) [(0, 10, 17, 13)] 4 := ⟨okL_top.1, okL_top.2, by decide +kernel, by decide +kernel, rfl⟩
theorem LC_38 (j : JJ h X Y O Z) (ha : i + 6 ≤ eN E) (hN : eN E < 2 ^ 31) (kk : ∀ h2 Z' y5 y6, JJ h2 X Y O Z' → XV E mL_law k u 4038 (Lw E X Y O i y5 y6) [] h2 QT) : XV E mL_law (3 + k) (17 + u) 2698 (Lw E X Y O i x5 x6) [] h QT := by
  refine V_aload_1 2698 dL_law_2698 ?_
  refine V_arg 2699 i 1 ha hN (by decide) (by decide) dL_law_2699 dL_law_2700 dL_law_2702 dL_law_2703 dL_law_2704 ?_
  refine V_arg 2705 i 2 ha hN (by decide) (by decide) dL_law_2705 dL_law_2706 dL_law_2708 dL_law_2709 dL_law_2710 ?_
  refine V_aload_3 2711 dL_law_2711 ?_
  obtain ⟨r, h1, e1, kX, hO, hc, hM⟩ := JJ_call j (AGw_z (AGz_x j (ag_top j (eX E (i + 1)) (eX E (i + 2)))))
  refine V_less (k' := (0 + ek r) + k) (u' := (0 + es r) + u) (by have := ek_le r; omega) (by have := es_le r; omega) ?_
  refine V_callSH (k := k) (u := u) (k' := 0 + ek r) (u' := 0 + es r) 2712 (As := [.ref X, .int (eX E (i + 1)), .int (eX E (i + 2)), .ref O]) calL_top stL_top mkL_323 rfl rfl rfl rfl rfl dL_law_2712 (CL_top E X O (eX E (i + 1)) (eX E (i + 2)) h e1 kX hO hc) (fun ec h3 q => LQ_no q) (fun v h3 q => ?_)
  obtain ⟨c, h', b, h2, Z', q0, m1, k1, j2, k2, t2, c2, v2⟩ := hM _ q
  cases q0
  refine V_istore_5 2715 dL_law_2715 rfl ?_
  refine V_aload_2 2717 dL_law_2717 ?_
  refine V_arg 2718 i 1 ha hN (by decide) (by decide) dL_law_2718 dL_law_2719 dL_law_2721 dL_law_2722 dL_law_2723 ?_
  refine V_arg 2724 i 2 ha hN (by decide) (by decide) dL_law_2724 dL_law_2725 dL_law_2727 dL_law_2728 dL_law_2729 ?_
  exact V_tail (b := b) (args := [.int (eX E (i + 1)), .int (eX E (i + 2))]) 2730 calX9_top imX9_top seX9_top mkL_325 rfl rfl rfl (CX9_top E Y (eX E (i + 1)) (eX E (i + 2)) _ (.inl b) h2 m1) k1 k2 j2.2.2.1 t2 c2 (fun q => (v2 q).1) dL_law_2730 dL_law_2733 dL_law_2735 dL_law_2736 dL_law_2739 dL_law_2741 dL_law_2746 dL_law_2748 dL_law_2751 dL_law_2752 dL_law_2753 dL_law_2754 dL_law_2756 dL_law_2757 dL_law_2758 dL_law_2763 (by decide) (kk h2 Z' _ _ j2)
theorem calL_bottom : xcalH mL_bottom (0, 10, 13, 20) [(0, 10, 17, 13)] 4 := ⟨okL_bottom.1, okL_bottom.2, by decide +kernel, by decide +kernel, rfl⟩
theorem LC_39 (j : JJ h X Y O Z) (ha : i + 6 ≤ eN E) (hN : eN E < 2 ^ 31) (kk : ∀ h2 Z' y5 y6, JJ h2 X Y O Z' → XV E mL_law k u 4038 (Lw E X Y O i y5 y6) [] h2 QT) : XV E mL_law (3 + k) (17 + u) 2766 (Lw E X Y O i x5 x6) [] h QT := by
  refine V_aload_1 2766 dL_law_2766 ?_
  refine V_arg 2767 i 1 ha hN (by decide) (by decide) dL_law_2767 dL_law_2768 dL_law_2770 dL_law_2771 dL_law_2772 ?_
  refine V_arg 2773 i 2 ha hN (by decide) (by decide) dL_law_2773 dL_law_2774 dL_law_2776 dL_law_2777 dL_law_2778 ?_
  refine V_aload_3 2779 dL_law_2779 ?_
  obtain ⟨r, h1, e1, kX, hO, hc, hM⟩ := JJ_call j (AGw_z (AGz_x j (ag_bottom j (eX E (i + 1)) (eX E (i + 2)))))
  refine V_less (k' := (0 + ek r) + k) (u' := (0 + es r) + u) (by have := ek_le r; omega) (by have := es_le r; omega) ?_
  refine V_callSH (k := k) (u := u) (k' := 0 + ek r) (u' := 0 + es r) 2780 (As := [.ref X, .int (eX E (i + 1)), .int (eX E (i + 2)), .ref O]) calL_bottom stL_bottom mkL_326 rfl rfl rfl rfl rfl dL_law_2780 (CL_bottom E X O (eX E (i + 1)) (eX E (i + 2)) h e1 kX hO hc) (fun ec h3 q => LQ_no q) (fun v h3 q => ?_)
  obtain ⟨c, h', b, h2, Z', q0, m1, k1, j2, k2, t2, c2, v2⟩ := hM _ q
  cases q0
  refine V_istore_5 2783 dL_law_2783 rfl ?_
  refine V_aload_2 2785 dL_law_2785 ?_
  refine V_arg 2786 i 1 ha hN (by decide) (by decide) dL_law_2786 dL_law_2787 dL_law_2789 dL_law_2790 dL_law_2791 ?_
  refine V_arg 2792 i 2 ha hN (by decide) (by decide) dL_law_2792 dL_law_2793 dL_law_2795 dL_law_2796 dL_law_2797 ?_
  exact V_tail (b := b) (args := [.int (eX E (i + 1)), .int (eX E (i + 2))]) 2798 calX9_bottom imX9_bottom seX9_bottom mkL_328 rfl rfl rfl (CX9_bottom E Y (eX E (i + 1)) (eX E (i + 2)) _ (.inl b) h2 m1) k1 k2 j2.2.2.1 t2 c2 (fun q => (v2 q).1) dL_law_2798 dL_law_2801 dL_law_2803 dL_law_2804 dL_law_2807 dL_law_2809 dL_law_2814 dL_law_2816 dL_law_2819 dL_law_2820 dL_law_2821 dL_law_2822 dL_law_2824 dL_law_2825 dL_law_2826 dL_law_2831 (by decide) (kk h2 Z' _ _ j2)
theorem calL_arrowWhy : xcalH mL_arrowWhy (0, 9, 12, 20) [(0, 9, 15, 13)] 3 := ⟨okL_arrowWhy.1, okL_arrowWhy.2, by decide +kernel, by decide +kernel, rfl⟩
theorem LC_40 (j : JJ h X Y O Z) (ha : i + 6 ≤ eN E) (hN : eN E < 2 ^ 31) (kk : ∀ h2 Z' y5 y6, JJ h2 X Y O Z' → XV E mL_law k u 4038 (Lw E X Y O i y5 y6) [] h2 QT) : XV E mL_law (3 + k) (17 + u) 2834 (Lw E X Y O i x5 x6) [] h QT := by
  refine V_aload_1 2834 dL_law_2834 ?_
  refine V_arg 2835 i 1 ha hN (by decide) (by decide) dL_law_2835 dL_law_2836 dL_law_2838 dL_law_2839 dL_law_2840 ?_
  refine V_aload_3 2841 dL_law_2841 ?_
  obtain ⟨r, h1, e1, kX, hO, hc, hM⟩ := JJ_call j (AGw_z (AGz_x j (ag_arrowWhy j (eX E (i + 1)))))
  refine V_less (k' := (0 + ek r) + k) (u' := (0 + es r) + u) (by have := ek_le r; omega) (by have := es_le r; omega) ?_
  refine V_callSH (k := k) (u := u) (k' := 0 + ek r) (u' := 0 + es r) 2842 (As := [.ref X, .int (eX E (i + 1)), .ref O]) calL_arrowWhy stL_arrowWhy mkL_329 rfl rfl rfl rfl rfl dL_law_2842 (CL_arrowWhy E X O (eX E (i + 1)) h e1 kX hO hc) (fun ec h3 q => LQ_no q) (fun v h3 q => ?_)
  obtain ⟨c, h', b, h2, Z', q0, m1, k1, j2, k2, t2, c2, v2⟩ := hM _ q
  cases q0
  refine V_istore_5 2845 dL_law_2845 rfl ?_
  refine V_aload_2 2847 dL_law_2847 ?_
  refine V_arg 2848 i 1 ha hN (by decide) (by decide) dL_law_2848 dL_law_2849 dL_law_2851 dL_law_2852 dL_law_2853 ?_
  exact V_tail (b := b) (args := [.int (eX E (i + 1))]) 2854 calX9_arrowWhy imX9_arrowWhy seX9_arrowWhy mkL_331 rfl rfl rfl (CX9_arrowWhy E Y (eX E (i + 1)) _ (.inl b) h2 m1) k1 k2 j2.2.2.1 t2 c2 (fun q => (v2 q).1) dL_law_2854 dL_law_2857 dL_law_2859 dL_law_2860 dL_law_2863 dL_law_2865 dL_law_2870 dL_law_2872 dL_law_2875 dL_law_2876 dL_law_2877 dL_law_2878 dL_law_2880 dL_law_2881 dL_law_2882 dL_law_2887 (by decide) (kk h2 Z' _ _ j2)
theorem calL_isEquivalence : xcalH mL_isEquivalence (0, 16, 19, 20) [(0, 16, 22, 13)] 3 := ⟨okL_isEquivalence.1, okL_isEquivalence.2, by decide +kernel, by decide +kernel, rfl⟩
theorem LC_41 (j : JJ h X Y O Z) (ha : i + 6 ≤ eN E) (hN : eN E < 2 ^ 31) (kk : ∀ h2 Z' y5 y6, JJ h2 X Y O Z' → XV E mL_law k u 4038 (Lw E X Y O i y5 y6) [] h2 QT) : XV E mL_law (3 + k) (17 + u) 2890 (Lw E X Y O i x5 x6) [] h QT := by
  refine V_aload_1 2890 dL_law_2890 ?_
  refine V_arg 2891 i 1 ha hN (by decide) (by decide) dL_law_2891 dL_law_2892 dL_law_2894 dL_law_2895 dL_law_2896 ?_
  refine V_aload_3 2897 dL_law_2897 ?_
  obtain ⟨r, h1, e1, kX, hO, hc, hM⟩ := JJ_call j (AGw_z (AGz_x j (ag_isEquivalence j (eX E (i + 1)))))
  refine V_less (k' := (0 + ek r) + k) (u' := (0 + es r) + u) (by have := ek_le r; omega) (by have := es_le r; omega) ?_
  refine V_callSH (k := k) (u := u) (k' := 0 + ek r) (u' := 0 + es r) 2898 (As := [.ref X, .int (eX E (i + 1)), .ref O]) calL_isEquivalence stL_isEquivalence mkL_332 rfl rfl rfl rfl rfl dL_law_2898 (CL_isEquivalence E X O (eX E (i + 1)) h e1 kX hO hc (fun v hv => bv_isEquivalence h (by rw [hv] at e1; exact e1))) (fun ec h3 q => LQ_no q) (fun v h3 q => ?_)
  obtain ⟨c, h', b, h2, Z', q0, m1, k1, j2, k2, t2, c2, v2⟩ := hM _ q
  cases q0
  refine V_istore_5 2901 dL_law_2901 rfl ?_
  refine V_aload_2 2903 dL_law_2903 ?_
  refine V_arg 2904 i 1 ha hN (by decide) (by decide) dL_law_2904 dL_law_2905 dL_law_2907 dL_law_2908 dL_law_2909 ?_
  exact V_tailZ (b := b) (args := [.int (eX E (i + 1))]) 2910 calX9_isEquivalence imX9_isEquivalence seX9_isEquivalence mkL_334 rfl rfl rfl (CX9_isEquivalence E Y (eX E (i + 1)) _ (.inl b) h2 m1) k1 k2 j2.2.2.1 t2 c2 (fun q => (v2 q).1) (fun q => bv_isEquivalence h (by rw [(v2 q).2] at e1; exact e1)) dL_law_2910 dL_law_2913 dL_law_2915 dL_law_2916 dL_law_2919 dL_law_2921 dL_law_2926 dL_law_2928 dL_law_2931 dL_law_2932 dL_law_2933 dL_law_2934 dL_law_2936 dL_law_2939 dL_law_2940 dL_law_2943 dL_law_2944 dL_law_2945 dL_law_2950 (by decide) (kk h2 Z' _ _ j2)
theorem calL_equivalences : xcalH mL_equivalences (0, 8, 11, 20) [] 2 := ⟨okL_equivalences.1, okL_equivalences.2, by decide +kernel, by decide +kernel, rfl⟩
theorem LC_42 (j : JJ h X Y O Z) (ha : i + 6 ≤ eN E) (hN : eN E < 2 ^ 31) (kk : ∀ h2 Z' y5 y6, JJ h2 X Y O Z' → XV E mL_law k u 4038 (Lw E X Y O i y5 y6) [] h2 QT) : XV E mL_law (3 + k) (17 + u) 2953 (Lw E X Y O i x5 x6) [] h QT := by
  refine V_aload_1 2953 dL_law_2953 ?_
  refine V_aload_3 2954 dL_law_2954 ?_
  obtain ⟨r, h1, e1, kX, hO, hc, hM⟩ := JJ_call j (AGw_z (AGz_x j (ag_equivalences j)))
  refine V_less (k' := (0 + ek r) + k) (u' := (0 + es r) + u) (by have := ek_le r; omega) (by have := es_le r; omega) ?_
  refine V_callSH (k := k) (u := u) (k' := 0 + ek r) (u' := 0 + es r) 2955 (As := [.ref X, .ref O]) calL_equivalences stL_equivalences mkL_335 rfl rfl rfl rfl rfl dL_law_2955 (CL_equivalences E X O h e1 kX hO hc) (fun ec h3 q => LQ_no q) (fun v h3 q => ?_)
  obtain ⟨c, h', b, h2, Z', q0, m1, k1, j2, k2, t2, c2, v2⟩ := hM _ q
  cases q0
  refine V_istore_5 2958 dL_law_2958 rfl ?_
  refine V_aload_2 2960 dL_law_2960 ?_
  exact V_tail (b := b) (args := []) 2961 calX9_equivalences imX9_equivalences seX9_equivalences mkL_337 rfl rfl rfl (CX9_equivalences E Y _ (.inl b) h2 m1) k1 k2 j2.2.2.1 t2 c2 (fun q => (v2 q).1) dL_law_2961 dL_law_2964 dL_law_2966 dL_law_2967 dL_law_2970 dL_law_2972 dL_law_2977 dL_law_2979 dL_law_2982 dL_law_2983 dL_law_2984 dL_law_2985 dL_law_2987 dL_law_2988 dL_law_2989 dL_law_2994 (by decide) (kk h2 Z' _ _ j2)
theorem calL_ladder : xcalH mL_ladder (0, 10, 13, 20) [(0, 10, 17, 13)] 4 := ⟨okL_ladder.1, okL_ladder.2, by decide +kernel, by decide +kernel, rfl⟩
theorem LC_43 (j : JJ h X Y O Z) (ha : i + 6 ≤ eN E) (hN : eN E < 2 ^ 31) (kk : ∀ h2 Z' y5 y6, JJ h2 X Y O Z' → XV E mL_law k u 4038 (Lw E X Y O i y5 y6) [] h2 QT) : XV E mL_law (3 + k) (17 + u) 2997 (Lw E X Y O i x5 x6) [] h QT := by
  refine V_aload_1 2997 dL_law_2997 ?_
  refine V_arg 2998 i 1 ha hN (by decide) (by decide) dL_law_2998 dL_law_2999 dL_law_3001 dL_law_3002 dL_law_3003 ?_
  refine V_arg 3004 i 2 ha hN (by decide) (by decide) dL_law_3004 dL_law_3005 dL_law_3007 dL_law_3008 dL_law_3009 ?_
  refine V_aload_3 3010 dL_law_3010 ?_
  obtain ⟨r, h1, e1, kX, hO, hc, hM⟩ := JJ_call j (AGw_z (AGz_x j (ag_ladder j (eX E (i + 1)) (eX E (i + 2)))))
  refine V_less (k' := (0 + ek r) + k) (u' := (0 + es r) + u) (by have := ek_le r; omega) (by have := es_le r; omega) ?_
  refine V_callSH (k := k) (u := u) (k' := 0 + ek r) (u' := 0 + es r) 3011 (As := [.ref X, .int (eX E (i + 1)), .int (eX E (i + 2)), .ref O]) calL_ladder stL_ladder mkL_338 rfl rfl rfl rfl rfl dL_law_3011 (CL_ladder E X O (eX E (i + 1)) (eX E (i + 2)) h e1 kX hO hc) (fun ec h3 q => LQ_no q) (fun v h3 q => ?_)
  obtain ⟨c, h', b, h2, Z', q0, m1, k1, j2, k2, t2, c2, v2⟩ := hM _ q
  cases q0
  refine V_istore_5 3014 dL_law_3014 rfl ?_
  refine V_aload_2 3016 dL_law_3016 ?_
  refine V_arg 3017 i 1 ha hN (by decide) (by decide) dL_law_3017 dL_law_3018 dL_law_3020 dL_law_3021 dL_law_3022 ?_
  refine V_arg 3023 i 2 ha hN (by decide) (by decide) dL_law_3023 dL_law_3024 dL_law_3026 dL_law_3027 dL_law_3028 ?_
  exact V_tail (b := b) (args := [.int (eX E (i + 1)), .int (eX E (i + 2))]) 3029 calX9_ladder imX9_ladder seX9_ladder mkL_340 rfl rfl rfl (CX9_ladder E Y (eX E (i + 1)) (eX E (i + 2)) _ (.inl b) h2 m1) k1 k2 j2.2.2.1 t2 c2 (fun q => (v2 q).1) dL_law_3029 dL_law_3032 dL_law_3034 dL_law_3035 dL_law_3038 dL_law_3040 dL_law_3045 dL_law_3047 dL_law_3050 dL_law_3051 dL_law_3052 dL_law_3053 dL_law_3055 dL_law_3056 dL_law_3057 dL_law_3062 (by decide) (kk h2 Z' _ _ j2)
theorem calL_joined : xcalH mL_joined (0, 9, 12, 20) [(0, 9, 15, 13)] 3 := ⟨okL_joined.1, okL_joined.2, by decide +kernel, by decide +kernel, rfl⟩
theorem LC_44 (j : JJ h X Y O Z) (ha : i + 6 ≤ eN E) (hN : eN E < 2 ^ 31) (kk : ∀ h2 Z' y5 y6, JJ h2 X Y O Z' → XV E mL_law k u 4038 (Lw E X Y O i y5 y6) [] h2 QT) : XV E mL_law (3 + k) (17 + u) 3065 (Lw E X Y O i x5 x6) [] h QT := by
  refine V_aload_1 3065 dL_law_3065 ?_
  refine V_arg 3066 i 1 ha hN (by decide) (by decide) dL_law_3066 dL_law_3067 dL_law_3069 dL_law_3070 dL_law_3071 ?_
  refine V_aload_3 3072 dL_law_3072 ?_
  obtain ⟨r, h1, e1, kX, hO, hc, hM⟩ := JJ_call j (AGw_z (AGz_x j (ag_joined j (eX E (i + 1)))))
  refine V_less (k' := (0 + ek r) + k) (u' := (0 + es r) + u) (by have := ek_le r; omega) (by have := es_le r; omega) ?_
  refine V_callSH (k := k) (u := u) (k' := 0 + ek r) (u' := 0 + es r) 3073 (As := [.ref X, .int (eX E (i + 1)), .ref O]) calL_joined stL_joined mkL_341 rfl rfl rfl rfl rfl dL_law_3073 (CL_joined E X O (eX E (i + 1)) h e1 kX hO hc) (fun ec h3 q => LQ_no q) (fun v h3 q => ?_)
  obtain ⟨c, h', b, h2, Z', q0, m1, k1, j2, k2, t2, c2, v2⟩ := hM _ q
  cases q0
  refine V_istore_5 3076 dL_law_3076 rfl ?_
  refine V_aload_2 3078 dL_law_3078 ?_
  refine V_arg 3079 i 1 ha hN (by decide) (by decide) dL_law_3079 dL_law_3080 dL_law_3082 dL_law_3083 dL_law_3084 ?_
  exact V_tail (b := b) (args := [.int (eX E (i + 1))]) 3085 calX9_joined imX9_joined seX9_joined mkL_343 rfl rfl rfl (CX9_joined E Y (eX E (i + 1)) _ (.inl b) h2 m1) k1 k2 j2.2.2.1 t2 c2 (fun q => (v2 q).1) dL_law_3085 dL_law_3088 dL_law_3090 dL_law_3091 dL_law_3094 dL_law_3096 dL_law_3101 dL_law_3103 dL_law_3106 dL_law_3107 dL_law_3108 dL_law_3109 dL_law_3111 dL_law_3112 dL_law_3113 dL_law_3118 (by decide) (kk h2 Z' _ _ j2)
end LC
