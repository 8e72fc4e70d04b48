/-! The law from its entry on. -/
set_option linter.unusedVariables false
theorem CL_law1 (E : XG) (t : Nat) (p1 : Nat) (h : XH) : XS E mL_law eI 265 3882 0 [some (.ref t), none, none, none, none] [] h (FL_law E t p1 h) := by
  unfold FL_law
  refine S_newF (a := 264) (b := 3880) 0 (ci := 20) (N := 2) xok20 rfl nwL_197 inst20 ini20 dv20 dL_law_0 (fun w1 h2 => ?_)
  refine S_dup 3 dL_law_3 rfl ?_
  refine S_aload_0 4 dL_law_4 ?_
  refine S_callI (a' := 0) (b' := 0) (a := 264) (b := 3880) 5 (As := [.ref t]) rfl calX10_init rfl rfl imX10_init mkL_327 rfl rfl rfl rfl rfl dL_law_5 (CX10_init E w1 t h2) (fun _ h3 => kqU ?_)
  refine S_astore_1 8 dL_law_8 rfl ?_
  refine S_newF (a := 263) (b := 3872) 9 (ci := 22) (N := 8) xok22 rfl nwL_157 inst22 ini22 dv22 dL_law_9 (fun w4 h5 => ?_)
  refine S_dup 12 dL_law_12 rfl ?_
  refine S_aload_1 13 dL_law_13 ?_
  refine S_callI (a' := 21) (b' := 30) (a := 242) (b := 3842) 14 (As := [.ref w1]) rfl calX12_init rfl rfl imX12_init mkL_330 rfl rfl rfl rfl rfl dL_law_14 (CX12_init E w4 w1 h5) (fun _ h6 => kqU ?_)
  refine S_astore_2 17 dL_law_17 rfl ?_
  refine S_newF (a := 241) (b := 3828) 18 (ci := 8) (N := 14) xok8 rfl nwL_18 inst8 ini8 dv8 dL_law_18 (fun w7 h8 => ?_)
  refine S_dup 21 dL_law_21 rfl ?_
  refine S_callI (a' := 210) (b' := 3805) (a := 31) (b := 23) 22 (As := []) rfl calX8_init rfl rfl imX8_init mkL_333 rfl rfl rfl rfl rfl dL_law_22 (CX8_init E w7  h8) (fun _ h9 => kqU ?_)
  refine S_astore_3 25 dL_law_25 rfl ?_
  refine S_aload_3 26 dL_law_26 ?_
  refine S_ic 27 0 dL_law_27 (by decide) ?_
  refine S_ic 28 0 dL_law_28 (by decide) ?_
  refine S_ic 29 0 dL_law_29 (by decide) ?_
  refine S_ic 30 0 dL_law_30 (by decide) ?_
  refine S_ic 31 0 dL_law_31 (by decide) ?_
  refine S_callSH (a' := 0) (b' := 0) (a := 31) (b := 23) 32 (As := [.ref w7, .int 0, .int 0, .int 0, .int 0, .int 0]) rfl calL_thrown stL_thrown mkL_205 rfl rfl rfl rfl rfl dL_law_32 (CL_thrown E w7 0 0 0 0 0 h9) (fun v10 h11 => kqI ?_)
  refine S_ic 35 1 dL_law_35 (by decide) ?_
  refine S_join (fun jj => ∀  (h12 : XH), XS E mL_law eI 31 23 88 [none, none, none, none, none] [] h12 (jj  h12)) (fun  h12 => ?_) (fun j88 hj88 => ?_)
  · skip
    refine S_ic 88 0 dL_law_88 (by decide) ?_
    exact S_zret 89 dL_law_89 rfl
  refine S_icmpne 36 88 dL_law_36 (by decide) ?_ ?_
  · skip
    exact S_drop [0, 1, 2, 3] rfl (hj88 _)
  · skip
    refine S_aload_3 39 dL_law_39 ?_
    refine S_bip 40 6 dL_law_40 (by decide) ?_
    refine S_ic 42 0 dL_law_42 (by decide) ?_
    refine S_ic 43 0 dL_law_43 (by decide) ?_
    refine S_ic 44 0 dL_law_44 (by decide) ?_
    refine S_ic 45 0 dL_law_45 (by decide) ?_
    refine S_callSH (a' := 0) (b' := 0) (a := 31) (b := 23) 46 (As := [.ref w7, .int 6, .int 0, .int 0, .int 0, .int 0]) rfl calL_thrown stL_thrown mkL_205 rfl rfl rfl rfl rfl dL_law_46 (CL_thrown E w7 6 0 0 0 0 h11) (fun v13 h14 => kqI ?_)
    refine S_ic 49 1 dL_law_49 (by decide) ?_
    refine S_icmpne 50 88 dL_law_50 (by decide) ?_ ?_
    · skip
      exact S_drop [0, 1, 2, 3] rfl (hj88 _)
    · skip
      refine S_aload_3 53 dL_law_53 ?_
      refine S_bip 54 30 dL_law_54 (by decide) ?_
      refine S_ic 56 0 dL_law_56 (by decide) ?_
      refine S_ic 57 0 dL_law_57 (by decide) ?_
      refine S_ic 58 0 dL_law_58 (by decide) ?_
      refine S_ic 59 0 dL_law_59 (by decide) ?_
      refine S_callSH (a' := 0) (b' := 0) (a := 31) (b := 23) 60 (As := [.ref w7, .int 30, .int 0, .int 0, .int 0, .int 0]) rfl calL_thrown stL_thrown mkL_205 rfl rfl rfl rfl rfl dL_law_60 (CL_thrown E w7 30 0 0 0 0 h14) (fun v15 h16 => kqI ?_)
      refine S_ic 63 1 dL_law_63 (by decide) ?_
      refine S_icmpne 64 88 dL_law_64 (by decide) ?_ ?_
      · skip
        exact S_drop [0, 1, 2, 3] rfl (hj88 _)
      · skip
        refine S_aload_3 67 dL_law_67 ?_
        refine S_bip 68 23 dL_law_68 (by decide) ?_
        refine S_ic 70 0 dL_law_70 (by decide) ?_
        refine S_ic 71 0 dL_law_71 (by decide) ?_
        refine S_ic 72 0 dL_law_72 (by decide) ?_
        refine S_ic 73 0 dL_law_73 (by decide) ?_
        refine S_callSH (a' := 0) (b' := 0) (a := 31) (b := 23) 74 (As := [.ref w7, .int 23, .int 0, .int 0, .int 0, .int 0]) rfl calL_thrown stL_thrown mkL_205 rfl rfl rfl rfl rfl dL_law_74 (CL_thrown E w7 23 0 0 0 0 h16) (fun v17 h18 => kqI ?_)
        refine S_ic 77 2 dL_law_77 (by decide) ?_
        refine S_icmpne 78 88 dL_law_78 (by decide) ?_ ?_
        · skip
          exact S_drop [0, 1, 2, 3] rfl (hj88 _)
        · skip
          refine S_aload_3 81 dL_law_81 ?_
          refine S_callV (a' := 0) (b' := 0) (a := 31) (b := 23) 82 (As := []) (ci := 8) rfl calX8_undoable imX8_undoable seX8_undoable mkL_334 rfl rfl rfl rfl rfl (by decide) rfl rfl dL_law_82 (CX8_undoable E w7  h18) (fun v19 h20 => kqI ?_)
          refine S_ifeq 85 90 dL_law_85 (by decide) ?_ ?_
          · skip
            refine S_aload_3 90 dL_law_90 ?_
            refine S_aload_2 91 dL_law_91 ?_
            refine S_getRN 92 fnL_337 rfl dL_law_92 (fun w21 => ?_)
            refine S_callV (a' := 2) (b' := 4) (a := 29) (b := 19) 95 (As := []) (ci := 23) rfl calJ4_toString_0e30d imJ4_toString_0e30d seJ4_toString_0e30d mkL_341 rfl rfl rfl rfl rfl (by decide) rfl rfl dL_law_95 (CJ4_toString_0e30d E w21  h20) (fun v22 h23 => kqR ?_)
            refine S_callS (a' := 3) (b' := 11) (a := 26) (b := 8) 98 (As := [.ref w7, .ref v22]) rfl calL_tell stL_tell mkL_345 rfl rfl rfl rfl rfl dL_law_98 (CL_tell E w7 v22 h23) (fun v24 h25 => kqI ?_)
            refine S_aload_2 101 dL_law_101 ?_
            refine S_getIN 102 fnL_162 rfl dL_law_102 ?_
            refine S_join (fun jj => ∀  (h26 : XH), XS E mL_law eI 26 8 139 [none, none, none, none, none] [] h26 (jj  h26)) (fun  h26 => ?_) (fun j139 hj139 => ?_)
            · skip
              refine S_ic 139 0 dL_law_139 (by decide) ?_
              exact S_zret 140 dL_law_140 rfl
            refine S_icmpne 105 139 dL_law_105 (by decide) ?_ ?_
            · skip
              exact S_drop [0, 1, 2, 3] rfl (hj139 _)
            · skip
              refine S_aload_3 108 dL_law_108 ?_
              refine S_callV (a' := 0) (b' := 0) (a := 26) (b := 8) 109 (As := []) (ci := 8) rfl calX8_parseError imX8_parseError seX8_parseError mkL_349 rfl rfl rfl rfl rfl (by decide) rfl rfl dL_law_109 (CX8_parseError E w7  h25) (fun v27 h28 => kqI ?_)
              refine S_ifne 112 139 dL_law_112 (by decide) ?_ ?_
              · skip
                exact S_drop [0, 1, 2, 3] rfl (hj139 _)
              · skip
                refine S_aload_3 115 dL_law_115 ?_
                refine S_callV (a' := 0) (b' := 0) (a := 26) (b := 8) 116 (As := []) (ci := 8) rfl calX8_errorPosition imX8_errorPosition seX8_errorPosition mkL_352 rfl rfl rfl rfl rfl (by decide) rfl rfl dL_law_116 (CX8_errorPosition E w7  h28) (fun v29 h30 => kqI ?_)
                refine S_ic 119 (-1) dL_law_119 (by decide) ?_
                refine S_icmpne 120 139 dL_law_120 (by decide) ?_ ?_
                · skip
                  exact S_drop [0, 1, 2, 3] rfl (hj139 _)
                · skip
                  refine S_aload_3 123 dL_law_123 ?_
                  refine S_aload_2 124 dL_law_124 ?_
                  refine S_callS (a' := 0) (b' := 0) (a := 26) (b := 8) 125 (As := [.ref w7, .ref w4]) rfl calL_isLike stL_isLike mkL_355 rfl rfl rfl rfl rfl dL_law_125 (CL_isLike E w7 w4 h30) (fun v31 h32 => kqI ?_)
                  refine S_ifeq 128 139 dL_law_128 (by decide) ?_ ?_
                  · skip
                    exact S_drop [0, 1, 2, 3] rfl (hj139 _)
                  · skip
                    refine S_aload_3 131 dL_law_131 ?_
                    refine S_aload_2 132 dL_law_132 ?_
                    refine S_callS (a' := 3) (b' := 4) (a := 23) (b := 4) 133 (As := [.ref w7, .ref w4]) rfl calL_groups stL_groups mkL_359 rfl rfl rfl rfl rfl dL_law_133 (CL_groups E w7 w4 h32) (fun v33 h34 => kqI ?_)
                    refine S_ifne 136 141 dL_law_136 (by decide) ?_ ?_
                    · skip
                      refine S_aload_1 141 dL_law_141 ?_
                      refine S_ic 142 1 dL_law_142 (by decide) ?_
                      refine S_bip 143 6 dL_law_143 (by decide) ?_
                      refine S_callV (a' := 0) (b' := 0) (a := 23) (b := 4) 145 (As := [.int 1, .int 6]) (ci := 20) rfl calX10_next imX10_next seX10_next mkL_196 rfl rfl rfl rfl rfl (by decide) rfl rfl dL_law_145 (CX10_next E w1 1 6 h34) (fun v35 h36 => kqI ?_)
                      refine S_istore_4 148 dL_law_148 rfl ?_
                      refine S_drop [0] rfl ?_
                      refine S_loop (fun (s150 : Int32) => [none, some (.ref w1), some (.ref w4), some (.ref w7), some (.int s150)]) (fun again150 hg150 s150 h37 => ?_) xfu _ _
                      refine S_iload_4 150 dL_law_150 ?_
                      refine S_ifle 152 197 dL_law_152 (by decide) ?_ ?_
                      · skip
                        refine S_aload_3 197 dL_law_197 ?_
                        refine S_ic 198 0 dL_law_198 (by decide) ?_
                        refine S_ic 199 3 dL_law_199 (by decide) ?_
                        refine S_ic 200 0 dL_law_200 (by decide) ?_
                        refine S_ic 201 0 dL_law_201 (by decide) ?_
                        refine S_ic 202 0 dL_law_202 (by decide) ?_
                        refine S_callSH (a' := 0) (b' := 0) (a := 23) (b := 4) 203 (As := [.ref w7, .int 0, .int 3, .int 0, .int 0, .int 0]) rfl calL_thrown stL_thrown mkL_205 rfl rfl rfl rfl rfl dL_law_203 (CL_thrown E w7 0 3 0 0 0 h37) (fun v38 h39 => kqI ?_)
                        refine S_ic 206 3 dL_law_206 (by decide) ?_
                        refine S_join (fun jj => ∀  (h40 : XH), XS E mL_law eI 23 4 287 [none, none, none, none, none] [] h40 (jj  h40)) (fun  h40 => ?_) (fun j287 hj287 => ?_)
                        · skip
                          refine S_ic 287 0 dL_law_287 (by decide) ?_
                          exact S_zret 288 dL_law_288 rfl
                        refine S_icmpne 207 287 dL_law_207 (by decide) ?_ ?_
                        · skip
                          exact S_drop [1, 2, 3, 4] rfl (hj287 _)
                        · skip
                          refine S_aload_3 210 dL_law_210 ?_
                          refine S_ic 211 1 dL_law_211 (by decide) ?_
                          refine S_ic 212 3 dL_law_212 (by decide) ?_
                          refine S_ic 213 0 dL_law_213 (by decide) ?_
                          refine S_ic 214 0 dL_law_214 (by decide) ?_
                          refine S_ic 215 0 dL_law_215 (by decide) ?_
                          refine S_callSH (a' := 0) (b' := 0) (a := 23) (b := 4) 216 (As := [.ref w7, .int 1, .int 3, .int 0, .int 0, .int 0]) rfl calL_thrown stL_thrown mkL_205 rfl rfl rfl rfl rfl dL_law_216 (CL_thrown E w7 1 3 0 0 0 h39) (fun v41 h42 => kqI ?_)
                          refine S_ic 219 3 dL_law_219 (by decide) ?_
                          refine S_icmpne 220 287 dL_law_220 (by decide) ?_ ?_
                          · skip
                            exact S_drop [1, 2, 3, 4] rfl (hj287 _)
                          · skip
                            refine S_aload_3 223 dL_law_223 ?_
                            refine S_ic 224 1 dL_law_224 (by decide) ?_
                            refine S_ic 225 0 dL_law_225 (by decide) ?_
                            refine S_aload_2 226 dL_law_226 ?_
                            refine S_getIN 227 fnL_156 rfl dL_law_227 ?_
                            refine S_ic 230 0 dL_law_230 (by decide) ?_
                            refine S_ic 231 0 dL_law_231 (by decide) ?_
                            refine S_callSH (a' := 0) (b' := 0) (a := 23) (b := 4) 232 (As := [.ref w7, .int 1, .int 0, .int (xi h42 w4 5), .int 0, .int 0]) rfl calL_thrown stL_thrown mkL_205 rfl rfl rfl rfl rfl dL_law_232 (CL_thrown E w7 1 0 (xi h42 w4 5) 0 0 h42) (fun v43 h44 => kqI ?_)
                            refine S_ic 235 2 dL_law_235 (by decide) ?_
                            refine S_icmpne 236 287 dL_law_236 (by decide) ?_ ?_
                            · skip
                              exact S_drop [1, 2, 3, 4] rfl (hj287 _)
                            · skip
                              refine S_aload_3 239 dL_law_239 ?_
                              refine S_bip 240 6 dL_law_240 (by decide) ?_
                              refine S_aload_2 242 dL_law_242 ?_
                              refine S_getIN 243 fnL_162 rfl dL_law_243 ?_
                              refine S_ic 246 0 dL_law_246 (by decide) ?_
                              refine S_ic 247 0 dL_law_247 (by decide) ?_
                              refine S_ic 248 0 dL_law_248 (by decide) ?_
                              refine S_callSH (a' := 0) (b' := 0) (a := 23) (b := 4) 249 (As := [.ref w7, .int 6, .int (xi h44 w4 6), .int 0, .int 0, .int 0]) rfl calL_thrown stL_thrown mkL_205 rfl rfl rfl rfl rfl dL_law_249 (CL_thrown E w7 6 (xi h44 w4 6) 0 0 0 h44) (fun v45 h46 => kqI ?_)
                              refine S_ic 252 2 dL_law_252 (by decide) ?_
                              refine S_icmpne 253 287 dL_law_253 (by decide) ?_ ?_
                              · skip
                                exact S_drop [1, 2, 3, 4] rfl (hj287 _)
                              · skip
                                refine S_aload_3 256 dL_law_256 ?_
                                refine S_bip 257 34 dL_law_257 (by decide) ?_
                                refine S_aload_2 259 dL_law_259 ?_
                                refine S_getIN 260 fnL_165 rfl dL_law_260 ?_
                                refine S_ic 263 0 dL_law_263 (by decide) ?_
                                refine S_ic 264 0 dL_law_264 (by decide) ?_
                                refine S_ic 265 0 dL_law_265 (by decide) ?_
                                refine S_callSH (a' := 0) (b' := 0) (a := 23) (b := 4) 266 (As := [.ref w7, .int 34, .int (xi h46 w4 7), .int 0, .int 0, .int 0]) rfl calL_thrown stL_thrown mkL_205 rfl rfl rfl rfl rfl dL_law_266 (CL_thrown E w7 34 (xi h46 w4 7) 0 0 0 h46) (fun v47 h48 => kqI ?_)
                                refine S_ic 269 2 dL_law_269 (by decide) ?_
                                refine S_icmpne 270 287 dL_law_270 (by decide) ?_ ?_
                                · skip
                                  exact S_drop [1, 2, 3, 4] rfl (hj287 _)
                                · skip
                                  refine S_aload_3 273 dL_law_273 ?_
                                  refine S_bip 274 22 dL_law_274 (by decide) ?_
                                  refine S_ic 276 3 dL_law_276 (by decide) ?_
                                  refine S_ic 277 0 dL_law_277 (by decide) ?_
                                  refine S_ic 278 0 dL_law_278 (by decide) ?_
                                  refine S_ic 279 0 dL_law_279 (by decide) ?_
                                  refine S_callSH (a' := 0) (b' := 0) (a := 23) (b := 4) 280 (As := [.ref w7, .int 22, .int 3, .int 0, .int 0, .int 0]) rfl calL_thrown stL_thrown mkL_205 rfl rfl rfl rfl rfl dL_law_280 (CL_thrown E w7 22 3 0 0 0 h48) (fun v49 h50 => kqI ?_)
                                  refine S_ic 283 3 dL_law_283 (by decide) ?_
                                  refine S_icmpeq 284 289 dL_law_284 (by decide) ?_ ?_
                                  · skip
                                    refine S_aload_3 289 dL_law_289 ?_
                                    refine S_bip 290 24 dL_law_290 (by decide) ?_
                                    refine S_ic 292 (-1) dL_law_292 (by decide) ?_
                                    refine S_ic 293 0 dL_law_293 (by decide) ?_
                                    refine S_ic 294 0 dL_law_294 (by decide) ?_
                                    refine S_ic 295 0 dL_law_295 (by decide) ?_
                                    refine S_callSH (a' := 0) (b' := 0) (a := 23) (b := 4) 296 (As := [.ref w7, .int 24, .int (-1), .int 0, .int 0, .int 0]) rfl calL_thrown stL_thrown mkL_205 rfl rfl rfl rfl rfl dL_law_296 (CL_thrown E w7 24 (-1) 0 0 0 h50) (fun v51 h52 => kqI ?_)
                                    refine S_ic 299 2 dL_law_299 (by decide) ?_
                                    refine S_join (fun jj => ∀ (v53 : Int32) (h54 : XH), XS E mL_law eI 23 4 350 [none, none, none, none, none] [.int v53] h54 (jj v53 h54)) (fun v53 h54 => ?_) (fun j350 hj350 => ?_)
                                    · skip
                                      exact S_zret 350 dL_law_350 rfl
                                    refine S_join (fun jj => ∀  (h55 : XH), XS E mL_law eI 23 4 349 [none, none, none, none, none] [] h55 (jj  h55)) (fun  h55 => ?_) (fun j349 hj349 => ?_)
                                    · skip
                                      refine S_ic 349 0 dL_law_349 (by decide) ?_
                                      exact S_drop [] rfl (hj350 _ _)
                                    refine S_icmpne 300 349 dL_law_300 (by decide) ?_ ?_
                                    · skip
                                      exact S_drop [1, 2, 3, 4] rfl (hj349 _)
                                    · skip
                                      refine S_aload_3 303 dL_law_303 ?_
                                      refine S_bip 304 25 dL_law_304 (by decide) ?_
                                      refine S_aload_2 306 dL_law_306 ?_
                                      refine S_getIN 307 fnL_162 rfl dL_law_307 ?_
                                      refine S_ic 310 0 dL_law_310 (by decide) ?_
                                      refine S_ic 311 0 dL_law_311 (by decide) ?_
                                      refine S_ic 312 0 dL_law_312 (by decide) ?_
                                      refine S_callSH (a' := 0) (b' := 0) (a := 23) (b := 4) 313 (As := [.ref w7, .int 25, .int (xi h52 w4 6), .int 0, .int 0, .int 0]) rfl calL_thrown stL_thrown mkL_205 rfl rfl rfl rfl rfl dL_law_313 (CL_thrown E w7 25 (xi h52 w4 6) 0 0 0 h52) (fun v56 h57 => kqI ?_)
                                      refine S_ic 316 2 dL_law_316 (by decide) ?_
                                      refine S_icmpne 317 349 dL_law_317 (by decide) ?_ ?_
                                      · skip
                                        exact S_drop [1, 2, 3, 4] rfl (hj349 _)
                                      · skip
                                        refine S_aload_3 320 dL_law_320 ?_
                                        refine S_bip 321 26 dL_law_321 (by decide) ?_
                                        refine S_aload_2 323 dL_law_323 ?_
                                        refine S_getIN 324 fnL_162 rfl dL_law_324 ?_
                                        refine S_ic 327 0 dL_law_327 (by decide) ?_
                                        refine S_ic 328 0 dL_law_328 (by decide) ?_
                                        refine S_ic 329 0 dL_law_329 (by decide) ?_
                                        refine S_callSH (a' := 0) (b' := 0) (a := 23) (b := 4) 330 (As := [.ref w7, .int 26, .int (xi h57 w4 6), .int 0, .int 0, .int 0]) rfl calL_thrown stL_thrown mkL_205 rfl rfl rfl rfl rfl dL_law_330 (CL_thrown E w7 26 (xi h57 w4 6) 0 0 0 h57) (fun v58 h59 => kqI ?_)
                                        refine S_ic 333 2 dL_law_333 (by decide) ?_
                                        refine S_icmpne 334 349 dL_law_334 (by decide) ?_ ?_
                                        · skip
                                          exact S_drop [1, 2, 3, 4] rfl (hj349 _)
                                        · skip
                                          refine S_aload_3 337 dL_law_337 ?_
                                          refine S_aload_2 338 dL_law_338 ?_
                                          refine S_callS (a' := 0) (b' := 0) (a := 23) (b := 4) 339 (As := [.ref w7, .ref w4]) rfl calL_isLike stL_isLike mkL_355 rfl rfl rfl rfl rfl dL_law_339 (CL_isLike E w7 w4 h59) (fun v60 h61 => kqI ?_)
                                          refine S_ifeq 342 349 dL_law_342 (by decide) ?_ ?_
                                          · skip
                                            exact S_drop [1, 2, 3, 4] rfl (hj349 _)
                                          · skip
                                            refine S_ic 345 1 dL_law_345 (by decide) ?_
                                            refine S_goto 346 350 dL_law_346 (by decide) ?_
                                            exact S_drop [1, 2, 3, 4] rfl (hj350 _ _)
                                  · skip
                                    exact S_drop [1, 2, 3, 4] rfl (hj287 _)
                      · skip
                        refine S_aload_3 155 dL_law_155 ?_
                        refine S_aload_2 156 dL_law_156 ?_
                        refine S_callS (a' := 23) (b' := 4) (a := 0) (b := 0) 157 (As := [.ref w7, .ref w4]) rfl calL_modules stL_modules mkL_361 rfl rfl rfl rfl rfl dL_law_157 (CL_modules E w7 w4 h37) (fun v62 h63 => kqI ?_)
                        refine S_join (fun jj => ∀  (h64 : XH), XS E mL_law eI 0 0 189 [none, none, none, none, none] [] h64 (jj  h64)) (fun  h64 => ?_) (fun j189 hj189 => ?_)
                        · skip
                          refine S_ic 189 0 dL_law_189 (by decide) ?_
                          exact S_zret 190 dL_law_190 rfl
                        refine S_ifeq 160 189 dL_law_160 (by decide) ?_ ?_
                        · skip
                          exact S_drop [1, 2, 3, 4] rfl (hj189 _)
                        · skip
                          refine S_aload_3 163 dL_law_163 ?_
                          refine S_aload_2 164 dL_law_164 ?_
                          refine S_aload_1 165 dL_law_165 ?_
                          refine S_callS (a' := 0) (b' := 0) (a := 0) (b := 0) 166 (As := [.ref w7, .ref w4, .ref w1]) rfl calL_act stL_act mkL_363 rfl rfl rfl rfl rfl dL_law_166 (CL_act E w7 w4 w1 h63) (fun v65 h66 => kqI ?_)
                          refine S_ifeq 169 189 dL_law_169 (by decide) ?_ ?_
                          · skip
                            exact S_drop [1, 2, 3, 4] rfl (hj189 _)
                          · skip
                            refine S_aload_3 172 dL_law_172 ?_
                            refine S_aload_2 173 dL_law_173 ?_
                            refine S_aload_1 174 dL_law_174 ?_
                            refine S_callS (a' := 0) (b' := 0) (a := 0) (b := 0) 175 (As := [.ref w7, .ref w4, .ref w1]) rfl calL_act stL_act mkL_363 rfl rfl rfl rfl rfl dL_law_175 (CL_act E w7 w4 w1 h66) (fun v67 h68 => kqI ?_)
                            refine S_ifeq 178 189 dL_law_178 (by decide) ?_ ?_
                            · skip
                              exact S_drop [1, 2, 3, 4] rfl (hj189 _)
                            · skip
                              refine S_aload_3 181 dL_law_181 ?_
                              refine S_aload_2 182 dL_law_182 ?_
                              refine S_callS (a' := 0) (b' := 0) (a := 0) (b := 0) 183 (As := [.ref w7, .ref w4]) rfl calL_isLike stL_isLike mkL_355 rfl rfl rfl rfl rfl dL_law_183 (CL_isLike E w7 w4 h68) (fun v69 h70 => kqI ?_)
                              refine S_ifne 186 191 dL_law_186 (by decide) ?_ ?_
                              · skip
                                refine S_iinc_4 191 (s150 + (-1)) dL_law_191 (by rfl) rfl ?_
                                refine S_goto 194 150 dL_law_194 (by decide) ?_
                                exact S_drop [] rfl (hg150 _ _)
                              · skip
                                exact S_drop [1, 2, 3, 4] rfl (hj189 _)
                    · skip
                      exact S_drop [0, 1, 2, 3] rfl (hj139 _)
          · skip
            exact S_drop [0, 1, 2, 3] rfl (hj88 _)
