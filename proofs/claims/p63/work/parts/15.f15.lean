/-! Methods as functions, 15. -/
set_option linter.unusedVariables false
set_option maxRecDepth 10000
def FL_isText (E : XG) (p1 : Nat) (p2 : Nat) (h : XH) : XP Int32 := xlp (fun again2 (s2 : Int32) h1 => xg (xk h1 p2 = 24) <| xb (FJ4_length_8abf5 E p2  h1) fun v2 h3 => if (v2 : Int32) ≤ s2 then (xg (xk h3 p2 = 24) <| xb (FJ4_length_8abf5 E p2  h3) fun v4 h5 => xb (FL_thrown E p1 23 v4 0 0 0 h5) fun v6 h7 => xjn (fun (v8 : Int32) (h9 : XH) => xg ((v8 : Int32) = 0 ∨ (v8 : Int32) = 1) <| xv v8 h9) fun (j53 : Int32 → XH → XP Int32) => if (v6 : Int32) = 2 then (j53 1 h7) else (j53 0 h7)) else (xg (xk h3 p1 = 9) <| xb (FX8_textByte E p1 s2 h3) fun v10 h11 => xg (xk h11 p2 = 24) <| xb (FJ4_charAt_5068e E p2 s2 h11) fun v12 h13 => if (v10 : Int32) = v12 then (again2 (s2 + 1) h13) else (xg ((0 : Int32) = 0 ∨ (0 : Int32) = 1) <| xv 0 h13))) xfu 0 h
theorem CL_isText (E : XG) (p1 : Nat) (p2 : Nat) (h : XH) : XN E mL_isText eI 0 0 [.ref p1, .ref p2] h (FL_isText E p1 p2 h) := by
  unfold FL_isText
  refine S_enter (L := [some (.ref p1), some (.ref p2), none]) (by decide +kernel) rfl rfl rfl ?_
  refine S_ic 0 0 dL_isText_0 (by decide) ?_
  refine S_istore_2 1 dL_isText_1 rfl ?_
  refine S_loop (fun (s2 : Int32) => [some (.ref p1), some (.ref p2), some (.int s2)]) (fun again2 hg2 s2 h1 => ?_) xfu _ _
  refine S_iload_2 2 dL_isText_2 ?_
  refine S_aload_1 3 dL_isText_3 ?_
  refine S_callV (a' := 0) (b' := 0) (a := 0) (b := 0) 4 (As := []) (ci := 23) rfl calJ4_length_8abf5 imJ4_length_8abf5 seJ4_length_8abf5 mkL_226 rfl rfl rfl rfl rfl (by decide) rfl rfl dL_isText_4 (CJ4_length_8abf5 E p2  h1) (fun v2 h3 => kqI ?_)
  refine S_icmpge 7 31 dL_isText_7 (by decide) ?_ ?_
  · skip
    refine S_aload_0 31 dL_isText_31 ?_
    refine S_bip 32 23 dL_isText_32 (by decide) ?_
    refine S_aload_1 34 dL_isText_34 ?_
    refine S_callV (a' := 0) (b' := 0) (a := 0) (b := 0) 35 (As := []) (ci := 23) rfl calJ4_length_8abf5 imJ4_length_8abf5 seJ4_length_8abf5 mkL_226 rfl rfl rfl rfl rfl (by decide) rfl rfl dL_isText_35 (CJ4_length_8abf5 E p2  h3) (fun v4 h5 => kqI ?_)
    refine S_ic 38 0 dL_isText_38 (by decide) ?_
    refine S_ic 39 0 dL_isText_39 (by decide) ?_
    refine S_ic 40 0 dL_isText_40 (by decide) ?_
    refine S_callSH (a' := 0) (b' := 0) (a := 0) (b := 0) 41 (As := [.ref p1, .int 23, .int v4, .int 0, .int 0, .int 0]) rfl calL_thrown stL_thrown mkL_205 rfl rfl rfl rfl rfl dL_isText_41 (CL_thrown E p1 23 v4 0 0 0 h5) (fun v6 h7 => kqI ?_)
    refine S_ic 44 2 dL_isText_44 (by decide) ?_
    refine S_join (fun jj => ∀ (v8 : Int32) (h9 : XH), XS E mL_isText eI 0 0 53 [none, none, none] [.int v8] h9 (jj v8 h9)) (fun v8 h9 => ?_) (fun j53 hj53 => ?_)
    · skip
      exact S_zret 53 dL_isText_53 rfl
    refine S_icmpne 45 52 dL_isText_45 (by decide) ?_ ?_
    · skip
      refine S_ic 52 0 dL_isText_52 (by decide) ?_
      exact S_drop [0, 1, 2] rfl (hj53 _ _)
    · skip
      refine S_ic 48 1 dL_isText_48 (by decide) ?_
      refine S_goto 49 53 dL_isText_49 (by decide) ?_
      exact S_drop [0, 1, 2] rfl (hj53 _ _)
  · skip
    refine S_aload_0 10 dL_isText_10 ?_
    refine S_iload_2 11 dL_isText_11 ?_
    refine S_callV (a' := 0) (b' := 0) (a := 0) (b := 0) 12 (As := [.int s2]) (ci := 8) rfl calX8_textByte imX8_textByte seX8_textByte mkL_106 rfl rfl rfl rfl rfl (by decide) rfl rfl dL_isText_12 (CX8_textByte E p1 s2 h3) (fun v10 h11 => kqI ?_)
    refine S_aload_1 15 dL_isText_15 ?_
    refine S_iload_2 16 dL_isText_16 ?_
    refine S_callV (a' := 0) (b' := 0) (a := 0) (b := 0) 17 (As := [.int s2]) (ci := 23) rfl calJ4_charAt_5068e imJ4_charAt_5068e seJ4_charAt_5068e mkL_229 rfl rfl rfl rfl rfl (by decide) rfl rfl dL_isText_17 (CJ4_charAt_5068e E p2 s2 h11) (fun v12 h13 => kqI ?_)
    refine S_icmpeq 20 25 dL_isText_20 (by decide) ?_ ?_
    · skip
      refine S_iinc_2 25 (s2 + 1) dL_isText_25 (by rfl) rfl ?_
      refine S_goto 28 2 dL_isText_28 (by decide) ?_
      exact S_drop [] rfl (hg2 _ _)
    · skip
      refine S_ic 23 0 dL_isText_23 (by decide) ?_
      exact S_zret 24 dL_isText_24 rfl
def FL_groups (E : XG) (p1 : Nat) (p2 : Nat) (h : XH) : XP Int32 := xlp (fun again2 (s2 : Int32) h1 => xg (xk h1 p2 = 23) <| if ((xi h1 p2 5) : Int32) ≤ s2 then (xg ((1 : Int32) = 0 ∨ (1 : Int32) = 1) <| xv 1 h1) else (xg (xk h1 p2 = 23) <| xnn (xr h1 p2 1) fun w2 => xg (xk h1 w2 = 19 ∧ xin s2 (xn h1 w2)) <| xnn (xr h1 w2 (s2 : Int32).toNatClampNeg) fun w3 => xal h1 24 0 fun w4 h5 => xb (FJ4_init_da8c8 E w4  h5) fun _ h6 => xlp (fun again32 (s32 : Int32 × Int32) h7 => xg (xk h7 w3 = 18) <| if ((Int32.ofNat (xn h7 w3)) : Int32) ≤ s32.2 then (xg (xk h7 p1 = 9) <| xb (FX8_size E p1 s2 h7) fun v8 h9 => xg (xk h9 w3 = 18) <| xjn (fun  (h10 : XH) => xg ((0 : Int32) = 0 ∨ (0 : Int32) = 1) <| xv 0 h10) fun (j258 : XH → XP Int32) => if (v8 : Int32) = (Int32.ofNat (xn h9 w3)) then (xg (xk h9 p1 = 9) <| xb (FX8_centre E p1 s2 h9) fun v11 h12 => if (v11 : Int32) = s32.1 then (xg (xk h12 p1 = 9) <| xb (FX8_letter E p1 0 s2 0 h12) fun v13 h14 => if (v13 : Int32) = 103 then (xg (xk h14 p1 = 9) <| xb (FX8_letter E p1 0 s2 1 h14) fun v15 h16 => if (v15 : Int32) = (97 + s2) then (xg (xk h16 p1 = 9) <| xb (FX8_writeTable E p1 s2 h16) fun v17 h18 => xg (xk h18 w4 = 24) <| xb (FJ4_length_8abf5 E w4  h18) fun v19 h20 => if (v17 : Int32) = v19 then (xb (FL_isText E p1 w4 h20) fun v21 h22 => if (v21 : Int32) = 0 then (j258 h22) else (xg (xk h22 w3 = 18) <| xb (FL_thrown E p1 2 s2 (Int32.ofNat (xn h22 w3)) 0 0 h22) fun v23 h24 => xjn (fun  (h25 : XH) => xg ((0 : Int32) = 0 ∨ (0 : Int32) = 1) <| xv 0 h25) fun (j303 : XH → XP Int32) => if (v23 : Int32) = 2 then (xg (xk h24 w3 = 18) <| xb (FL_thrown E p1 3 s2 (1 <<< ((Int32.ofNat (xn h24 w3)) &&& 31)) 0 0 h24) fun v26 h27 => if (v26 : Int32) = 3 then (xb (FL_thrown E p1 1 0 s2 2 0 h27) fun v28 h29 => if (v28 : Int32) = 2 then (again2 (s2 + 1) h29) else (j303 h29)) else (j303 h27)) else (j303 h24))) else (j258 h20)) else (j258 h16)) else (j258 h14)) else (j258 h12)) else (j258 h9)) else (xjn (fun  (h30 : XH) => xlp (fun again58 (s58 : Int32 × Int32) h31 => xg (xk h31 w3 = 18) <| if ((Int32.ofNat (xn h31 w3)) : Int32) ≤ s58.2 then (xjn (fun (v32 : Int32) (h33 : XH) => xlt (s32.1 ||| v32) fun v34 => xg (xk h33 p1 = 9) <| xb (FX8_inverse E p1 s2 s32.2 h33) fun v35 h36 => xb (FL_inverse E w3 s32.2 h36) fun v37 h38 => xjn (fun  (h39 : XH) => xg ((0 : Int32) = 0 ∨ (0 : Int32) = 1) <| xv 0 h39) fun (j182 : XH → XP Int32) => if (v35 : Int32) = v37 then (xg (xk h38 p1 = 9) <| xb (FX8_orderOf E p1 s2 s32.2 h38) fun v40 h41 => xb (FL_order E w3 s32.2 h41) fun v42 h43 => if (v40 : Int32) = v42 then (again32 (v34, (s32.2 + 1)) h43) else (j182 h43)) else (j182 h38)) fun (j147 : Int32 → XH → XP Int32) => if (s58.1 : Int32) = 0 then (j147 0 h31) else (j147 (1 <<< (s32.2 &&& 31)) h31)) else (xg (xk h31 p1 = 9) <| xb (FX8_times E p1 s2 s32.2 s58.2 h31) fun v44 h45 => xg (xk h45 w3 = 18 ∧ xin s32.2 (xn h45 w3)) <| xnn (xr h45 w3 (s32.2 : Int32).toNatClampNeg) fun w46 => xg (xk h45 w46 = 12 ∧ xin s58.2 (xn h45 w46)) <| if (v44 : Int32) = (xi h45 w46 (s58.2 : Int32).toNatClampNeg) then (xg (xk h45 w3 = 18 ∧ xin s32.2 (xn h45 w3)) <| xnn (xr h45 w3 (s32.2 : Int32).toNatClampNeg) fun w47 => xg (xk h45 w47 = 12 ∧ xin s58.2 (xn h45 w47)) <| xg (xk h45 w3 = 18 ∧ xin s58.2 (xn h45 w3)) <| xnn (xr h45 w3 (s58.2 : Int32).toNatClampNeg) fun w48 => xg (xk h45 w48 = 12 ∧ xin s32.2 (xn h45 w48)) <| xjn (fun (v49 : Int32) (h50 : XH) => xlt (s58.1 &&& v49) fun v51 => xg (xk h50 w3 = 18 ∧ xin s32.2 (xn h50 w3)) <| xnn (xr h50 w3 (s32.2 : Int32).toNatClampNeg) fun w52 => xg (xk h50 w52 = 12 ∧ xin s58.2 (xn h50 w52)) <| xg (xk h50 w4 = 24) <| xb (FJ4_append_bf812 E w4 (xi h50 w52 (s58.2 : Int32).toNatClampNeg) h50) fun v53 h54 => again58 (v51, (s58.2 + 1)) h54) fun (j110 : Int32 → XH → XP Int32) => if ((xi h45 w47 (s58.2 : Int32).toNatClampNeg) : Int32) = (xi h45 w48 (s32.2 : Int32).toNatClampNeg) then (j110 1 h45) else (j110 0 h45)) else (xg ((0 : Int32) = 0 ∨ (0 : Int32) = 1) <| xv 0 h45))) xfu (1, 0) h30) fun (j55 : XH → XP Int32) => if (s32.2 : Int32) ≤ 0 then (j55 h7) else (xg (xk h7 w4 = 24) <| xb (FJ4_append_cf468 E w4 47 h7) fun v55 h56 => j55 h56))) xfu (0, 0) h6)) xfu 0 h
theorem CL_groups (E : XG) (p1 : Nat) (p2 : Nat) (h : XH) : XN E mL_groups eI 3 4 [.ref p1, .ref p2] h (FL_groups E p1 p2 h) := by
  unfold FL_groups
  refine S_enter (L := [some (.ref p1), some (.ref p2), none, none, none, none, none, none, none]) (by decide +kernel) rfl rfl rfl ?_
  refine S_ic 0 0 dL_groups_0 (by decide) ?_
  refine S_istore_2 1 dL_groups_1 rfl ?_
  refine S_loop (fun (s2 : Int32) => [some (.ref p1), some (.ref p2), some (.int s2), none, none, none, none, none, none]) (fun again2 hg2 s2 h1 => ?_) xfu _ _
  refine S_iload_2 2 dL_groups_2 ?_
  refine S_aload_1 3 dL_groups_3 ?_
  refine S_getIN 4 fnL_156 rfl dL_groups_4 ?_
  refine S_icmpge 7 311 dL_groups_7 (by decide) ?_ ?_
  · skip
    refine S_ic 311 1 dL_groups_311 (by decide) ?_
    exact S_zret 312 dL_groups_312 rfl
  · skip
    refine S_aload_1 10 dL_groups_10 ?_
    refine S_getRN 11 fnL_230 rfl dL_groups_11 (fun w2 => ?_)
    refine S_iload_2 14 dL_groups_14 ?_
    refine S_aald 15 19 8 (by decide) rfl rfl dL_groups_15 (fun w3 => ?_)
    refine S_astore_3 16 dL_groups_16 rfl ?_
    refine S_ic 17 0 dL_groups_17 (by decide) ?_
    refine S_istore_4 18 dL_groups_18 rfl ?_
    refine S_newF (a := 2) (b := 0) 20 (ci := 23) (N := 4) xok23 rfl nwL_227 inst23 ini23 dv23 dL_groups_20 (fun w4 h5 => ?_)
    refine S_dup 23 dL_groups_23 rfl ?_
    refine S_callI (a' := 1) (b' := 0) (a := 1) (b := 0) 24 (As := []) rfl calJ4_init_da8c8 rfl rfl imJ4_init_da8c8 mkL_234 rfl rfl rfl rfl rfl dL_groups_24 (CJ4_init_da8c8 E w4  h5) (fun _ h6 => kqU ?_)
    refine S_astore_5 27 dL_groups_27 rfl ?_
    refine S_ic 29 0 dL_groups_29 (by decide) ?_
    refine S_istore_6 30 dL_groups_30 rfl ?_
    refine S_loop (fun (s32 : Int32 × Int32) => [some (.ref p1), some (.ref p2), some (.int s2), some (.ref w3), some (.int s32.1), some (.ref w4), some (.int s32.2), none, none]) (fun again32 hg32 s32 h7 => ?_) xfu _ _
    refine S_iload_6 32 dL_groups_32 ?_
    refine S_aload_3 34 dL_groups_34 ?_
    refine S_alen 35 18 7 (by decide) rfl dL_groups_35 ?_
    refine S_icmpge 36 190 dL_groups_36 (by decide) ?_ ?_
    · skip
      refine S_aload_0 190 dL_groups_190 ?_
      refine S_iload_2 191 dL_groups_191 ?_
      refine S_callV (a' := 0) (b' := 0) (a := 1) (b := 0) 192 (As := [.int s2]) (ci := 8) rfl calX8_size imX8_size seX8_size mkL_253 rfl rfl rfl rfl rfl (by decide) rfl rfl dL_groups_192 (CX8_size E p1 s2 h7) (fun v8 h9 => kqI ?_)
      refine S_aload_3 195 dL_groups_195 ?_
      refine S_alen 196 18 7 (by decide) rfl dL_groups_196 ?_
      refine S_join (fun jj => ∀  (h10 : XH), XS E mL_groups eI 1 0 258 [none, none, none, none, none, none, none, none, none] [] h10 (jj  h10)) (fun  h10 => ?_) (fun j258 hj258 => ?_)
      · skip
        refine S_ic 258 0 dL_groups_258 (by decide) ?_
        exact S_zret 259 dL_groups_259 rfl
      refine S_icmpne 197 258 dL_groups_197 (by decide) ?_ ?_
      · skip
        exact S_drop [0, 1, 2, 3, 4, 5, 6] rfl (hj258 _)
      · skip
        refine S_aload_0 200 dL_groups_200 ?_
        refine S_iload_2 201 dL_groups_201 ?_
        refine S_callV (a' := 0) (b' := 0) (a := 1) (b := 0) 202 (As := [.int s2]) (ci := 8) rfl calX8_centre imX8_centre seX8_centre mkL_256 rfl rfl rfl rfl rfl (by decide) rfl rfl dL_groups_202 (CX8_centre E p1 s2 h9) (fun v11 h12 => kqI ?_)
        refine S_iload_4 205 dL_groups_205 ?_
        refine S_icmpne 207 258 dL_groups_207 (by decide) ?_ ?_
        · skip
          exact S_drop [0, 1, 2, 3, 4, 5, 6] rfl (hj258 _)
        · skip
          refine S_aload_0 210 dL_groups_210 ?_
          refine S_ic 211 0 dL_groups_211 (by decide) ?_
          refine S_iload_2 212 dL_groups_212 ?_
          refine S_ic 213 0 dL_groups_213 (by decide) ?_
          refine S_callV (a' := 0) (b' := 0) (a := 1) (b := 0) 214 (As := [.int 0, .int s2, .int 0]) (ci := 8) rfl calX8_letter imX8_letter seX8_letter mkL_36 rfl rfl rfl rfl rfl (by decide) rfl rfl dL_groups_214 (CX8_letter E p1 0 s2 0 h12) (fun v13 h14 => kqI ?_)
          refine S_bip 217 103 dL_groups_217 (by decide) ?_
          refine S_icmpne 219 258 dL_groups_219 (by decide) ?_ ?_
          · skip
            exact S_drop [0, 1, 2, 3, 4, 5, 6] rfl (hj258 _)
          · skip
            refine S_aload_0 222 dL_groups_222 ?_
            refine S_ic 223 0 dL_groups_223 (by decide) ?_
            refine S_iload_2 224 dL_groups_224 ?_
            refine S_ic 225 1 dL_groups_225 (by decide) ?_
            refine S_callV (a' := 0) (b' := 0) (a := 1) (b := 0) 226 (As := [.int 0, .int s2, .int 1]) (ci := 8) rfl calX8_letter imX8_letter seX8_letter mkL_36 rfl rfl rfl rfl rfl (by decide) rfl rfl dL_groups_226 (CX8_letter E p1 0 s2 1 h14) (fun v15 h16 => kqI ?_)
            refine S_bip 229 97 dL_groups_229 (by decide) ?_
            refine S_iload_2 231 dL_groups_231 ?_
            refine S_iadd 232 dL_groups_232 ?_
            refine S_icmpne 233 258 dL_groups_233 (by decide) ?_ ?_
            · skip
              exact S_drop [0, 1, 2, 3, 4, 5, 6] rfl (hj258 _)
            · skip
              refine S_aload_0 236 dL_groups_236 ?_
              refine S_iload_2 237 dL_groups_237 ?_
              refine S_callV (a' := 0) (b' := 0) (a := 1) (b := 0) 238 (As := [.int s2]) (ci := 8) rfl calX8_writeTable imX8_writeTable seX8_writeTable mkL_259 rfl rfl rfl rfl rfl (by decide) rfl rfl dL_groups_238 (CX8_writeTable E p1 s2 h16) (fun v17 h18 => kqI ?_)
              refine S_aload_5 241 dL_groups_241 ?_
              refine S_callV (a' := 0) (b' := 0) (a := 1) (b := 0) 243 (As := []) (ci := 23) rfl calJ4_length_8abf5 imJ4_length_8abf5 seJ4_length_8abf5 mkL_226 rfl rfl rfl rfl rfl (by decide) rfl rfl dL_groups_243 (CJ4_length_8abf5 E w4  h18) (fun v19 h20 => kqI ?_)
              refine S_icmpne 246 258 dL_groups_246 (by decide) ?_ ?_
              · skip
                exact S_drop [0, 1, 2, 3, 4, 5, 6] rfl (hj258 _)
              · skip
                refine S_aload_0 249 dL_groups_249 ?_
                refine S_aload_5 250 dL_groups_250 ?_
                refine S_callS (a' := 0) (b' := 0) (a := 1) (b := 0) 252 (As := [.ref p1, .ref w4]) rfl calL_isText stL_isText mkL_262 rfl rfl rfl rfl rfl dL_groups_252 (CL_isText E p1 w4 h20) (fun v21 h22 => kqI ?_)
                refine S_ifne 255 260 dL_groups_255 (by decide) ?_ ?_
                · skip
                  refine S_aload_0 260 dL_groups_260 ?_
                  refine S_ic 261 2 dL_groups_261 (by decide) ?_
                  refine S_iload_2 262 dL_groups_262 ?_
                  refine S_aload_3 263 dL_groups_263 ?_
                  refine S_alen 264 18 7 (by decide) rfl dL_groups_264 ?_
                  refine S_ic 265 0 dL_groups_265 (by decide) ?_
                  refine S_ic 266 0 dL_groups_266 (by decide) ?_
                  refine S_callSH (a' := 0) (b' := 0) (a := 1) (b := 0) 267 (As := [.ref p1, .int 2, .int s2, .int (Int32.ofNat (xn h22 w3)), .int 0, .int 0]) rfl calL_thrown stL_thrown mkL_205 rfl rfl rfl rfl rfl dL_groups_267 (CL_thrown E p1 2 s2 (Int32.ofNat (xn h22 w3)) 0 0 h22) (fun v23 h24 => kqI ?_)
                  refine S_ic 270 2 dL_groups_270 (by decide) ?_
                  refine S_join (fun jj => ∀  (h25 : XH), XS E mL_groups eI 1 0 303 [none, none, none, none, none, none, none, none, none] [] h25 (jj  h25)) (fun  h25 => ?_) (fun j303 hj303 => ?_)
                  · skip
                    refine S_ic 303 0 dL_groups_303 (by decide) ?_
                    exact S_zret 304 dL_groups_304 rfl
                  refine S_icmpne 271 303 dL_groups_271 (by decide) ?_ ?_
                  · skip
                    exact S_drop [0, 1, 2, 3, 4, 5, 6] rfl (hj303 _)
                  · skip
                    refine S_aload_0 274 dL_groups_274 ?_
                    refine S_ic 275 3 dL_groups_275 (by decide) ?_
                    refine S_iload_2 276 dL_groups_276 ?_
                    refine S_ic 277 1 dL_groups_277 (by decide) ?_
                    refine S_aload_3 278 dL_groups_278 ?_
                    refine S_alen 279 18 7 (by decide) rfl dL_groups_279 ?_
                    refine S_ishl 280 dL_groups_280 ?_
                    refine S_ic 281 0 dL_groups_281 (by decide) ?_
                    refine S_ic 282 0 dL_groups_282 (by decide) ?_
                    refine S_callSH (a' := 0) (b' := 0) (a := 1) (b := 0) 283 (As := [.ref p1, .int 3, .int s2, .int (1 <<< ((Int32.ofNat (xn h24 w3)) &&& 31)), .int 0, .int 0]) rfl calL_thrown stL_thrown mkL_205 rfl rfl rfl rfl rfl dL_groups_283 (CL_thrown E p1 3 s2 (1 <<< ((Int32.ofNat (xn h24 w3)) &&& 31)) 0 0 h24) (fun v26 h27 => kqI ?_)
                    refine S_ic 286 3 dL_groups_286 (by decide) ?_
                    refine S_icmpne 287 303 dL_groups_287 (by decide) ?_ ?_
                    · skip
                      exact S_drop [0, 1, 2, 3, 4, 5, 6] rfl (hj303 _)
                    · skip
                      refine S_aload_0 290 dL_groups_290 ?_
                      refine S_ic 291 1 dL_groups_291 (by decide) ?_
                      refine S_ic 292 0 dL_groups_292 (by decide) ?_
                      refine S_iload_2 293 dL_groups_293 ?_
                      refine S_ic 294 2 dL_groups_294 (by decide) ?_
                      refine S_ic 295 0 dL_groups_295 (by decide) ?_
                      refine S_callSH (a' := 0) (b' := 0) (a := 1) (b := 0) 296 (As := [.ref p1, .int 1, .int 0, .int s2, .int 2, .int 0]) rfl calL_thrown stL_thrown mkL_205 rfl rfl rfl rfl rfl dL_groups_296 (CL_thrown E p1 1 0 s2 2 0 h27) (fun v28 h29 => kqI ?_)
                      refine S_ic 299 2 dL_groups_299 (by decide) ?_
                      refine S_icmpeq 300 305 dL_groups_300 (by decide) ?_ ?_
                      · skip
                        refine S_iinc_2 305 (s2 + 1) dL_groups_305 (by rfl) rfl ?_
                        refine S_goto 308 2 dL_groups_308 (by decide) ?_
                        exact S_drop [3, 4, 5, 6] rfl (hg2 _ _)
                      · skip
                        exact S_drop [0, 1, 2, 3, 4, 5, 6] rfl (hj303 _)
                · skip
                  exact S_drop [0, 1, 2, 3, 4, 5, 6] rfl (hj258 _)
    · skip
      refine S_ic 39 1 dL_groups_39 (by decide) ?_
      refine S_istore_7 40 dL_groups_40 rfl ?_
      refine S_iload_6 42 dL_groups_42 ?_
      refine S_join (fun jj => ∀  (h30 : XH), XS E mL_groups eI 1 0 55 [some (.ref p1), some (.ref p2), some (.int s2), some (.ref w3), some (.int s32.1), some (.ref w4), some (.int s32.2), some (.int 1), none] [] h30 (jj  h30)) (fun  h30 => ?_) (fun j55 hj55 => ?_)
      · skip
        refine S_ic 55 0 dL_groups_55 (by decide) ?_
        refine S_istore_8 56 dL_groups_56 rfl ?_
        refine S_loop (fun (s58 : Int32 × Int32) => [some (.ref p1), some (.ref p2), some (.int s2), some (.ref w3), some (.int s32.1), some (.ref w4), some (.int s32.2), some (.int s58.1), some (.int s58.2)]) (fun again58 hg58 s58 h31 => ?_) xfu _ _
        refine S_iload_8 58 dL_groups_58 ?_
        refine S_aload_3 60 dL_groups_60 ?_
        refine S_alen 61 18 7 (by decide) rfl dL_groups_61 ?_
        refine S_icmpge 62 132 dL_groups_62 (by decide) ?_ ?_
        · skip
          refine S_iload_4 132 dL_groups_132 ?_
          refine S_iload_7 134 dL_groups_134 ?_
          refine S_join (fun jj => ∀ (v32 : Int32) (h33 : XH), XS E mL_groups eI 1 0 147 [some (.ref p1), some (.ref p2), some (.int s2), some (.ref w3), none, some (.ref w4), some (.int s32.2), none, none] [.int v32, .int s32.1] h33 (jj v32 h33)) (fun v32 h33 => ?_) (fun j147 hj147 => ?_)
          · skip
            refine S_ior 147 dL_groups_147 ?_
            refine S_gen (fun v34 => ?_)
            refine S_istore_4 148 dL_groups_148 rfl ?_
            refine S_aload_0 150 dL_groups_150 ?_
            refine S_iload_2 151 dL_groups_151 ?_
            refine S_iload_6 152 dL_groups_152 ?_
            refine S_callV (a' := 0) (b' := 0) (a := 1) (b := 0) 154 (As := [.int s2, .int s32.2]) (ci := 8) rfl calX8_inverse imX8_inverse seX8_inverse mkL_241 rfl rfl rfl rfl rfl (by decide) rfl rfl dL_groups_154 (CX8_inverse E p1 s2 s32.2 h33) (fun v35 h36 => kqI ?_)
            refine S_aload_3 157 dL_groups_157 ?_
            refine S_iload_6 158 dL_groups_158 ?_
            refine S_callS (a' := 0) (b' := 0) (a := 1) (b := 0) 160 (As := [.ref w3, .int s32.2]) rfl calL_inverse stL_inverse mkL_244 rfl rfl rfl rfl rfl dL_groups_160 (CL_inverse E w3 s32.2 h36) (fun v37 h38 => kqI ?_)
            refine S_join (fun jj => ∀  (h39 : XH), XS E mL_groups eI 1 0 182 [none, none, none, none, none, none, none, none, none] [] h39 (jj  h39)) (fun  h39 => ?_) (fun j182 hj182 => ?_)
            · skip
              refine S_ic 182 0 dL_groups_182 (by decide) ?_
              exact S_zret 183 dL_groups_183 rfl
            refine S_icmpne 163 182 dL_groups_163 (by decide) ?_ ?_
            · skip
              exact S_drop [0, 1, 2, 3, 4, 5, 6] rfl (hj182 _)
            · skip
              refine S_aload_0 166 dL_groups_166 ?_
              refine S_iload_2 167 dL_groups_167 ?_
              refine S_iload_6 168 dL_groups_168 ?_
              refine S_callV (a' := 0) (b' := 0) (a := 1) (b := 0) 170 (As := [.int s2, .int s32.2]) (ci := 8) rfl calX8_orderOf imX8_orderOf seX8_orderOf mkL_247 rfl rfl rfl rfl rfl (by decide) rfl rfl dL_groups_170 (CX8_orderOf E p1 s2 s32.2 h38) (fun v40 h41 => kqI ?_)
              refine S_aload_3 173 dL_groups_173 ?_
              refine S_iload_6 174 dL_groups_174 ?_
              refine S_callS (a' := 0) (b' := 0) (a := 1) (b := 0) 176 (As := [.ref w3, .int s32.2]) rfl calL_order stL_order mkL_250 rfl rfl rfl rfl rfl dL_groups_176 (CL_order E w3 s32.2 h41) (fun v42 h43 => kqI ?_)
              refine S_icmpeq 179 184 dL_groups_179 (by decide) ?_ ?_
              · skip
                refine S_iinc_6 184 (s32.2 + 1) dL_groups_184 (by rfl) rfl ?_
                refine S_goto 187 32 dL_groups_187 (by decide) ?_
                exact S_drop [] rfl (hg32 _ _)
              · skip
                exact S_drop [0, 1, 2, 3, 4, 5, 6] rfl (hj182 _)
          refine S_ifeq 136 146 dL_groups_136 (by decide) ?_ ?_
          · skip
            refine S_ic 146 0 dL_groups_146 (by decide) ?_
            exact S_drop [4, 7, 8] rfl (hj147 _ _)
          · skip
            refine S_ic 139 1 dL_groups_139 (by decide) ?_
            refine S_iload_6 140 dL_groups_140 ?_
            refine S_ishl 142 dL_groups_142 ?_
            refine S_goto 143 147 dL_groups_143 (by decide) ?_
            exact S_drop [4, 7, 8] rfl (hj147 _ _)
        · skip
          refine S_aload_0 65 dL_groups_65 ?_
          refine S_iload_2 66 dL_groups_66 ?_
          refine S_iload_6 67 dL_groups_67 ?_
          refine S_iload_8 69 dL_groups_69 ?_
          refine S_callV (a' := 0) (b' := 0) (a := 1) (b := 0) 71 (As := [.int s2, .int s32.2, .int s58.2]) (ci := 8) rfl calX8_times imX8_times seX8_times mkL_40 rfl rfl rfl rfl rfl (by decide) rfl rfl dL_groups_71 (CX8_times E p1 s2 s32.2 s58.2 h31) (fun v44 h45 => kqI ?_)
          refine S_aload_3 74 dL_groups_74 ?_
          refine S_iload_6 75 dL_groups_75 ?_
          refine S_aald 77 18 7 (by decide) rfl rfl dL_groups_77 (fun w46 => ?_)
          refine S_iload_8 78 dL_groups_78 ?_
          refine S_iald 80 dL_groups_80 ?_
          refine S_icmpeq 81 86 dL_groups_81 (by decide) ?_ ?_
          · skip
            refine S_iload_7 86 dL_groups_86 ?_
            refine S_aload_3 88 dL_groups_88 ?_
            refine S_iload_6 89 dL_groups_89 ?_
            refine S_aald 91 18 7 (by decide) rfl rfl dL_groups_91 (fun w47 => ?_)
            refine S_iload_8 92 dL_groups_92 ?_
            refine S_iald 94 dL_groups_94 ?_
            refine S_aload_3 95 dL_groups_95 ?_
            refine S_iload_8 96 dL_groups_96 ?_
            refine S_aald 98 18 7 (by decide) rfl rfl dL_groups_98 (fun w48 => ?_)
            refine S_iload_6 99 dL_groups_99 ?_
            refine S_iald 101 dL_groups_101 ?_
            refine S_join (fun jj => ∀ (v49 : Int32) (h50 : XH), XS E mL_groups eI 1 0 110 [some (.ref p1), some (.ref p2), some (.int s2), some (.ref w3), some (.int s32.1), some (.ref w4), some (.int s32.2), none, some (.int s58.2)] [.int v49, .int s58.1] h50 (jj v49 h50)) (fun v49 h50 => ?_) (fun j110 hj110 => ?_)
            · skip
              refine S_iand 110 dL_groups_110 ?_
              refine S_gen (fun v51 => ?_)
              refine S_istore_7 111 dL_groups_111 rfl ?_
              refine S_aload_5 113 dL_groups_113 ?_
              refine S_aload_3 115 dL_groups_115 ?_
              refine S_iload_6 116 dL_groups_116 ?_
              refine S_aald 118 18 7 (by decide) rfl rfl dL_groups_118 (fun w52 => ?_)
              refine S_iload_8 119 dL_groups_119 ?_
              refine S_iald 121 dL_groups_121 ?_
              refine S_callV (a' := 1) (b' := 0) (a := 0) (b := 0) 122 (As := [.int (xi h50 w52 (s58.2 : Int32).toNatClampNeg)]) (ci := 23) rfl calJ4_append_bf812 imJ4_append_bf812 seJ4_append_bf812 mkL_238 rfl rfl rfl rfl rfl (by decide) rfl rfl dL_groups_122 (CJ4_append_bf812 E w4 (xi h50 w52 (s58.2 : Int32).toNatClampNeg) h50) (fun v53 h54 => kqR ?_)
              refine S_pop 125 dL_groups_125 rfl ?_
              refine S_iinc_8 126 (s58.2 + 1) dL_groups_126 (by rfl) rfl ?_
              refine S_goto 129 58 dL_groups_129 (by decide) ?_
              exact S_drop [] rfl (hg58 _ _)
            refine S_icmpne 102 109 dL_groups_102 (by decide) ?_ ?_
            · skip
              refine S_ic 109 0 dL_groups_109 (by decide) ?_
              exact S_drop [7] rfl (hj110 _ _)
            · skip
              refine S_ic 105 1 dL_groups_105 (by decide) ?_
              refine S_goto 106 110 dL_groups_106 (by decide) ?_
              exact S_drop [7] rfl (hj110 _ _)
          · skip
            refine S_ic 84 0 dL_groups_84 (by decide) ?_
            exact S_zret 85 dL_groups_85 rfl
      refine S_ifle 44 55 dL_groups_44 (by decide) ?_ ?_
      · skip
        exact S_drop [] rfl (hj55 _)
      · skip
        refine S_aload_5 47 dL_groups_47 ?_
        refine S_bip 49 47 dL_groups_49 (by decide) ?_
        refine S_callV (a' := 1) (b' := 0) (a := 0) (b := 0) 51 (As := [.int 47]) (ci := 23) rfl calJ4_append_cf468 imJ4_append_cf468 seJ4_append_cf468 mkL_235 rfl rfl rfl rfl rfl (by decide) rfl rfl dL_groups_51 (CJ4_append_cf468 E w4 47 h7) (fun v55 h56 => kqR ?_)
        refine S_pop 54 dL_groups_54 rfl ?_
        exact S_drop [] rfl (hj55 _)
def FL_areLike (E : XG) (p1 : Nat) (p2 : Nat) (h : XH) : XP Int32 := xg (xk h p1 = 22) <| xb (FX11_pair E p1  h) fun v1 h2 => xg (xk h2 p2 = 22) <| xb (FX11_pair E p2  h2) fun v3 h4 => xlp (fun again16 (s16 : Int32 × Int32) h5 => if (18 : Int32) ≤ s16.2 then (xg ((s16.1 : Int32) = 0 ∨ (s16.1 : Int32) = 1) <| xv s16.1 h5) else (xg (xk h5 v1 = 12 ∧ xin s16.2 (xn h5 v1)) <| xg (xk h5 v3 = 12 ∧ xin s16.2 (xn h5 v3)) <| xjn (fun (v6 : Int32) (h7 : XH) => xlt (s16.1 &&& v6) fun v8 => again16 (v8, (s16.2 + 1)) h7) fun (j41 : Int32 → XH → XP Int32) => if ((xi h5 v1 (s16.2 : Int32).toNatClampNeg) : Int32) = (xi h5 v3 (s16.2 : Int32).toNatClampNeg) then (j41 1 h5) else (j41 0 h5))) xfu (1, 0) h4
theorem CL_areLike (E : XG) (p1 : Nat) (p2 : Nat) (h : XH) : XN E mL_areLike eI 10 0 [.ref p1, .ref p2] h (FL_areLike E p1 p2 h) := by
  unfold FL_areLike
  refine S_enter (L := [some (.ref p1), some (.ref p2), none, none, none, none]) (by decide +kernel) rfl rfl rfl ?_
  refine S_aload_0 0 dL_areLike_0 ?_
  refine S_callV (a' := 5) (b' := 0) (a := 5) (b := 0) 1 (As := []) (ci := 21) rfl calX11_pair imX11_pair seX11_pair mkL_309 rfl rfl rfl rfl rfl (by decide) rfl rfl dL_areLike_1 (CX11_pair E p1  h) (fun v1 h2 => kqR ?_)
  refine S_astore_2 4 dL_areLike_4 rfl ?_
  refine S_aload_1 5 dL_areLike_5 ?_
  refine S_callV (a' := 5) (b' := 0) (a := 0) (b := 0) 6 (As := []) (ci := 21) rfl calX11_pair imX11_pair seX11_pair mkL_309 rfl rfl rfl rfl rfl (by decide) rfl rfl dL_areLike_6 (CX11_pair E p2  h2) (fun v3 h4 => kqR ?_)
  refine S_astore_3 9 dL_areLike_9 rfl ?_
  refine S_ic 10 1 dL_areLike_10 (by decide) ?_
  refine S_istore_4 11 dL_areLike_11 rfl ?_
  refine S_ic 13 0 dL_areLike_13 (by decide) ?_
  refine S_istore_5 14 dL_areLike_14 rfl ?_
  refine S_drop [0, 1] rfl ?_
  refine S_loop (fun (s16 : Int32 × Int32) => [none, none, some (.ref v1), some (.ref v3), some (.int s16.1), some (.int s16.2)]) (fun again16 hg16 s16 h5 => ?_) xfu _ _
  refine S_iload_5 16 dL_areLike_16 ?_
  refine S_bip 18 18 dL_areLike_18 (by decide) ?_
  refine S_icmpge 20 50 dL_areLike_20 (by decide) ?_ ?_
  · skip
    refine S_iload_4 50 dL_areLike_50 ?_
    exact S_zret 52 dL_areLike_52 rfl
  · skip
    refine S_iload_4 23 dL_areLike_23 ?_
    refine S_aload_2 25 dL_areLike_25 ?_
    refine S_iload_5 26 dL_areLike_26 ?_
    refine S_iald 28 dL_areLike_28 ?_
    refine S_aload_3 29 dL_areLike_29 ?_
    refine S_iload_5 30 dL_areLike_30 ?_
    refine S_iald 32 dL_areLike_32 ?_
    refine S_join (fun jj => ∀ (v6 : Int32) (h7 : XH), XS E mL_areLike eI 0 0 41 [none, none, some (.ref v1), some (.ref v3), none, some (.int s16.2)] [.int v6, .int s16.1] h7 (jj v6 h7)) (fun v6 h7 => ?_) (fun j41 hj41 => ?_)
    · skip
      refine S_iand 41 dL_areLike_41 ?_
      refine S_gen (fun v8 => ?_)
      refine S_istore_4 42 dL_areLike_42 rfl ?_
      refine S_iinc_5 44 (s16.2 + 1) dL_areLike_44 (by rfl) rfl ?_
      refine S_goto 47 16 dL_areLike_47 (by decide) ?_
      exact S_drop [] rfl (hg16 _ _)
    refine S_icmpne 33 40 dL_areLike_33 (by decide) ?_ ?_
    · skip
      refine S_ic 40 0 dL_areLike_40 (by decide) ?_
      exact S_drop [4] rfl (hj41 _ _)
    · skip
      refine S_ic 36 1 dL_areLike_36 (by decide) ?_
      refine S_goto 37 41 dL_areLike_37 (by decide) ?_
      exact S_drop [4] rfl (hj41 _ _)
def FL_like (E : XG) (p1 : Nat) (p2 : Int32) (h : XH) : XP Int32 := xlp (fun again2 (s2 : Int32) h1 => xg (xk h1 p1 = 23) <| xnn (xr h1 p1 2) fun w2 => xg (xk h1 w2 = 20 ∧ xin s2 (xn h1 w2)) <| xnn (xr h1 w2 (s2 : Int32).toNatClampNeg) fun w3 => xg (xk h1 w3 = 22) <| xb (FX11_why E w3  h1) fun v4 h5 => xjn (fun  (h6 : XH) => again2 (s2 + 1) h6) fun (j32 : XH → XP Int32) => if (v4 : Int32) = 0 then (xg (xk h5 p1 = 23) <| xnn (xr h5 p1 2) fun w7 => xg (xk h5 w7 = 20 ∧ xin s2 (xn h5 w7)) <| xnn (xr h5 w7 (s2 : Int32).toNatClampNeg) fun w8 => xg (xk h5 p1 = 23) <| xnn (xr h5 p1 2) fun w9 => xg (xk h5 w9 = 20 ∧ xin p2 (xn h5 w9)) <| xnn (xr h5 w9 (p2 : Int32).toNatClampNeg) fun w10 => xb (FL_areLike E w8 w10 h5) fun v11 h12 => if (v11 : Int32) = 0 then (j32 h12) else (xv s2 h12)) else (j32 h5)) xfu 0 h
theorem CL_like (E : XG) (p1 : Nat) (p2 : Int32) (h : XH) : XN E mL_like eI 10 0 [.ref p1, .int p2] h (FL_like E p1 p2 h) := by
  unfold FL_like
  refine S_enter (L := [some (.ref p1), some (.int p2), none]) (by decide +kernel) rfl rfl rfl ?_
  refine S_ic 0 0 dL_like_0 (by decide) ?_
  refine S_istore_2 1 dL_like_1 rfl ?_
  refine S_loop (fun (s2 : Int32) => [some (.ref p1), some (.int p2), some (.int s2)]) (fun again2 hg2 s2 h1 => ?_) xfu _ _
  refine S_aload_0 2 dL_like_2 ?_
  refine S_getRN 3 fnL_172 rfl dL_like_3 (fun w2 => ?_)
  refine S_iload_2 6 dL_like_6 ?_
  refine S_aald 7 20 9 (by decide) rfl rfl dL_like_7 (fun w3 => ?_)
  refine S_callV (a' := 0) (b' := 0) (a := 10) (b := 0) 8 (As := []) (ci := 21) rfl calX11_why imX11_why seX11_why mkL_215 rfl rfl rfl rfl rfl (by decide) rfl rfl dL_like_8 (CX11_why E w3  h1) (fun v4 h5 => kqI ?_)
  refine S_join (fun jj => ∀  (h6 : XH), XS E mL_like eI 10 0 32 [some (.ref p1), some (.int p2), some (.int s2)] [] h6 (jj  h6)) (fun  h6 => ?_) (fun j32 hj32 => ?_)
  · skip
    refine S_iinc_2 32 (s2 + 1) dL_like_32 (by rfl) rfl ?_
    refine S_goto 35 2 dL_like_35 (by decide) ?_
    exact S_drop [] rfl (hg2 _ _)
  refine S_ifne 11 32 dL_like_11 (by decide) ?_ ?_
  · skip
    exact S_drop [] rfl (hj32 _)
  · skip
    refine S_aload_0 14 dL_like_14 ?_
    refine S_getRN 15 fnL_172 rfl dL_like_15 (fun w7 => ?_)
    refine S_iload_2 18 dL_like_18 ?_
    refine S_aald 19 20 9 (by decide) rfl rfl dL_like_19 (fun w8 => ?_)
    refine S_aload_0 20 dL_like_20 ?_
    refine S_getRN 21 fnL_172 rfl dL_like_21 (fun w9 => ?_)
    refine S_iload_1 24 dL_like_24 ?_
    refine S_aald 25 20 9 (by decide) rfl rfl dL_like_25 (fun w10 => ?_)
    refine S_callS (a' := 10) (b' := 0) (a := 0) (b := 0) 26 (As := [.ref w8, .ref w10]) rfl calL_areLike stL_areLike mkL_313 rfl rfl rfl rfl rfl dL_like_26 (CL_areLike E w8 w10 h5) (fun v11 h12 => kqI ?_)
    refine S_ifne 29 38 dL_like_29 (by decide) ?_ ?_
    · skip
      refine S_iload_2 38 dL_like_38 ?_
      exact S_iret 39 dL_like_39 rfl
    · skip
      exact S_drop [] rfl (hj32 _)
def FL_pairs (E : XG) (p1 : Nat) (p2 : Nat) (p3 : Int32) (h : XH) : XP Int32 := xg (xk h p2 = 23) <| xnn (xr h p2 2) fun w1 => xg (xk h w1 = 20 ∧ xin p3 (xn h w1)) <| xnn (xr h w1 (p3 : Int32).toNatClampNeg) fun w2 => xg (xk h w2 = 22) <| xb (FX11_classes E w2  h) fun v3 h4 => xg (xk h4 w2 = 22) <| xb (FX11_pair E w2  h4) fun v5 h6 => xg (xk h6 w2 = 22) <| xb (FX11_many E w2  h6) fun v7 h8 => xg (xk h8 p1 = 9) <| xb (FX8_classes E p1 p3 h8) fun v9 h10 => xjn (fun  (h11 : XH) => xg ((0 : Int32) = 0 ∨ (0 : Int32) = 1) <| xv 0 h11) fun (j48 : XH → XP Int32) => if (v9 : Int32) = v7 then (xg (xk h10 p1 = 9) <| xb (FX8_firstAlike E p1 p3 h10) fun v12 h13 => xb (FL_like E p2 p3 h13) fun v14 h15 => if (v12 : Int32) = v14 then (xlp (fun again53 (s53 : Int32) h16 => xg (xk h16 v3 = 12) <| if ((Int32.ofNat (xn h16 v3)) : Int32) ≤ s53 then (xlp (fun again87 (s87 : Int32) h17 => if (v7 : Int32) ≤ s87 then (xlp (fun again230 (s230 : Int32) h18 => if (9 : Int32) ≤ s230 then (xb (FL_thrown E p1 9 p3 v7 0 0 h18) fun v19 h20 => xjn (fun (v21 : Int32) (h22 : XH) => xg ((v21 : Int32) = 0 ∨ (v21 : Int32) = 1) <| xv v21 h22) fun (j331 : Int32 → XH → XP Int32) => xjn (fun  (h23 : XH) => j331 0 h23) fun (j330 : XH → XP Int32) => if (v19 : Int32) = 3 then (xb (FL_thrown E p1 11 p3 0 9 0 h20) fun v24 h25 => if (v24 : Int32) = 3 then (xg (xk h25 v3 = 12) <| xb (FL_thrown E p1 8 p3 (Int32.ofNat (xn h25 v3)) 0 0 h25) fun v26 h27 => if (v26 : Int32) = 2 then (j331 1 h27) else (j330 h27)) else (j330 h25)) else (j330 h20)) else (xg (xk h18 p1 = 9) <| xb (FX8_profile E p1 p3 0 s230 h18) fun v28 h29 => xg (xk h29 v5 = 12 ∧ xin s230 (xn h29 v5)) <| xjn (fun  (h30 : XH) => xg ((0 : Int32) = 0 ∨ (0 : Int32) = 1) <| xv 0 h30) fun (j272 : XH → XP Int32) => if (v28 : Int32) = (xi h29 v5 (s230 : Int32).toNatClampNeg) then (xg (xk h29 p1 = 9) <| xb (FX8_profile E p1 p3 1 s230 h29) fun v31 h32 => xg (xk h32 v5 = 12 ∧ xin (9 + s230) (xn h32 v5)) <| if (v31 : Int32) = (xi h32 v5 ((9 + s230) : Int32).toNatClampNeg) then (again230 (s230 + 1) h32) else (j272 h32)) else (j272 h29))) xfu 1 h17) else (xlp (fun again97 (s97 : Int32) h33 => if (v7 : Int32) ≤ s97 then (xlp (fun again148 (s148 : Int32) h34 => xg (xk h34 w2 = 22) <| xnn (xr h34 w2 5) fun w35 => xg (xk h34 w35 = 12) <| if ((Int32.ofNat (xn h34 w35)) : Int32) ≤ s148 then (again87 (s87 + 1) h34) else (xg (xk h34 w2 = 22) <| xnn (xr h34 w2 5) fun w36 => xg (xk h34 w36 = 12 ∧ xin s148 (xn h34 w36)) <| xjn (fun  (h37 : XH) => again148 (s148 + 1) h37) fun (j215 : XH → XP Int32) => xjn (fun  (h38 : XH) => xg ((0 : Int32) = 0 ∨ (0 : Int32) = 1) <| xv 0 h38) fun (j213 : XH → XP Int32) => if ((xi h34 w36 (s148 : Int32).toNatClampNeg) : Int32) = 0 then (xg (xk h34 p1 = 9) <| xb (FX8_classAct E p1 p3 s87 s148 h34) fun v41 h42 => xg (xk h42 w2 = 22) <| xnn (xr h42 w2 4) fun w43 => xg (xk h42 w2 = 22) <| xb (FX11_leastOf E w2 s87 h42) fun v44 h45 => xg (xk h45 w43 = 18 ∧ xin v44 (xn h45 w43)) <| xnn (xr h45 w43 (v44 : Int32).toNatClampNeg) fun w46 => xg (xk h45 w46 = 12 ∧ xin s148 (xn h45 w46)) <| if (v41 : Int32) = (xi h45 w46 (s148 : Int32).toNatClampNeg) then (j215 h45) else (j213 h45)) else (xb (FL_thrown E p1 10 p3 s87 s148 0 h34) fun v39 h40 => if (v39 : Int32) = 3 then (j215 h40) else (j213 h40)))) xfu 0 h33) else (xg (xk h33 p1 = 9) <| xb (FX8_classTimes E p1 p3 s87 s97 h33) fun v47 h48 => xg (xk h48 w2 = 22) <| xnn (xr h48 w2 3) fun w49 => xg (xk h48 w2 = 22) <| xb (FX11_leastOf E w2 s87 h48) fun v50 h51 => xg (xk h51 w49 = 18 ∧ xin v50 (xn h51 w49)) <| xnn (xr h51 w49 (v50 : Int32).toNatClampNeg) fun w52 => xg (xk h51 w2 = 22) <| xb (FX11_leastOf E w2 s97 h51) fun v53 h54 => xg (xk h54 w52 = 12 ∧ xin v53 (xn h54 w52)) <| xg (xk h54 v3 = 12 ∧ xin (xi h54 w52 (v53 : Int32).toNatClampNeg) (xn h54 v3)) <| if (v47 : Int32) = (xi h54 v3 ((xi h54 w52 (v53 : Int32).toNatClampNeg) : Int32).toNatClampNeg) then (again97 (s97 + 1) h54) else (xg ((0 : Int32) = 0 ∨ (0 : Int32) = 1) <| xv 0 h54))) xfu 0 h17)) xfu 0 h16) else (xg (xk h16 p1 = 9) <| xb (FX8_classOf E p1 p3 s53 h16) fun v55 h56 => xg (xk h56 v3 = 12 ∧ xin s53 (xn h56 v3)) <| if (v55 : Int32) = (xi h56 v3 (s53 : Int32).toNatClampNeg) then (again53 (s53 + 1) h56) else (xg ((0 : Int32) = 0 ∨ (0 : Int32) = 1) <| xv 0 h56))) xfu 0 h15) else (j48 h15)) else (j48 h10)
theorem CL_pairs (E : XG) (p1 : Nat) (p2 : Nat) (p3 : Int32) (h : XH) : XN E mL_pairs eI 19 0 [.ref p1, .ref p2, .int p3] h (FL_pairs E p1 p2 p3 h) := by
  unfold FL_pairs
  refine S_enter (L := [some (.ref p1), some (.ref p2), some (.int p3), none, none, none, none, none, none]) (by decide +kernel) rfl rfl rfl ?_
  refine S_aload_1 0 dL_pairs_0 ?_
  refine S_getRN 1 fnL_172 rfl dL_pairs_1 (fun w1 => ?_)
  refine S_iload_2 4 dL_pairs_4 ?_
  refine S_aald 5 20 9 (by decide) rfl rfl dL_pairs_5 (fun w2 => ?_)
  refine S_astore_3 6 dL_pairs_6 rfl ?_
  refine S_aload_3 7 dL_pairs_7 ?_
  refine S_callV (a' := 1) (b' := 0) (a := 18) (b := 0) 8 (As := []) (ci := 21) rfl calX11_classes imX11_classes seX11_classes mkL_317 rfl rfl rfl rfl rfl (by decide) rfl rfl dL_pairs_8 (CX11_classes E w2  h) (fun v3 h4 => kqR ?_)
  refine S_astore_4 11 dL_pairs_11 rfl ?_
  refine S_aload_3 13 dL_pairs_13 ?_
  refine S_callV (a' := 5) (b' := 0) (a := 13) (b := 0) 14 (As := []) (ci := 21) rfl calX11_pair imX11_pair seX11_pair mkL_309 rfl rfl rfl rfl rfl (by decide) rfl rfl dL_pairs_14 (CX11_pair E w2  h4) (fun v5 h6 => kqR ?_)
  refine S_astore_5 17 dL_pairs_17 rfl ?_
  refine S_aload_3 19 dL_pairs_19 ?_
  refine S_callV (a' := 1) (b' := 0) (a := 12) (b := 0) 20 (As := []) (ci := 21) rfl calX11_many imX11_many seX11_many mkL_319 rfl rfl rfl rfl rfl (by decide) rfl rfl dL_pairs_20 (CX11_many E w2  h6) (fun v7 h8 => kqI ?_)
  refine S_istore_6 23 dL_pairs_23 rfl ?_
  refine S_aload_0 25 dL_pairs_25 ?_
  refine S_iload_2 26 dL_pairs_26 ?_
  refine S_callV (a' := 0) (b' := 0) (a := 12) (b := 0) 27 (As := [.int p3]) (ci := 8) rfl calX8_classes imX8_classes seX8_classes mkL_56 rfl rfl rfl rfl rfl (by decide) rfl rfl dL_pairs_27 (CX8_classes E p1 p3 h8) (fun v9 h10 => kqI ?_)
  refine S_iload_6 30 dL_pairs_30 ?_
  refine S_join (fun jj => ∀  (h11 : XH), XS E mL_pairs eI 12 0 48 [none, none, none, none, none, none, none, none, none] [] h11 (jj  h11)) (fun  h11 => ?_) (fun j48 hj48 => ?_)
  · skip
    refine S_ic 48 0 dL_pairs_48 (by decide) ?_
    exact S_zret 49 dL_pairs_49 rfl
  refine S_icmpne 32 48 dL_pairs_32 (by decide) ?_ ?_
  · skip
    exact S_drop [0, 1, 2, 3, 4, 5, 6] rfl (hj48 _)
  · skip
    refine S_aload_0 35 dL_pairs_35 ?_
    refine S_iload_2 36 dL_pairs_36 ?_
    refine S_callV (a' := 0) (b' := 0) (a := 12) (b := 0) 37 (As := [.int p3]) (ci := 8) rfl calX8_firstAlike imX8_firstAlike seX8_firstAlike mkL_76 rfl rfl rfl rfl rfl (by decide) rfl rfl dL_pairs_37 (CX8_firstAlike E p1 p3 h10) (fun v12 h13 => kqI ?_)
    refine S_aload_1 40 dL_pairs_40 ?_
    refine S_iload_2 41 dL_pairs_41 ?_
    refine S_callS (a' := 10) (b' := 0) (a := 2) (b := 0) 42 (As := [.ref p2, .int p3]) rfl calL_like stL_like mkL_302 rfl rfl rfl rfl rfl dL_pairs_42 (CL_like E p2 p3 h13) (fun v14 h15 => kqI ?_)
    refine S_icmpeq 45 50 dL_pairs_45 (by decide) ?_ ?_
    · skip
      refine S_ic 50 0 dL_pairs_50 (by decide) ?_
      refine S_istore_7 51 dL_pairs_51 rfl ?_
      refine S_drop [1] rfl ?_
      refine S_loop (fun (s53 : Int32) => [some (.ref p1), none, some (.int p3), some (.ref w2), some (.ref v3), some (.ref v5), some (.int v7), some (.int s53), none]) (fun again53 hg53 s53 h16 => ?_) xfu _ _
      refine S_iload_7 53 dL_pairs_53 ?_
      refine S_aload_4 55 dL_pairs_55 ?_
      refine S_alen 57 12 1 (by decide) rfl dL_pairs_57 ?_
      refine S_icmpge 58 84 dL_pairs_58 (by decide) ?_ ?_
      · skip
        refine S_ic 84 0 dL_pairs_84 (by decide) ?_
        refine S_istore_7 85 dL_pairs_85 rfl ?_
        refine S_loop (fun (s87 : Int32) => [some (.ref p1), none, some (.int p3), some (.ref w2), some (.ref v3), some (.ref v5), some (.int v7), some (.int s87), none]) (fun again87 hg87 s87 h17 => ?_) xfu _ _
        refine S_iload_7 87 dL_pairs_87 ?_
        refine S_iload_6 89 dL_pairs_89 ?_
        refine S_icmpge 91 227 dL_pairs_91 (by decide) ?_ ?_
        · skip
          refine S_ic 227 1 dL_pairs_227 (by decide) ?_
          refine S_istore_7 228 dL_pairs_228 rfl ?_
          refine S_drop [3] rfl ?_
          refine S_loop (fun (s230 : Int32) => [some (.ref p1), none, some (.int p3), none, some (.ref v3), some (.ref v5), some (.int v7), some (.int s230), none]) (fun again230 hg230 s230 h18 => ?_) xfu _ _
          refine S_iload_7 230 dL_pairs_230 ?_
          refine S_bip 232 9 dL_pairs_232 (by decide) ?_
          refine S_icmpge 234 280 dL_pairs_234 (by decide) ?_ ?_
          · skip
            refine S_aload_0 280 dL_pairs_280 ?_
            refine S_bip 281 9 dL_pairs_281 (by decide) ?_
            refine S_iload_2 283 dL_pairs_283 ?_
            refine S_iload_6 284 dL_pairs_284 ?_
            refine S_ic 286 0 dL_pairs_286 (by decide) ?_
            refine S_ic 287 0 dL_pairs_287 (by decide) ?_
            refine S_callSH (a' := 0) (b' := 0) (a := 2) (b := 0) 288 (As := [.ref p1, .int 9, .int p3, .int v7, .int 0, .int 0]) rfl calL_thrown stL_thrown mkL_205 rfl rfl rfl rfl rfl dL_pairs_288 (CL_thrown E p1 9 p3 v7 0 0 h18) (fun v19 h20 => kqI ?_)
            refine S_ic 291 3 dL_pairs_291 (by decide) ?_
            refine S_join (fun jj => ∀ (v21 : Int32) (h22 : XH), XS E mL_pairs eI 2 0 331 [none, none, none, none, none, none, none, none, none] [.int v21] h22 (jj v21 h22)) (fun v21 h22 => ?_) (fun j331 hj331 => ?_)
            · skip
              exact S_zret 331 dL_pairs_331 rfl
            refine S_join (fun jj => ∀  (h23 : XH), XS E mL_pairs eI 2 0 330 [none, none, none, none, none, none, none, none, none] [] h23 (jj  h23)) (fun  h23 => ?_) (fun j330 hj330 => ?_)
            · skip
              refine S_ic 330 0 dL_pairs_330 (by decide) ?_
              exact S_drop [] rfl (hj331 _ _)
            refine S_icmpne 292 330 dL_pairs_292 (by decide) ?_ ?_
            · skip
              exact S_drop [0, 2, 4, 5, 6, 7] rfl (hj330 _)
            · skip
              refine S_aload_0 295 dL_pairs_295 ?_
              refine S_bip 296 11 dL_pairs_296 (by decide) ?_
              refine S_iload_2 298 dL_pairs_298 ?_
              refine S_ic 299 0 dL_pairs_299 (by decide) ?_
              refine S_bip 300 9 dL_pairs_300 (by decide) ?_
              refine S_ic 302 0 dL_pairs_302 (by decide) ?_
              refine S_callSH (a' := 0) (b' := 0) (a := 2) (b := 0) 303 (As := [.ref p1, .int 11, .int p3, .int 0, .int 9, .int 0]) rfl calL_thrown stL_thrown mkL_205 rfl rfl rfl rfl rfl dL_pairs_303 (CL_thrown E p1 11 p3 0 9 0 h20) (fun v24 h25 => kqI ?_)
              refine S_ic 306 3 dL_pairs_306 (by decide) ?_
              refine S_icmpne 307 330 dL_pairs_307 (by decide) ?_ ?_
              · skip
                exact S_drop [0, 2, 4, 5, 6, 7] rfl (hj330 _)
              · skip
                refine S_aload_0 310 dL_pairs_310 ?_
                refine S_bip 311 8 dL_pairs_311 (by decide) ?_
                refine S_iload_2 313 dL_pairs_313 ?_
                refine S_aload_4 314 dL_pairs_314 ?_
                refine S_alen 316 12 1 (by decide) rfl dL_pairs_316 ?_
                refine S_ic 317 0 dL_pairs_317 (by decide) ?_
                refine S_ic 318 0 dL_pairs_318 (by decide) ?_
                refine S_callSH (a' := 0) (b' := 0) (a := 2) (b := 0) 319 (As := [.ref p1, .int 8, .int p3, .int (Int32.ofNat (xn h25 v3)), .int 0, .int 0]) rfl calL_thrown stL_thrown mkL_205 rfl rfl rfl rfl rfl dL_pairs_319 (CL_thrown E p1 8 p3 (Int32.ofNat (xn h25 v3)) 0 0 h25) (fun v26 h27 => kqI ?_)
                refine S_ic 322 2 dL_pairs_322 (by decide) ?_
                refine S_icmpne 323 330 dL_pairs_323 (by decide) ?_ ?_
                · skip
                  exact S_drop [0, 2, 4, 5, 6, 7] rfl (hj330 _)
                · skip
                  refine S_ic 326 1 dL_pairs_326 (by decide) ?_
                  refine S_goto 327 331 dL_pairs_327 (by decide) ?_
                  exact S_drop [0, 2, 4, 5, 6, 7] rfl (hj331 _ _)
          · skip
            refine S_aload_0 237 dL_pairs_237 ?_
            refine S_iload_2 238 dL_pairs_238 ?_
            refine S_ic 239 0 dL_pairs_239 (by decide) ?_
            refine S_iload_7 240 dL_pairs_240 ?_
            refine S_callV (a' := 0) (b' := 0) (a := 2) (b := 0) 242 (As := [.int p3, .int 0, .int s230]) (ci := 8) rfl calX8_profile imX8_profile seX8_profile mkL_68 rfl rfl rfl rfl rfl (by decide) rfl rfl dL_pairs_242 (CX8_profile E p1 p3 0 s230 h18) (fun v28 h29 => kqI ?_)
            refine S_aload_5 245 dL_pairs_245 ?_
            refine S_iload_7 247 dL_pairs_247 ?_
            refine S_iald 249 dL_pairs_249 ?_
            refine S_join (fun jj => ∀  (h30 : XH), XS E mL_pairs eI 2 0 272 [none, none, none, none, none, none, none, none, none] [] h30 (jj  h30)) (fun  h30 => ?_) (fun j272 hj272 => ?_)
            · skip
              refine S_ic 272 0 dL_pairs_272 (by decide) ?_
              exact S_zret 273 dL_pairs_273 rfl
            refine S_icmpne 250 272 dL_pairs_250 (by decide) ?_ ?_
            · skip
              exact S_drop [0, 2, 4, 5, 6, 7] rfl (hj272 _)
            · skip
              refine S_aload_0 253 dL_pairs_253 ?_
              refine S_iload_2 254 dL_pairs_254 ?_
              refine S_ic 255 1 dL_pairs_255 (by decide) ?_
              refine S_iload_7 256 dL_pairs_256 ?_
              refine S_callV (a' := 0) (b' := 0) (a := 2) (b := 0) 258 (As := [.int p3, .int 1, .int s230]) (ci := 8) rfl calX8_profile imX8_profile seX8_profile mkL_68 rfl rfl rfl rfl rfl (by decide) rfl rfl dL_pairs_258 (CX8_profile E p1 p3 1 s230 h29) (fun v31 h32 => kqI ?_)
              refine S_aload_5 261 dL_pairs_261 ?_
              refine S_bip 263 9 dL_pairs_263 (by decide) ?_
              refine S_iload_7 265 dL_pairs_265 ?_
              refine S_iadd 267 dL_pairs_267 ?_
              refine S_iald 268 dL_pairs_268 ?_
              refine S_icmpeq 269 274 dL_pairs_269 (by decide) ?_ ?_
              · skip
                refine S_iinc_7 274 (s230 + 1) dL_pairs_274 (by rfl) rfl ?_
                refine S_goto 277 230 dL_pairs_277 (by decide) ?_
                exact S_drop [] rfl (hg230 _ _)
              · skip
                exact S_drop [0, 2, 4, 5, 6, 7] rfl (hj272 _)
        · skip
          refine S_ic 94 0 dL_pairs_94 (by decide) ?_
          refine S_istore_8 95 dL_pairs_95 rfl ?_
          refine S_loop (fun (s97 : Int32) => [some (.ref p1), none, some (.int p3), some (.ref w2), some (.ref v3), some (.ref v5), some (.int v7), some (.int s87), some (.int s97)]) (fun again97 hg97 s97 h33 => ?_) xfu _ _
          refine S_iload_8 97 dL_pairs_97 ?_
          refine S_iload_6 99 dL_pairs_99 ?_
          refine S_icmpge 101 145 dL_pairs_101 (by decide) ?_ ?_
          · skip
            refine S_ic 145 0 dL_pairs_145 (by decide) ?_
            refine S_istore_8 146 dL_pairs_146 rfl ?_
            refine S_loop (fun (s148 : Int32) => [some (.ref p1), none, some (.int p3), some (.ref w2), some (.ref v3), some (.ref v5), some (.int v7), some (.int s87), some (.int s148)]) (fun again148 hg148 s148 h34 => ?_) xfu _ _
            refine S_iload_8 148 dL_pairs_148 ?_
            refine S_aload_3 150 dL_pairs_150 ?_
            refine S_getRN 151 fnL_176 rfl dL_pairs_151 (fun w35 => ?_)
            refine S_alen 154 12 1 (by decide) rfl dL_pairs_154 ?_
            refine S_icmpge 155 221 dL_pairs_155 (by decide) ?_ ?_
            · skip
              refine S_iinc_7 221 (s87 + 1) dL_pairs_221 (by rfl) rfl ?_
              refine S_goto 224 87 dL_pairs_224 (by decide) ?_
              exact S_drop [8] rfl (hg87 _ _)
            · skip
              refine S_aload_3 158 dL_pairs_158 ?_
              refine S_getRN 159 fnL_176 rfl dL_pairs_159 (fun w36 => ?_)
              refine S_iload_8 162 dL_pairs_162 ?_
              refine S_iald 164 dL_pairs_164 ?_
              refine S_join (fun jj => ∀  (h37 : XH), XS E mL_pairs eI 2 0 215 [some (.ref p1), none, some (.int p3), some (.ref w2), some (.ref v3), some (.ref v5), some (.int v7), some (.int s87), some (.int s148)] [] h37 (jj  h37)) (fun  h37 => ?_) (fun j215 hj215 => ?_)
              · skip
                refine S_iinc_8 215 (s148 + 1) dL_pairs_215 (by rfl) rfl ?_
                refine S_goto 218 148 dL_pairs_218 (by decide) ?_
                exact S_drop [] rfl (hg148 _ _)
              refine S_join (fun jj => ∀  (h38 : XH), XS E mL_pairs eI 2 0 213 [none, none, none, none, none, none, none, none, none] [] h38 (jj  h38)) (fun  h38 => ?_) (fun j213 hj213 => ?_)
              · skip
                refine S_ic 213 0 dL_pairs_213 (by decide) ?_
                exact S_zret 214 dL_pairs_214 rfl
              refine S_ifne 165 197 dL_pairs_165 (by decide) ?_ ?_
              · skip
                refine S_aload_0 197 dL_pairs_197 ?_
                refine S_bip 198 10 dL_pairs_198 (by decide) ?_
                refine S_iload_2 200 dL_pairs_200 ?_
                refine S_iload_7 201 dL_pairs_201 ?_
                refine S_iload_8 203 dL_pairs_203 ?_
                refine S_ic 205 0 dL_pairs_205 (by decide) ?_
                refine S_callSH (a' := 0) (b' := 0) (a := 2) (b := 0) 206 (As := [.ref p1, .int 10, .int p3, .int s87, .int s148, .int 0]) rfl calL_thrown stL_thrown mkL_205 rfl rfl rfl rfl rfl dL_pairs_206 (CL_thrown E p1 10 p3 s87 s148 0 h34) (fun v39 h40 => kqI ?_)
                refine S_ic 209 3 dL_pairs_209 (by decide) ?_
                refine S_icmpeq 210 215 dL_pairs_210 (by decide) ?_ ?_
                · skip
                  exact S_drop [] rfl (hj215 _)
                · skip
                  exact S_drop [0, 2, 3, 4, 5, 6, 7, 8] rfl (hj213 _)
              · skip
                refine S_aload_0 168 dL_pairs_168 ?_
                refine S_iload_2 169 dL_pairs_169 ?_
                refine S_iload_7 170 dL_pairs_170 ?_
                refine S_iload_8 172 dL_pairs_172 ?_
                refine S_callV (a' := 0) (b' := 0) (a := 2) (b := 0) 174 (As := [.int p3, .int s87, .int s148]) (ci := 8) rfl calX8_classAct imX8_classAct seX8_classAct mkL_65 rfl rfl rfl rfl rfl (by decide) rfl rfl dL_pairs_174 (CX8_classAct E p1 p3 s87 s148 h34) (fun v41 h42 => kqI ?_)
                refine S_aload_3 177 dL_pairs_177 ?_
                refine S_getRN 178 fnL_180 rfl dL_pairs_178 (fun w43 => ?_)
                refine S_aload_3 181 dL_pairs_181 ?_
                refine S_iload_7 182 dL_pairs_182 ?_
                refine S_callV (a' := 1) (b' := 0) (a := 1) (b := 0) 184 (As := [.int s87]) (ci := 21) rfl calX11_leastOf imX11_leastOf seX11_leastOf mkL_324 rfl rfl rfl rfl rfl (by decide) rfl rfl dL_pairs_184 (CX11_leastOf E w2 s87 h42) (fun v44 h45 => kqI ?_)
                refine S_aald 187 18 7 (by decide) rfl rfl dL_pairs_187 (fun w46 => ?_)
                refine S_iload_8 188 dL_pairs_188 ?_
                refine S_iald 190 dL_pairs_190 ?_
                refine S_icmpeq 191 215 dL_pairs_191 (by decide) ?_ ?_
                · skip
                  exact S_drop [] rfl (hj215 _)
                · skip
                  refine S_goto 194 213 dL_pairs_194 (by decide) ?_
                  exact S_drop [0, 2, 3, 4, 5, 6, 7, 8] rfl (hj213 _)
          · skip
            refine S_aload_0 104 dL_pairs_104 ?_
            refine S_iload_2 105 dL_pairs_105 ?_
            refine S_iload_7 106 dL_pairs_106 ?_
            refine S_iload_8 108 dL_pairs_108 ?_
            refine S_callV (a' := 0) (b' := 0) (a := 2) (b := 0) 110 (As := [.int p3, .int s87, .int s97]) (ci := 8) rfl calX8_classTimes imX8_classTimes seX8_classTimes mkL_62 rfl rfl rfl rfl rfl (by decide) rfl rfl dL_pairs_110 (CX8_classTimes E p1 p3 s87 s97 h33) (fun v47 h48 => kqI ?_)
            refine S_aload_4 113 dL_pairs_113 ?_
            refine S_aload_3 115 dL_pairs_115 ?_
            refine S_getRN 116 fnL_321 rfl dL_pairs_116 (fun w49 => ?_)
            refine S_aload_3 119 dL_pairs_119 ?_
            refine S_iload_7 120 dL_pairs_120 ?_
            refine S_callV (a' := 1) (b' := 0) (a := 1) (b := 0) 122 (As := [.int s87]) (ci := 21) rfl calX11_leastOf imX11_leastOf seX11_leastOf mkL_324 rfl rfl rfl rfl rfl (by decide) rfl rfl dL_pairs_122 (CX11_leastOf E w2 s87 h48) (fun v50 h51 => kqI ?_)
            refine S_aald 125 18 7 (by decide) rfl rfl dL_pairs_125 (fun w52 => ?_)
            refine S_aload_3 126 dL_pairs_126 ?_
            refine S_iload_8 127 dL_pairs_127 ?_
            refine S_callV (a' := 1) (b' := 0) (a := 0) (b := 0) 129 (As := [.int s97]) (ci := 21) rfl calX11_leastOf imX11_leastOf seX11_leastOf mkL_324 rfl rfl rfl rfl rfl (by decide) rfl rfl dL_pairs_129 (CX11_leastOf E w2 s97 h51) (fun v53 h54 => kqI ?_)
            refine S_iald 132 dL_pairs_132 ?_
            refine S_iald 133 dL_pairs_133 ?_
            refine S_icmpeq 134 139 dL_pairs_134 (by decide) ?_ ?_
            · skip
              refine S_iinc_8 139 (s97 + 1) dL_pairs_139 (by rfl) rfl ?_
              refine S_goto 142 97 dL_pairs_142 (by decide) ?_
              exact S_drop [] rfl (hg97 _ _)
            · skip
              refine S_ic 137 0 dL_pairs_137 (by decide) ?_
              exact S_zret 138 dL_pairs_138 rfl
      · skip
        refine S_aload_0 61 dL_pairs_61 ?_
        refine S_iload_2 62 dL_pairs_62 ?_
        refine S_iload_7 63 dL_pairs_63 ?_
        refine S_callV (a' := 0) (b' := 0) (a := 2) (b := 0) 65 (As := [.int p3, .int s53]) (ci := 8) rfl calX8_classOf imX8_classOf seX8_classOf mkL_59 rfl rfl rfl rfl rfl (by decide) rfl rfl dL_pairs_65 (CX8_classOf E p1 p3 s53 h16) (fun v55 h56 => kqI ?_)
        refine S_aload_4 68 dL_pairs_68 ?_
        refine S_iload_7 70 dL_pairs_70 ?_
        refine S_iald 72 dL_pairs_72 ?_
        refine S_icmpeq 73 78 dL_pairs_73 (by decide) ?_ ?_
        · skip
          refine S_iinc_7 78 (s53 + 1) dL_pairs_78 (by rfl) rfl ?_
          refine S_goto 81 53 dL_pairs_81 (by decide) ?_
          exact S_drop [] rfl (hg53 _ _)
        · skip
          refine S_ic 76 0 dL_pairs_76 (by decide) ?_
          exact S_zret 77 dL_pairs_77 rfl
    · skip
      exact S_drop [0, 1, 2, 3, 4, 5, 6] rfl (hj48 _)
def FL_modules (E : XG) (p1 : Nat) (p2 : Nat) (h : XH) : XP Int32 := xlp (fun again4 (s4 : Int32 × Int32) h1 => xg (xk h1 p2 = 23) <| if ((xi h1 p2 6) : Int32) ≤ s4.2 then (xg (xk h1 p1 = 9) <| xb (FX8_kinds E p1  h1) fun v2 h3 => xjn (fun (v4 : Int32) (h5 : XH) => xg ((v4 : Int32) = 0 ∨ (v4 : Int32) = 1) <| xv v4 h5) fun (j452 : Int32 → XH → XP Int32) => if (v2 : Int32) = s4.1 then (j452 1 h3) else (j452 0 h3)) else (xg (xk h1 p2 = 23) <| xnn (xr h1 p2 2) fun w6 => xg (xk h1 w6 = 20 ∧ xin s4.2 (xn h1 w6)) <| xnn (xr h1 w6 (s4.2 : Int32).toNatClampNeg) fun w7 => xg (xk h1 w7 = 22) <| xb (FX11_why E w7  h1) fun v8 h9 => xal h9 24 0 fun w10 h11 => xb (FJ4_init_a7421 E w10 25 h11) fun _ h12 => xg (xk h12 w10 = 24) <| xb (FJ4_append_cf468 E w10 ((Int32.toUInt32 (97 + s4.2)) % 65536).toInt32 h12) fun v13 h14 => xlp (fun again50 (s50 : Int32) h15 => xg (xk h15 w7 = 22) <| xnn (xr h15 w7 5) fun w16 => xg (xk h15 w16 = 12) <| if ((Int32.ofNat (xn h15 w16)) : Int32) ≤ s50 then (xjn (fun  (h17 : XH) => xg (xk h17 p1 = 9) <| xb (FX8_why E p1 s4.2 h17) fun v18 h19 => xjn (fun  (h20 : XH) => xg ((0 : Int32) = 0 ∨ (0 : Int32) = 1) <| xv 0 h20) fun (j299 : XH → XP Int32) => if (v18 : Int32) = v8 then (xg (xk h19 p1 = 9) <| xb (FX8_kernel E p1 s4.2 h19) fun v21 h22 => xg (xk h22 w7 = 22) <| xb (FX11_kernel E w7  h22) fun v23 h24 => if (v21 : Int32) = v23 then (xg (xk h24 p1 = 9) <| xb (FX8_image E p1 s4.2 h24) fun v25 h26 => xg (xk h26 w7 = 22) <| xb (FX11_image E w7  h26) fun v27 h28 => if (v25 : Int32) = v27 then (xg (xk h28 p1 = 9) <| xb (FX8_groupOf E p1 s4.2 0 h28) fun v29 h30 => xg (xk h30 w7 = 22) <| if (v29 : Int32) = (xi h30 w7 0) then (xg (xk h30 p1 = 9) <| xb (FX8_groupOf E p1 s4.2 1 h30) fun v31 h32 => xg (xk h32 w7 = 22) <| if (v31 : Int32) = (xi h32 w7 1) then (xg (xk h32 p1 = 9) <| xb (FX8_writeModule E p1 s4.2 h32) fun v33 h34 => xg (xk h34 v13 = 24) <| xb (FJ4_length_8abf5 E v13  h34) fun v35 h36 => if (v33 : Int32) = v35 then (xb (FL_isText E p1 v13 h36) fun v37 h38 => if (v37 : Int32) = 0 then (j299 h38) else (xg (xk h38 p1 = 9) <| xb (FX8_isCentral E p1 s4.2 h38) fun v39 h40 => xg (xk h40 w7 = 22) <| xb (FX11_kernel E w7  h40) fun v41 h42 => xg (xk h42 w7 = 22) <| xg (xk h42 p1 = 9) <| xb (FX8_centre E p1 (xi h42 w7 0) h42) fun v43 h44 => xjn (fun (v45 : Int32) (h46 : XH) => if (v39 : Int32) = v45 then (xjn (fun  (h47 : XH) => xjn (fun (v48 : Int32) (h49 : XH) => xlt (s4.1 + v48) fun v50 => again4 (v50, (s4.2 + 1)) h49) fun (j431 : Int32 → XH → XP Int32) => xjn (fun  (h51 : XH) => j431 0 h51) fun (j430 : XH → XP Int32) => if (v8 : Int32) = 0 then (xb (FL_like E p2 s4.2 h47) fun v52 h53 => if (v52 : Int32) = s4.2 then (j431 1 h53) else (j430 h53)) else (j430 h47)) fun (j411 : XH → XP Int32) => xjn (fun  (h54 : XH) => xg ((0 : Int32) = 0 ∨ (0 : Int32) = 1) <| xv 0 h54) fun (j409 : XH → XP Int32) => if (v8 : Int32) = 0 then (xb (FL_pairs E p1 p2 s4.2 h46) fun v63 h64 => if (v63 : Int32) = 0 then (j409 h64) else (j411 h64)) else (xb (FL_thrown E p1 7 s4.2 0 0 0 h46) fun v55 h56 => if (v55 : Int32) = 3 then (xb (FL_thrown E p1 11 s4.2 0 1 0 h56) fun v57 h58 => if (v57 : Int32) = 3 then (xb (FL_thrown E p1 14 s4.2 0 0 0 h58) fun v59 h60 => if (v59 : Int32) = 3 then (xb (FL_thrown E p1 13 s4.2 0 0 0 h60) fun v61 h62 => if (v61 : Int32) = 3 then (j411 h62) else (j409 h62)) else (j409 h60)) else (j409 h58)) else (j409 h56))) else (xg ((0 : Int32) = 0 ∨ (0 : Int32) = 1) <| xv 0 h46)) fun (j331 : Int32 → XH → XP Int32) => if ((v41 &&& (v43 ^^^ (-1))) : Int32) = 0 then (j331 1 h44) else (j331 0 h44))) else (j299 h36)) else (j299 h32)) else (j299 h30)) else (j299 h28)) else (j299 h24)) else (j299 h19)) fun (j213 : XH → XP Int32) => if (v8 : Int32) ≤ 0 then (j213 h15) else (xg (xk h15 v13 = 24) <| xb (FJ4_append_cf468 E v13 59 h15) fun v65 h66 => xg (xk h66 v65 = 24) <| xb (FJ4_append_bf812 E v65 v8 h66) fun v67 h68 => j213 h68)) else (xjn (fun (v69 : Int32) (h70 : XH) => xg (xk h70 v13 = 24) <| xb (FJ4_append_cf468 E v13 v69 h70) fun v71 h72 => xg (xk h72 w7 = 22) <| xnn (xr h72 w7 5) fun w73 => xg (xk h72 w73 = 12 ∧ xin s50 (xn h72 w73)) <| xg (xk h72 v71 = 24) <| xb (FJ4_append_bf812 E v71 (xi h72 w73 (s50 : Int32).toNatClampNeg) h72) fun v74 h75 => xlp (fun again99 (s99 : Int32 × Int32 × Int32) h76 => xg (xk h76 w7 = 22) <| xnn (xr h76 w7 4) fun w77 => xg (xk h76 w77 = 18) <| if ((Int32.ofNat (xn h76 w77)) : Int32) ≤ s99.2.2 then (xg (xk h76 p1 = 9) <| xb (FX8_fixed E p1 s4.2 s50 h76) fun v78 h79 => xjn (fun  (h80 : XH) => xg ((0 : Int32) = 0 ∨ (0 : Int32) = 1) <| xv 0 h80) fun (j187 : XH → XP Int32) => if (v78 : Int32) = s99.1 then (xg (xk h79 p1 = 9) <| xb (FX8_orbit E p1 s4.2 s50 h79) fun v81 h82 => if (v81 : Int32) = s99.2.1 then (again50 (s50 + 1) h82) else (j187 h82)) else (j187 h79)) else (xg (xk h76 w7 = 22) <| xnn (xr h76 w7 4) fun w83 => xg (xk h76 w83 = 18 ∧ xin s99.2.2 (xn h76 w83)) <| xnn (xr h76 w83 (s99.2.2 : Int32).toNatClampNeg) fun w84 => xg (xk h76 w84 = 12 ∧ xin s50 (xn h76 w84)) <| xjn (fun (v85 : Int32) (h86 : XH) => xlt (s99.1 ||| v85) fun v87 => xg (xk h86 w7 = 22) <| xnn (xr h86 w7 4) fun w88 => xg (xk h86 w88 = 18 ∧ xin s99.2.2 (xn h86 w88)) <| xnn (xr h86 w88 (s99.2.2 : Int32).toNatClampNeg) fun w89 => xg (xk h86 w89 = 12 ∧ xin s50 (xn h86 w89)) <| xlt (s99.2.1 ||| (1 <<< ((xi h86 w89 (s50 : Int32).toNatClampNeg) &&& 31))) fun v90 => again99 (v87, v90, (s99.2.2 + 1)) h86) fun (j136 : Int32 → XH → XP Int32) => if ((xi h76 w84 (s50 : Int32).toNatClampNeg) : Int32) = s50 then (j136 (1 <<< (s99.2.2 &&& 31)) h76) else (j136 0 h76))) xfu (0, 0, 0) h75) fun (j81 : Int32 → XH → XP Int32) => if (s50 : Int32) = 0 then (j81 58 h15) else (j81 44 h15))) xfu 0 h14)) xfu (0, 0) h
theorem CL_modules (E : XG) (p1 : Nat) (p2 : Nat) (h : XH) : XN E mL_modules eI 23 4 [.ref p1, .ref p2] h (FL_modules E p1 p2 h) := by
  unfold FL_modules
  refine S_enter (L := [some (.ref p1), some (.ref p2), none, none, none, none, none, none, none, none, none]) (by decide +kernel) rfl rfl rfl ?_
  refine S_ic 0 0 dL_modules_0 (by decide) ?_
  refine S_istore_2 1 dL_modules_1 rfl ?_
  refine S_ic 2 0 dL_modules_2 (by decide) ?_
  refine S_istore_3 3 dL_modules_3 rfl ?_
  refine S_loop (fun (s4 : Int32 × Int32) => [some (.ref p1), some (.ref p2), some (.int s4.1), some (.int s4.2), none, none, none, none, none, none, none]) (fun again4 hg4 s4 h1 => ?_) xfu _ _
  refine S_iload_3 4 dL_modules_4 ?_
  refine S_aload_1 5 dL_modules_5 ?_
  refine S_getIN 6 fnL_162 rfl dL_modules_6 ?_
  refine S_icmpge 9 439 dL_modules_9 (by decide) ?_ ?_
  · skip
    refine S_aload_0 439 dL_modules_439 ?_
    refine S_callV (a' := 0) (b' := 0) (a := 23) (b := 4) 440 (As := []) (ci := 8) rfl calX8_kinds imX8_kinds seX8_kinds mkL_306 rfl rfl rfl rfl rfl (by decide) rfl rfl dL_modules_440 (CX8_kinds E p1  h1) (fun v2 h3 => kqI ?_)
    refine S_iload_2 443 dL_modules_443 ?_
    refine S_join (fun jj => ∀ (v4 : Int32) (h5 : XH), XS E mL_modules eI 23 4 452 [none, none, none, none, none, none, none, none, none, none, none] [.int v4] h5 (jj v4 h5)) (fun v4 h5 => ?_) (fun j452 hj452 => ?_)
    · skip
      exact S_zret 452 dL_modules_452 rfl
    refine S_icmpne 444 451 dL_modules_444 (by decide) ?_ ?_
    · skip
      refine S_ic 451 0 dL_modules_451 (by decide) ?_
      exact S_drop [0, 1, 2, 3] rfl (hj452 _ _)
    · skip
      refine S_ic 447 1 dL_modules_447 (by decide) ?_
      refine S_goto 448 452 dL_modules_448 (by decide) ?_
      exact S_drop [0, 1, 2, 3] rfl (hj452 _ _)
  · skip
    refine S_aload_1 12 dL_modules_12 ?_
    refine S_getRN 13 fnL_172 rfl dL_modules_13 (fun w6 => ?_)
    refine S_iload_3 16 dL_modules_16 ?_
    refine S_aald 17 20 9 (by decide) rfl rfl dL_modules_17 (fun w7 => ?_)
    refine S_astore_4 18 dL_modules_18 rfl ?_
    refine S_aload_4 20 dL_modules_20 ?_
    refine S_callV (a' := 0) (b' := 0) (a := 23) (b := 4) 22 (As := []) (ci := 21) rfl calX11_why imX11_why seX11_why mkL_215 rfl rfl rfl rfl rfl (by decide) rfl rfl dL_modules_22 (CX11_why E w7  h1) (fun v8 h9 => kqI ?_)
    refine S_istore_5 25 dL_modules_25 rfl ?_
    refine S_newF (a := 22) (b := 0) 27 (ci := 23) (N := 4) xok23 rfl nwL_227 inst23 ini23 dv23 dL_modules_27 (fun w10 h11 => ?_)
    refine S_dup 30 dL_modules_30 rfl ?_
    refine S_ldcwS 31 25 (by decide) rfl rfl dL_modules_31 ?_
    refine S_callI (a' := 2) (b' := 0) (a := 20) (b := 0) 34 (As := [.ref (eK E 25)]) rfl calJ4_init_a7421 rfl rfl imJ4_init_a7421 mkL_268 rfl rfl rfl rfl rfl dL_modules_34 (CJ4_init_a7421 E w10 25 h11) (fun _ h12 => kqU ?_)
    refine S_bip 37 97 dL_modules_37 (by decide) ?_
    refine S_iload_3 39 dL_modules_39 ?_
    refine S_iadd 40 dL_modules_40 ?_
    refine S_i2c 41 dL_modules_41 ?_
    refine S_callV (a' := 1) (b' := 0) (a := 19) (b := 0) 42 (As := [.int ((Int32.toUInt32 (97 + s4.2)) % 65536).toInt32]) (ci := 23) rfl calJ4_append_cf468 imJ4_append_cf468 seJ4_append_cf468 mkL_235 rfl rfl rfl rfl rfl (by decide) rfl rfl dL_modules_42 (CJ4_append_cf468 E w10 ((Int32.toUInt32 (97 + s4.2)) % 65536).toInt32 h12) (fun v13 h14 => kqR ?_)
    refine S_astore_6 45 dL_modules_45 rfl ?_
    refine S_ic 47 0 dL_modules_47 (by decide) ?_
    refine S_istore_7 48 dL_modules_48 rfl ?_
    refine S_loop (fun (s50 : Int32) => [some (.ref p1), some (.ref p2), some (.int s4.1), some (.int s4.2), some (.ref w7), some (.int v8), some (.ref v13), some (.int s50), none, none, none]) (fun again50 hg50 s50 h15 => ?_) xfu _ _
    refine S_iload_7 50 dL_modules_50 ?_
    refine S_aload_4 52 dL_modules_52 ?_
    refine S_getRN 54 fnL_176 rfl dL_modules_54 (fun w16 => ?_)
    refine S_alen 57 12 1 (by decide) rfl dL_modules_57 ?_
    refine S_icmpge 58 195 dL_modules_58 (by decide) ?_ ?_
    · skip
      refine S_iload_5 195 dL_modules_195 ?_
      refine S_join (fun jj => ∀  (h17 : XH), XS E mL_modules eI 19 0 213 [some (.ref p1), some (.ref p2), some (.int s4.1), some (.int s4.2), some (.ref w7), some (.int v8), some (.ref v13), none, none, none, none] [] h17 (jj  h17)) (fun  h17 => ?_) (fun j213 hj213 => ?_)
      · skip
        refine S_aload_0 213 dL_modules_213 ?_
        refine S_iload_3 214 dL_modules_214 ?_
        refine S_callV (a' := 0) (b' := 0) (a := 19) (b := 0) 215 (As := [.int s4.2]) (ci := 8) rfl calX8_why imX8_why seX8_why mkL_53 rfl rfl rfl rfl rfl (by decide) rfl rfl dL_modules_215 (CX8_why E p1 s4.2 h17) (fun v18 h19 => kqI ?_)
        refine S_iload_5 218 dL_modules_218 ?_
        refine S_join (fun jj => ∀  (h20 : XH), XS E mL_modules eI 19 0 299 [none, none, none, none, none, none, none, none, none, none, none] [] h20 (jj  h20)) (fun  h20 => ?_) (fun j299 hj299 => ?_)
        · skip
          refine S_ic 299 0 dL_modules_299 (by decide) ?_
          exact S_zret 300 dL_modules_300 rfl
        refine S_icmpne 220 299 dL_modules_220 (by decide) ?_ ?_
        · skip
          exact S_drop [0, 1, 2, 3, 4, 5, 6] rfl (hj299 _)
        · skip
          refine S_aload_0 223 dL_modules_223 ?_
          refine S_iload_3 224 dL_modules_224 ?_
          refine S_callV (a' := 0) (b' := 0) (a := 19) (b := 0) 225 (As := [.int s4.2]) (ci := 8) rfl calX8_kernel imX8_kernel seX8_kernel mkL_277 rfl rfl rfl rfl rfl (by decide) rfl rfl dL_modules_225 (CX8_kernel E p1 s4.2 h19) (fun v21 h22 => kqI ?_)
          refine S_aload_4 228 dL_modules_228 ?_
          refine S_callV (a' := 0) (b' := 0) (a := 19) (b := 0) 230 (As := []) (ci := 21) rfl calX11_kernel imX11_kernel seX11_kernel mkL_280 rfl rfl rfl rfl rfl (by decide) rfl rfl dL_modules_230 (CX11_kernel E w7  h22) (fun v23 h24 => kqI ?_)
          refine S_icmpne 233 299 dL_modules_233 (by decide) ?_ ?_
          · skip
            exact S_drop [0, 1, 2, 3, 4, 5, 6] rfl (hj299 _)
          · skip
            refine S_aload_0 236 dL_modules_236 ?_
            refine S_iload_3 237 dL_modules_237 ?_
            refine S_callV (a' := 0) (b' := 0) (a := 19) (b := 0) 238 (As := [.int s4.2]) (ci := 8) rfl calX8_image imX8_image seX8_image mkL_282 rfl rfl rfl rfl rfl (by decide) rfl rfl dL_modules_238 (CX8_image E p1 s4.2 h24) (fun v25 h26 => kqI ?_)
            refine S_aload_4 241 dL_modules_241 ?_
            refine S_callV (a' := 0) (b' := 0) (a := 19) (b := 0) 243 (As := []) (ci := 21) rfl calX11_image imX11_image seX11_image mkL_285 rfl rfl rfl rfl rfl (by decide) rfl rfl dL_modules_243 (CX11_image E w7  h26) (fun v27 h28 => kqI ?_)
            refine S_icmpne 246 299 dL_modules_246 (by decide) ?_ ?_
            · skip
              exact S_drop [0, 1, 2, 3, 4, 5, 6] rfl (hj299 _)
            · skip
              refine S_aload_0 249 dL_modules_249 ?_
              refine S_iload_3 250 dL_modules_250 ?_
              refine S_ic 251 0 dL_modules_251 (by decide) ?_
              refine S_callV (a' := 0) (b' := 0) (a := 19) (b := 0) 252 (As := [.int s4.2, .int 0]) (ci := 8) rfl calX8_groupOf imX8_groupOf seX8_groupOf mkL_287 rfl rfl rfl rfl rfl (by decide) rfl rfl dL_modules_252 (CX8_groupOf E p1 s4.2 0 h28) (fun v29 h30 => kqI ?_)
              refine S_aload_4 255 dL_modules_255 ?_
              refine S_getIN 257 fnL_209 rfl dL_modules_257 ?_
              refine S_icmpne 260 299 dL_modules_260 (by decide) ?_ ?_
              · skip
                exact S_drop [0, 1, 2, 3, 4, 5, 6] rfl (hj299 _)
              · skip
                refine S_aload_0 263 dL_modules_263 ?_
                refine S_iload_3 264 dL_modules_264 ?_
                refine S_ic 265 1 dL_modules_265 (by decide) ?_
                refine S_callV (a' := 0) (b' := 0) (a := 19) (b := 0) 266 (As := [.int s4.2, .int 1]) (ci := 8) rfl calX8_groupOf imX8_groupOf seX8_groupOf mkL_287 rfl rfl rfl rfl rfl (by decide) rfl rfl dL_modules_266 (CX8_groupOf E p1 s4.2 1 h30) (fun v31 h32 => kqI ?_)
                refine S_aload_4 269 dL_modules_269 ?_
                refine S_getIN 271 fnL_212 rfl dL_modules_271 ?_
                refine S_icmpne 274 299 dL_modules_274 (by decide) ?_ ?_
                · skip
                  exact S_drop [0, 1, 2, 3, 4, 5, 6] rfl (hj299 _)
                · skip
                  refine S_aload_0 277 dL_modules_277 ?_
                  refine S_iload_3 278 dL_modules_278 ?_
                  refine S_callV (a' := 0) (b' := 0) (a := 19) (b := 0) 279 (As := [.int s4.2]) (ci := 8) rfl calX8_writeModule imX8_writeModule seX8_writeModule mkL_291 rfl rfl rfl rfl rfl (by decide) rfl rfl dL_modules_279 (CX8_writeModule E p1 s4.2 h32) (fun v33 h34 => kqI ?_)
                  refine S_aload_6 282 dL_modules_282 ?_
                  refine S_callV (a' := 0) (b' := 0) (a := 19) (b := 0) 284 (As := []) (ci := 23) rfl calJ4_length_8abf5 imJ4_length_8abf5 seJ4_length_8abf5 mkL_226 rfl rfl rfl rfl rfl (by decide) rfl rfl dL_modules_284 (CJ4_length_8abf5 E v13  h34) (fun v35 h36 => kqI ?_)
                  refine S_icmpne 287 299 dL_modules_287 (by decide) ?_ ?_
                  · skip
                    exact S_drop [0, 1, 2, 3, 4, 5, 6] rfl (hj299 _)
                  · skip
                    refine S_aload_0 290 dL_modules_290 ?_
                    refine S_aload_6 291 dL_modules_291 ?_
                    refine S_callS (a' := 0) (b' := 0) (a := 19) (b := 0) 293 (As := [.ref p1, .ref v13]) rfl calL_isText stL_isText mkL_262 rfl rfl rfl rfl rfl dL_modules_293 (CL_isText E p1 v13 h36) (fun v37 h38 => kqI ?_)
                    refine S_ifne 296 301 dL_modules_296 (by decide) ?_ ?_
                    · skip
                      refine S_aload_0 301 dL_modules_301 ?_
                      refine S_iload_3 302 dL_modules_302 ?_
                      refine S_callV (a' := 0) (b' := 0) (a := 19) (b := 0) 303 (As := [.int s4.2]) (ci := 8) rfl calX8_isCentral imX8_isCentral seX8_isCentral mkL_294 rfl rfl rfl rfl rfl (by decide) rfl rfl dL_modules_303 (CX8_isCentral E p1 s4.2 h38) (fun v39 h40 => kqI ?_)
                      refine S_aload_4 306 dL_modules_306 ?_
                      refine S_callV (a' := 0) (b' := 0) (a := 19) (b := 0) 308 (As := []) (ci := 21) rfl calX11_kernel imX11_kernel seX11_kernel mkL_280 rfl rfl rfl rfl rfl (by decide) rfl rfl dL_modules_308 (CX11_kernel E w7  h40) (fun v41 h42 => kqI ?_)
                      refine S_aload_0 311 dL_modules_311 ?_
                      refine S_aload_4 312 dL_modules_312 ?_
                      refine S_getIN 314 fnL_209 rfl dL_modules_314 ?_
                      refine S_callV (a' := 0) (b' := 0) (a := 19) (b := 0) 317 (As := [.int (xi h42 w7 0)]) (ci := 8) rfl calX8_centre imX8_centre seX8_centre mkL_256 rfl rfl rfl rfl rfl (by decide) rfl rfl dL_modules_317 (CX8_centre E p1 (xi h42 w7 0) h42) (fun v43 h44 => kqI ?_)
                      refine S_ic 320 (-1) dL_modules_320 (by decide) ?_
                      refine S_ixor 321 dL_modules_321 ?_
                      refine S_iand 322 dL_modules_322 ?_
                      refine S_join (fun jj => ∀ (v45 : Int32) (h46 : XH), XS E mL_modules eI 19 0 331 [some (.ref p1), some (.ref p2), some (.int s4.1), some (.int s4.2), none, some (.int v8), none, none, none, none, none] [.int v45, .int v39] h46 (jj v45 h46)) (fun v45 h46 => ?_) (fun j331 hj331 => ?_)
                      · skip
                        refine S_icmpeq 331 336 dL_modules_331 (by decide) ?_ ?_
                        · skip
                          refine S_iload_5 336 dL_modules_336 ?_
                          refine S_join (fun jj => ∀  (h47 : XH), XS E mL_modules eI 19 0 411 [some (.ref p1), some (.ref p2), some (.int s4.1), some (.int s4.2), none, some (.int v8), none, none, none, none, none] [] h47 (jj  h47)) (fun  h47 => ?_) (fun j411 hj411 => ?_)
                          · skip
                            refine S_iload_2 411 dL_modules_411 ?_
                            refine S_iload_5 412 dL_modules_412 ?_
                            refine S_join (fun jj => ∀ (v48 : Int32) (h49 : XH), XS E mL_modules eI 19 0 431 [some (.ref p1), some (.ref p2), none, some (.int s4.2), none, none, none, none, none, none, none] [.int v48, .int s4.1] h49 (jj v48 h49)) (fun v48 h49 => ?_) (fun j431 hj431 => ?_)
                            · skip
                              refine S_iadd 431 dL_modules_431 ?_
                              refine S_gen (fun v50 => ?_)
                              refine S_istore_2 432 dL_modules_432 rfl ?_
                              refine S_iinc_3 433 (s4.2 + 1) dL_modules_433 (by rfl) rfl ?_
                              refine S_goto 436 4 dL_modules_436 (by decide) ?_
                              exact S_drop [] rfl (hg4 _ _)
                            refine S_join (fun jj => ∀  (h51 : XH), XS E mL_modules eI 19 0 430 [some (.ref p1), some (.ref p2), none, some (.int s4.2), none, none, none, none, none, none, none] [.int s4.1] h51 (jj  h51)) (fun  h51 => ?_) (fun j430 hj430 => ?_)
                            · skip
                              refine S_ic 430 0 dL_modules_430 (by decide) ?_
                              exact S_drop [] rfl (hj431 _ _)
                            refine S_ifne 414 430 dL_modules_414 (by decide) ?_ ?_
                            · skip
                              exact S_drop [2, 5] rfl (hj430 _)
                            · skip
                              refine S_aload_1 417 dL_modules_417 ?_
                              refine S_iload_3 418 dL_modules_418 ?_
                              refine S_callS (a' := 10) (b' := 0) (a := 9) (b := 0) 419 (As := [.ref p2, .int s4.2]) rfl calL_like stL_like mkL_302 rfl rfl rfl rfl rfl dL_modules_419 (CL_like E p2 s4.2 h47) (fun v52 h53 => kqI ?_)
                              refine S_iload_3 422 dL_modules_422 ?_
                              refine S_icmpne 423 430 dL_modules_423 (by decide) ?_ ?_
                              · skip
                                exact S_drop [2, 5] rfl (hj430 _)
                              · skip
                                refine S_ic 426 1 dL_modules_426 (by decide) ?_
                                refine S_goto 427 431 dL_modules_427 (by decide) ?_
                                exact S_drop [2, 5] rfl (hj431 _ _)
                          refine S_join (fun jj => ∀  (h54 : XH), XS E mL_modules eI 19 0 409 [none, none, none, none, none, none, none, none, none, none, none] [] h54 (jj  h54)) (fun  h54 => ?_) (fun j409 hj409 => ?_)
                          · skip
                            refine S_ic 409 0 dL_modules_409 (by decide) ?_
                            exact S_zret 410 dL_modules_410 rfl
                          refine S_ifne 338 353 dL_modules_338 (by decide) ?_ ?_
                          · skip
                            refine S_aload_0 353 dL_modules_353 ?_
                            refine S_bip 354 7 dL_modules_354 (by decide) ?_
                            refine S_iload_3 356 dL_modules_356 ?_
                            refine S_ic 357 0 dL_modules_357 (by decide) ?_
                            refine S_ic 358 0 dL_modules_358 (by decide) ?_
                            refine S_ic 359 0 dL_modules_359 (by decide) ?_
                            refine S_callSH (a' := 0) (b' := 0) (a := 19) (b := 0) 360 (As := [.ref p1, .int 7, .int s4.2, .int 0, .int 0, .int 0]) rfl calL_thrown stL_thrown mkL_205 rfl rfl rfl rfl rfl dL_modules_360 (CL_thrown E p1 7 s4.2 0 0 0 h46) (fun v55 h56 => kqI ?_)
                            refine S_ic 363 3 dL_modules_363 (by decide) ?_
                            refine S_icmpne 364 409 dL_modules_364 (by decide) ?_ ?_
                            · skip
                              exact S_drop [0, 1, 2, 3, 5] rfl (hj409 _)
                            · skip
                              refine S_aload_0 367 dL_modules_367 ?_
                              refine S_bip 368 11 dL_modules_368 (by decide) ?_
                              refine S_iload_3 370 dL_modules_370 ?_
                              refine S_ic 371 0 dL_modules_371 (by decide) ?_
                              refine S_ic 372 1 dL_modules_372 (by decide) ?_
                              refine S_ic 373 0 dL_modules_373 (by decide) ?_
                              refine S_callSH (a' := 0) (b' := 0) (a := 19) (b := 0) 374 (As := [.ref p1, .int 11, .int s4.2, .int 0, .int 1, .int 0]) rfl calL_thrown stL_thrown mkL_205 rfl rfl rfl rfl rfl dL_modules_374 (CL_thrown E p1 11 s4.2 0 1 0 h56) (fun v57 h58 => kqI ?_)
                              refine S_ic 377 3 dL_modules_377 (by decide) ?_
                              refine S_icmpne 378 409 dL_modules_378 (by decide) ?_ ?_
                              · skip
                                exact S_drop [0, 1, 2, 3, 5] rfl (hj409 _)
                              · skip
                                refine S_aload_0 381 dL_modules_381 ?_
                                refine S_bip 382 14 dL_modules_382 (by decide) ?_
                                refine S_iload_3 384 dL_modules_384 ?_
                                refine S_ic 385 0 dL_modules_385 (by decide) ?_
                                refine S_ic 386 0 dL_modules_386 (by decide) ?_
                                refine S_ic 387 0 dL_modules_387 (by decide) ?_
                                refine S_callSH (a' := 0) (b' := 0) (a := 19) (b := 0) 388 (As := [.ref p1, .int 14, .int s4.2, .int 0, .int 0, .int 0]) rfl calL_thrown stL_thrown mkL_205 rfl rfl rfl rfl rfl dL_modules_388 (CL_thrown E p1 14 s4.2 0 0 0 h58) (fun v59 h60 => kqI ?_)
                                refine S_ic 391 3 dL_modules_391 (by decide) ?_
                                refine S_icmpne 392 409 dL_modules_392 (by decide) ?_ ?_
                                · skip
                                  exact S_drop [0, 1, 2, 3, 5] rfl (hj409 _)
                                · skip
                                  refine S_aload_0 395 dL_modules_395 ?_
                                  refine S_bip 396 13 dL_modules_396 (by decide) ?_
                                  refine S_iload_3 398 dL_modules_398 ?_
                                  refine S_ic 399 0 dL_modules_399 (by decide) ?_
                                  refine S_ic 400 0 dL_modules_400 (by decide) ?_
                                  refine S_ic 401 0 dL_modules_401 (by decide) ?_
                                  refine S_callSH (a' := 0) (b' := 0) (a := 19) (b := 0) 402 (As := [.ref p1, .int 13, .int s4.2, .int 0, .int 0, .int 0]) rfl calL_thrown stL_thrown mkL_205 rfl rfl rfl rfl rfl dL_modules_402 (CL_thrown E p1 13 s4.2 0 0 0 h60) (fun v61 h62 => kqI ?_)
                                  refine S_ic 405 3 dL_modules_405 (by decide) ?_
                                  refine S_icmpeq 406 411 dL_modules_406 (by decide) ?_ ?_
                                  · skip
                                    exact S_drop [] rfl (hj411 _)
                                  · skip
                                    exact S_drop [0, 1, 2, 3, 5] rfl (hj409 _)
                          · skip
                            refine S_aload_0 341 dL_modules_341 ?_
                            refine S_aload_1 342 dL_modules_342 ?_
                            refine S_iload_3 343 dL_modules_343 ?_
                            refine S_callS (a' := 19) (b' := 0) (a := 0) (b := 0) 344 (As := [.ref p1, .ref p2, .int s4.2]) rfl calL_pairs stL_pairs mkL_298 rfl rfl rfl rfl rfl dL_modules_344 (CL_pairs E p1 p2 s4.2 h46) (fun v63 h64 => kqI ?_)
                            refine S_ifne 347 411 dL_modules_347 (by decide) ?_ ?_
                            · skip
                              exact S_drop [] rfl (hj411 _)
                            · skip
                              refine S_goto 350 409 dL_modules_350 (by decide) ?_
                              exact S_drop [0, 1, 2, 3, 5] rfl (hj409 _)
                        · skip
                          refine S_ic 334 0 dL_modules_334 (by decide) ?_
                          exact S_zret 335 dL_modules_335 rfl
                      refine S_ifne 323 330 dL_modules_323 (by decide) ?_ ?_
                      · skip
                        refine S_ic 330 0 dL_modules_330 (by decide) ?_
                        exact S_drop [4, 6] rfl (hj331 _ _)
                      · skip
                        refine S_ic 326 1 dL_modules_326 (by decide) ?_
                        refine S_goto 327 331 dL_modules_327 (by decide) ?_
                        exact S_drop [4, 6] rfl (hj331 _ _)
                    · skip
                      exact S_drop [0, 1, 2, 3, 4, 5, 6] rfl (hj299 _)
      refine S_ifle 197 213 dL_modules_197 (by decide) ?_ ?_
      · skip
        exact S_drop [7] rfl (hj213 _)
      · skip
        refine S_aload_6 200 dL_modules_200 ?_
        refine S_bip 202 59 dL_modules_202 (by decide) ?_
        refine S_callV (a' := 1) (b' := 0) (a := 18) (b := 0) 204 (As := [.int 59]) (ci := 23) rfl calJ4_append_cf468 imJ4_append_cf468 seJ4_append_cf468 mkL_235 rfl rfl rfl rfl rfl (by decide) rfl rfl dL_modules_204 (CJ4_append_cf468 E v13 59 h15) (fun v65 h66 => kqR ?_)
        refine S_iload_5 207 dL_modules_207 ?_
        refine S_callV (a' := 1) (b' := 0) (a := 17) (b := 0) 209 (As := [.int v8]) (ci := 23) rfl calJ4_append_bf812 imJ4_append_bf812 seJ4_append_bf812 mkL_238 rfl rfl rfl rfl rfl (by decide) rfl rfl dL_modules_209 (CJ4_append_bf812 E v65 v8 h66) (fun v67 h68 => kqR ?_)
        refine S_pop 212 dL_modules_212 rfl ?_
        exact S_drop [7] rfl (hj213 _)
    · skip
      refine S_ic 61 0 dL_modules_61 (by decide) ?_
      refine S_istore_8 62 dL_modules_62 rfl ?_
      refine S_ic 64 0 dL_modules_64 (by decide) ?_
      refine S_istore_9 65 dL_modules_65 rfl ?_
      refine S_aload_6 67 dL_modules_67 ?_
      refine S_iload_7 69 dL_modules_69 ?_
      refine S_join (fun jj => ∀ (v69 : Int32) (h70 : XH), XS E mL_modules eI 19 0 81 [some (.ref p1), some (.ref p2), some (.int s4.1), some (.int s4.2), some (.ref w7), some (.int v8), some (.ref v13), some (.int s50), some (.int 0), some (.int 0), none] [.int v69, .ref v13] h70 (jj v69 h70)) (fun v69 h70 => ?_) (fun j81 hj81 => ?_)
      · skip
        refine S_callV (a' := 1) (b' := 0) (a := 18) (b := 0) 81 (As := [.int v69]) (ci := 23) rfl calJ4_append_cf468 imJ4_append_cf468 seJ4_append_cf468 mkL_235 rfl rfl rfl rfl rfl (by decide) rfl rfl dL_modules_81 (CJ4_append_cf468 E v13 v69 h70) (fun v71 h72 => kqR ?_)
        refine S_aload_4 84 dL_modules_84 ?_
        refine S_getRN 86 fnL_176 rfl dL_modules_86 (fun w73 => ?_)
        refine S_iload_7 89 dL_modules_89 ?_
        refine S_iald 91 dL_modules_91 ?_
        refine S_callV (a' := 1) (b' := 0) (a := 17) (b := 0) 92 (As := [.int (xi h72 w73 (s50 : Int32).toNatClampNeg)]) (ci := 23) rfl calJ4_append_bf812 imJ4_append_bf812 seJ4_append_bf812 mkL_238 rfl rfl rfl rfl rfl (by decide) rfl rfl dL_modules_92 (CJ4_append_bf812 E v71 (xi h72 w73 (s50 : Int32).toNatClampNeg) h72) (fun v74 h75 => kqR ?_)
        refine S_pop 95 dL_modules_95 rfl ?_
        refine S_ic 96 0 dL_modules_96 (by decide) ?_
        refine S_istore_10 97 dL_modules_97 rfl ?_
        refine S_loop (fun (s99 : Int32 × Int32 × Int32) => [some (.ref p1), some (.ref p2), some (.int s4.1), some (.int s4.2), some (.ref w7), some (.int v8), some (.ref v13), some (.int s50), some (.int s99.1), some (.int s99.2.1), some (.int s99.2.2)]) (fun again99 hg99 s99 h76 => ?_) xfu _ _
        refine S_iload_10 99 dL_modules_99 ?_
        refine S_aload_4 101 dL_modules_101 ?_
        refine S_getRN 103 fnL_180 rfl dL_modules_103 (fun w77 => ?_)
        refine S_alen 106 18 7 (by decide) rfl dL_modules_106 ?_
        refine S_icmpge 107 163 dL_modules_107 (by decide) ?_ ?_
        · skip
          refine S_aload_0 163 dL_modules_163 ?_
          refine S_iload_3 164 dL_modules_164 ?_
          refine S_iload_7 165 dL_modules_165 ?_
          refine S_callV (a' := 0) (b' := 0) (a := 17) (b := 0) 167 (As := [.int s4.2, .int s50]) (ci := 8) rfl calX8_fixed imX8_fixed seX8_fixed mkL_271 rfl rfl rfl rfl rfl (by decide) rfl rfl dL_modules_167 (CX8_fixed E p1 s4.2 s50 h76) (fun v78 h79 => kqI ?_)
          refine S_iload_8 170 dL_modules_170 ?_
          refine S_join (fun jj => ∀  (h80 : XH), XS E mL_modules eI 17 0 187 [none, none, none, none, none, none, none, none, none, none, none] [] h80 (jj  h80)) (fun  h80 => ?_) (fun j187 hj187 => ?_)
          · skip
            refine S_ic 187 0 dL_modules_187 (by decide) ?_
            exact S_zret 188 dL_modules_188 rfl
          refine S_icmpne 172 187 dL_modules_172 (by decide) ?_ ?_
          · skip
            exact S_drop [0, 1, 2, 3, 4, 5, 6, 7, 8, 9, 10] rfl (hj187 _)
          · skip
            refine S_aload_0 175 dL_modules_175 ?_
            refine S_iload_3 176 dL_modules_176 ?_
            refine S_iload_7 177 dL_modules_177 ?_
            refine S_callV (a' := 0) (b' := 0) (a := 17) (b := 0) 179 (As := [.int s4.2, .int s50]) (ci := 8) rfl calX8_orbit imX8_orbit seX8_orbit mkL_274 rfl rfl rfl rfl rfl (by decide) rfl rfl dL_modules_179 (CX8_orbit E p1 s4.2 s50 h79) (fun v81 h82 => kqI ?_)
            refine S_iload_9 182 dL_modules_182 ?_
            refine S_icmpeq 184 189 dL_modules_184 (by decide) ?_ ?_
            · skip
              refine S_iinc_7 189 (s50 + 1) dL_modules_189 (by rfl) rfl ?_
              refine S_goto 192 50 dL_modules_192 (by decide) ?_
              exact S_drop [8, 9, 10] rfl (hg50 _ _)
            · skip
              exact S_drop [0, 1, 2, 3, 4, 5, 6, 7, 8, 9, 10] rfl (hj187 _)
        · skip
          refine S_iload_8 110 dL_modules_110 ?_
          refine S_aload_4 112 dL_modules_112 ?_
          refine S_getRN 114 fnL_180 rfl dL_modules_114 (fun w83 => ?_)
          refine S_iload_10 117 dL_modules_117 ?_
          refine S_aald 119 18 7 (by decide) rfl rfl dL_modules_119 (fun w84 => ?_)
          refine S_iload_7 120 dL_modules_120 ?_
          refine S_iald 122 dL_modules_122 ?_
          refine S_iload_7 123 dL_modules_123 ?_
          refine S_join (fun jj => ∀ (v85 : Int32) (h86 : XH), XS E mL_modules eI 17 0 136 [some (.ref p1), some (.ref p2), some (.int s4.1), some (.int s4.2), some (.ref w7), some (.int v8), some (.ref v13), some (.int s50), none, some (.int s99.2.1), some (.int s99.2.2)] [.int v85, .int s99.1] h86 (jj v85 h86)) (fun v85 h86 => ?_) (fun j136 hj136 => ?_)
          · skip
            refine S_ior 136 dL_modules_136 ?_
            refine S_gen (fun v87 => ?_)
            refine S_istore_8 137 dL_modules_137 rfl ?_
            refine S_iload_9 139 dL_modules_139 ?_
            refine S_ic 141 1 dL_modules_141 (by decide) ?_
            refine S_aload_4 142 dL_modules_142 ?_
            refine S_getRN 144 fnL_180 rfl dL_modules_144 (fun w88 => ?_)
            refine S_iload_10 147 dL_modules_147 ?_
            refine S_aald 149 18 7 (by decide) rfl rfl dL_modules_149 (fun w89 => ?_)
            refine S_iload_7 150 dL_modules_150 ?_
            refine S_iald 152 dL_modules_152 ?_
            refine S_ishl 153 dL_modules_153 ?_
            refine S_ior 154 dL_modules_154 ?_
            refine S_gen (fun v90 => ?_)
            refine S_istore_9 155 dL_modules_155 rfl ?_
            refine S_iinc_10 157 (s99.2.2 + 1) dL_modules_157 (by rfl) rfl ?_
            refine S_goto 160 99 dL_modules_160 (by decide) ?_
            exact S_drop [] rfl (hg99 _ _)
          refine S_icmpne 125 135 dL_modules_125 (by decide) ?_ ?_
          · skip
            refine S_ic 135 0 dL_modules_135 (by decide) ?_
            exact S_drop [8] rfl (hj136 _ _)
          · skip
            refine S_ic 128 1 dL_modules_128 (by decide) ?_
            refine S_iload_10 129 dL_modules_129 ?_
            refine S_ishl 131 dL_modules_131 ?_
            refine S_goto 132 136 dL_modules_132 (by decide) ?_
            exact S_drop [8] rfl (hj136 _ _)
      refine S_ifne 71 79 dL_modules_71 (by decide) ?_ ?_
      · skip
        refine S_bip 79 44 dL_modules_79 (by decide) ?_
        exact S_drop [] rfl (hj81 _ _)
      · skip
        refine S_bip 74 58 dL_modules_74 (by decide) ?_
        refine S_goto 76 81 dL_modules_76 (by decide) ?_
        exact S_drop [] rfl (hj81 _ _)
