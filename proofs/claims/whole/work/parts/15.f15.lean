/-! Methods as functions, 15. -/
set_option linter.unusedVariables false
set_option maxRecDepth 10000
def FX9_isCentral (E : XG) (t : Nat) (p1 : Int32) (h : XH) : XP Int32 := xg (xk h t = 10) <| xb (FX9_noModule E t p1 h) fun v1 h2 => xjn (fun (v3 : Int32) (h4 : XH) => xg ((v3 : Int32) = 0 ∨ (v3 : Int32) = 1) <| xv v3 h4) fun (j34 : Int32 → XH → XP Int32) => xjn (fun  (h5 : XH) => j34 0 h5) fun (j33 : XH → XP Int32) => if (v1 : Int32) = 0 then (xg (xk h2 t = 10) <| xb (FX9_kernelOf E t p1 h2) fun v6 h7 => xg (xk h7 t = 10) <| xnn (xr h7 t 7) fun w8 => xg (xk h7 w8 = 12 ∧ xin p1 (xn h7 w8)) <| xg (xk h7 t = 10) <| xb (FX9_centreOf E t (xi h7 w8 (p1 : Int32).toNatClampNeg) h7) fun v9 h10 => if ((v6 &&& (v9 ^^^ (-1))) : Int32) = 0 then (j34 1 h10) else (j33 h10)) else (j33 h2)
theorem CX9_isCentral (E : XG) (t : Nat) (p1 : Int32) (h : XH) : XN E mX9_isCentral eI 0 0 [.ref t, .int p1] h (FX9_isCentral E t p1 h) := by
  unfold FX9_isCentral
  refine S_enter (L := [some (.ref t), some (.int p1)]) (by decide +kernel) rfl rfl rfl ?_
  refine S_aload_0 0 dX9_isCentral_0 ?_
  refine S_iload_1 1 dX9_isCentral_1 ?_
  refine S_callV (a' := 0) (b' := 0) (a := 0) (b := 0) 2 (As := [.int p1]) (ci := 9) rfl calX9_noModule imX9_noModule seX9_noModule mkX9_308 rfl rfl rfl rfl rfl (by decide) rfl rfl dX9_isCentral_2 (CX9_noModule E t p1 h) (fun v1 h2 => kqI ?_)
  refine S_join (fun jj => ∀ (v3 : Int32) (h4 : XH), XS E mX9_isCentral eI 0 0 34 [none, none] [.int v3] h4 (jj v3 h4)) (fun v3 h4 => ?_) (fun j34 hj34 => ?_)
  · skip
    exact S_zret 34 dX9_isCentral_34 rfl
  refine S_join (fun jj => ∀  (h5 : XH), XS E mX9_isCentral eI 0 0 33 [none, none] [] h5 (jj  h5)) (fun  h5 => ?_) (fun j33 hj33 => ?_)
  · skip
    refine S_ic 33 0 dX9_isCentral_33 (by decide) ?_
    exact S_drop [] rfl (hj34 _ _)
  refine S_ifne 5 33 dX9_isCentral_5 (by decide) ?_ ?_
  · skip
    exact S_drop [0, 1] rfl (hj33 _)
  · skip
    refine S_aload_0 8 dX9_isCentral_8 ?_
    refine S_iload_1 9 dX9_isCentral_9 ?_
    refine S_callV (a' := 0) (b' := 0) (a := 0) (b := 0) 10 (As := [.int p1]) (ci := 9) rfl calX9_kernelOf imX9_kernelOf seX9_kernelOf mkX9_356 rfl rfl rfl rfl rfl (by decide) rfl rfl dX9_isCentral_10 (CX9_kernelOf E t p1 h2) (fun v6 h7 => kqI ?_)
    refine S_aload_0 13 dX9_isCentral_13 ?_
    refine S_aload_0 14 dX9_isCentral_14 ?_
    refine S_getR 15 fsX9_16 rfl dX9_isCentral_15 (fun w8 => ?_)
    refine S_iload_1 18 dX9_isCentral_18 ?_
    refine S_iald 19 dX9_isCentral_19 ?_
    refine S_callV (a' := 0) (b' := 0) (a := 0) (b := 0) 20 (As := [.int (xi h7 w8 (p1 : Int32).toNatClampNeg)]) (ci := 9) rfl calX9_centreOf imX9_centreOf seX9_centreOf mkX9_295 rfl rfl rfl rfl rfl (by decide) rfl rfl dX9_isCentral_20 (CX9_centreOf E t (xi h7 w8 (p1 : Int32).toNatClampNeg) h7) (fun v9 h10 => kqI ?_)
    refine S_ic 23 (-1) dX9_isCentral_23 (by decide) ?_
    refine S_ixor 24 dX9_isCentral_24 ?_
    refine S_iand 25 dX9_isCentral_25 ?_
    refine S_ifne 26 33 dX9_isCentral_26 (by decide) ?_ ?_
    · skip
      exact S_drop [0, 1] rfl (hj33 _)
    · skip
      refine S_ic 29 1 dX9_isCentral_29 (by decide) ?_
      refine S_goto 30 34 dX9_isCentral_30 (by decide) ?_
      exact S_drop [0, 1] rfl (hj34 _ _)
def FX9_fixed (E : XG) (t : Nat) (p1 : Int32) (p2 : Int32) (h : XH) : XP Int32 := xg (xk h t = 10) <| xb (FX9_noUpper E t p1 p2 h) fun v1 h2 => if (v1 : Int32) = 0 then (xlp (fun again16 (s16 : Int32 × Int32) h3 => xg (xk h3 t = 10) <| xb (FX9_lowers E t p1 h3) fun v4 h5 => if (v4 : Int32) ≤ s16.2 then (xv s16.1 h5) else (xg (xk h5 t = 10) <| xb (FX9_on E t p1 s16.2 p2 h5) fun v6 h7 => xjn (fun (v8 : Int32) (h9 : XH) => xlt (s16.1 ||| v8) fun v10 => again16 (v10, (s16.2 + 1)) h9) fun (j47 : Int32 → XH → XP Int32) => if (v6 : Int32) = p2 then (j47 (1 <<< (s16.2 &&& 31)) h7) else (j47 0 h7))) xfu (0, 0) h2) else (xv 0 h2)
theorem CX9_fixed (E : XG) (t : Nat) (p1 : Int32) (p2 : Int32) (h : XH) : XN E mX9_fixed eI 0 0 [.ref t, .int p1, .int p2] h (FX9_fixed E t p1 p2 h) := by
  unfold FX9_fixed
  refine S_enter (L := [some (.ref t), some (.int p1), some (.int p2), none, none]) (by decide +kernel) rfl rfl rfl ?_
  refine S_aload_0 0 dX9_fixed_0 ?_
  refine S_iload_1 1 dX9_fixed_1 ?_
  refine S_iload_2 2 dX9_fixed_2 ?_
  refine S_callV (a' := 0) (b' := 0) (a := 0) (b := 0) 3 (As := [.int p1, .int p2]) (ci := 9) rfl calX9_noUpper imX9_noUpper seX9_noUpper mkX9_311 rfl rfl rfl rfl rfl (by decide) rfl rfl dX9_fixed_3 (CX9_noUpper E t p1 p2 h) (fun v1 h2 => kqI ?_)
  refine S_ifeq 6 11 dX9_fixed_6 (by decide) ?_ ?_
  · skip
    refine S_ic 11 0 dX9_fixed_11 (by decide) ?_
    refine S_istore_3 12 dX9_fixed_12 rfl ?_
    refine S_ic 13 0 dX9_fixed_13 (by decide) ?_
    refine S_istore_4 14 dX9_fixed_14 rfl ?_
    refine S_loop (fun (s16 : Int32 × Int32) => [some (.ref t), some (.int p1), some (.int p2), some (.int s16.1), some (.int s16.2)]) (fun again16 hg16 s16 h3 => ?_) xfu _ _
    refine S_iload_4 16 dX9_fixed_16 ?_
    refine S_aload_0 18 dX9_fixed_18 ?_
    refine S_iload_1 19 dX9_fixed_19 ?_
    refine S_callV (a' := 0) (b' := 0) (a := 0) (b := 0) 20 (As := [.int p1]) (ci := 9) rfl calX9_lowers imX9_lowers seX9_lowers mkX9_332 rfl rfl rfl rfl rfl (by decide) rfl rfl dX9_fixed_20 (CX9_lowers E t p1 h3) (fun v4 h5 => kqI ?_)
    refine S_icmpge 23 55 dX9_fixed_23 (by decide) ?_ ?_
    · skip
      refine S_iload_3 55 dX9_fixed_55 ?_
      exact S_iret 56 dX9_fixed_56 rfl
    · skip
      refine S_iload_3 26 dX9_fixed_26 ?_
      refine S_aload_0 27 dX9_fixed_27 ?_
      refine S_iload_1 28 dX9_fixed_28 ?_
      refine S_iload_4 29 dX9_fixed_29 ?_
      refine S_iload_2 31 dX9_fixed_31 ?_
      refine S_callV (a' := 0) (b' := 0) (a := 0) (b := 0) 32 (As := [.int p1, .int s16.2, .int p2]) (ci := 9) rfl calX9_on imX9_on seX9_on mkX9_320 rfl rfl rfl rfl rfl (by decide) rfl rfl dX9_fixed_32 (CX9_on E t p1 s16.2 p2 h5) (fun v6 h7 => kqI ?_)
      refine S_iload_2 35 dX9_fixed_35 ?_
      refine S_join (fun jj => ∀ (v8 : Int32) (h9 : XH), XS E mX9_fixed eI 0 0 47 [some (.ref t), some (.int p1), some (.int p2), none, some (.int s16.2)] [.int v8, .int s16.1] h9 (jj v8 h9)) (fun v8 h9 => ?_) (fun j47 hj47 => ?_)
      · skip
        refine S_ior 47 dX9_fixed_47 ?_
        refine S_gen (fun v10 => ?_)
        refine S_istore_3 48 dX9_fixed_48 rfl ?_
        refine S_iinc_4 49 (s16.2 + 1) dX9_fixed_49 (by rfl) rfl ?_
        refine S_goto 52 16 dX9_fixed_52 (by decide) ?_
        exact S_drop [] rfl (hg16 _ _)
      refine S_icmpne 36 46 dX9_fixed_36 (by decide) ?_ ?_
      · skip
        refine S_ic 46 0 dX9_fixed_46 (by decide) ?_
        exact S_drop [3] rfl (hj47 _ _)
      · skip
        refine S_ic 39 1 dX9_fixed_39 (by decide) ?_
        refine S_iload_4 40 dX9_fixed_40 ?_
        refine S_ishl 42 dX9_fixed_42 ?_
        refine S_goto 43 47 dX9_fixed_43 (by decide) ?_
        exact S_drop [3] rfl (hj47 _ _)
  · skip
    refine S_ic 9 0 dX9_fixed_9 (by decide) ?_
    exact S_iret 10 dX9_fixed_10 rfl
def FX9_orbit (E : XG) (t : Nat) (p1 : Int32) (p2 : Int32) (h : XH) : XP Int32 := xg (xk h t = 10) <| xb (FX9_noUpper E t p1 p2 h) fun v1 h2 => if (v1 : Int32) = 0 then (xlp (fun again16 (s16 : Int32 × Int32) h3 => xg (xk h3 t = 10) <| xb (FX9_lowers E t p1 h3) fun v4 h5 => if (v4 : Int32) ≤ s16.2 then (xv s16.1 h5) else (xg (xk h5 t = 10) <| xb (FX9_on E t p1 s16.2 p2 h5) fun v6 h7 => xlt (s16.1 ||| (1 <<< (v6 &&& 31))) fun v8 => again16 (v8, (s16.2 + 1)) h7)) xfu (0, 0) h2) else (xv 0 h2)
theorem CX9_orbit (E : XG) (t : Nat) (p1 : Int32) (p2 : Int32) (h : XH) : XN E mX9_orbit eI 0 0 [.ref t, .int p1, .int p2] h (FX9_orbit E t p1 p2 h) := by
  unfold FX9_orbit
  refine S_enter (L := [some (.ref t), some (.int p1), some (.int p2), none, none]) (by decide +kernel) rfl rfl rfl ?_
  refine S_aload_0 0 dX9_orbit_0 ?_
  refine S_iload_1 1 dX9_orbit_1 ?_
  refine S_iload_2 2 dX9_orbit_2 ?_
  refine S_callV (a' := 0) (b' := 0) (a := 0) (b := 0) 3 (As := [.int p1, .int p2]) (ci := 9) rfl calX9_noUpper imX9_noUpper seX9_noUpper mkX9_311 rfl rfl rfl rfl rfl (by decide) rfl rfl dX9_orbit_3 (CX9_noUpper E t p1 p2 h) (fun v1 h2 => kqI ?_)
  refine S_ifeq 6 11 dX9_orbit_6 (by decide) ?_ ?_
  · skip
    refine S_ic 11 0 dX9_orbit_11 (by decide) ?_
    refine S_istore_3 12 dX9_orbit_12 rfl ?_
    refine S_ic 13 0 dX9_orbit_13 (by decide) ?_
    refine S_istore_4 14 dX9_orbit_14 rfl ?_
    refine S_loop (fun (s16 : Int32 × Int32) => [some (.ref t), some (.int p1), some (.int p2), some (.int s16.1), some (.int s16.2)]) (fun again16 hg16 s16 h3 => ?_) xfu _ _
    refine S_iload_4 16 dX9_orbit_16 ?_
    refine S_aload_0 18 dX9_orbit_18 ?_
    refine S_iload_1 19 dX9_orbit_19 ?_
    refine S_callV (a' := 0) (b' := 0) (a := 0) (b := 0) 20 (As := [.int p1]) (ci := 9) rfl calX9_lowers imX9_lowers seX9_lowers mkX9_332 rfl rfl rfl rfl rfl (by decide) rfl rfl dX9_orbit_20 (CX9_lowers E t p1 h3) (fun v4 h5 => kqI ?_)
    refine S_icmpge 23 45 dX9_orbit_23 (by decide) ?_ ?_
    · skip
      refine S_iload_3 45 dX9_orbit_45 ?_
      exact S_iret 46 dX9_orbit_46 rfl
    · skip
      refine S_iload_3 26 dX9_orbit_26 ?_
      refine S_ic 27 1 dX9_orbit_27 (by decide) ?_
      refine S_aload_0 28 dX9_orbit_28 ?_
      refine S_iload_1 29 dX9_orbit_29 ?_
      refine S_iload_4 30 dX9_orbit_30 ?_
      refine S_iload_2 32 dX9_orbit_32 ?_
      refine S_callV (a' := 0) (b' := 0) (a := 0) (b := 0) 33 (As := [.int p1, .int s16.2, .int p2]) (ci := 9) rfl calX9_on imX9_on seX9_on mkX9_320 rfl rfl rfl rfl rfl (by decide) rfl rfl dX9_orbit_33 (CX9_on E t p1 s16.2 p2 h5) (fun v6 h7 => kqI ?_)
      refine S_ishl 36 dX9_orbit_36 ?_
      refine S_ior 37 dX9_orbit_37 ?_
      refine S_gen (fun v8 => ?_)
      refine S_istore_3 38 dX9_orbit_38 rfl ?_
      refine S_iinc_4 39 (s16.2 + 1) dX9_orbit_39 (by rfl) rfl ?_
      refine S_goto 42 16 dX9_orbit_42 (by decide) ?_
      exact S_drop [] rfl (hg16 _ _)
  · skip
    refine S_ic 9 0 dX9_orbit_9 (by decide) ?_
    exact S_iret 10 dX9_orbit_10 rfl
def FX9_laysClasses (E : XG) (t : Nat) (p1 : Int32) (h : XH) : XP Int32 := xg (xk h t = 10) <| xb (FX9_imageOf E t p1 h) fun v1 h2 => xlp (fun again14 (s14 : Int32 × Int32 × Int32) h3 => xg (xk h3 t = 10) <| xb (FX9_lowers E t p1 h3) fun v4 h5 => if (v4 : Int32) ≤ s14.2.2 then (xv s14.1 h5) else (xb (FX9_has E s14.2.1 s14.2.2 h5) fun v6 h7 => xjn (fun (v8 : Int32) (v9 : Int32) (h10 : XH) => again14 (v8, v9, (s14.2.2 + 1)) h10) fun (j107 : Int32 → Int32 → XH → XP Int32) => if (v6 : Int32) = 0 then (xg (xk h7 t = 10) <| xnn (xr h7 t 39) fun w11 => xg (xk h7 w11 = 12 ∧ xin s14.1 (xn h7 w11)) <| xlt (yi h7 w11 (s14.1 : Int32).toNatClampNeg s14.2.2) fun h12 => xlp (fun again48 (s48 : Int32 × Int32) h13 => xg (xk h13 t = 10) <| xb (FX9_lowers E t p1 h13) fun v14 h15 => if (v14 : Int32) ≤ s48.2 then (j107 (s14.1 + 1) s48.1 h15) else (xb (FX9_has E v1 s48.2 h15) fun v16 h17 => xjn (fun (v18 : Int32) (h19 : XH) => again48 (v18, (s48.2 + 1)) h19) fun (j98 : Int32 → XH → XP Int32) => if (v16 : Int32) = 0 then (j98 s48.1 h17) else (xg (xk h17 t = 10) <| xnn (xr h17 t 40) fun w20 => xg (xk h17 t = 10) <| xb (FX9_down E t p1 s14.2.2 s48.2 h17) fun v21 h22 => xg (xk h22 w20 = 12 ∧ xin v21 (xn h22 w20)) <| xlt (yi h22 w20 (v21 : Int32).toNatClampNeg s14.1) fun h23 => xg (xk h23 t = 10) <| xb (FX9_down E t p1 s14.2.2 s48.2 h23) fun v24 h25 => xlt (s48.1 ||| (1 <<< (v24 &&& 31))) fun v26 => j98 v26 h25))) xfu (s14.2.1, 0) h12) else (j107 s14.1 s14.2.1 h7))) xfu (0, 0, 0) h2
theorem CX9_laysClasses (E : XG) (t : Nat) (p1 : Int32) (h : XH) : XN E mX9_laysClasses eI 0 0 [.ref t, .int p1] h (FX9_laysClasses E t p1 h) := by
  unfold FX9_laysClasses
  refine S_enter (L := [some (.ref t), some (.int p1), none, none, none, none, none]) (by decide +kernel) rfl rfl rfl ?_
  refine S_ic 0 0 dX9_laysClasses_0 (by decide) ?_
  refine S_istore_2 1 dX9_laysClasses_1 rfl ?_
  refine S_aload_0 2 dX9_laysClasses_2 ?_
  refine S_iload_1 3 dX9_laysClasses_3 ?_
  refine S_callV (a' := 0) (b' := 0) (a := 0) (b := 0) 4 (As := [.int p1]) (ci := 9) rfl calX9_imageOf imX9_imageOf seX9_imageOf mkX9_359 rfl rfl rfl rfl rfl (by decide) rfl rfl dX9_laysClasses_4 (CX9_imageOf E t p1 h) (fun v1 h2 => kqI ?_)
  refine S_istore_3 7 dX9_laysClasses_7 rfl ?_
  refine S_ic 8 0 dX9_laysClasses_8 (by decide) ?_
  refine S_istore_4 9 dX9_laysClasses_9 rfl ?_
  refine S_ic 11 0 dX9_laysClasses_11 (by decide) ?_
  refine S_istore_5 12 dX9_laysClasses_12 rfl ?_
  refine S_loop (fun (s14 : Int32 × Int32 × Int32) => [some (.ref t), some (.int p1), some (.int s14.1), some (.int v1), some (.int s14.2.1), some (.int s14.2.2), none]) (fun again14 hg14 s14 h3 => ?_) xfu _ _
  refine S_iload_5 14 dX9_laysClasses_14 ?_
  refine S_aload_0 16 dX9_laysClasses_16 ?_
  refine S_iload_1 17 dX9_laysClasses_17 ?_
  refine S_callV (a' := 0) (b' := 0) (a := 0) (b := 0) 18 (As := [.int p1]) (ci := 9) rfl calX9_lowers imX9_lowers seX9_lowers mkX9_332 rfl rfl rfl rfl rfl (by decide) rfl rfl dX9_laysClasses_18 (CX9_lowers E t p1 h3) (fun v4 h5 => kqI ?_)
  refine S_icmpge 21 113 dX9_laysClasses_21 (by decide) ?_ ?_
  · skip
    refine S_iload_2 113 dX9_laysClasses_113 ?_
    exact S_iret 114 dX9_laysClasses_114 rfl
  · skip
    refine S_iload_4 24 dX9_laysClasses_24 ?_
    refine S_iload_5 26 dX9_laysClasses_26 ?_
    refine S_callS (a' := 0) (b' := 0) (a := 0) (b := 0) 28 (As := [.int s14.2.1, .int s14.2.2]) rfl calX9_has stX9_has mkX9_221 rfl rfl rfl rfl rfl dX9_laysClasses_28 (CX9_has E s14.2.1 s14.2.2 h5) (fun v6 h7 => kqI ?_)
    refine S_join (fun jj => ∀ (v8 : Int32) (v9 : Int32) (h10 : XH), XS E mX9_laysClasses eI 0 0 107 [some (.ref t), some (.int p1), some (.int v8), some (.int v1), some (.int v9), some (.int s14.2.2), none] [] h10 (jj v8 v9 h10)) (fun v8 v9 h10 => ?_) (fun j107 hj107 => ?_)
    · skip
      refine S_iinc_5 107 (s14.2.2 + 1) dX9_laysClasses_107 (by rfl) rfl ?_
      refine S_goto 110 14 dX9_laysClasses_110 (by decide) ?_
      exact S_drop [] rfl (hg14 _ _)
    refine S_ifeq 31 37 dX9_laysClasses_31 (by decide) ?_ ?_
    · skip
      refine S_aload_0 37 dX9_laysClasses_37 ?_
      refine S_getR 38 fsX9_75 rfl dX9_laysClasses_38 (fun w11 => ?_)
      refine S_iload_2 41 dX9_laysClasses_41 ?_
      refine S_iload_5 42 dX9_laysClasses_42 ?_
      refine S_iast 44 dX9_laysClasses_44 (fun h12 => ?_)
      refine S_ic 45 0 dX9_laysClasses_45 (by decide) ?_
      refine S_istore_6 46 dX9_laysClasses_46 rfl ?_
      refine S_loop (fun (s48 : Int32 × Int32) => [some (.ref t), some (.int p1), some (.int s14.1), some (.int v1), some (.int s48.1), some (.int s14.2.2), some (.int s48.2)]) (fun again48 hg48 s48 h13 => ?_) xfu _ _
      refine S_iload_6 48 dX9_laysClasses_48 ?_
      refine S_aload_0 50 dX9_laysClasses_50 ?_
      refine S_iload_1 51 dX9_laysClasses_51 ?_
      refine S_callV (a' := 0) (b' := 0) (a := 0) (b := 0) 52 (As := [.int p1]) (ci := 9) rfl calX9_lowers imX9_lowers seX9_lowers mkX9_332 rfl rfl rfl rfl rfl (by decide) rfl rfl dX9_laysClasses_52 (CX9_lowers E t p1 h13) (fun v14 h15 => kqI ?_)
      refine S_icmpge 55 104 dX9_laysClasses_55 (by decide) ?_ ?_
      · skip
        refine S_iinc_2 104 (s14.1 + 1) dX9_laysClasses_104 (by rfl) rfl ?_
        exact S_drop [6] rfl (hj107 _ _ _)
      · skip
        refine S_iload_3 58 dX9_laysClasses_58 ?_
        refine S_iload_6 59 dX9_laysClasses_59 ?_
        refine S_callS (a' := 0) (b' := 0) (a := 0) (b := 0) 61 (As := [.int v1, .int s48.2]) rfl calX9_has stX9_has mkX9_221 rfl rfl rfl rfl rfl dX9_laysClasses_61 (CX9_has E v1 s48.2 h15) (fun v16 h17 => kqI ?_)
        refine S_join (fun jj => ∀ (v18 : Int32) (h19 : XH), XS E mX9_laysClasses eI 0 0 98 [some (.ref t), some (.int p1), some (.int s14.1), some (.int v1), some (.int v18), some (.int s14.2.2), some (.int s48.2)] [] h19 (jj v18 h19)) (fun v18 h19 => ?_) (fun j98 hj98 => ?_)
        · skip
          refine S_iinc_6 98 (s48.2 + 1) dX9_laysClasses_98 (by rfl) rfl ?_
          refine S_goto 101 48 dX9_laysClasses_101 (by decide) ?_
          exact S_drop [] rfl (hg48 _ _)
        refine S_ifeq 64 98 dX9_laysClasses_64 (by decide) ?_ ?_
        · skip
          exact S_drop [] rfl (hj98 _ _)
        · skip
          refine S_aload_0 67 dX9_laysClasses_67 ?_
          refine S_getR 68 fsX9_78 rfl dX9_laysClasses_68 (fun w20 => ?_)
          refine S_aload_0 71 dX9_laysClasses_71 ?_
          refine S_iload_1 72 dX9_laysClasses_72 ?_
          refine S_iload_5 73 dX9_laysClasses_73 ?_
          refine S_iload_6 75 dX9_laysClasses_75 ?_
          refine S_callV (a' := 0) (b' := 0) (a := 0) (b := 0) 77 (As := [.int p1, .int s14.2.2, .int s48.2]) (ci := 9) rfl calX9_down imX9_down seX9_down mkX9_329 rfl rfl rfl rfl rfl (by decide) rfl rfl dX9_laysClasses_77 (CX9_down E t p1 s14.2.2 s48.2 h17) (fun v21 h22 => kqI ?_)
          refine S_iload_2 80 dX9_laysClasses_80 ?_
          refine S_iast 81 dX9_laysClasses_81 (fun h23 => ?_)
          refine S_iload_4 82 dX9_laysClasses_82 ?_
          refine S_ic 84 1 dX9_laysClasses_84 (by decide) ?_
          refine S_aload_0 85 dX9_laysClasses_85 ?_
          refine S_iload_1 86 dX9_laysClasses_86 ?_
          refine S_iload_5 87 dX9_laysClasses_87 ?_
          refine S_iload_6 89 dX9_laysClasses_89 ?_
          refine S_callV (a' := 0) (b' := 0) (a := 0) (b := 0) 91 (As := [.int p1, .int s14.2.2, .int s48.2]) (ci := 9) rfl calX9_down imX9_down seX9_down mkX9_329 rfl rfl rfl rfl rfl (by decide) rfl rfl dX9_laysClasses_91 (CX9_down E t p1 s14.2.2 s48.2 h23) (fun v24 h25 => kqI ?_)
          refine S_ishl 94 dX9_laysClasses_94 ?_
          refine S_ior 95 dX9_laysClasses_95 ?_
          refine S_gen (fun v26 => ?_)
          refine S_istore_4 96 dX9_laysClasses_96 rfl ?_
          exact S_drop [] rfl (hj98 _ _)
    · skip
      refine S_goto 34 107 dX9_laysClasses_34 (by decide) ?_
      exact S_drop [] rfl (hj107 _ _ _)
def FX9_notLawful (E : XG) (t : Nat) (p1 : Int32) (h : XH) : XP Int32 := xg (xk h t = 10) <| xb (FX9_noModule E t p1 h) fun v1 h2 => xjn (fun (v3 : Int32) (h4 : XH) => xg ((v3 : Int32) = 0 ∨ (v3 : Int32) = 1) <| xv v3 h4) fun (j34 : Int32 → XH → XP Int32) => xjn (fun  (h5 : XH) => j34 1 h5) fun (j29 : XH → XP Int32) => if (v1 : Int32) = 0 then (xg (xk h2 t = 10) <| xb (FX9_whyOf E t p1 h2) fun v6 h7 => xjn (fun (v8 : Int32) (h9 : XH) => xg (xk h9 t = 10) <| xb (FX9_refuse E t v8 3 h9) fun v10 h11 => if (v10 : Int32) = 0 then (j34 0 h11) else (j29 h11)) fun (j22 : Int32 → XH → XP Int32) => if (v6 : Int32) = 0 then (j22 0 h7) else (j22 1 h7)) else (j29 h2)
theorem CX9_notLawful (E : XG) (t : Nat) (p1 : Int32) (h : XH) : XN E mX9_notLawful eI 0 0 [.ref t, .int p1] h (FX9_notLawful E t p1 h) := by
  unfold FX9_notLawful
  refine S_enter (L := [some (.ref t), some (.int p1)]) (by decide +kernel) rfl rfl rfl ?_
  refine S_aload_0 0 dX9_notLawful_0 ?_
  refine S_iload_1 1 dX9_notLawful_1 ?_
  refine S_callV (a' := 0) (b' := 0) (a := 0) (b := 0) 2 (As := [.int p1]) (ci := 9) rfl calX9_noModule imX9_noModule seX9_noModule mkX9_308 rfl rfl rfl rfl rfl (by decide) rfl rfl dX9_notLawful_2 (CX9_noModule E t p1 h) (fun v1 h2 => kqI ?_)
  refine S_join (fun jj => ∀ (v3 : Int32) (h4 : XH), XS E mX9_notLawful eI 0 0 34 [none, none] [.int v3] h4 (jj v3 h4)) (fun v3 h4 => ?_) (fun j34 hj34 => ?_)
  · skip
    exact S_zret 34 dX9_notLawful_34 rfl
  refine S_join (fun jj => ∀  (h5 : XH), XS E mX9_notLawful eI 0 0 29 [none, none] [] h5 (jj  h5)) (fun  h5 => ?_) (fun j29 hj29 => ?_)
  · skip
    refine S_ic 29 1 dX9_notLawful_29 (by decide) ?_
    refine S_goto 30 34 dX9_notLawful_30 (by decide) ?_
    exact S_drop [] rfl (hj34 _ _)
  refine S_ifne 5 29 dX9_notLawful_5 (by decide) ?_ ?_
  · skip
    exact S_drop [0, 1] rfl (hj29 _)
  · skip
    refine S_aload_0 8 dX9_notLawful_8 ?_
    refine S_aload_0 9 dX9_notLawful_9 ?_
    refine S_iload_1 10 dX9_notLawful_10 ?_
    refine S_callV (a' := 0) (b' := 0) (a := 0) (b := 0) 11 (As := [.int p1]) (ci := 9) rfl calX9_whyOf imX9_whyOf seX9_whyOf mkX9_350 rfl rfl rfl rfl rfl (by decide) rfl rfl dX9_notLawful_11 (CX9_whyOf E t p1 h2) (fun v6 h7 => kqI ?_)
    refine S_join (fun jj => ∀ (v8 : Int32) (h9 : XH), XS E mX9_notLawful eI 0 0 22 [none, none] [.int v8, .ref t] h9 (jj v8 h9)) (fun v8 h9 => ?_) (fun j22 hj22 => ?_)
    · skip
      refine S_ic 22 3 dX9_notLawful_22 (by decide) ?_
      refine S_callV (a' := 0) (b' := 0) (a := 0) (b := 0) 23 (As := [.int v8, .int 3]) (ci := 9) rfl calX9_refuse imX9_refuse seX9_refuse mkX9_94 rfl rfl rfl rfl rfl (by decide) rfl rfl dX9_notLawful_23 (CX9_refuse E t v8 3 h9) (fun v10 h11 => kqI ?_)
      refine S_ifeq 26 33 dX9_notLawful_26 (by decide) ?_ ?_
      · skip
        refine S_ic 33 0 dX9_notLawful_33 (by decide) ?_
        exact S_drop [] rfl (hj34 _ _)
      · skip
        exact S_drop [] rfl (hj29 _)
    refine S_ifeq 14 21 dX9_notLawful_14 (by decide) ?_ ?_
    · skip
      refine S_ic 21 0 dX9_notLawful_21 (by decide) ?_
      exact S_drop [0, 1] rfl (hj22 _ _)
    · skip
      refine S_ic 17 1 dX9_notLawful_17 (by decide) ?_
      refine S_goto 18 22 dX9_notLawful_18 (by decide) ?_
      exact S_drop [0, 1] rfl (hj22 _ _)
def FX9_classes (E : XG) (t : Nat) (p1 : Int32) (h : XH) : XP Int32 := xg (xk h t = 10) <| xb (FX9_notLawful E t p1 h) fun v1 h2 => xjn (fun (v3 : Int32) (h4 : XH) => xv v3 h4) fun (j17 : Int32 → XH → XP Int32) => if (v1 : Int32) = 0 then (xg (xk h2 t = 10) <| xb (FX9_laysClasses E t p1 h2) fun v5 h6 => j17 v5 h6) else (j17 0 h2)
theorem CX9_classes (E : XG) (t : Nat) (p1 : Int32) (h : XH) : XN E mX9_classes eI 0 0 [.ref t, .int p1] h (FX9_classes E t p1 h) := by
  unfold FX9_classes
  refine S_enter (L := [some (.ref t), some (.int p1)]) (by decide +kernel) rfl rfl rfl ?_
  refine S_aload_0 0 dX9_classes_0 ?_
  refine S_iload_1 1 dX9_classes_1 ?_
  refine S_callV (a' := 0) (b' := 0) (a := 0) (b := 0) 2 (As := [.int p1]) (ci := 9) rfl calX9_notLawful imX9_notLawful seX9_notLawful mkX9_362 rfl rfl rfl rfl rfl (by decide) rfl rfl dX9_classes_2 (CX9_notLawful E t p1 h) (fun v1 h2 => kqI ?_)
  refine S_join (fun jj => ∀ (v3 : Int32) (h4 : XH), XS E mX9_classes eI 0 0 17 [none, none] [.int v3] h4 (jj v3 h4)) (fun v3 h4 => ?_) (fun j17 hj17 => ?_)
  · skip
    exact S_iret 17 dX9_classes_17 rfl
  refine S_ifeq 5 12 dX9_classes_5 (by decide) ?_ ?_
  · skip
    refine S_aload_0 12 dX9_classes_12 ?_
    refine S_iload_1 13 dX9_classes_13 ?_
    refine S_callV (a' := 0) (b' := 0) (a := 0) (b := 0) 14 (As := [.int p1]) (ci := 9) rfl calX9_laysClasses imX9_laysClasses seX9_laysClasses mkX9_365 rfl rfl rfl rfl rfl (by decide) rfl rfl dX9_classes_14 (CX9_laysClasses E t p1 h2) (fun v5 h6 => kqI ?_)
    exact S_drop [0, 1] rfl (hj17 _ _)
  · skip
    refine S_ic 8 0 dX9_classes_8 (by decide) ?_
    refine S_goto 9 17 dX9_classes_9 (by decide) ?_
    exact S_drop [0, 1] rfl (hj17 _ _)
def FX9_classOf (E : XG) (t : Nat) (p1 : Int32) (p2 : Int32) (h : XH) : XP Int32 := xg (xk h t = 10) <| xb (FX9_noLower E t p1 p2 h) fun v1 h2 => xjn (fun  (h3 : XH) => xv 0 h3) fun (j30 : XH → XP Int32) => if (v1 : Int32) = 0 then (xg (xk h2 t = 10) <| xb (FX9_whyOf E t p1 h2) fun v4 h5 => xjn (fun (v6 : Int32) (h7 : XH) => xg (xk h7 t = 10) <| xb (FX9_refuse E t v6 3 h7) fun v8 h9 => if (v8 : Int32) = 0 then (xg (xk h9 t = 10) <| xb (FX9_laysClasses E t p1 h9) fun v10 h11 => xg (xk h11 t = 10) <| xnn (xr h11 t 40) fun w12 => xg (xk h11 w12 = 12 ∧ xin p2 (xn h11 w12)) <| xv (xi h11 w12 (p2 : Int32).toNatClampNeg) h11) else (j30 h9)) fun (j23 : Int32 → XH → XP Int32) => if (v4 : Int32) = 0 then (j23 0 h5) else (j23 1 h5)) else (j30 h2)
theorem CX9_classOf (E : XG) (t : Nat) (p1 : Int32) (p2 : Int32) (h : XH) : XN E mX9_classOf eI 0 0 [.ref t, .int p1, .int p2] h (FX9_classOf E t p1 p2 h) := by
  unfold FX9_classOf
  refine S_enter (L := [some (.ref t), some (.int p1), some (.int p2), none]) (by decide +kernel) rfl rfl rfl ?_
  refine S_aload_0 0 dX9_classOf_0 ?_
  refine S_iload_1 1 dX9_classOf_1 ?_
  refine S_iload_2 2 dX9_classOf_2 ?_
  refine S_callV (a' := 0) (b' := 0) (a := 0) (b := 0) 3 (As := [.int p1, .int p2]) (ci := 9) rfl calX9_noLower imX9_noLower seX9_noLower mkX9_317 rfl rfl rfl rfl rfl (by decide) rfl rfl dX9_classOf_3 (CX9_noLower E t p1 p2 h) (fun v1 h2 => kqI ?_)
  refine S_join (fun jj => ∀  (h3 : XH), XS E mX9_classOf eI 0 0 30 [none, none, none, none] [] h3 (jj  h3)) (fun  h3 => ?_) (fun j30 hj30 => ?_)
  · skip
    refine S_ic 30 0 dX9_classOf_30 (by decide) ?_
    exact S_iret 31 dX9_classOf_31 rfl
  refine S_ifne 6 30 dX9_classOf_6 (by decide) ?_ ?_
  · skip
    exact S_drop [0, 1, 2] rfl (hj30 _)
  · skip
    refine S_aload_0 9 dX9_classOf_9 ?_
    refine S_aload_0 10 dX9_classOf_10 ?_
    refine S_iload_1 11 dX9_classOf_11 ?_
    refine S_callV (a' := 0) (b' := 0) (a := 0) (b := 0) 12 (As := [.int p1]) (ci := 9) rfl calX9_whyOf imX9_whyOf seX9_whyOf mkX9_350 rfl rfl rfl rfl rfl (by decide) rfl rfl dX9_classOf_12 (CX9_whyOf E t p1 h2) (fun v4 h5 => kqI ?_)
    refine S_join (fun jj => ∀ (v6 : Int32) (h7 : XH), XS E mX9_classOf eI 0 0 23 [some (.ref t), some (.int p1), some (.int p2), none] [.int v6, .ref t] h7 (jj v6 h7)) (fun v6 h7 => ?_) (fun j23 hj23 => ?_)
    · skip
      refine S_ic 23 3 dX9_classOf_23 (by decide) ?_
      refine S_callV (a' := 0) (b' := 0) (a := 0) (b := 0) 24 (As := [.int v6, .int 3]) (ci := 9) rfl calX9_refuse imX9_refuse seX9_refuse mkX9_94 rfl rfl rfl rfl rfl (by decide) rfl rfl dX9_classOf_24 (CX9_refuse E t v6 3 h7) (fun v8 h9 => kqI ?_)
      refine S_ifeq 27 32 dX9_classOf_27 (by decide) ?_ ?_
      · skip
        refine S_aload_0 32 dX9_classOf_32 ?_
        refine S_iload_1 33 dX9_classOf_33 ?_
        refine S_callV (a' := 0) (b' := 0) (a := 0) (b := 0) 34 (As := [.int p1]) (ci := 9) rfl calX9_laysClasses imX9_laysClasses seX9_laysClasses mkX9_365 rfl rfl rfl rfl rfl (by decide) rfl rfl dX9_classOf_34 (CX9_laysClasses E t p1 h9) (fun v10 h11 => kqI ?_)
        refine S_istore_3 37 dX9_classOf_37 rfl ?_
        refine S_aload_0 38 dX9_classOf_38 ?_
        refine S_getR 39 fsX9_78 rfl dX9_classOf_39 (fun w12 => ?_)
        refine S_iload_2 42 dX9_classOf_42 ?_
        refine S_iald 43 dX9_classOf_43 ?_
        exact S_iret 44 dX9_classOf_44 rfl
      · skip
        exact S_drop [0, 1, 2] rfl (hj30 _)
    refine S_ifeq 15 22 dX9_classOf_15 (by decide) ?_ ?_
    · skip
      refine S_ic 22 0 dX9_classOf_22 (by decide) ?_
      exact S_drop [] rfl (hj23 _ _)
    · skip
      refine S_ic 18 1 dX9_classOf_18 (by decide) ?_
      refine S_goto 19 23 dX9_classOf_19 (by decide) ?_
      exact S_drop [] rfl (hj23 _ _)
def FX9_classProduct (E : XG) (t : Nat) (p1 : Int32) (p2 : Int32) (p3 : Int32) (h : XH) : XP Int32 := xg (xk h t = 10) <| xnn (xr h t 40) fun w1 => xg (xk h t = 10) <| xnn (xr h t 39) fun w2 => xg (xk h w2 = 12 ∧ xin p2 (xn h w2)) <| xg (xk h t = 10) <| xnn (xr h t 39) fun w3 => xg (xk h w3 = 12 ∧ xin p3 (xn h w3)) <| xg (xk h t = 10) <| xb (FX9_down E t p1 (xi h w2 (p2 : Int32).toNatClampNeg) (xi h w3 (p3 : Int32).toNatClampNeg) h) fun v4 h5 => xg (xk h5 w1 = 12 ∧ xin v4 (xn h5 w1)) <| xv (xi h5 w1 (v4 : Int32).toNatClampNeg) h5
theorem CX9_classProduct (E : XG) (t : Nat) (p1 : Int32) (p2 : Int32) (p3 : Int32) (h : XH) : XN E mX9_classProduct eI 0 0 [.ref t, .int p1, .int p2, .int p3] h (FX9_classProduct E t p1 p2 p3 h) := by
  unfold FX9_classProduct
  refine S_enter (L := [some (.ref t), some (.int p1), some (.int p2), some (.int p3)]) (by decide +kernel) rfl rfl rfl ?_
  refine S_aload_0 0 dX9_classProduct_0 ?_
  refine S_getR 1 fsX9_78 rfl dX9_classProduct_1 (fun w1 => ?_)
  refine S_aload_0 4 dX9_classProduct_4 ?_
  refine S_iload_1 5 dX9_classProduct_5 ?_
  refine S_aload_0 6 dX9_classProduct_6 ?_
  refine S_getR 7 fsX9_75 rfl dX9_classProduct_7 (fun w2 => ?_)
  refine S_iload_2 10 dX9_classProduct_10 ?_
  refine S_iald 11 dX9_classProduct_11 ?_
  refine S_aload_0 12 dX9_classProduct_12 ?_
  refine S_getR 13 fsX9_75 rfl dX9_classProduct_13 (fun w3 => ?_)
  refine S_iload_3 16 dX9_classProduct_16 ?_
  refine S_iald 17 dX9_classProduct_17 ?_
  refine S_callV (a' := 0) (b' := 0) (a := 0) (b := 0) 18 (As := [.int p1, .int (xi h w2 (p2 : Int32).toNatClampNeg), .int (xi h w3 (p3 : Int32).toNatClampNeg)]) (ci := 9) rfl calX9_down imX9_down seX9_down mkX9_329 rfl rfl rfl rfl rfl (by decide) rfl rfl dX9_classProduct_18 (CX9_down E t p1 (xi h w2 (p2 : Int32).toNatClampNeg) (xi h w3 (p3 : Int32).toNatClampNeg) h) (fun v4 h5 => kqI ?_)
  refine S_iald 21 dX9_classProduct_21 ?_
  exact S_iret 22 dX9_classProduct_22 rfl
def FX9_classTimes (E : XG) (t : Nat) (p1 : Int32) (p2 : Int32) (p3 : Int32) (h : XH) : XP Int32 := xg (xk h t = 10) <| xb (FX9_notLawful E t p1 h) fun v1 h2 => if (v1 : Int32) = 0 then (xg (xk h2 t = 10) <| xb (FX9_laysClasses E t p1 h2) fun v3 h4 => xb (FX9_in E p2 0 (v3 - 1) h4) fun v5 h6 => xjn (fun (v7 : Int32) (h8 : XH) => xg (xk h8 t = 10) <| xb (FX9_refuse E t v7 3 h8) fun v9 h10 => xjn (fun (v11 : Int32) (h12 : XH) => xv v11 h12) fun (j65 : Int32 → XH → XP Int32) => if (v9 : Int32) = 0 then (xg (xk h10 t = 10) <| xb (FX9_classProduct E t p1 p2 p3 h10) fun v13 h14 => j65 v13 h14) else (j65 0 h10)) fun (j47 : Int32 → XH → XP Int32) => xjn (fun  (h15 : XH) => j47 1 h15) fun (j42 : XH → XP Int32) => if (v5 : Int32) = 0 then (j42 h6) else (xb (FX9_in E p3 0 (v3 - 1) h6) fun v16 h17 => if (v16 : Int32) = 0 then (j42 h17) else (j47 0 h17))) else (xv 0 h2)
theorem CX9_classTimes (E : XG) (t : Nat) (p1 : Int32) (p2 : Int32) (p3 : Int32) (h : XH) : XN E mX9_classTimes eI 0 0 [.ref t, .int p1, .int p2, .int p3] h (FX9_classTimes E t p1 p2 p3 h) := by
  unfold FX9_classTimes
  refine S_enter (L := [some (.ref t), some (.int p1), some (.int p2), some (.int p3), none]) (by decide +kernel) rfl rfl rfl ?_
  refine S_aload_0 0 dX9_classTimes_0 ?_
  refine S_iload_1 1 dX9_classTimes_1 ?_
  refine S_callV (a' := 0) (b' := 0) (a := 0) (b := 0) 2 (As := [.int p1]) (ci := 9) rfl calX9_notLawful imX9_notLawful seX9_notLawful mkX9_362 rfl rfl rfl rfl rfl (by decide) rfl rfl dX9_classTimes_2 (CX9_notLawful E t p1 h) (fun v1 h2 => kqI ?_)
  refine S_ifeq 5 10 dX9_classTimes_5 (by decide) ?_ ?_
  · skip
    refine S_aload_0 10 dX9_classTimes_10 ?_
    refine S_iload_1 11 dX9_classTimes_11 ?_
    refine S_callV (a' := 0) (b' := 0) (a := 0) (b := 0) 12 (As := [.int p1]) (ci := 9) rfl calX9_laysClasses imX9_laysClasses seX9_laysClasses mkX9_365 rfl rfl rfl rfl rfl (by decide) rfl rfl dX9_classTimes_12 (CX9_laysClasses E t p1 h2) (fun v3 h4 => kqI ?_)
    refine S_istore_4 15 dX9_classTimes_15 rfl ?_
    refine S_aload_0 17 dX9_classTimes_17 ?_
    refine S_iload_2 18 dX9_classTimes_18 ?_
    refine S_ic 19 0 dX9_classTimes_19 (by decide) ?_
    refine S_iload_4 20 dX9_classTimes_20 ?_
    refine S_ic 22 1 dX9_classTimes_22 (by decide) ?_
    refine S_isub 23 dX9_classTimes_23 ?_
    refine S_callS (a' := 0) (b' := 0) (a := 0) (b := 0) 24 (As := [.int p2, .int 0, .int (v3 - 1)]) rfl calX9_in stX9_in mkX9_152 rfl rfl rfl rfl rfl dX9_classTimes_24 (CX9_in E p2 0 (v3 - 1) h4) (fun v5 h6 => kqI ?_)
    refine S_join (fun jj => ∀ (v7 : Int32) (h8 : XH), XS E mX9_classTimes eI 0 0 47 [some (.ref t), some (.int p1), some (.int p2), some (.int p3), none] [.int v7, .ref t] h8 (jj v7 h8)) (fun v7 h8 => ?_) (fun j47 hj47 => ?_)
    · skip
      refine S_ic 47 3 dX9_classTimes_47 (by decide) ?_
      refine S_callV (a' := 0) (b' := 0) (a := 0) (b := 0) 48 (As := [.int v7, .int 3]) (ci := 9) rfl calX9_refuse imX9_refuse seX9_refuse mkX9_94 rfl rfl rfl rfl rfl (by decide) rfl rfl dX9_classTimes_48 (CX9_refuse E t v7 3 h8) (fun v9 h10 => kqI ?_)
      refine S_join (fun jj => ∀ (v11 : Int32) (h12 : XH), XS E mX9_classTimes eI 0 0 65 [none, none, none, none, none] [.int v11] h12 (jj v11 h12)) (fun v11 h12 => ?_) (fun j65 hj65 => ?_)
      · skip
        exact S_iret 65 dX9_classTimes_65 rfl
      refine S_ifeq 51 58 dX9_classTimes_51 (by decide) ?_ ?_
      · skip
        refine S_aload_0 58 dX9_classTimes_58 ?_
        refine S_iload_1 59 dX9_classTimes_59 ?_
        refine S_iload_2 60 dX9_classTimes_60 ?_
        refine S_iload_3 61 dX9_classTimes_61 ?_
        refine S_callV (a' := 0) (b' := 0) (a := 0) (b := 0) 62 (As := [.int p1, .int p2, .int p3]) (ci := 9) rfl calX9_classProduct imX9_classProduct seX9_classProduct mkX9_368 rfl rfl rfl rfl rfl (by decide) rfl rfl dX9_classTimes_62 (CX9_classProduct E t p1 p2 p3 h10) (fun v13 h14 => kqI ?_)
        exact S_drop [0, 1, 2, 3] rfl (hj65 _ _)
      · skip
        refine S_ic 54 0 dX9_classTimes_54 (by decide) ?_
        refine S_goto 55 65 dX9_classTimes_55 (by decide) ?_
        exact S_drop [0, 1, 2, 3] rfl (hj65 _ _)
    refine S_join (fun jj => ∀  (h15 : XH), XS E mX9_classTimes eI 0 0 42 [some (.ref t), some (.int p1), some (.int p2), some (.int p3), none] [.ref t] h15 (jj  h15)) (fun  h15 => ?_) (fun j42 hj42 => ?_)
    · skip
      refine S_ic 42 1 dX9_classTimes_42 (by decide) ?_
      refine S_goto 43 47 dX9_classTimes_43 (by decide) ?_
      exact S_drop [] rfl (hj47 _ _)
    refine S_ifeq 27 42 dX9_classTimes_27 (by decide) ?_ ?_
    · skip
      exact S_drop [4] rfl (hj42 _)
    · skip
      refine S_iload_3 30 dX9_classTimes_30 ?_
      refine S_ic 31 0 dX9_classTimes_31 (by decide) ?_
      refine S_iload_4 32 dX9_classTimes_32 ?_
      refine S_ic 34 1 dX9_classTimes_34 (by decide) ?_
      refine S_isub 35 dX9_classTimes_35 ?_
      refine S_callS (a' := 0) (b' := 0) (a := 0) (b := 0) 36 (As := [.int p3, .int 0, .int (v3 - 1)]) rfl calX9_in stX9_in mkX9_152 rfl rfl rfl rfl rfl dX9_classTimes_36 (CX9_in E p3 0 (v3 - 1) h6) (fun v16 h17 => kqI ?_)
      refine S_ifne 39 46 dX9_classTimes_39 (by decide) ?_ ?_
      · skip
        refine S_ic 46 0 dX9_classTimes_46 (by decide) ?_
        exact S_drop [4] rfl (hj47 _ _)
      · skip
        exact S_drop [4] rfl (hj42 _)
  · skip
    refine S_ic 8 0 dX9_classTimes_8 (by decide) ?_
    exact S_iret 9 dX9_classTimes_9 rfl
def FX9_classAct (E : XG) (t : Nat) (p1 : Int32) (p2 : Int32) (p3 : Int32) (h : XH) : XP Int32 := xg (xk h t = 10) <| xb (FX9_notLawful E t p1 h) fun v1 h2 => if (v1 : Int32) = 0 then (xg (xk h2 t = 10) <| xb (FX9_laysClasses E t p1 h2) fun v3 h4 => xb (FX9_in E p2 0 (v3 - 1) h4) fun v5 h6 => xjn (fun (v7 : Int32) (h8 : XH) => xg (xk h8 t = 10) <| xb (FX9_refuse E t v7 3 h8) fun v9 h10 => xjn (fun (v11 : Int32) (h12 : XH) => xv v11 h12) fun (j82 : Int32 → XH → XP Int32) => if (v9 : Int32) = 0 then (xg (xk h10 t = 10) <| xnn (xr h10 t 39) fun w13 => xg (xk h10 w13 = 12 ∧ xin p2 (xn h10 w13)) <| xg (xk h10 t = 10) <| xb (FX9_on E t p1 (xi h10 w13 (p2 : Int32).toNatClampNeg) p3 h10) fun v14 h15 => j82 v14 h15) else (j82 0 h10)) fun (j59 : Int32 → XH → XP Int32) => xjn (fun  (h16 : XH) => j59 1 h16) fun (j54 : XH → XP Int32) => if (v5 : Int32) = 0 then (j54 h6) else (xg (xk h6 t = 10) <| xb (FX9_uppers E t p1 h6) fun v17 h18 => xb (FX9_in E p3 0 (v17 - 1) h18) fun v19 h20 => if (v19 : Int32) = 0 then (j54 h20) else (xg (xk h20 t = 10) <| xb (FX9_boundaryOf E t p1 p3 h20) fun v21 h22 => if (v21 : Int32) = 0 then (j59 0 h22) else (j54 h22)))) else (xv 0 h2)
theorem CX9_classAct (E : XG) (t : Nat) (p1 : Int32) (p2 : Int32) (p3 : Int32) (h : XH) : XN E mX9_classAct eI 0 0 [.ref t, .int p1, .int p2, .int p3] h (FX9_classAct E t p1 p2 p3 h) := by
  unfold FX9_classAct
  refine S_enter (L := [some (.ref t), some (.int p1), some (.int p2), some (.int p3), none]) (by decide +kernel) rfl rfl rfl ?_
  refine S_aload_0 0 dX9_classAct_0 ?_
  refine S_iload_1 1 dX9_classAct_1 ?_
  refine S_callV (a' := 0) (b' := 0) (a := 0) (b := 0) 2 (As := [.int p1]) (ci := 9) rfl calX9_notLawful imX9_notLawful seX9_notLawful mkX9_362 rfl rfl rfl rfl rfl (by decide) rfl rfl dX9_classAct_2 (CX9_notLawful E t p1 h) (fun v1 h2 => kqI ?_)
  refine S_ifeq 5 10 dX9_classAct_5 (by decide) ?_ ?_
  · skip
    refine S_aload_0 10 dX9_classAct_10 ?_
    refine S_iload_1 11 dX9_classAct_11 ?_
    refine S_callV (a' := 0) (b' := 0) (a := 0) (b := 0) 12 (As := [.int p1]) (ci := 9) rfl calX9_laysClasses imX9_laysClasses seX9_laysClasses mkX9_365 rfl rfl rfl rfl rfl (by decide) rfl rfl dX9_classAct_12 (CX9_laysClasses E t p1 h2) (fun v3 h4 => kqI ?_)
    refine S_istore_4 15 dX9_classAct_15 rfl ?_
    refine S_aload_0 17 dX9_classAct_17 ?_
    refine S_iload_2 18 dX9_classAct_18 ?_
    refine S_ic 19 0 dX9_classAct_19 (by decide) ?_
    refine S_iload_4 20 dX9_classAct_20 ?_
    refine S_ic 22 1 dX9_classAct_22 (by decide) ?_
    refine S_isub 23 dX9_classAct_23 ?_
    refine S_callS (a' := 0) (b' := 0) (a := 0) (b := 0) 24 (As := [.int p2, .int 0, .int (v3 - 1)]) rfl calX9_in stX9_in mkX9_152 rfl rfl rfl rfl rfl dX9_classAct_24 (CX9_in E p2 0 (v3 - 1) h4) (fun v5 h6 => kqI ?_)
    refine S_join (fun jj => ∀ (v7 : Int32) (h8 : XH), XS E mX9_classAct eI 0 0 59 [some (.ref t), some (.int p1), some (.int p2), some (.int p3), none] [.int v7, .ref t] h8 (jj v7 h8)) (fun v7 h8 => ?_) (fun j59 hj59 => ?_)
    · skip
      refine S_ic 59 3 dX9_classAct_59 (by decide) ?_
      refine S_callV (a' := 0) (b' := 0) (a := 0) (b := 0) 60 (As := [.int v7, .int 3]) (ci := 9) rfl calX9_refuse imX9_refuse seX9_refuse mkX9_94 rfl rfl rfl rfl rfl (by decide) rfl rfl dX9_classAct_60 (CX9_refuse E t v7 3 h8) (fun v9 h10 => kqI ?_)
      refine S_join (fun jj => ∀ (v11 : Int32) (h12 : XH), XS E mX9_classAct eI 0 0 82 [none, none, none, none, none] [.int v11] h12 (jj v11 h12)) (fun v11 h12 => ?_) (fun j82 hj82 => ?_)
      · skip
        exact S_iret 82 dX9_classAct_82 rfl
      refine S_ifeq 63 70 dX9_classAct_63 (by decide) ?_ ?_
      · skip
        refine S_aload_0 70 dX9_classAct_70 ?_
        refine S_iload_1 71 dX9_classAct_71 ?_
        refine S_aload_0 72 dX9_classAct_72 ?_
        refine S_getR 73 fsX9_75 rfl dX9_classAct_73 (fun w13 => ?_)
        refine S_iload_2 76 dX9_classAct_76 ?_
        refine S_iald 77 dX9_classAct_77 ?_
        refine S_iload_3 78 dX9_classAct_78 ?_
        refine S_callV (a' := 0) (b' := 0) (a := 0) (b := 0) 79 (As := [.int p1, .int (xi h10 w13 (p2 : Int32).toNatClampNeg), .int p3]) (ci := 9) rfl calX9_on imX9_on seX9_on mkX9_320 rfl rfl rfl rfl rfl (by decide) rfl rfl dX9_classAct_79 (CX9_on E t p1 (xi h10 w13 (p2 : Int32).toNatClampNeg) p3 h10) (fun v14 h15 => kqI ?_)
        exact S_drop [0, 1, 2, 3] rfl (hj82 _ _)
      · skip
        refine S_ic 66 0 dX9_classAct_66 (by decide) ?_
        refine S_goto 67 82 dX9_classAct_67 (by decide) ?_
        exact S_drop [0, 1, 2, 3] rfl (hj82 _ _)
    refine S_join (fun jj => ∀  (h16 : XH), XS E mX9_classAct eI 0 0 54 [some (.ref t), some (.int p1), some (.int p2), some (.int p3), none] [.ref t] h16 (jj  h16)) (fun  h16 => ?_) (fun j54 hj54 => ?_)
    · skip
      refine S_ic 54 1 dX9_classAct_54 (by decide) ?_
      refine S_goto 55 59 dX9_classAct_55 (by decide) ?_
      exact S_drop [] rfl (hj59 _ _)
    refine S_ifeq 27 54 dX9_classAct_27 (by decide) ?_ ?_
    · skip
      exact S_drop [4] rfl (hj54 _)
    · skip
      refine S_iload_3 30 dX9_classAct_30 ?_
      refine S_ic 31 0 dX9_classAct_31 (by decide) ?_
      refine S_aload_0 32 dX9_classAct_32 ?_
      refine S_iload_1 33 dX9_classAct_33 ?_
      refine S_callV (a' := 0) (b' := 0) (a := 0) (b := 0) 34 (As := [.int p1]) (ci := 9) rfl calX9_uppers imX9_uppers seX9_uppers mkX9_323 rfl rfl rfl rfl rfl (by decide) rfl rfl dX9_classAct_34 (CX9_uppers E t p1 h6) (fun v17 h18 => kqI ?_)
      refine S_ic 37 1 dX9_classAct_37 (by decide) ?_
      refine S_isub 38 dX9_classAct_38 ?_
      refine S_callS (a' := 0) (b' := 0) (a := 0) (b := 0) 39 (As := [.int p3, .int 0, .int (v17 - 1)]) rfl calX9_in stX9_in mkX9_152 rfl rfl rfl rfl rfl dX9_classAct_39 (CX9_in E p3 0 (v17 - 1) h18) (fun v19 h20 => kqI ?_)
      refine S_ifeq 42 54 dX9_classAct_42 (by decide) ?_ ?_
      · skip
        exact S_drop [4] rfl (hj54 _)
      · skip
        refine S_aload_0 45 dX9_classAct_45 ?_
        refine S_iload_1 46 dX9_classAct_46 ?_
        refine S_iload_3 47 dX9_classAct_47 ?_
        refine S_callV (a' := 0) (b' := 0) (a := 0) (b := 0) 48 (As := [.int p1, .int p3]) (ci := 9) rfl calX9_boundaryOf imX9_boundaryOf seX9_boundaryOf mkX9_314 rfl rfl rfl rfl rfl (by decide) rfl rfl dX9_classAct_48 (CX9_boundaryOf E t p1 p3 h20) (fun v21 h22 => kqI ?_)
        refine S_ifeq 51 58 dX9_classAct_51 (by decide) ?_ ?_
        · skip
          refine S_ic 58 0 dX9_classAct_58 (by decide) ?_
          exact S_drop [4] rfl (hj59 _ _)
        · skip
          exact S_drop [4] rfl (hj54 _)
  · skip
    refine S_ic 8 0 dX9_classAct_8 (by decide) ?_
    exact S_iret 9 dX9_classAct_9 rfl
def FX9_profileOf (E : XG) (t : Nat) (p1 : Int32) (p2 : Int32) (p3 : Int32) (h : XH) : XP Int32 := if (p2 : Int32) = 0 then (xlp (fun again10 (s10 : Int32 × Int32) h12 => xg (xk h12 t = 10) <| xb (FX9_uppers E t p1 h12) fun v13 h14 => if (v13 : Int32) ≤ s10.2 then (xv s10.1 h14) else (xg (xk h14 t = 10) <| xb (FX9_boundaryOf E t p1 s10.2 h14) fun v15 h16 => xjn (fun (v17 : Int32) (h18 : XH) => xb (FX9_flag E v17 h18) fun v19 h20 => xlt (s10.1 + v19) fun v21 => again10 (v21, (s10.2 + 1)) h20) fun (j53 : Int32 → XH → XP Int32) => xjn (fun  (h22 : XH) => j53 0 h22) fun (j52 : XH → XP Int32) => if (v15 : Int32) = 0 then (xg (xk h16 t = 10) <| xnn (xr h16 t 7) fun w23 => xg (xk h16 w23 = 12 ∧ xin p1 (xn h16 w23)) <| xg (xk h16 t = 10) <| xb (FX9_orderIn E t (xi h16 w23 (p1 : Int32).toNatClampNeg) s10.2 h16) fun v24 h25 => if (v24 : Int32) = p3 then (j53 1 h25) else (j52 h25)) else (j52 h16))) xfu (0, 0) h) else (xg (xk h t = 10) <| xb (FX9_laysClasses E t p1 h) fun v1 h2 => xlp (fun again78 (s78 : Int32 × Int32) h3 => if (v1 : Int32) ≤ s78.2 then (xv s78.1 h3) else (xlp (fun again92 (s92 : Int32 × Int32) h4 => if (s92.2 : Int32) = 0 then (xjn (fun (v5 : Int32) (h6 : XH) => xb (FX9_flag E v5 h6) fun v7 h8 => xlt (s78.1 + v7) fun v9 => again78 (v9, (s78.2 + 1)) h8) fun (j127 : Int32 → XH → XP Int32) => if (s92.1 : Int32) = p3 then (j127 1 h4) else (j127 0 h4)) else (xg (xk h4 t = 10) <| xb (FX9_classProduct E t p1 s92.2 s78.2 h4) fun v10 h11 => again92 ((s92.1 + 1), v10) h11)) xfu (1, s78.2) h3)) xfu (0, 0) h2)
theorem CX9_profileOf (E : XG) (t : Nat) (p1 : Int32) (p2 : Int32) (p3 : Int32) (h : XH) : XN E mX9_profileOf eI 0 0 [.ref t, .int p1, .int p2, .int p3] h (FX9_profileOf E t p1 p2 p3 h) := by
  unfold FX9_profileOf
  refine S_enter (L := [some (.ref t), some (.int p1), some (.int p2), some (.int p3), none, none, none, none, none]) (by decide +kernel) rfl rfl rfl ?_
  refine S_ic 0 0 dX9_profileOf_0 (by decide) ?_
  refine S_istore_4 1 dX9_profileOf_1 rfl ?_
  refine S_iload_2 3 dX9_profileOf_3 ?_
  refine S_ifne 4 68 dX9_profileOf_4 (by decide) ?_ ?_
  · skip
    refine S_aload_0 68 dX9_profileOf_68 ?_
    refine S_iload_1 69 dX9_profileOf_69 ?_
    refine S_callV (a' := 0) (b' := 0) (a := 0) (b := 0) 70 (As := [.int p1]) (ci := 9) rfl calX9_laysClasses imX9_laysClasses seX9_laysClasses mkX9_365 rfl rfl rfl rfl rfl (by decide) rfl rfl dX9_profileOf_70 (CX9_laysClasses E t p1 h) (fun v1 h2 => kqI ?_)
    refine S_istore_5 73 dX9_profileOf_73 rfl ?_
    refine S_ic 75 0 dX9_profileOf_75 (by decide) ?_
    refine S_istore_6 76 dX9_profileOf_76 rfl ?_
    refine S_drop [2] rfl ?_
    refine S_loop (fun (s78 : Int32 × Int32) => [some (.ref t), some (.int p1), none, some (.int p3), some (.int s78.1), some (.int v1), some (.int s78.2), none, none]) (fun again78 hg78 s78 h3 => ?_) xfu _ _
    refine S_iload_6 78 dX9_profileOf_78 ?_
    refine S_iload_5 80 dX9_profileOf_80 ?_
    refine S_icmpge 82 139 dX9_profileOf_82 (by decide) ?_ ?_
    · skip
      refine S_iload_4 139 dX9_profileOf_139 ?_
      exact S_iret 141 dX9_profileOf_141 rfl
    · skip
      refine S_ic 85 1 dX9_profileOf_85 (by decide) ?_
      refine S_istore_7 86 dX9_profileOf_86 rfl ?_
      refine S_iload_6 88 dX9_profileOf_88 ?_
      refine S_istore_8 90 dX9_profileOf_90 rfl ?_
      refine S_loop (fun (s92 : Int32 × Int32) => [some (.ref t), some (.int p1), none, some (.int p3), some (.int s78.1), some (.int v1), some (.int s78.2), some (.int s92.1), some (.int s92.2)]) (fun again92 hg92 s92 h4 => ?_) xfu _ _
      refine S_iload_8 92 dX9_profileOf_92 ?_
      refine S_ifeq 94 114 dX9_profileOf_94 (by decide) ?_ ?_
      · skip
        refine S_iload_4 114 dX9_profileOf_114 ?_
        refine S_iload_7 116 dX9_profileOf_116 ?_
        refine S_iload_3 118 dX9_profileOf_118 ?_
        refine S_join (fun jj => ∀ (v5 : Int32) (h6 : XH), XS E mX9_profileOf eI 0 0 127 [some (.ref t), some (.int p1), none, some (.int p3), none, some (.int v1), some (.int s78.2), none, none] [.int v5, .int s78.1] h6 (jj v5 h6)) (fun v5 h6 => ?_) (fun j127 hj127 => ?_)
        · skip
          refine S_callS (a' := 0) (b' := 0) (a := 0) (b := 0) 127 (As := [.int v5]) rfl calX9_flag stX9_flag mkX9_207 rfl rfl rfl rfl rfl dX9_profileOf_127 (CX9_flag E v5 h6) (fun v7 h8 => kqI ?_)
          refine S_iadd 130 dX9_profileOf_130 ?_
          refine S_gen (fun v9 => ?_)
          refine S_istore_4 131 dX9_profileOf_131 rfl ?_
          refine S_iinc_6 133 (s78.2 + 1) dX9_profileOf_133 (by rfl) rfl ?_
          refine S_goto 136 78 dX9_profileOf_136 (by decide) ?_
          exact S_drop [] rfl (hg78 _ _)
        refine S_icmpne 119 126 dX9_profileOf_119 (by decide) ?_ ?_
        · skip
          refine S_ic 126 0 dX9_profileOf_126 (by decide) ?_
          exact S_drop [4, 7, 8] rfl (hj127 _ _)
        · skip
          refine S_ic 122 1 dX9_profileOf_122 (by decide) ?_
          refine S_goto 123 127 dX9_profileOf_123 (by decide) ?_
          exact S_drop [4, 7, 8] rfl (hj127 _ _)
      · skip
        refine S_iinc_7 97 (s92.1 + 1) dX9_profileOf_97 (by rfl) rfl ?_
        refine S_aload_0 100 dX9_profileOf_100 ?_
        refine S_iload_1 101 dX9_profileOf_101 ?_
        refine S_iload_8 102 dX9_profileOf_102 ?_
        refine S_iload_6 104 dX9_profileOf_104 ?_
        refine S_callV (a' := 0) (b' := 0) (a := 0) (b := 0) 106 (As := [.int p1, .int s92.2, .int s78.2]) (ci := 9) rfl calX9_classProduct imX9_classProduct seX9_classProduct mkX9_368 rfl rfl rfl rfl rfl (by decide) rfl rfl dX9_profileOf_106 (CX9_classProduct E t p1 s92.2 s78.2 h4) (fun v10 h11 => kqI ?_)
        refine S_istore_8 109 dX9_profileOf_109 rfl ?_
        refine S_goto 111 92 dX9_profileOf_111 (by decide) ?_
        exact S_drop [] rfl (hg92 _ _)
  · skip
    refine S_ic 7 0 dX9_profileOf_7 (by decide) ?_
    refine S_istore_5 8 dX9_profileOf_8 rfl ?_
    refine S_drop [2] rfl ?_
    refine S_loop (fun (s10 : Int32 × Int32) => [some (.ref t), some (.int p1), none, some (.int p3), some (.int s10.1), some (.int s10.2), none, none, none]) (fun again10 hg10 s10 h12 => ?_) xfu _ _
    refine S_iload_5 10 dX9_profileOf_10 ?_
    refine S_aload_0 12 dX9_profileOf_12 ?_
    refine S_iload_1 13 dX9_profileOf_13 ?_
    refine S_callV (a' := 0) (b' := 0) (a := 0) (b := 0) 14 (As := [.int p1]) (ci := 9) rfl calX9_uppers imX9_uppers seX9_uppers mkX9_323 rfl rfl rfl rfl rfl (by decide) rfl rfl dX9_profileOf_14 (CX9_uppers E t p1 h12) (fun v13 h14 => kqI ?_)
    refine S_icmpge 17 65 dX9_profileOf_17 (by decide) ?_ ?_
    · skip
      refine S_iload_4 65 dX9_profileOf_65 ?_
      exact S_iret 67 dX9_profileOf_67 rfl
    · skip
      refine S_iload_4 20 dX9_profileOf_20 ?_
      refine S_aload_0 22 dX9_profileOf_22 ?_
      refine S_iload_1 23 dX9_profileOf_23 ?_
      refine S_iload_5 24 dX9_profileOf_24 ?_
      refine S_callV (a' := 0) (b' := 0) (a := 0) (b := 0) 26 (As := [.int p1, .int s10.2]) (ci := 9) rfl calX9_boundaryOf imX9_boundaryOf seX9_boundaryOf mkX9_314 rfl rfl rfl rfl rfl (by decide) rfl rfl dX9_profileOf_26 (CX9_boundaryOf E t p1 s10.2 h14) (fun v15 h16 => kqI ?_)
      refine S_join (fun jj => ∀ (v17 : Int32) (h18 : XH), XS E mX9_profileOf eI 0 0 53 [some (.ref t), some (.int p1), none, some (.int p3), none, some (.int s10.2), none, none, none] [.int v17, .int s10.1] h18 (jj v17 h18)) (fun v17 h18 => ?_) (fun j53 hj53 => ?_)
      · skip
        refine S_callS (a' := 0) (b' := 0) (a := 0) (b := 0) 53 (As := [.int v17]) rfl calX9_flag stX9_flag mkX9_207 rfl rfl rfl rfl rfl dX9_profileOf_53 (CX9_flag E v17 h18) (fun v19 h20 => kqI ?_)
        refine S_iadd 56 dX9_profileOf_56 ?_
        refine S_gen (fun v21 => ?_)
        refine S_istore_4 57 dX9_profileOf_57 rfl ?_
        refine S_iinc_5 59 (s10.2 + 1) dX9_profileOf_59 (by rfl) rfl ?_
        refine S_goto 62 10 dX9_profileOf_62 (by decide) ?_
        exact S_drop [] rfl (hg10 _ _)
      refine S_join (fun jj => ∀  (h22 : XH), XS E mX9_profileOf eI 0 0 52 [some (.ref t), some (.int p1), none, some (.int p3), none, some (.int s10.2), none, none, none] [.int s10.1] h22 (jj  h22)) (fun  h22 => ?_) (fun j52 hj52 => ?_)
      · skip
        refine S_ic 52 0 dX9_profileOf_52 (by decide) ?_
        exact S_drop [] rfl (hj53 _ _)
      refine S_ifne 29 52 dX9_profileOf_29 (by decide) ?_ ?_
      · skip
        exact S_drop [4] rfl (hj52 _)
      · skip
        refine S_aload_0 32 dX9_profileOf_32 ?_
        refine S_aload_0 33 dX9_profileOf_33 ?_
        refine S_getR 34 fsX9_16 rfl dX9_profileOf_34 (fun w23 => ?_)
        refine S_iload_1 37 dX9_profileOf_37 ?_
        refine S_iald 38 dX9_profileOf_38 ?_
        refine S_iload_5 39 dX9_profileOf_39 ?_
        refine S_callV (a' := 0) (b' := 0) (a := 0) (b := 0) 41 (As := [.int (xi h16 w23 (p1 : Int32).toNatClampNeg), .int s10.2]) (ci := 9) rfl calX9_orderIn imX9_orderIn seX9_orderIn mkX9_292 rfl rfl rfl rfl rfl (by decide) rfl rfl dX9_profileOf_41 (CX9_orderIn E t (xi h16 w23 (p1 : Int32).toNatClampNeg) s10.2 h16) (fun v24 h25 => kqI ?_)
        refine S_iload_3 44 dX9_profileOf_44 ?_
        refine S_icmpne 45 52 dX9_profileOf_45 (by decide) ?_ ?_
        · skip
          exact S_drop [4] rfl (hj52 _)
        · skip
          refine S_ic 48 1 dX9_profileOf_48 (by decide) ?_
          refine S_goto 49 53 dX9_profileOf_49 (by decide) ?_
          exact S_drop [4] rfl (hj53 _ _)
def FX9_profile (E : XG) (t : Nat) (p1 : Int32) (p2 : Int32) (p3 : Int32) (h : XH) : XP Int32 := xg (xk h t = 10) <| xb (FX9_notLawful E t p1 h) fun v1 h2 => xjn (fun (v3 : Int32) (h4 : XH) => xv v3 h4) fun (j42 : Int32 → XH → XP Int32) => xjn (fun  (h5 : XH) => j42 0 h5) fun (j31 : XH → XP Int32) => if (v1 : Int32) = 0 then (xb (FX9_in E p3 1 8 h2) fun v6 h7 => xjn (fun (v8 : Int32) (h9 : XH) => xg (xk h9 t = 10) <| xb (FX9_refuse E t v8 3 h9) fun v10 h11 => if (v10 : Int32) = 0 then (xg (xk h11 t = 10) <| xb (FX9_profileOf E t p1 p2 p3 h11) fun v12 h13 => j42 v12 h13) else (j31 h11)) fun (j24 : Int32 → XH → XP Int32) => if (v6 : Int32) = 0 then (j24 1 h7) else (j24 0 h7)) else (j31 h2)
theorem CX9_profile (E : XG) (t : Nat) (p1 : Int32) (p2 : Int32) (p3 : Int32) (h : XH) : XN E mX9_profile eI 0 0 [.ref t, .int p1, .int p2, .int p3] h (FX9_profile E t p1 p2 p3 h) := by
  unfold FX9_profile
  refine S_enter (L := [some (.ref t), some (.int p1), some (.int p2), some (.int p3)]) (by decide +kernel) rfl rfl rfl ?_
  refine S_aload_0 0 dX9_profile_0 ?_
  refine S_iload_1 1 dX9_profile_1 ?_
  refine S_callV (a' := 0) (b' := 0) (a := 0) (b := 0) 2 (As := [.int p1]) (ci := 9) rfl calX9_notLawful imX9_notLawful seX9_notLawful mkX9_362 rfl rfl rfl rfl rfl (by decide) rfl rfl dX9_profile_2 (CX9_notLawful E t p1 h) (fun v1 h2 => kqI ?_)
  refine S_join (fun jj => ∀ (v3 : Int32) (h4 : XH), XS E mX9_profile eI 0 0 42 [none, none, none, none] [.int v3] h4 (jj v3 h4)) (fun v3 h4 => ?_) (fun j42 hj42 => ?_)
  · skip
    exact S_iret 42 dX9_profile_42 rfl
  refine S_join (fun jj => ∀  (h5 : XH), XS E mX9_profile eI 0 0 31 [none, none, none, none] [] h5 (jj  h5)) (fun  h5 => ?_) (fun j31 hj31 => ?_)
  · skip
    refine S_ic 31 0 dX9_profile_31 (by decide) ?_
    refine S_goto 32 42 dX9_profile_32 (by decide) ?_
    exact S_drop [] rfl (hj42 _ _)
  refine S_ifne 5 31 dX9_profile_5 (by decide) ?_ ?_
  · skip
    exact S_drop [0, 1, 2, 3] rfl (hj31 _)
  · skip
    refine S_aload_0 8 dX9_profile_8 ?_
    refine S_iload_3 9 dX9_profile_9 ?_
    refine S_ic 10 1 dX9_profile_10 (by decide) ?_
    refine S_bip 11 8 dX9_profile_11 (by decide) ?_
    refine S_callS (a' := 0) (b' := 0) (a := 0) (b := 0) 13 (As := [.int p3, .int 1, .int 8]) rfl calX9_in stX9_in mkX9_152 rfl rfl rfl rfl rfl dX9_profile_13 (CX9_in E p3 1 8 h2) (fun v6 h7 => kqI ?_)
    refine S_join (fun jj => ∀ (v8 : Int32) (h9 : XH), XS E mX9_profile eI 0 0 24 [some (.ref t), some (.int p1), some (.int p2), some (.int p3)] [.int v8, .ref t] h9 (jj v8 h9)) (fun v8 h9 => ?_) (fun j24 hj24 => ?_)
    · skip
      refine S_ic 24 3 dX9_profile_24 (by decide) ?_
      refine S_callV (a' := 0) (b' := 0) (a := 0) (b := 0) 25 (As := [.int v8, .int 3]) (ci := 9) rfl calX9_refuse imX9_refuse seX9_refuse mkX9_94 rfl rfl rfl rfl rfl (by decide) rfl rfl dX9_profile_25 (CX9_refuse E t v8 3 h9) (fun v10 h11 => kqI ?_)
      refine S_ifeq 28 35 dX9_profile_28 (by decide) ?_ ?_
      · skip
        refine S_aload_0 35 dX9_profile_35 ?_
        refine S_iload_1 36 dX9_profile_36 ?_
        refine S_iload_2 37 dX9_profile_37 ?_
        refine S_iload_3 38 dX9_profile_38 ?_
        refine S_callV (a' := 0) (b' := 0) (a := 0) (b := 0) 39 (As := [.int p1, .int p2, .int p3]) (ci := 9) rfl calX9_profileOf imX9_profileOf seX9_profileOf mkX9_371 rfl rfl rfl rfl rfl (by decide) rfl rfl dX9_profile_39 (CX9_profileOf E t p1 p2 p3 h11) (fun v12 h13 => kqI ?_)
        exact S_drop [0, 1, 2, 3] rfl (hj42 _ _)
      · skip
        exact S_drop [0, 1, 2, 3] rfl (hj31 _)
    refine S_ifne 16 23 dX9_profile_16 (by decide) ?_ ?_
    · skip
      refine S_ic 23 0 dX9_profile_23 (by decide) ?_
      exact S_drop [] rfl (hj24 _ _)
    · skip
      refine S_ic 19 1 dX9_profile_19 (by decide) ?_
      refine S_goto 20 24 dX9_profile_20 (by decide) ?_
      exact S_drop [] rfl (hj24 _ _)
def FX9_alike (E : XG) (t : Nat) (p1 : Int32) (p2 : Int32) (h : XH) : XP Int32 := xlp (fun again2 (s2 : Int32) h1 => if (8 : Int32) < s2 then (xg ((1 : Int32) = 0 ∨ (1 : Int32) = 1) <| xv 1 h1) else (xg (xk h1 t = 10) <| xb (FX9_profileOf E t p1 0 s2 h1) fun v2 h3 => xg (xk h3 t = 10) <| xb (FX9_profileOf E t p2 0 s2 h3) fun v4 h5 => xjn (fun  (h6 : XH) => xg ((0 : Int32) = 0 ∨ (0 : Int32) = 1) <| xv 0 h6) fun (j42 : XH → XP Int32) => if (v2 : Int32) = v4 then (xg (xk h5 t = 10) <| xb (FX9_profileOf E t p1 1 s2 h5) fun v7 h8 => xg (xk h8 t = 10) <| xb (FX9_profileOf E t p2 1 s2 h8) fun v9 h10 => if (v7 : Int32) = v9 then (again2 (s2 + 1) h10) else (j42 h10)) else (j42 h5))) xfu 1 h
theorem CX9_alike (E : XG) (t : Nat) (p1 : Int32) (p2 : Int32) (h : XH) : XN E mX9_alike eI 0 0 [.ref t, .int p1, .int p2] h (FX9_alike E t p1 p2 h) := by
  unfold FX9_alike
  refine S_enter (L := [some (.ref t), some (.int p1), some (.int p2), none]) (by decide +kernel) rfl rfl rfl ?_
  refine S_ic 0 1 dX9_alike_0 (by decide) ?_
  refine S_istore_3 1 dX9_alike_1 rfl ?_
  refine S_loop (fun (s2 : Int32) => [some (.ref t), some (.int p1), some (.int p2), some (.int s2)]) (fun again2 hg2 s2 h1 => ?_) xfu _ _
  refine S_iload_3 2 dX9_alike_2 ?_
  refine S_bip 3 8 dX9_alike_3 (by decide) ?_
  refine S_icmpgt 5 50 dX9_alike_5 (by decide) ?_ ?_
  · skip
    refine S_ic 50 1 dX9_alike_50 (by decide) ?_
    exact S_zret 51 dX9_alike_51 rfl
  · skip
    refine S_aload_0 8 dX9_alike_8 ?_
    refine S_iload_1 9 dX9_alike_9 ?_
    refine S_ic 10 0 dX9_alike_10 (by decide) ?_
    refine S_iload_3 11 dX9_alike_11 ?_
    refine S_callV (a' := 0) (b' := 0) (a := 0) (b := 0) 12 (As := [.int p1, .int 0, .int s2]) (ci := 9) rfl calX9_profileOf imX9_profileOf seX9_profileOf mkX9_371 rfl rfl rfl rfl rfl (by decide) rfl rfl dX9_alike_12 (CX9_profileOf E t p1 0 s2 h1) (fun v2 h3 => kqI ?_)
    refine S_aload_0 15 dX9_alike_15 ?_
    refine S_iload_2 16 dX9_alike_16 ?_
    refine S_ic 17 0 dX9_alike_17 (by decide) ?_
    refine S_iload_3 18 dX9_alike_18 ?_
    refine S_callV (a' := 0) (b' := 0) (a := 0) (b := 0) 19 (As := [.int p2, .int 0, .int s2]) (ci := 9) rfl calX9_profileOf imX9_profileOf seX9_profileOf mkX9_371 rfl rfl rfl rfl rfl (by decide) rfl rfl dX9_alike_19 (CX9_profileOf E t p2 0 s2 h3) (fun v4 h5 => kqI ?_)
    refine S_join (fun jj => ∀  (h6 : XH), XS E mX9_alike eI 0 0 42 [none, none, none, none] [] h6 (jj  h6)) (fun  h6 => ?_) (fun j42 hj42 => ?_)
    · skip
      refine S_ic 42 0 dX9_alike_42 (by decide) ?_
      exact S_zret 43 dX9_alike_43 rfl
    refine S_icmpne 22 42 dX9_alike_22 (by decide) ?_ ?_
    · skip
      exact S_drop [0, 1, 2, 3] rfl (hj42 _)
    · skip
      refine S_aload_0 25 dX9_alike_25 ?_
      refine S_iload_1 26 dX9_alike_26 ?_
      refine S_ic 27 1 dX9_alike_27 (by decide) ?_
      refine S_iload_3 28 dX9_alike_28 ?_
      refine S_callV (a' := 0) (b' := 0) (a := 0) (b := 0) 29 (As := [.int p1, .int 1, .int s2]) (ci := 9) rfl calX9_profileOf imX9_profileOf seX9_profileOf mkX9_371 rfl rfl rfl rfl rfl (by decide) rfl rfl dX9_alike_29 (CX9_profileOf E t p1 1 s2 h5) (fun v7 h8 => kqI ?_)
      refine S_aload_0 32 dX9_alike_32 ?_
      refine S_iload_2 33 dX9_alike_33 ?_
      refine S_ic 34 1 dX9_alike_34 (by decide) ?_
      refine S_iload_3 35 dX9_alike_35 ?_
      refine S_callV (a' := 0) (b' := 0) (a := 0) (b := 0) 36 (As := [.int p2, .int 1, .int s2]) (ci := 9) rfl calX9_profileOf imX9_profileOf seX9_profileOf mkX9_371 rfl rfl rfl rfl rfl (by decide) rfl rfl dX9_alike_36 (CX9_profileOf E t p2 1 s2 h8) (fun v9 h10 => kqI ?_)
      refine S_icmpeq 39 44 dX9_alike_39 (by decide) ?_ ?_
      · skip
        refine S_iinc_3 44 (s2 + 1) dX9_alike_44 (by rfl) rfl ?_
        refine S_goto 47 2 dX9_alike_47 (by decide) ?_
        exact S_drop [] rfl (hg2 _ _)
      · skip
        exact S_drop [0, 1, 2, 3] rfl (hj42 _)
def FX9_areAlike (E : XG) (t : Nat) (p1 : Int32) (p2 : Int32) (h : XH) : XP Int32 := xg (xk h t = 10) <| xb (FX9_noModule E t p1 h) fun v1 h2 => xjn (fun  (h3 : XH) => xg ((0 : Int32) = 0 ∨ (0 : Int32) = 1) <| xv 0 h3) fun (j45 : XH → XP Int32) => if (v1 : Int32) = 0 then (xg (xk h2 t = 10) <| xb (FX9_noModule E t p2 h2) fun v4 h5 => if (v4 : Int32) = 0 then (xg (xk h5 t = 10) <| xb (FX9_whyOf E t p1 h5) fun v6 h7 => xjn (fun (v8 : Int32) (h9 : XH) => xg (xk h9 t = 10) <| xb (FX9_refuse E t v8 3 h9) fun v10 h11 => if (v10 : Int32) = 0 then (xg (xk h11 t = 10) <| xb (FX9_alike E t p1 p2 h11) fun v12 h13 => xg ((v12 : Int32) = 0 ∨ (v12 : Int32) = 1) <| xv v12 h13) else (j45 h11)) fun (j38 : Int32 → XH → XP Int32) => xjn (fun  (h14 : XH) => j38 1 h14) fun (j33 : XH → XP Int32) => if (v6 : Int32) = 0 then (xg (xk h7 t = 10) <| xb (FX9_whyOf E t p2 h7) fun v15 h16 => if (v15 : Int32) = 0 then (j38 0 h16) else (j33 h16)) else (j33 h7)) else (j45 h5)) else (j45 h2)
theorem CX9_areAlike (E : XG) (t : Nat) (p1 : Int32) (p2 : Int32) (h : XH) : XN E mX9_areAlike eI 0 0 [.ref t, .int p1, .int p2] h (FX9_areAlike E t p1 p2 h) := by
  unfold FX9_areAlike
  refine S_enter (L := [some (.ref t), some (.int p1), some (.int p2)]) (by decide +kernel) rfl rfl rfl ?_
  refine S_aload_0 0 dX9_areAlike_0 ?_
  refine S_iload_1 1 dX9_areAlike_1 ?_
  refine S_callV (a' := 0) (b' := 0) (a := 0) (b := 0) 2 (As := [.int p1]) (ci := 9) rfl calX9_noModule imX9_noModule seX9_noModule mkX9_308 rfl rfl rfl rfl rfl (by decide) rfl rfl dX9_areAlike_2 (CX9_noModule E t p1 h) (fun v1 h2 => kqI ?_)
  refine S_join (fun jj => ∀  (h3 : XH), XS E mX9_areAlike eI 0 0 45 [none, none, none] [] h3 (jj  h3)) (fun  h3 => ?_) (fun j45 hj45 => ?_)
  · skip
    refine S_ic 45 0 dX9_areAlike_45 (by decide) ?_
    exact S_zret 46 dX9_areAlike_46 rfl
  refine S_ifne 5 45 dX9_areAlike_5 (by decide) ?_ ?_
  · skip
    exact S_drop [0, 1, 2] rfl (hj45 _)
  · skip
    refine S_aload_0 8 dX9_areAlike_8 ?_
    refine S_iload_2 9 dX9_areAlike_9 ?_
    refine S_callV (a' := 0) (b' := 0) (a := 0) (b := 0) 10 (As := [.int p2]) (ci := 9) rfl calX9_noModule imX9_noModule seX9_noModule mkX9_308 rfl rfl rfl rfl rfl (by decide) rfl rfl dX9_areAlike_10 (CX9_noModule E t p2 h2) (fun v4 h5 => kqI ?_)
    refine S_ifne 13 45 dX9_areAlike_13 (by decide) ?_ ?_
    · skip
      exact S_drop [0, 1, 2] rfl (hj45 _)
    · skip
      refine S_aload_0 16 dX9_areAlike_16 ?_
      refine S_aload_0 17 dX9_areAlike_17 ?_
      refine S_iload_1 18 dX9_areAlike_18 ?_
      refine S_callV (a' := 0) (b' := 0) (a := 0) (b := 0) 19 (As := [.int p1]) (ci := 9) rfl calX9_whyOf imX9_whyOf seX9_whyOf mkX9_350 rfl rfl rfl rfl rfl (by decide) rfl rfl dX9_areAlike_19 (CX9_whyOf E t p1 h5) (fun v6 h7 => kqI ?_)
      refine S_join (fun jj => ∀ (v8 : Int32) (h9 : XH), XS E mX9_areAlike eI 0 0 38 [some (.ref t), some (.int p1), some (.int p2)] [.int v8, .ref t] h9 (jj v8 h9)) (fun v8 h9 => ?_) (fun j38 hj38 => ?_)
      · skip
        refine S_ic 38 3 dX9_areAlike_38 (by decide) ?_
        refine S_callV (a' := 0) (b' := 0) (a := 0) (b := 0) 39 (As := [.int v8, .int 3]) (ci := 9) rfl calX9_refuse imX9_refuse seX9_refuse mkX9_94 rfl rfl rfl rfl rfl (by decide) rfl rfl dX9_areAlike_39 (CX9_refuse E t v8 3 h9) (fun v10 h11 => kqI ?_)
        refine S_ifeq 42 47 dX9_areAlike_42 (by decide) ?_ ?_
        · skip
          refine S_aload_0 47 dX9_areAlike_47 ?_
          refine S_iload_1 48 dX9_areAlike_48 ?_
          refine S_iload_2 49 dX9_areAlike_49 ?_
          refine S_callV (a' := 0) (b' := 0) (a := 0) (b := 0) 50 (As := [.int p1, .int p2]) (ci := 9) rfl calX9_alike imX9_alike seX9_alike mkX9_375 rfl rfl rfl rfl rfl (by decide) rfl rfl dX9_areAlike_50 (CX9_alike E t p1 p2 h11) (fun v12 h13 => kqI ?_)
          exact S_zret 53 dX9_areAlike_53 rfl
        · skip
          exact S_drop [0, 1, 2] rfl (hj45 _)
      refine S_join (fun jj => ∀  (h14 : XH), XS E mX9_areAlike eI 0 0 33 [some (.ref t), some (.int p1), some (.int p2)] [.ref t] h14 (jj  h14)) (fun  h14 => ?_) (fun j33 hj33 => ?_)
      · skip
        refine S_ic 33 1 dX9_areAlike_33 (by decide) ?_
        refine S_goto 34 38 dX9_areAlike_34 (by decide) ?_
        exact S_drop [] rfl (hj38 _ _)
      refine S_ifne 22 33 dX9_areAlike_22 (by decide) ?_ ?_
      · skip
        exact S_drop [] rfl (hj33 _)
      · skip
        refine S_aload_0 25 dX9_areAlike_25 ?_
        refine S_iload_2 26 dX9_areAlike_26 ?_
        refine S_callV (a' := 0) (b' := 0) (a := 0) (b := 0) 27 (As := [.int p2]) (ci := 9) rfl calX9_whyOf imX9_whyOf seX9_whyOf mkX9_350 rfl rfl rfl rfl rfl (by decide) rfl rfl dX9_areAlike_27 (CX9_whyOf E t p2 h7) (fun v15 h16 => kqI ?_)
        refine S_ifeq 30 37 dX9_areAlike_30 (by decide) ?_ ?_
        · skip
          refine S_ic 37 0 dX9_areAlike_37 (by decide) ?_
          exact S_drop [] rfl (hj38 _ _)
        · skip
          exact S_drop [] rfl (hj33 _)
