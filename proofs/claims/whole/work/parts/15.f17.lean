/-! Methods as functions, 17. -/
set_option linter.unusedVariables false
set_option maxRecDepth 10000
def FX9_breaksSquare (E : XG) (t : Nat) (p1 : Int32) (h : XH) : XP Int32 := xlp (fun again2 (s2 : Int32) h1 => xg (xk h1 t = 10) <| xnn (xr h1 t 9) fun w2 => xg (xk h1 w2 = 12 ∧ xin p1 (xn h1 w2)) <| xg (xk h1 t = 10) <| xb (FX9_uppers E t (xi h1 w2 (p1 : Int32).toNatClampNeg) h1) fun v3 h4 => if (v3 : Int32) ≤ s2 then (xg ((0 : Int32) = 0 ∨ (0 : Int32) = 1) <| xv 0 h4) else (xg (xk h4 t = 10) <| xnn (xr h4 t 10) fun w5 => xg (xk h4 w5 = 12 ∧ xin p1 (xn h4 w5)) <| xg (xk h4 t = 10) <| xb (FX9_topOf E t p1 s2 h4) fun v6 h7 => xg (xk h7 t = 10) <| xb (FX9_boundaryOf E t (xi h4 w5 (p1 : Int32).toNatClampNeg) v6 h7) fun v8 h9 => xg (xk h9 t = 10) <| xnn (xr h9 t 9) fun w10 => xg (xk h9 w10 = 12 ∧ xin p1 (xn h9 w10)) <| xg (xk h9 t = 10) <| xb (FX9_boundaryOf E t (xi h9 w10 (p1 : Int32).toNatClampNeg) s2 h9) fun v11 h12 => xg (xk h12 t = 10) <| xb (FX9_bottomOf E t p1 v11 h12) fun v13 h14 => if (v8 : Int32) = v13 then (again2 (s2 + 1) h14) else (xg ((1 : Int32) = 0 ∨ (1 : Int32) = 1) <| xv 1 h14))) xfu 0 h
theorem CX9_breaksSquare (E : XG) (t : Nat) (p1 : Int32) (h : XH) : XN E mX9_breaksSquare eI 0 0 [.ref t, .int p1] h (FX9_breaksSquare E t p1 h) := by
  unfold FX9_breaksSquare
  refine S_enter (L := [some (.ref t), some (.int p1), none]) (by decide +kernel) rfl rfl rfl ?_
  refine S_ic 0 0 dX9_breaksSquare_0 (by decide) ?_
  refine S_istore_2 1 dX9_breaksSquare_1 rfl ?_
  refine S_loop (fun (s2 : Int32) => [some (.ref t), some (.int p1), some (.int s2)]) (fun again2 hg2 s2 h1 => ?_) xfu _ _
  refine S_iload_2 2 dX9_breaksSquare_2 ?_
  refine S_aload_0 3 dX9_breaksSquare_3 ?_
  refine S_aload_0 4 dX9_breaksSquare_4 ?_
  refine S_getR 5 fsX9_22 rfl dX9_breaksSquare_5 (fun w2 => ?_)
  refine S_iload_1 8 dX9_breaksSquare_8 ?_
  refine S_iald 9 dX9_breaksSquare_9 ?_
  refine S_callV (a' := 0) (b' := 0) (a := 0) (b := 0) 10 (As := [.int (xi h1 w2 (p1 : Int32).toNatClampNeg)]) (ci := 9) rfl calX9_uppers imX9_uppers seX9_uppers mkX9_323 rfl rfl rfl rfl rfl (by decide) rfl rfl dX9_breaksSquare_10 (CX9_uppers E t (xi h1 w2 (p1 : Int32).toNatClampNeg) h1) (fun v3 h4 => kqI ?_)
  refine S_icmpge 13 59 dX9_breaksSquare_13 (by decide) ?_ ?_
  · skip
    refine S_ic 59 0 dX9_breaksSquare_59 (by decide) ?_
    exact S_zret 60 dX9_breaksSquare_60 rfl
  · skip
    refine S_aload_0 16 dX9_breaksSquare_16 ?_
    refine S_aload_0 17 dX9_breaksSquare_17 ?_
    refine S_getR 18 fsX9_25 rfl dX9_breaksSquare_18 (fun w5 => ?_)
    refine S_iload_1 21 dX9_breaksSquare_21 ?_
    refine S_iald 22 dX9_breaksSquare_22 ?_
    refine S_aload_0 23 dX9_breaksSquare_23 ?_
    refine S_iload_1 24 dX9_breaksSquare_24 ?_
    refine S_iload_2 25 dX9_breaksSquare_25 ?_
    refine S_callV (a' := 0) (b' := 0) (a := 0) (b := 0) 26 (As := [.int p1, .int s2]) (ci := 9) rfl calX9_topOf imX9_topOf seX9_topOf mkX9_396 rfl rfl rfl rfl rfl (by decide) rfl rfl dX9_breaksSquare_26 (CX9_topOf E t p1 s2 h4) (fun v6 h7 => kqI ?_)
    refine S_callV (a' := 0) (b' := 0) (a := 0) (b := 0) 29 (As := [.int (xi h4 w5 (p1 : Int32).toNatClampNeg), .int v6]) (ci := 9) rfl calX9_boundaryOf imX9_boundaryOf seX9_boundaryOf mkX9_314 rfl rfl rfl rfl rfl (by decide) rfl rfl dX9_breaksSquare_29 (CX9_boundaryOf E t (xi h4 w5 (p1 : Int32).toNatClampNeg) v6 h7) (fun v8 h9 => kqI ?_)
    refine S_aload_0 32 dX9_breaksSquare_32 ?_
    refine S_iload_1 33 dX9_breaksSquare_33 ?_
    refine S_aload_0 34 dX9_breaksSquare_34 ?_
    refine S_aload_0 35 dX9_breaksSquare_35 ?_
    refine S_getR 36 fsX9_22 rfl dX9_breaksSquare_36 (fun w10 => ?_)
    refine S_iload_1 39 dX9_breaksSquare_39 ?_
    refine S_iald 40 dX9_breaksSquare_40 ?_
    refine S_iload_2 41 dX9_breaksSquare_41 ?_
    refine S_callV (a' := 0) (b' := 0) (a := 0) (b := 0) 42 (As := [.int (xi h9 w10 (p1 : Int32).toNatClampNeg), .int s2]) (ci := 9) rfl calX9_boundaryOf imX9_boundaryOf seX9_boundaryOf mkX9_314 rfl rfl rfl rfl rfl (by decide) rfl rfl dX9_breaksSquare_42 (CX9_boundaryOf E t (xi h9 w10 (p1 : Int32).toNatClampNeg) s2 h9) (fun v11 h12 => kqI ?_)
    refine S_callV (a' := 0) (b' := 0) (a := 0) (b := 0) 45 (As := [.int p1, .int v11]) (ci := 9) rfl calX9_bottomOf imX9_bottomOf seX9_bottomOf mkX9_402 rfl rfl rfl rfl rfl (by decide) rfl rfl dX9_breaksSquare_45 (CX9_bottomOf E t p1 v11 h12) (fun v13 h14 => kqI ?_)
    refine S_icmpeq 48 53 dX9_breaksSquare_48 (by decide) ?_ ?_
    · skip
      refine S_iinc_2 53 (s2 + 1) dX9_breaksSquare_53 (by rfl) rfl ?_
      refine S_goto 56 2 dX9_breaksSquare_56 (by decide) ?_
      exact S_drop [] rfl (hg2 _ _)
    · skip
      refine S_ic 51 1 dX9_breaksSquare_51 (by decide) ?_
      exact S_zret 52 dX9_breaksSquare_52 rfl
def FX9_breaksOn (E : XG) (t : Nat) (p1 : Int32) (h : XH) : XP Int32 := xlp (fun again2 (s2 : Int32) h1 => xg (xk h1 t = 10) <| xnn (xr h1 t 9) fun w2 => xg (xk h1 w2 = 12 ∧ xin p1 (xn h1 w2)) <| xg (xk h1 t = 10) <| xb (FX9_lowers E t (xi h1 w2 (p1 : Int32).toNatClampNeg) h1) fun v3 h4 => if (v3 : Int32) ≤ s2 then (xg ((0 : Int32) = 0 ∨ (0 : Int32) = 1) <| xv 0 h4) else (xlp (fun again18 (s18 : Int32) h5 => xg (xk h5 t = 10) <| xnn (xr h5 t 9) fun w6 => xg (xk h5 w6 = 12 ∧ xin p1 (xn h5 w6)) <| xg (xk h5 t = 10) <| xb (FX9_uppers E t (xi h5 w6 (p1 : Int32).toNatClampNeg) h5) fun v7 h8 => if (v7 : Int32) ≤ s18 then (again2 (s2 + 1) h8) else (xg (xk h8 t = 10) <| xnn (xr h8 t 9) fun w9 => xg (xk h8 w9 = 12 ∧ xin p1 (xn h8 w9)) <| xg (xk h8 t = 10) <| xb (FX9_on E t (xi h8 w9 (p1 : Int32).toNatClampNeg) s2 s18 h8) fun v10 h11 => xg (xk h11 t = 10) <| xb (FX9_topOf E t p1 v10 h11) fun v12 h13 => xg (xk h13 t = 10) <| xnn (xr h13 t 10) fun w14 => xg (xk h13 w14 = 12 ∧ xin p1 (xn h13 w14)) <| xg (xk h13 t = 10) <| xb (FX9_bottomOf E t p1 s2 h13) fun v15 h16 => xg (xk h16 t = 10) <| xb (FX9_topOf E t p1 s18 h16) fun v17 h18 => xg (xk h18 t = 10) <| xb (FX9_on E t (xi h13 w14 (p1 : Int32).toNatClampNeg) v15 v17 h18) fun v19 h20 => if (v12 : Int32) = v19 then (again18 (s18 + 1) h20) else (xg ((1 : Int32) = 0 ∨ (1 : Int32) = 1) <| xv 1 h20))) xfu 0 h4)) xfu 0 h
theorem CX9_breaksOn (E : XG) (t : Nat) (p1 : Int32) (h : XH) : XN E mX9_breaksOn eI 0 0 [.ref t, .int p1] h (FX9_breaksOn E t p1 h) := by
  unfold FX9_breaksOn
  refine S_enter (L := [some (.ref t), some (.int p1), none, none]) (by decide +kernel) rfl rfl rfl ?_
  refine S_ic 0 0 dX9_breaksOn_0 (by decide) ?_
  refine S_istore_2 1 dX9_breaksOn_1 rfl ?_
  refine S_loop (fun (s2 : Int32) => [some (.ref t), some (.int p1), some (.int s2), none]) (fun again2 hg2 s2 h1 => ?_) xfu _ _
  refine S_iload_2 2 dX9_breaksOn_2 ?_
  refine S_aload_0 3 dX9_breaksOn_3 ?_
  refine S_aload_0 4 dX9_breaksOn_4 ?_
  refine S_getR 5 fsX9_22 rfl dX9_breaksOn_5 (fun w2 => ?_)
  refine S_iload_1 8 dX9_breaksOn_8 ?_
  refine S_iald 9 dX9_breaksOn_9 ?_
  refine S_callV (a' := 0) (b' := 0) (a := 0) (b := 0) 10 (As := [.int (xi h1 w2 (p1 : Int32).toNatClampNeg)]) (ci := 9) rfl calX9_lowers imX9_lowers seX9_lowers mkX9_332 rfl rfl rfl rfl rfl (by decide) rfl rfl dX9_breaksOn_10 (CX9_lowers E t (xi h1 w2 (p1 : Int32).toNatClampNeg) h1) (fun v3 h4 => kqI ?_)
  refine S_icmpge 13 88 dX9_breaksOn_13 (by decide) ?_ ?_
  · skip
    refine S_ic 88 0 dX9_breaksOn_88 (by decide) ?_
    exact S_zret 89 dX9_breaksOn_89 rfl
  · skip
    refine S_ic 16 0 dX9_breaksOn_16 (by decide) ?_
    refine S_istore_3 17 dX9_breaksOn_17 rfl ?_
    refine S_loop (fun (s18 : Int32) => [some (.ref t), some (.int p1), some (.int s2), some (.int s18)]) (fun again18 hg18 s18 h5 => ?_) xfu _ _
    refine S_iload_3 18 dX9_breaksOn_18 ?_
    refine S_aload_0 19 dX9_breaksOn_19 ?_
    refine S_aload_0 20 dX9_breaksOn_20 ?_
    refine S_getR 21 fsX9_22 rfl dX9_breaksOn_21 (fun w6 => ?_)
    refine S_iload_1 24 dX9_breaksOn_24 ?_
    refine S_iald 25 dX9_breaksOn_25 ?_
    refine S_callV (a' := 0) (b' := 0) (a := 0) (b := 0) 26 (As := [.int (xi h5 w6 (p1 : Int32).toNatClampNeg)]) (ci := 9) rfl calX9_uppers imX9_uppers seX9_uppers mkX9_323 rfl rfl rfl rfl rfl (by decide) rfl rfl dX9_breaksOn_26 (CX9_uppers E t (xi h5 w6 (p1 : Int32).toNatClampNeg) h5) (fun v7 h8 => kqI ?_)
    refine S_icmpge 29 82 dX9_breaksOn_29 (by decide) ?_ ?_
    · skip
      refine S_iinc_2 82 (s2 + 1) dX9_breaksOn_82 (by rfl) rfl ?_
      refine S_goto 85 2 dX9_breaksOn_85 (by decide) ?_
      exact S_drop [3] rfl (hg2 _ _)
    · skip
      refine S_aload_0 32 dX9_breaksOn_32 ?_
      refine S_iload_1 33 dX9_breaksOn_33 ?_
      refine S_aload_0 34 dX9_breaksOn_34 ?_
      refine S_aload_0 35 dX9_breaksOn_35 ?_
      refine S_getR 36 fsX9_22 rfl dX9_breaksOn_36 (fun w9 => ?_)
      refine S_iload_1 39 dX9_breaksOn_39 ?_
      refine S_iald 40 dX9_breaksOn_40 ?_
      refine S_iload_2 41 dX9_breaksOn_41 ?_
      refine S_iload_3 42 dX9_breaksOn_42 ?_
      refine S_callV (a' := 0) (b' := 0) (a := 0) (b := 0) 43 (As := [.int (xi h8 w9 (p1 : Int32).toNatClampNeg), .int s2, .int s18]) (ci := 9) rfl calX9_on imX9_on seX9_on mkX9_320 rfl rfl rfl rfl rfl (by decide) rfl rfl dX9_breaksOn_43 (CX9_on E t (xi h8 w9 (p1 : Int32).toNatClampNeg) s2 s18 h8) (fun v10 h11 => kqI ?_)
      refine S_callV (a' := 0) (b' := 0) (a := 0) (b := 0) 46 (As := [.int p1, .int v10]) (ci := 9) rfl calX9_topOf imX9_topOf seX9_topOf mkX9_396 rfl rfl rfl rfl rfl (by decide) rfl rfl dX9_breaksOn_46 (CX9_topOf E t p1 v10 h11) (fun v12 h13 => kqI ?_)
      refine S_aload_0 49 dX9_breaksOn_49 ?_
      refine S_aload_0 50 dX9_breaksOn_50 ?_
      refine S_getR 51 fsX9_25 rfl dX9_breaksOn_51 (fun w14 => ?_)
      refine S_iload_1 54 dX9_breaksOn_54 ?_
      refine S_iald 55 dX9_breaksOn_55 ?_
      refine S_aload_0 56 dX9_breaksOn_56 ?_
      refine S_iload_1 57 dX9_breaksOn_57 ?_
      refine S_iload_2 58 dX9_breaksOn_58 ?_
      refine S_callV (a' := 0) (b' := 0) (a := 0) (b := 0) 59 (As := [.int p1, .int s2]) (ci := 9) rfl calX9_bottomOf imX9_bottomOf seX9_bottomOf mkX9_402 rfl rfl rfl rfl rfl (by decide) rfl rfl dX9_breaksOn_59 (CX9_bottomOf E t p1 s2 h13) (fun v15 h16 => kqI ?_)
      refine S_aload_0 62 dX9_breaksOn_62 ?_
      refine S_iload_1 63 dX9_breaksOn_63 ?_
      refine S_iload_3 64 dX9_breaksOn_64 ?_
      refine S_callV (a' := 0) (b' := 0) (a := 0) (b := 0) 65 (As := [.int p1, .int s18]) (ci := 9) rfl calX9_topOf imX9_topOf seX9_topOf mkX9_396 rfl rfl rfl rfl rfl (by decide) rfl rfl dX9_breaksOn_65 (CX9_topOf E t p1 s18 h16) (fun v17 h18 => kqI ?_)
      refine S_callV (a' := 0) (b' := 0) (a := 0) (b := 0) 68 (As := [.int (xi h13 w14 (p1 : Int32).toNatClampNeg), .int v15, .int v17]) (ci := 9) rfl calX9_on imX9_on seX9_on mkX9_320 rfl rfl rfl rfl rfl (by decide) rfl rfl dX9_breaksOn_68 (CX9_on E t (xi h13 w14 (p1 : Int32).toNatClampNeg) v15 v17 h18) (fun v19 h20 => kqI ?_)
      refine S_icmpeq 71 76 dX9_breaksOn_71 (by decide) ?_ ?_
      · skip
        refine S_iinc_3 76 (s18 + 1) dX9_breaksOn_76 (by rfl) rfl ?_
        refine S_goto 79 18 dX9_breaksOn_79 (by decide) ?_
        exact S_drop [] rfl (hg18 _ _)
      · skip
        refine S_ic 74 1 dX9_breaksOn_74 (by decide) ?_
        exact S_zret 75 dX9_breaksOn_75 rfl
def FX9_whyArrow (E : XG) (t : Nat) (p1 : Int32) (h : XH) : XP Int32 := xg (xk h t = 10) <| xnn (xr h t 9) fun w1 => xg (xk h w1 = 12 ∧ xin p1 (xn h w1)) <| xg (xk h t = 10) <| xb (FX9_whyOf E t (xi h w1 (p1 : Int32).toNatClampNeg) h) fun v2 h3 => xjn (fun  (h4 : XH) => xv 1 h4) fun (j26 : XH → XP Int32) => if (v2 : Int32) = 0 then (xg (xk h3 t = 10) <| xnn (xr h3 t 10) fun w5 => xg (xk h3 w5 = 12 ∧ xin p1 (xn h3 w5)) <| xg (xk h3 t = 10) <| xb (FX9_whyOf E t (xi h3 w5 (p1 : Int32).toNatClampNeg) h3) fun v6 h7 => if (v6 : Int32) = 0 then (xg (xk h7 t = 10) <| xb (FX9_breaksTops E t p1 h7) fun v8 h9 => xjn (fun (v10 : Int32) (h11 : XH) => xv v10 h11) fun (j77 : Int32 → XH → XP Int32) => if (v8 : Int32) = 0 then (xg (xk h9 t = 10) <| xb (FX9_breaksBottoms E t p1 h9) fun v12 h13 => if (v12 : Int32) = 0 then (xg (xk h13 t = 10) <| xb (FX9_breaksSquare E t p1 h13) fun v14 h15 => if (v14 : Int32) = 0 then (xg (xk h15 t = 10) <| xb (FX9_breaksOn E t p1 h15) fun v16 h17 => if (v16 : Int32) = 0 then (j77 0 h17) else (j77 5 h17)) else (j77 4 h15)) else (j77 3 h13)) else (j77 2 h9)) else (j26 h7)) else (j26 h3)
theorem CX9_whyArrow (E : XG) (t : Nat) (p1 : Int32) (h : XH) : XN E mX9_whyArrow eI 0 0 [.ref t, .int p1] h (FX9_whyArrow E t p1 h) := by
  unfold FX9_whyArrow
  refine S_enter (L := [some (.ref t), some (.int p1)]) (by decide +kernel) rfl rfl rfl ?_
  refine S_aload_0 0 dX9_whyArrow_0 ?_
  refine S_aload_0 1 dX9_whyArrow_1 ?_
  refine S_getR 2 fsX9_22 rfl dX9_whyArrow_2 (fun w1 => ?_)
  refine S_iload_1 5 dX9_whyArrow_5 ?_
  refine S_iald 6 dX9_whyArrow_6 ?_
  refine S_callV (a' := 0) (b' := 0) (a := 0) (b := 0) 7 (As := [.int (xi h w1 (p1 : Int32).toNatClampNeg)]) (ci := 9) rfl calX9_whyOf imX9_whyOf seX9_whyOf mkX9_350 rfl rfl rfl rfl rfl (by decide) rfl rfl dX9_whyArrow_7 (CX9_whyOf E t (xi h w1 (p1 : Int32).toNatClampNeg) h) (fun v2 h3 => kqI ?_)
  refine S_join (fun jj => ∀  (h4 : XH), XS E mX9_whyArrow eI 0 0 26 [none, none] [] h4 (jj  h4)) (fun  h4 => ?_) (fun j26 hj26 => ?_)
  · skip
    refine S_ic 26 1 dX9_whyArrow_26 (by decide) ?_
    exact S_iret 27 dX9_whyArrow_27 rfl
  refine S_ifne 10 26 dX9_whyArrow_10 (by decide) ?_ ?_
  · skip
    exact S_drop [0, 1] rfl (hj26 _)
  · skip
    refine S_aload_0 13 dX9_whyArrow_13 ?_
    refine S_aload_0 14 dX9_whyArrow_14 ?_
    refine S_getR 15 fsX9_25 rfl dX9_whyArrow_15 (fun w5 => ?_)
    refine S_iload_1 18 dX9_whyArrow_18 ?_
    refine S_iald 19 dX9_whyArrow_19 ?_
    refine S_callV (a' := 0) (b' := 0) (a := 0) (b := 0) 20 (As := [.int (xi h3 w5 (p1 : Int32).toNatClampNeg)]) (ci := 9) rfl calX9_whyOf imX9_whyOf seX9_whyOf mkX9_350 rfl rfl rfl rfl rfl (by decide) rfl rfl dX9_whyArrow_20 (CX9_whyOf E t (xi h3 w5 (p1 : Int32).toNatClampNeg) h3) (fun v6 h7 => kqI ?_)
    refine S_ifeq 23 28 dX9_whyArrow_23 (by decide) ?_ ?_
    · skip
      refine S_aload_0 28 dX9_whyArrow_28 ?_
      refine S_iload_1 29 dX9_whyArrow_29 ?_
      refine S_callV (a' := 0) (b' := 0) (a := 0) (b := 0) 30 (As := [.int p1]) (ci := 9) rfl calX9_breaksTops imX9_breaksTops seX9_breaksTops mkX9_405 rfl rfl rfl rfl rfl (by decide) rfl rfl dX9_whyArrow_30 (CX9_breaksTops E t p1 h7) (fun v8 h9 => kqI ?_)
      refine S_join (fun jj => ∀ (v10 : Int32) (h11 : XH), XS E mX9_whyArrow eI 0 0 77 [none, none] [.int v10] h11 (jj v10 h11)) (fun v10 h11 => ?_) (fun j77 hj77 => ?_)
      · skip
        exact S_iret 77 dX9_whyArrow_77 rfl
      refine S_ifeq 33 40 dX9_whyArrow_33 (by decide) ?_ ?_
      · skip
        refine S_aload_0 40 dX9_whyArrow_40 ?_
        refine S_iload_1 41 dX9_whyArrow_41 ?_
        refine S_callV (a' := 0) (b' := 0) (a := 0) (b := 0) 42 (As := [.int p1]) (ci := 9) rfl calX9_breaksBottoms imX9_breaksBottoms seX9_breaksBottoms mkX9_408 rfl rfl rfl rfl rfl (by decide) rfl rfl dX9_whyArrow_42 (CX9_breaksBottoms E t p1 h9) (fun v12 h13 => kqI ?_)
        refine S_ifeq 45 52 dX9_whyArrow_45 (by decide) ?_ ?_
        · skip
          refine S_aload_0 52 dX9_whyArrow_52 ?_
          refine S_iload_1 53 dX9_whyArrow_53 ?_
          refine S_callV (a' := 0) (b' := 0) (a := 0) (b := 0) 54 (As := [.int p1]) (ci := 9) rfl calX9_breaksSquare imX9_breaksSquare seX9_breaksSquare mkX9_411 rfl rfl rfl rfl rfl (by decide) rfl rfl dX9_whyArrow_54 (CX9_breaksSquare E t p1 h13) (fun v14 h15 => kqI ?_)
          refine S_ifeq 57 64 dX9_whyArrow_57 (by decide) ?_ ?_
          · skip
            refine S_aload_0 64 dX9_whyArrow_64 ?_
            refine S_iload_1 65 dX9_whyArrow_65 ?_
            refine S_callV (a' := 0) (b' := 0) (a := 0) (b := 0) 66 (As := [.int p1]) (ci := 9) rfl calX9_breaksOn imX9_breaksOn seX9_breaksOn mkX9_414 rfl rfl rfl rfl rfl (by decide) rfl rfl dX9_whyArrow_66 (CX9_breaksOn E t p1 h15) (fun v16 h17 => kqI ?_)
            refine S_ifeq 69 76 dX9_whyArrow_69 (by decide) ?_ ?_
            · skip
              refine S_ic 76 0 dX9_whyArrow_76 (by decide) ?_
              exact S_drop [0, 1] rfl (hj77 _ _)
            · skip
              refine S_ic 72 5 dX9_whyArrow_72 (by decide) ?_
              refine S_goto 73 77 dX9_whyArrow_73 (by decide) ?_
              exact S_drop [0, 1] rfl (hj77 _ _)
          · skip
            refine S_ic 60 4 dX9_whyArrow_60 (by decide) ?_
            refine S_goto 61 77 dX9_whyArrow_61 (by decide) ?_
            exact S_drop [0, 1] rfl (hj77 _ _)
        · skip
          refine S_ic 48 3 dX9_whyArrow_48 (by decide) ?_
          refine S_goto 49 77 dX9_whyArrow_49 (by decide) ?_
          exact S_drop [0, 1] rfl (hj77 _ _)
      · skip
        refine S_ic 36 2 dX9_whyArrow_36 (by decide) ?_
        refine S_goto 37 77 dX9_whyArrow_37 (by decide) ?_
        exact S_drop [0, 1] rfl (hj77 _ _)
    · skip
      exact S_drop [0, 1] rfl (hj26 _)
def FX9_arrowWhy (E : XG) (t : Nat) (p1 : Int32) (h : XH) : XP Int32 := xg (xk h t = 10) <| xb (FX9_noArrow E t p1 h) fun v1 h2 => xjn (fun (v3 : Int32) (h4 : XH) => xv v3 h4) fun (j17 : Int32 → XH → XP Int32) => if (v1 : Int32) = 0 then (xg (xk h2 t = 10) <| xb (FX9_whyArrow E t p1 h2) fun v5 h6 => j17 v5 h6) else (j17 0 h2)
theorem CX9_arrowWhy (E : XG) (t : Nat) (p1 : Int32) (h : XH) : XN E mX9_arrowWhy eI 0 0 [.ref t, .int p1] h (FX9_arrowWhy E t p1 h) := by
  unfold FX9_arrowWhy
  refine S_enter (L := [some (.ref t), some (.int p1)]) (by decide +kernel) rfl rfl rfl ?_
  refine S_aload_0 0 dX9_arrowWhy_0 ?_
  refine S_iload_1 1 dX9_arrowWhy_1 ?_
  refine S_callV (a' := 0) (b' := 0) (a := 0) (b := 0) 2 (As := [.int p1]) (ci := 9) rfl calX9_noArrow imX9_noArrow seX9_noArrow mkX9_390 rfl rfl rfl rfl rfl (by decide) rfl rfl dX9_arrowWhy_2 (CX9_noArrow E t p1 h) (fun v1 h2 => kqI ?_)
  refine S_join (fun jj => ∀ (v3 : Int32) (h4 : XH), XS E mX9_arrowWhy eI 0 0 17 [none, none] [.int v3] h4 (jj v3 h4)) (fun v3 h4 => ?_) (fun j17 hj17 => ?_)
  · skip
    exact S_iret 17 dX9_arrowWhy_17 rfl
  refine S_ifeq 5 12 dX9_arrowWhy_5 (by decide) ?_ ?_
  · skip
    refine S_aload_0 12 dX9_arrowWhy_12 ?_
    refine S_iload_1 13 dX9_arrowWhy_13 ?_
    refine S_callV (a' := 0) (b' := 0) (a := 0) (b := 0) 14 (As := [.int p1]) (ci := 9) rfl calX9_whyArrow imX9_whyArrow seX9_whyArrow mkX9_417 rfl rfl rfl rfl rfl (by decide) rfl rfl dX9_arrowWhy_14 (CX9_whyArrow E t p1 h2) (fun v5 h6 => kqI ?_)
    exact S_drop [0, 1] rfl (hj17 _ _)
  · skip
    refine S_ic 8 0 dX9_arrowWhy_8 (by decide) ?_
    refine S_goto 9 17 dX9_arrowWhy_9 (by decide) ?_
    exact S_drop [0, 1] rfl (hj17 _ _)
def FX9_isEqual (E : XG) (t : Nat) (p1 : Int32) (h : XH) : XP Int32 := xg (xk h t = 10) <| xb (FX9_whyArrow E t p1 h) fun v1 h2 => if (v1 : Int32) = 0 then (xg (xk h2 t = 10) <| xnn (xr h2 t 9) fun w3 => xg (xk h2 w3 = 12 ∧ xin p1 (xn h2 w3)) <| xlt (xi h2 w3 (p1 : Int32).toNatClampNeg) fun v4 => xg (xk h2 t = 10) <| xnn (xr h2 t 10) fun w5 => xg (xk h2 w5 = 12 ∧ xin p1 (xn h2 w5)) <| xlt (xi h2 w5 (p1 : Int32).toNatClampNeg) fun v6 => xg (xk h2 t = 10) <| xb (FX9_kernelOf E t v4 h2) fun v7 h8 => xlp (fun again37 (s37 : Int32 × Int32) h9 => xg (xk h9 t = 10) <| xb (FX9_uppers E t v4 h9) fun v10 h11 => if (v10 : Int32) ≤ s37.2 then (xb (FX9_ones E s37.1 h11) fun v12 h13 => xb (FX9_ones E v7 h13) fun v14 h15 => xjn (fun  (h16 : XH) => xg ((0 : Int32) = 0 ∨ (0 : Int32) = 1) <| xv 0 h16) fun (j110 : XH → XP Int32) => if (v12 : Int32) = v14 then (xb (FX9_ones E v7 h15) fun v17 h18 => xg (xk h18 t = 10) <| xb (FX9_kernelOf E t v6 h18) fun v19 h20 => xb (FX9_ones E v19 h20) fun v21 h22 => if (v17 : Int32) = v21 then (xg (xk h22 t = 10) <| xb (FX9_laysClasses E t v4 h22) fun v23 h24 => xlp (fun again122 (s122 : Int32) h25 => xg (xk h25 t = 10) <| xb (FX9_lowers E t v4 h25) fun v26 h27 => if (v26 : Int32) ≤ s122 then (xg (xk h27 t = 10) <| xb (FX9_laysClasses E t v6 h27) fun v28 h29 => if (v28 : Int32) = v23 then (xlp (fun again167 (s167 : Int32) h30 => xg (xk h30 t = 10) <| xb (FX9_lowers E t v4 h30) fun v31 h32 => if (v31 : Int32) ≤ s167 then (xg ((1 : Int32) = 0 ∨ (1 : Int32) = 1) <| xv 1 h32) else (xlp (fun again180 (s180 : Int32) h33 => if (s167 : Int32) ≤ s180 then (again167 (s167 + 1) h33) else (xg (xk h33 t = 10) <| xnn (xr h33 t 41) fun w34 => xg (xk h33 w34 = 12 ∧ xin s167 (xn h33 w34)) <| xg (xk h33 t = 10) <| xnn (xr h33 t 41) fun w35 => xg (xk h33 w35 = 12 ∧ xin s180 (xn h33 w35)) <| xjn (fun  (h36 : XH) => again180 (s180 + 1) h36) fun (j233 : XH → XP Int32) => if ((xi h33 w34 (s167 : Int32).toNatClampNeg) : Int32) = (xi h33 w35 (s180 : Int32).toNatClampNeg) then (j233 h33) else (xg (xk h33 t = 10) <| xnn (xr h33 t 40) fun w37 => xg (xk h33 t = 10) <| xb (FX9_bottomOf E t p1 s167 h33) fun v38 h39 => xg (xk h39 w37 = 12 ∧ xin v38 (xn h39 w37)) <| xg (xk h39 t = 10) <| xnn (xr h39 t 40) fun w40 => xg (xk h39 t = 10) <| xb (FX9_bottomOf E t p1 s180 h39) fun v41 h42 => xg (xk h42 w40 = 12 ∧ xin v41 (xn h42 w40)) <| if ((xi h39 w37 (v38 : Int32).toNatClampNeg) : Int32) = (xi h42 w40 (v41 : Int32).toNatClampNeg) then (xg ((0 : Int32) = 0 ∨ (0 : Int32) = 1) <| xv 0 h42) else (j233 h42)))) xfu 0 h32)) xfu 0 h29) else (xg ((0 : Int32) = 0 ∨ (0 : Int32) = 1) <| xv 0 h29)) else (xg (xk h27 t = 10) <| xnn (xr h27 t 41) fun w43 => xg (xk h27 t = 10) <| xnn (xr h27 t 40) fun w44 => xg (xk h27 w44 = 12 ∧ xin s122 (xn h27 w44)) <| xg (xk h27 w43 = 12 ∧ xin s122 (xn h27 w43)) <| xlt (yi h27 w43 (s122 : Int32).toNatClampNeg (xi h27 w44 (s122 : Int32).toNatClampNeg)) fun h45 => again122 (s122 + 1) h45)) xfu 0 h24) else (j110 h22)) else (j110 h15)) else (xb (FX9_has E v7 s37.2 h11) fun v46 h47 => xjn (fun (v48 : Int32) (h49 : XH) => xlt (s37.1 ||| v48) fun v50 => again37 (v50, (s37.2 + 1)) h49) fun (j72 : Int32 → XH → XP Int32) => if (v46 : Int32) = 0 then (j72 0 h47) else (xg (xk h47 t = 10) <| xb (FX9_topOf E t p1 s37.2 h47) fun v51 h52 => j72 (1 <<< (v51 &&& 31)) h52))) xfu (0, 0) h8) else (xg ((0 : Int32) = 0 ∨ (0 : Int32) = 1) <| xv 0 h2)
theorem CX9_isEqual (E : XG) (t : Nat) (p1 : Int32) (h : XH) : XN E mX9_isEqual eI 0 0 [.ref t, .int p1] h (FX9_isEqual E t p1 h) := by
  unfold FX9_isEqual
  refine S_enter (L := [some (.ref t), some (.int p1), none, none, none, none, none, none, none]) (by decide +kernel) rfl rfl rfl ?_
  refine S_aload_0 0 dX9_isEqual_0 ?_
  refine S_iload_1 1 dX9_isEqual_1 ?_
  refine S_callV (a' := 0) (b' := 0) (a := 0) (b := 0) 2 (As := [.int p1]) (ci := 9) rfl calX9_whyArrow imX9_whyArrow seX9_whyArrow mkX9_417 rfl rfl rfl rfl rfl (by decide) rfl rfl dX9_isEqual_2 (CX9_whyArrow E t p1 h) (fun v1 h2 => kqI ?_)
  refine S_ifeq 5 10 dX9_isEqual_5 (by decide) ?_ ?_
  · skip
    refine S_aload_0 10 dX9_isEqual_10 ?_
    refine S_getR 11 fsX9_22 rfl dX9_isEqual_11 (fun w3 => ?_)
    refine S_iload_1 14 dX9_isEqual_14 ?_
    refine S_iald 15 dX9_isEqual_15 ?_
    refine S_gen (fun v4 => ?_)
    refine S_istore_2 16 dX9_isEqual_16 rfl ?_
    refine S_aload_0 17 dX9_isEqual_17 ?_
    refine S_getR 18 fsX9_25 rfl dX9_isEqual_18 (fun w5 => ?_)
    refine S_iload_1 21 dX9_isEqual_21 ?_
    refine S_iald 22 dX9_isEqual_22 ?_
    refine S_gen (fun v6 => ?_)
    refine S_istore_3 23 dX9_isEqual_23 rfl ?_
    refine S_aload_0 24 dX9_isEqual_24 ?_
    refine S_iload_2 25 dX9_isEqual_25 ?_
    refine S_callV (a' := 0) (b' := 0) (a := 0) (b := 0) 26 (As := [.int v4]) (ci := 9) rfl calX9_kernelOf imX9_kernelOf seX9_kernelOf mkX9_356 rfl rfl rfl rfl rfl (by decide) rfl rfl dX9_isEqual_26 (CX9_kernelOf E t v4 h2) (fun v7 h8 => kqI ?_)
    refine S_istore_4 29 dX9_isEqual_29 rfl ?_
    refine S_ic 31 0 dX9_isEqual_31 (by decide) ?_
    refine S_istore_5 32 dX9_isEqual_32 rfl ?_
    refine S_ic 34 0 dX9_isEqual_34 (by decide) ?_
    refine S_istore_6 35 dX9_isEqual_35 rfl ?_
    refine S_loop (fun (s37 : Int32 × Int32) => [some (.ref t), some (.int p1), some (.int v4), some (.int v6), some (.int v7), some (.int s37.1), some (.int s37.2), none, none]) (fun again37 hg37 s37 h9 => ?_) xfu _ _
    refine S_iload_6 37 dX9_isEqual_37 ?_
    refine S_aload_0 39 dX9_isEqual_39 ?_
    refine S_iload_2 40 dX9_isEqual_40 ?_
    refine S_callV (a' := 0) (b' := 0) (a := 0) (b := 0) 41 (As := [.int v4]) (ci := 9) rfl calX9_uppers imX9_uppers seX9_uppers mkX9_323 rfl rfl rfl rfl rfl (by decide) rfl rfl dX9_isEqual_41 (CX9_uppers E t v4 h9) (fun v10 h11 => kqI ?_)
    refine S_icmpge 44 81 dX9_isEqual_44 (by decide) ?_ ?_
    · skip
      refine S_iload_5 81 dX9_isEqual_81 ?_
      refine S_callS (a' := 0) (b' := 0) (a := 0) (b := 0) 83 (As := [.int s37.1]) rfl calX9_ones stX9_ones mkX9_420 rfl rfl rfl rfl rfl dX9_isEqual_83 (CX9_ones E s37.1 h11) (fun v12 h13 => kqI ?_)
      refine S_iload_4 86 dX9_isEqual_86 ?_
      refine S_callS (a' := 0) (b' := 0) (a := 0) (b := 0) 88 (As := [.int v7]) rfl calX9_ones stX9_ones mkX9_420 rfl rfl rfl rfl rfl dX9_isEqual_88 (CX9_ones E v7 h13) (fun v14 h15 => kqI ?_)
      refine S_join (fun jj => ∀  (h16 : XH), XS E mX9_isEqual eI 0 0 110 [none, none, none, none, none, none, none, none, none] [] h16 (jj  h16)) (fun  h16 => ?_) (fun j110 hj110 => ?_)
      · skip
        refine S_ic 110 0 dX9_isEqual_110 (by decide) ?_
        exact S_zret 111 dX9_isEqual_111 rfl
      refine S_icmpne 91 110 dX9_isEqual_91 (by decide) ?_ ?_
      · skip
        exact S_drop [0, 1, 2, 3, 4, 5, 6] rfl (hj110 _)
      · skip
        refine S_iload_4 94 dX9_isEqual_94 ?_
        refine S_callS (a' := 0) (b' := 0) (a := 0) (b := 0) 96 (As := [.int v7]) rfl calX9_ones stX9_ones mkX9_420 rfl rfl rfl rfl rfl dX9_isEqual_96 (CX9_ones E v7 h15) (fun v17 h18 => kqI ?_)
        refine S_aload_0 99 dX9_isEqual_99 ?_
        refine S_iload_3 100 dX9_isEqual_100 ?_
        refine S_callV (a' := 0) (b' := 0) (a := 0) (b := 0) 101 (As := [.int v6]) (ci := 9) rfl calX9_kernelOf imX9_kernelOf seX9_kernelOf mkX9_356 rfl rfl rfl rfl rfl (by decide) rfl rfl dX9_isEqual_101 (CX9_kernelOf E t v6 h18) (fun v19 h20 => kqI ?_)
        refine S_callS (a' := 0) (b' := 0) (a := 0) (b := 0) 104 (As := [.int v19]) rfl calX9_ones stX9_ones mkX9_420 rfl rfl rfl rfl rfl dX9_isEqual_104 (CX9_ones E v19 h20) (fun v21 h22 => kqI ?_)
        refine S_icmpeq 107 112 dX9_isEqual_107 (by decide) ?_ ?_
        · skip
          refine S_aload_0 112 dX9_isEqual_112 ?_
          refine S_iload_2 113 dX9_isEqual_113 ?_
          refine S_callV (a' := 0) (b' := 0) (a := 0) (b := 0) 114 (As := [.int v4]) (ci := 9) rfl calX9_laysClasses imX9_laysClasses seX9_laysClasses mkX9_365 rfl rfl rfl rfl rfl (by decide) rfl rfl dX9_isEqual_114 (CX9_laysClasses E t v4 h22) (fun v23 h24 => kqI ?_)
          refine S_istore_6 117 dX9_isEqual_117 rfl ?_
          refine S_ic 119 0 dX9_isEqual_119 (by decide) ?_
          refine S_istore_7 120 dX9_isEqual_120 rfl ?_
          refine S_drop [4, 5] rfl ?_
          refine S_loop (fun (s122 : Int32) => [some (.ref t), some (.int p1), some (.int v4), some (.int v6), none, none, some (.int v23), some (.int s122), none]) (fun again122 hg122 s122 h25 => ?_) xfu _ _
          refine S_iload_7 122 dX9_isEqual_122 ?_
          refine S_aload_0 124 dX9_isEqual_124 ?_
          refine S_iload_2 125 dX9_isEqual_125 ?_
          refine S_callV (a' := 0) (b' := 0) (a := 0) (b := 0) 126 (As := [.int v4]) (ci := 9) rfl calX9_lowers imX9_lowers seX9_lowers mkX9_332 rfl rfl rfl rfl rfl (by decide) rfl rfl dX9_isEqual_126 (CX9_lowers E t v4 h25) (fun v26 h27 => kqI ?_)
          refine S_icmpge 129 152 dX9_isEqual_129 (by decide) ?_ ?_
          · skip
            refine S_aload_0 152 dX9_isEqual_152 ?_
            refine S_iload_3 153 dX9_isEqual_153 ?_
            refine S_callV (a' := 0) (b' := 0) (a := 0) (b := 0) 154 (As := [.int v6]) (ci := 9) rfl calX9_laysClasses imX9_laysClasses seX9_laysClasses mkX9_365 rfl rfl rfl rfl rfl (by decide) rfl rfl dX9_isEqual_154 (CX9_laysClasses E t v6 h27) (fun v28 h29 => kqI ?_)
            refine S_iload_6 157 dX9_isEqual_157 ?_
            refine S_icmpeq 159 164 dX9_isEqual_159 (by decide) ?_ ?_
            · skip
              refine S_ic 164 0 dX9_isEqual_164 (by decide) ?_
              refine S_istore_7 165 dX9_isEqual_165 rfl ?_
              refine S_drop [3, 6] rfl ?_
              refine S_loop (fun (s167 : Int32) => [some (.ref t), some (.int p1), some (.int v4), none, none, none, none, some (.int s167), none]) (fun again167 hg167 s167 h30 => ?_) xfu _ _
              refine S_iload_7 167 dX9_isEqual_167 ?_
              refine S_aload_0 169 dX9_isEqual_169 ?_
              refine S_iload_2 170 dX9_isEqual_170 ?_
              refine S_callV (a' := 0) (b' := 0) (a := 0) (b := 0) 171 (As := [.int v4]) (ci := 9) rfl calX9_lowers imX9_lowers seX9_lowers mkX9_332 rfl rfl rfl rfl rfl (by decide) rfl rfl dX9_isEqual_171 (CX9_lowers E t v4 h30) (fun v31 h32 => kqI ?_)
              refine S_icmpge 174 245 dX9_isEqual_174 (by decide) ?_ ?_
              · skip
                refine S_ic 245 1 dX9_isEqual_245 (by decide) ?_
                exact S_zret 246 dX9_isEqual_246 rfl
              · skip
                refine S_ic 177 0 dX9_isEqual_177 (by decide) ?_
                refine S_istore_8 178 dX9_isEqual_178 rfl ?_
                refine S_loop (fun (s180 : Int32) => [some (.ref t), some (.int p1), some (.int v4), none, none, none, none, some (.int s167), some (.int s180)]) (fun again180 hg180 s180 h33 => ?_) xfu _ _
                refine S_iload_8 180 dX9_isEqual_180 ?_
                refine S_iload_7 182 dX9_isEqual_182 ?_
                refine S_icmpge 184 239 dX9_isEqual_184 (by decide) ?_ ?_
                · skip
                  refine S_iinc_7 239 (s167 + 1) dX9_isEqual_239 (by rfl) rfl ?_
                  refine S_goto 242 167 dX9_isEqual_242 (by decide) ?_
                  exact S_drop [8] rfl (hg167 _ _)
                · skip
                  refine S_aload_0 187 dX9_isEqual_187 ?_
                  refine S_getR 188 fsX9_81 rfl dX9_isEqual_188 (fun w34 => ?_)
                  refine S_iload_7 191 dX9_isEqual_191 ?_
                  refine S_iald 193 dX9_isEqual_193 ?_
                  refine S_aload_0 194 dX9_isEqual_194 ?_
                  refine S_getR 195 fsX9_81 rfl dX9_isEqual_195 (fun w35 => ?_)
                  refine S_iload_8 198 dX9_isEqual_198 ?_
                  refine S_iald 200 dX9_isEqual_200 ?_
                  refine S_join (fun jj => ∀  (h36 : XH), XS E mX9_isEqual eI 0 0 233 [some (.ref t), some (.int p1), some (.int v4), none, none, none, none, some (.int s167), some (.int s180)] [] h36 (jj  h36)) (fun  h36 => ?_) (fun j233 hj233 => ?_)
                  · skip
                    refine S_iinc_8 233 (s180 + 1) dX9_isEqual_233 (by rfl) rfl ?_
                    refine S_goto 236 180 dX9_isEqual_236 (by decide) ?_
                    exact S_drop [] rfl (hg180 _ _)
                  refine S_icmpeq 201 233 dX9_isEqual_201 (by decide) ?_ ?_
                  · skip
                    exact S_drop [] rfl (hj233 _)
                  · skip
                    refine S_aload_0 204 dX9_isEqual_204 ?_
                    refine S_getR 205 fsX9_78 rfl dX9_isEqual_205 (fun w37 => ?_)
                    refine S_aload_0 208 dX9_isEqual_208 ?_
                    refine S_iload_1 209 dX9_isEqual_209 ?_
                    refine S_iload_7 210 dX9_isEqual_210 ?_
                    refine S_callV (a' := 0) (b' := 0) (a := 0) (b := 0) 212 (As := [.int p1, .int s167]) (ci := 9) rfl calX9_bottomOf imX9_bottomOf seX9_bottomOf mkX9_402 rfl rfl rfl rfl rfl (by decide) rfl rfl dX9_isEqual_212 (CX9_bottomOf E t p1 s167 h33) (fun v38 h39 => kqI ?_)
                    refine S_iald 215 dX9_isEqual_215 ?_
                    refine S_aload_0 216 dX9_isEqual_216 ?_
                    refine S_getR 217 fsX9_78 rfl dX9_isEqual_217 (fun w40 => ?_)
                    refine S_aload_0 220 dX9_isEqual_220 ?_
                    refine S_iload_1 221 dX9_isEqual_221 ?_
                    refine S_iload_8 222 dX9_isEqual_222 ?_
                    refine S_callV (a' := 0) (b' := 0) (a := 0) (b := 0) 224 (As := [.int p1, .int s180]) (ci := 9) rfl calX9_bottomOf imX9_bottomOf seX9_bottomOf mkX9_402 rfl rfl rfl rfl rfl (by decide) rfl rfl dX9_isEqual_224 (CX9_bottomOf E t p1 s180 h39) (fun v41 h42 => kqI ?_)
                    refine S_iald 227 dX9_isEqual_227 ?_
                    refine S_icmpne 228 233 dX9_isEqual_228 (by decide) ?_ ?_
                    · skip
                      exact S_drop [] rfl (hj233 _)
                    · skip
                      refine S_ic 231 0 dX9_isEqual_231 (by decide) ?_
                      exact S_zret 232 dX9_isEqual_232 rfl
            · skip
              refine S_ic 162 0 dX9_isEqual_162 (by decide) ?_
              exact S_zret 163 dX9_isEqual_163 rfl
          · skip
            refine S_aload_0 132 dX9_isEqual_132 ?_
            refine S_getR 133 fsX9_81 rfl dX9_isEqual_133 (fun w43 => ?_)
            refine S_iload_7 136 dX9_isEqual_136 ?_
            refine S_aload_0 138 dX9_isEqual_138 ?_
            refine S_getR 139 fsX9_78 rfl dX9_isEqual_139 (fun w44 => ?_)
            refine S_iload_7 142 dX9_isEqual_142 ?_
            refine S_iald 144 dX9_isEqual_144 ?_
            refine S_iast 145 dX9_isEqual_145 (fun h45 => ?_)
            refine S_iinc_7 146 (s122 + 1) dX9_isEqual_146 (by rfl) rfl ?_
            refine S_goto 149 122 dX9_isEqual_149 (by decide) ?_
            exact S_drop [] rfl (hg122 _ _)
        · skip
          exact S_drop [0, 1, 2, 3, 4, 5, 6] rfl (hj110 _)
    · skip
      refine S_iload_5 47 dX9_isEqual_47 ?_
      refine S_iload_4 49 dX9_isEqual_49 ?_
      refine S_iload_6 51 dX9_isEqual_51 ?_
      refine S_callS (a' := 0) (b' := 0) (a := 0) (b := 0) 53 (As := [.int v7, .int s37.2]) rfl calX9_has stX9_has mkX9_221 rfl rfl rfl rfl rfl dX9_isEqual_53 (CX9_has E v7 s37.2 h11) (fun v46 h47 => kqI ?_)
      refine S_join (fun jj => ∀ (v48 : Int32) (h49 : XH), XS E mX9_isEqual eI 0 0 72 [some (.ref t), some (.int p1), some (.int v4), some (.int v6), some (.int v7), none, some (.int s37.2), none, none] [.int v48, .int s37.1] h49 (jj v48 h49)) (fun v48 h49 => ?_) (fun j72 hj72 => ?_)
      · skip
        refine S_ior 72 dX9_isEqual_72 ?_
        refine S_gen (fun v50 => ?_)
        refine S_istore_5 73 dX9_isEqual_73 rfl ?_
        refine S_iinc_6 75 (s37.2 + 1) dX9_isEqual_75 (by rfl) rfl ?_
        refine S_goto 78 37 dX9_isEqual_78 (by decide) ?_
        exact S_drop [] rfl (hg37 _ _)
      refine S_ifeq 56 71 dX9_isEqual_56 (by decide) ?_ ?_
      · skip
        refine S_ic 71 0 dX9_isEqual_71 (by decide) ?_
        exact S_drop [5] rfl (hj72 _ _)
      · skip
        refine S_ic 59 1 dX9_isEqual_59 (by decide) ?_
        refine S_aload_0 60 dX9_isEqual_60 ?_
        refine S_iload_1 61 dX9_isEqual_61 ?_
        refine S_iload_6 62 dX9_isEqual_62 ?_
        refine S_callV (a' := 0) (b' := 0) (a := 0) (b := 0) 64 (As := [.int p1, .int s37.2]) (ci := 9) rfl calX9_topOf imX9_topOf seX9_topOf mkX9_396 rfl rfl rfl rfl rfl (by decide) rfl rfl dX9_isEqual_64 (CX9_topOf E t p1 s37.2 h47) (fun v51 h52 => kqI ?_)
        refine S_ishl 67 dX9_isEqual_67 ?_
        refine S_goto 68 72 dX9_isEqual_68 (by decide) ?_
        exact S_drop [5] rfl (hj72 _ _)
  · skip
    refine S_ic 8 0 dX9_isEqual_8 (by decide) ?_
    exact S_zret 9 dX9_isEqual_9 rfl
def FX9_isEquivalence (E : XG) (t : Nat) (p1 : Int32) (h : XH) : XP Int32 := xg (xk h t = 10) <| xb (FX9_noArrow E t p1 h) fun v1 h2 => xjn (fun (v3 : Int32) (h4 : XH) => xg ((v3 : Int32) = 0 ∨ (v3 : Int32) = 1) <| xv v3 h4) fun (j21 : Int32 → XH → XP Int32) => xjn (fun  (h5 : XH) => j21 0 h5) fun (j20 : XH → XP Int32) => if (v1 : Int32) = 0 then (xg (xk h2 t = 10) <| xb (FX9_isEqual E t p1 h2) fun v6 h7 => if (v6 : Int32) = 0 then (j20 h7) else (j21 1 h7)) else (j20 h2)
theorem CX9_isEquivalence (E : XG) (t : Nat) (p1 : Int32) (h : XH) : XN E mX9_isEquivalence eI 0 0 [.ref t, .int p1] h (FX9_isEquivalence E t p1 h) := by
  unfold FX9_isEquivalence
  refine S_enter (L := [some (.ref t), some (.int p1)]) (by decide +kernel) rfl rfl rfl ?_
  refine S_aload_0 0 dX9_isEquivalence_0 ?_
  refine S_iload_1 1 dX9_isEquivalence_1 ?_
  refine S_callV (a' := 0) (b' := 0) (a := 0) (b := 0) 2 (As := [.int p1]) (ci := 9) rfl calX9_noArrow imX9_noArrow seX9_noArrow mkX9_390 rfl rfl rfl rfl rfl (by decide) rfl rfl dX9_isEquivalence_2 (CX9_noArrow E t p1 h) (fun v1 h2 => kqI ?_)
  refine S_join (fun jj => ∀ (v3 : Int32) (h4 : XH), XS E mX9_isEquivalence eI 0 0 21 [none, none] [.int v3] h4 (jj v3 h4)) (fun v3 h4 => ?_) (fun j21 hj21 => ?_)
  · skip
    exact S_zret 21 dX9_isEquivalence_21 rfl
  refine S_join (fun jj => ∀  (h5 : XH), XS E mX9_isEquivalence eI 0 0 20 [none, none] [] h5 (jj  h5)) (fun  h5 => ?_) (fun j20 hj20 => ?_)
  · skip
    refine S_ic 20 0 dX9_isEquivalence_20 (by decide) ?_
    exact S_drop [] rfl (hj21 _ _)
  refine S_ifne 5 20 dX9_isEquivalence_5 (by decide) ?_ ?_
  · skip
    exact S_drop [0, 1] rfl (hj20 _)
  · skip
    refine S_aload_0 8 dX9_isEquivalence_8 ?_
    refine S_iload_1 9 dX9_isEquivalence_9 ?_
    refine S_callV (a' := 0) (b' := 0) (a := 0) (b := 0) 10 (As := [.int p1]) (ci := 9) rfl calX9_isEqual imX9_isEqual seX9_isEqual mkX9_423 rfl rfl rfl rfl rfl (by decide) rfl rfl dX9_isEquivalence_10 (CX9_isEqual E t p1 h2) (fun v6 h7 => kqI ?_)
    refine S_ifeq 13 20 dX9_isEquivalence_13 (by decide) ?_ ?_
    · skip
      exact S_drop [0, 1] rfl (hj20 _)
    · skip
      refine S_ic 16 1 dX9_isEquivalence_16 (by decide) ?_
      refine S_goto 17 21 dX9_isEquivalence_17 (by decide) ?_
      exact S_drop [0, 1] rfl (hj21 _ _)
def FX9_allEqual (E : XG) (t : Nat) (h : XH) : XP Int32 := xlp (fun again4 (s4 : Int32 × Int32) h1 => xg (xk h1 t = 10) <| if ((xi h1 t 4) : Int32) ≤ s4.2 then (xv s4.1 h1) else (xg (xk h1 t = 10) <| xb (FX9_isEqual E t s4.2 h1) fun v2 h3 => xjn (fun (v4 : Int32) (h5 : XH) => xlt (s4.1 ||| v4) fun v6 => again4 (v6, (s4.2 + 1)) h5) fun (j28 : Int32 → XH → XP Int32) => if (v2 : Int32) = 0 then (j28 0 h3) else (j28 (1 <<< (s4.2 &&& 31)) h3))) xfu (0, 0) h
theorem CX9_allEqual (E : XG) (t : Nat) (h : XH) : XN E mX9_allEqual eI 0 0 [.ref t] h (FX9_allEqual E t h) := by
  unfold FX9_allEqual
  refine S_enter (L := [some (.ref t), none, none]) (by decide +kernel) rfl rfl rfl ?_
  refine S_ic 0 0 dX9_allEqual_0 (by decide) ?_
  refine S_istore_1 1 dX9_allEqual_1 rfl ?_
  refine S_ic 2 0 dX9_allEqual_2 (by decide) ?_
  refine S_istore_2 3 dX9_allEqual_3 rfl ?_
  refine S_loop (fun (s4 : Int32 × Int32) => [some (.ref t), some (.int s4.1), some (.int s4.2)]) (fun again4 hg4 s4 h1 => ?_) xfu _ _
  refine S_iload_2 4 dX9_allEqual_4 ?_
  refine S_aload_0 5 dX9_allEqual_5 ?_
  refine S_getI 6 fsX9_262 rfl dX9_allEqual_6 ?_
  refine S_icmpge 9 36 dX9_allEqual_9 (by decide) ?_ ?_
  · skip
    refine S_iload_1 36 dX9_allEqual_36 ?_
    exact S_iret 37 dX9_allEqual_37 rfl
  · skip
    refine S_iload_1 12 dX9_allEqual_12 ?_
    refine S_aload_0 13 dX9_allEqual_13 ?_
    refine S_iload_2 14 dX9_allEqual_14 ?_
    refine S_callV (a' := 0) (b' := 0) (a := 0) (b := 0) 15 (As := [.int s4.2]) (ci := 9) rfl calX9_isEqual imX9_isEqual seX9_isEqual mkX9_423 rfl rfl rfl rfl rfl (by decide) rfl rfl dX9_allEqual_15 (CX9_isEqual E t s4.2 h1) (fun v2 h3 => kqI ?_)
    refine S_join (fun jj => ∀ (v4 : Int32) (h5 : XH), XS E mX9_allEqual eI 0 0 28 [some (.ref t), none, some (.int s4.2)] [.int v4, .int s4.1] h5 (jj v4 h5)) (fun v4 h5 => ?_) (fun j28 hj28 => ?_)
    · skip
      refine S_ior 28 dX9_allEqual_28 ?_
      refine S_gen (fun v6 => ?_)
      refine S_istore_1 29 dX9_allEqual_29 rfl ?_
      refine S_iinc_2 30 (s4.2 + 1) dX9_allEqual_30 (by rfl) rfl ?_
      refine S_goto 33 4 dX9_allEqual_33 (by decide) ?_
      exact S_drop [] rfl (hg4 _ _)
    refine S_ifeq 18 27 dX9_allEqual_18 (by decide) ?_ ?_
    · skip
      refine S_ic 27 0 dX9_allEqual_27 (by decide) ?_
      exact S_drop [1] rfl (hj28 _ _)
    · skip
      refine S_ic 21 1 dX9_allEqual_21 (by decide) ?_
      refine S_iload_2 22 dX9_allEqual_22 ?_
      refine S_ishl 23 dX9_allEqual_23 ?_
      refine S_goto 24 28 dX9_allEqual_24 (by decide) ?_
      exact S_drop [1] rfl (hj28 _ _)
def FX9_equivalences (E : XG) (t : Nat) (h : XH) : XP Int32 := xg (xk h t = 10) <| xb (FX9_notLoaded E t  h) fun v1 h2 => xjn (fun (v3 : Int32) (h4 : XH) => xv v3 h4) fun (j15 : Int32 → XH → XP Int32) => if (v1 : Int32) = 0 then (xg (xk h2 t = 10) <| xb (FX9_allEqual E t  h2) fun v5 h6 => j15 v5 h6) else (j15 0 h2)
theorem CX9_equivalences (E : XG) (t : Nat) (h : XH) : XN E mX9_equivalences eI 0 0 [.ref t] h (FX9_equivalences E t h) := by
  unfold FX9_equivalences
  refine S_enter (L := [some (.ref t)]) (by decide +kernel) rfl rfl rfl ?_
  refine S_aload_0 0 dX9_equivalences_0 ?_
  refine S_callV (a' := 0) (b' := 0) (a := 0) (b := 0) 1 (As := []) (ci := 9) rfl calX9_notLoaded imX9_notLoaded seX9_notLoaded mkX9_272 rfl rfl rfl rfl rfl (by decide) rfl rfl dX9_equivalences_1 (CX9_notLoaded E t  h) (fun v1 h2 => kqI ?_)
  refine S_join (fun jj => ∀ (v3 : Int32) (h4 : XH), XS E mX9_equivalences eI 0 0 15 [none] [.int v3] h4 (jj v3 h4)) (fun v3 h4 => ?_) (fun j15 hj15 => ?_)
  · skip
    exact S_iret 15 dX9_equivalences_15 rfl
  refine S_ifeq 4 11 dX9_equivalences_4 (by decide) ?_ ?_
  · skip
    refine S_aload_0 11 dX9_equivalences_11 ?_
    refine S_callV (a' := 0) (b' := 0) (a := 0) (b := 0) 12 (As := []) (ci := 9) rfl calX9_allEqual imX9_allEqual seX9_allEqual mkX9_426 rfl rfl rfl rfl rfl (by decide) rfl rfl dX9_equivalences_12 (CX9_allEqual E t  h2) (fun v5 h6 => kqI ?_)
    exact S_drop [0] rfl (hj15 _ _)
  · skip
    refine S_ic 7 0 dX9_equivalences_7 (by decide) ?_
    refine S_goto 8 15 dX9_equivalences_8 (by decide) ?_
    exact S_drop [0] rfl (hj15 _ _)
def FX9_onward (E : XG) (t : Nat) (p1 : Int32) (p2 : Int32) (h : XH) : XP Int32 := xlp (fun again5 (s5 : Int32 × Int32) h1 => xg (xk h1 t = 10) <| if ((xi h1 t 4) : Int32) ≤ s5.2 then (xv s5.1 h1) else (xb (FX9_has E p2 s5.2 h1) fun v2 h3 => xjn (fun (v4 : Int32) (h5 : XH) => again5 (v4, (s5.2 + 1)) h5) fun (j73 : Int32 → XH → XP Int32) => if (v2 : Int32) = 0 then (j73 s5.1 h3) else (xg (xk h3 t = 10) <| xnn (xr h3 t 9) fun w6 => xg (xk h3 w6 = 12 ∧ xin s5.2 (xn h3 w6)) <| xb (FX9_has E p1 (xi h3 w6 (s5.2 : Int32).toNatClampNeg) h3) fun v7 h8 => xjn (fun  (h9 : XH) => xg (xk h9 t = 10) <| xnn (xr h9 t 9) fun w10 => xg (xk h9 w10 = 12 ∧ xin s5.2 (xn h9 w10)) <| xg (xk h9 t = 10) <| xnn (xr h9 t 10) fun w11 => xg (xk h9 w11 = 12 ∧ xin s5.2 (xn h9 w11)) <| xlt (s5.1 ||| ((1 <<< ((xi h9 w10 (s5.2 : Int32).toNatClampNeg) &&& 31)) ||| (1 <<< ((xi h9 w11 (s5.2 : Int32).toNatClampNeg) &&& 31)))) fun v12 => j73 v12 h9) fun (j51 : XH → XP Int32) => if (v7 : Int32) = 0 then (xg (xk h8 t = 10) <| xnn (xr h8 t 10) fun w13 => xg (xk h8 w13 = 12 ∧ xin s5.2 (xn h8 w13)) <| xb (FX9_has E p1 (xi h8 w13 (s5.2 : Int32).toNatClampNeg) h8) fun v14 h15 => if (v14 : Int32) = 0 then (j73 s5.1 h15) else (j51 h15)) else (j51 h8)))) xfu (p1, 0) h
theorem CX9_onward (E : XG) (t : Nat) (p1 : Int32) (p2 : Int32) (h : XH) : XN E mX9_onward eI 0 0 [.ref t, .int p1, .int p2] h (FX9_onward E t p1 p2 h) := by
  unfold FX9_onward
  refine S_enter (L := [some (.ref t), some (.int p1), some (.int p2), none, none]) (by decide +kernel) rfl rfl rfl ?_
  refine S_iload_1 0 dX9_onward_0 ?_
  refine S_istore_3 1 dX9_onward_1 rfl ?_
  refine S_ic 2 0 dX9_onward_2 (by decide) ?_
  refine S_istore_4 3 dX9_onward_3 rfl ?_
  refine S_loop (fun (s5 : Int32 × Int32) => [some (.ref t), some (.int p1), some (.int p2), some (.int s5.1), some (.int s5.2)]) (fun again5 hg5 s5 h1 => ?_) xfu _ _
  refine S_iload_4 5 dX9_onward_5 ?_
  refine S_aload_0 7 dX9_onward_7 ?_
  refine S_getI 8 fsX9_262 rfl dX9_onward_8 ?_
  refine S_icmpge 11 79 dX9_onward_11 (by decide) ?_ ?_
  · skip
    refine S_iload_3 79 dX9_onward_79 ?_
    exact S_iret 80 dX9_onward_80 rfl
  · skip
    refine S_iload_2 14 dX9_onward_14 ?_
    refine S_iload_4 15 dX9_onward_15 ?_
    refine S_callS (a' := 0) (b' := 0) (a := 0) (b := 0) 17 (As := [.int p2, .int s5.2]) rfl calX9_has stX9_has mkX9_221 rfl rfl rfl rfl rfl dX9_onward_17 (CX9_has E p2 s5.2 h1) (fun v2 h3 => kqI ?_)
    refine S_join (fun jj => ∀ (v4 : Int32) (h5 : XH), XS E mX9_onward eI 0 0 73 [some (.ref t), some (.int p1), some (.int p2), some (.int v4), some (.int s5.2)] [] h5 (jj v4 h5)) (fun v4 h5 => ?_) (fun j73 hj73 => ?_)
    · skip
      refine S_iinc_4 73 (s5.2 + 1) dX9_onward_73 (by rfl) rfl ?_
      refine S_goto 76 5 dX9_onward_76 (by decide) ?_
      exact S_drop [] rfl (hg5 _ _)
    refine S_ifeq 20 73 dX9_onward_20 (by decide) ?_ ?_
    · skip
      exact S_drop [] rfl (hj73 _ _)
    · skip
      refine S_iload_1 23 dX9_onward_23 ?_
      refine S_aload_0 24 dX9_onward_24 ?_
      refine S_getR 25 fsX9_22 rfl dX9_onward_25 (fun w6 => ?_)
      refine S_iload_4 28 dX9_onward_28 ?_
      refine S_iald 30 dX9_onward_30 ?_
      refine S_callS (a' := 0) (b' := 0) (a := 0) (b := 0) 31 (As := [.int p1, .int (xi h3 w6 (s5.2 : Int32).toNatClampNeg)]) rfl calX9_has stX9_has mkX9_221 rfl rfl rfl rfl rfl dX9_onward_31 (CX9_has E p1 (xi h3 w6 (s5.2 : Int32).toNatClampNeg) h3) (fun v7 h8 => kqI ?_)
      refine S_join (fun jj => ∀  (h9 : XH), XS E mX9_onward eI 0 0 51 [some (.ref t), some (.int p1), some (.int p2), some (.int s5.1), some (.int s5.2)] [] h9 (jj  h9)) (fun  h9 => ?_) (fun j51 hj51 => ?_)
      · skip
        refine S_iload_3 51 dX9_onward_51 ?_
        refine S_ic 52 1 dX9_onward_52 (by decide) ?_
        refine S_aload_0 53 dX9_onward_53 ?_
        refine S_getR 54 fsX9_22 rfl dX9_onward_54 (fun w10 => ?_)
        refine S_iload_4 57 dX9_onward_57 ?_
        refine S_iald 59 dX9_onward_59 ?_
        refine S_ishl 60 dX9_onward_60 ?_
        refine S_ic 61 1 dX9_onward_61 (by decide) ?_
        refine S_aload_0 62 dX9_onward_62 ?_
        refine S_getR 63 fsX9_25 rfl dX9_onward_63 (fun w11 => ?_)
        refine S_iload_4 66 dX9_onward_66 ?_
        refine S_iald 68 dX9_onward_68 ?_
        refine S_ishl 69 dX9_onward_69 ?_
        refine S_ior 70 dX9_onward_70 ?_
        refine S_ior 71 dX9_onward_71 ?_
        refine S_gen (fun v12 => ?_)
        refine S_istore_3 72 dX9_onward_72 rfl ?_
        exact S_drop [] rfl (hj73 _ _)
      refine S_ifne 34 51 dX9_onward_34 (by decide) ?_ ?_
      · skip
        exact S_drop [] rfl (hj51 _)
      · skip
        refine S_iload_1 37 dX9_onward_37 ?_
        refine S_aload_0 38 dX9_onward_38 ?_
        refine S_getR 39 fsX9_25 rfl dX9_onward_39 (fun w13 => ?_)
        refine S_iload_4 42 dX9_onward_42 ?_
        refine S_iald 44 dX9_onward_44 ?_
        refine S_callS (a' := 0) (b' := 0) (a := 0) (b := 0) 45 (As := [.int p1, .int (xi h8 w13 (s5.2 : Int32).toNatClampNeg)]) rfl calX9_has stX9_has mkX9_221 rfl rfl rfl rfl rfl dX9_onward_45 (CX9_has E p1 (xi h8 w13 (s5.2 : Int32).toNatClampNeg) h8) (fun v14 h15 => kqI ?_)
        refine S_ifeq 48 73 dX9_onward_48 (by decide) ?_ ?_
        · skip
          exact S_drop [] rfl (hj73 _ _)
        · skip
          exact S_drop [] rfl (hj51 _)
def FX9_ladder (E : XG) (t : Nat) (p1 : Int32) (p2 : Int32) (h : XH) : XP Int32 := xg (xk h t = 10) <| xb (FX9_noModule E t p1 h) fun v1 h2 => xjn (fun  (h3 : XH) => xv 0 h3) fun (j16 : XH → XP Int32) => if (v1 : Int32) = 0 then (xg (xk h2 t = 10) <| xb (FX9_noModule E t p2 h2) fun v4 h5 => if (v4 : Int32) = 0 then (xg (xk h5 t = 10) <| xb (FX9_allEqual E t  h5) fun v6 h7 => xlt (1 <<< (p1 &&& 31)) fun v8 => xlp (fun again31 (s31 : Int32 × Int32) h9 => if (6 : Int32) < s31.2 then (xv (-1) h9) else (xb (FX9_has E s31.1 p2 h9) fun v10 h11 => if (v10 : Int32) = 0 then (xg (xk h11 t = 10) <| xb (FX9_onward E t s31.1 v6 h11) fun v12 h13 => again31 (v12, (s31.2 + 1)) h13) else (xv s31.2 h11))) xfu (v8, 0) h7) else (j16 h5)) else (j16 h2)
theorem CX9_ladder (E : XG) (t : Nat) (p1 : Int32) (p2 : Int32) (h : XH) : XN E mX9_ladder eI 0 0 [.ref t, .int p1, .int p2] h (FX9_ladder E t p1 p2 h) := by
  unfold FX9_ladder
  refine S_enter (L := [some (.ref t), some (.int p1), some (.int p2), none, none, none]) (by decide +kernel) rfl rfl rfl ?_
  refine S_aload_0 0 dX9_ladder_0 ?_
  refine S_iload_1 1 dX9_ladder_1 ?_
  refine S_callV (a' := 0) (b' := 0) (a := 0) (b := 0) 2 (As := [.int p1]) (ci := 9) rfl calX9_noModule imX9_noModule seX9_noModule mkX9_308 rfl rfl rfl rfl rfl (by decide) rfl rfl dX9_ladder_2 (CX9_noModule E t p1 h) (fun v1 h2 => kqI ?_)
  refine S_join (fun jj => ∀  (h3 : XH), XS E mX9_ladder eI 0 0 16 [none, none, none, none, none, none] [] h3 (jj  h3)) (fun  h3 => ?_) (fun j16 hj16 => ?_)
  · skip
    refine S_ic 16 0 dX9_ladder_16 (by decide) ?_
    exact S_iret 17 dX9_ladder_17 rfl
  refine S_ifne 5 16 dX9_ladder_5 (by decide) ?_ ?_
  · skip
    exact S_drop [0, 1, 2] rfl (hj16 _)
  · skip
    refine S_aload_0 8 dX9_ladder_8 ?_
    refine S_iload_2 9 dX9_ladder_9 ?_
    refine S_callV (a' := 0) (b' := 0) (a := 0) (b := 0) 10 (As := [.int p2]) (ci := 9) rfl calX9_noModule imX9_noModule seX9_noModule mkX9_308 rfl rfl rfl rfl rfl (by decide) rfl rfl dX9_ladder_10 (CX9_noModule E t p2 h2) (fun v4 h5 => kqI ?_)
    refine S_ifeq 13 18 dX9_ladder_13 (by decide) ?_ ?_
    · skip
      refine S_aload_0 18 dX9_ladder_18 ?_
      refine S_callV (a' := 0) (b' := 0) (a := 0) (b := 0) 19 (As := []) (ci := 9) rfl calX9_allEqual imX9_allEqual seX9_allEqual mkX9_426 rfl rfl rfl rfl rfl (by decide) rfl rfl dX9_ladder_19 (CX9_allEqual E t  h5) (fun v6 h7 => kqI ?_)
      refine S_istore_3 22 dX9_ladder_22 rfl ?_
      refine S_ic 23 1 dX9_ladder_23 (by decide) ?_
      refine S_iload_1 24 dX9_ladder_24 ?_
      refine S_ishl 25 dX9_ladder_25 ?_
      refine S_gen (fun v8 => ?_)
      refine S_istore_4 26 dX9_ladder_26 rfl ?_
      refine S_ic 28 0 dX9_ladder_28 (by decide) ?_
      refine S_istore_5 29 dX9_ladder_29 rfl ?_
      refine S_drop [1] rfl ?_
      refine S_loop (fun (s31 : Int32 × Int32) => [some (.ref t), none, some (.int p2), some (.int v6), some (.int s31.1), some (.int s31.2)]) (fun again31 hg31 s31 h9 => ?_) xfu _ _
      refine S_iload_5 31 dX9_ladder_31 ?_
      refine S_bip 33 6 dX9_ladder_33 (by decide) ?_
      refine S_icmpgt 35 65 dX9_ladder_35 (by decide) ?_ ?_
      · skip
        refine S_ic 65 (-1) dX9_ladder_65 (by decide) ?_
        exact S_iret 66 dX9_ladder_66 rfl
      · skip
        refine S_iload_4 38 dX9_ladder_38 ?_
        refine S_iload_2 40 dX9_ladder_40 ?_
        refine S_callS (a' := 0) (b' := 0) (a := 0) (b := 0) 41 (As := [.int s31.1, .int p2]) rfl calX9_has stX9_has mkX9_221 rfl rfl rfl rfl rfl dX9_ladder_41 (CX9_has E s31.1 p2 h9) (fun v10 h11 => kqI ?_)
        refine S_ifeq 44 50 dX9_ladder_44 (by decide) ?_ ?_
        · skip
          refine S_aload_0 50 dX9_ladder_50 ?_
          refine S_iload_4 51 dX9_ladder_51 ?_
          refine S_iload_3 53 dX9_ladder_53 ?_
          refine S_callV (a' := 0) (b' := 0) (a := 0) (b := 0) 54 (As := [.int s31.1, .int v6]) (ci := 9) rfl calX9_onward imX9_onward seX9_onward mkX9_429 rfl rfl rfl rfl rfl (by decide) rfl rfl dX9_ladder_54 (CX9_onward E t s31.1 v6 h11) (fun v12 h13 => kqI ?_)
          refine S_istore_4 57 dX9_ladder_57 rfl ?_
          refine S_iinc_5 59 (s31.2 + 1) dX9_ladder_59 (by rfl) rfl ?_
          refine S_goto 62 31 dX9_ladder_62 (by decide) ?_
          exact S_drop [] rfl (hg31 _ _)
        · skip
          refine S_iload_5 47 dX9_ladder_47 ?_
          exact S_iret 49 dX9_ladder_49 rfl
    · skip
      exact S_drop [0, 1, 2] rfl (hj16 _)
def FX9_joined (E : XG) (t : Nat) (p1 : Int32) (h : XH) : XP Int32 := xg (xk h t = 10) <| xb (FX9_noModule E t p1 h) fun v1 h2 => if (v1 : Int32) = 0 then (xg (xk h2 t = 10) <| xb (FX9_allEqual E t  h2) fun v3 h4 => xlt (1 <<< (p1 &&& 31)) fun v5 => xlp (fun again22 (s22 : Int32 × Int32) h6 => if (6 : Int32) ≤ s22.2 then (xv s22.1 h6) else (xg (xk h6 t = 10) <| xb (FX9_onward E t s22.1 v3 h6) fun v7 h8 => again22 (v7, (s22.2 + 1)) h8)) xfu (v5, 0) h4) else (xv 0 h2)
theorem CX9_joined (E : XG) (t : Nat) (p1 : Int32) (h : XH) : XN E mX9_joined eI 0 0 [.ref t, .int p1] h (FX9_joined E t p1 h) := by
  unfold FX9_joined
  refine S_enter (L := [some (.ref t), some (.int p1), none, none, none]) (by decide +kernel) rfl rfl rfl ?_
  refine S_aload_0 0 dX9_joined_0 ?_
  refine S_iload_1 1 dX9_joined_1 ?_
  refine S_callV (a' := 0) (b' := 0) (a := 0) (b := 0) 2 (As := [.int p1]) (ci := 9) rfl calX9_noModule imX9_noModule seX9_noModule mkX9_308 rfl rfl rfl rfl rfl (by decide) rfl rfl dX9_joined_2 (CX9_noModule E t p1 h) (fun v1 h2 => kqI ?_)
  refine S_ifeq 5 10 dX9_joined_5 (by decide) ?_ ?_
  · skip
    refine S_aload_0 10 dX9_joined_10 ?_
    refine S_callV (a' := 0) (b' := 0) (a := 0) (b := 0) 11 (As := []) (ci := 9) rfl calX9_allEqual imX9_allEqual seX9_allEqual mkX9_426 rfl rfl rfl rfl rfl (by decide) rfl rfl dX9_joined_11 (CX9_allEqual E t  h2) (fun v3 h4 => kqI ?_)
    refine S_istore_2 14 dX9_joined_14 rfl ?_
    refine S_ic 15 1 dX9_joined_15 (by decide) ?_
    refine S_iload_1 16 dX9_joined_16 ?_
    refine S_ishl 17 dX9_joined_17 ?_
    refine S_gen (fun v5 => ?_)
    refine S_istore_3 18 dX9_joined_18 rfl ?_
    refine S_ic 19 0 dX9_joined_19 (by decide) ?_
    refine S_istore_4 20 dX9_joined_20 rfl ?_
    refine S_drop [1] rfl ?_
    refine S_loop (fun (s22 : Int32 × Int32) => [some (.ref t), none, some (.int v3), some (.int s22.1), some (.int s22.2)]) (fun again22 hg22 s22 h6 => ?_) xfu _ _
    refine S_iload_4 22 dX9_joined_22 ?_
    refine S_bip 24 6 dX9_joined_24 (by decide) ?_
    refine S_icmpge 26 42 dX9_joined_26 (by decide) ?_ ?_
    · skip
      refine S_iload_3 42 dX9_joined_42 ?_
      exact S_iret 43 dX9_joined_43 rfl
    · skip
      refine S_aload_0 29 dX9_joined_29 ?_
      refine S_iload_3 30 dX9_joined_30 ?_
      refine S_iload_2 31 dX9_joined_31 ?_
      refine S_callV (a' := 0) (b' := 0) (a := 0) (b := 0) 32 (As := [.int s22.1, .int v3]) (ci := 9) rfl calX9_onward imX9_onward seX9_onward mkX9_429 rfl rfl rfl rfl rfl (by decide) rfl rfl dX9_joined_32 (CX9_onward E t s22.1 v3 h6) (fun v7 h8 => kqI ?_)
      refine S_istore_3 35 dX9_joined_35 rfl ?_
      refine S_iinc_4 36 (s22.2 + 1) dX9_joined_36 (by rfl) rfl ?_
      refine S_goto 39 22 dX9_joined_39 (by decide) ?_
      exact S_drop [] rfl (hg22 _ _)
  · skip
    refine S_ic 8 0 dX9_joined_8 (by decide) ?_
    exact S_iret 9 dX9_joined_9 rfl
def FX9_through (E : XG) (t : Nat) (p1 : Int32) (p2 : Int32) (p3 : Int32) (h : XH) : XP Int32 := xg (xk h t = 10) <| xb (FX9_noTop E t p1 p3 h) fun v1 h2 => xjn (fun  (h3 : XH) => xv 0 h3) fun (j45 : XH → XP Int32) => if (v1 : Int32) = 0 then (xg (xk h2 t = 10) <| xb (FX9_noArrow E t p2 h2) fun v4 h5 => if (v4 : Int32) = 0 then (xg (xk h5 t = 10) <| xnn (xr h5 t 9) fun w6 => xg (xk h5 w6 = 12 ∧ xin p2 (xn h5 w6)) <| xg (xk h5 t = 10) <| xnn (xr h5 t 10) fun w7 => xg (xk h5 w7 = 12 ∧ xin p1 (xn h5 w7)) <| xjn (fun (v8 : Int32) (h9 : XH) => xg (xk h9 t = 10) <| xb (FX9_refuse E t v8 3 h9) fun v10 h11 => if (v10 : Int32) = 0 then (xg (xk h11 t = 10) <| xb (FX9_topOf E t p1 p3 h11) fun v12 h13 => xg (xk h13 t = 10) <| xb (FX9_topOf E t p2 v12 h13) fun v14 h15 => xv v14 h15) else (j45 h11)) fun (j38 : Int32 → XH → XP Int32) => if ((xi h5 w6 (p2 : Int32).toNatClampNeg) : Int32) = (xi h5 w7 (p1 : Int32).toNatClampNeg) then (j38 0 h5) else (j38 1 h5)) else (j45 h5)) else (j45 h2)
theorem CX9_through (E : XG) (t : Nat) (p1 : Int32) (p2 : Int32) (p3 : Int32) (h : XH) : XN E mX9_through eI 0 0 [.ref t, .int p1, .int p2, .int p3] h (FX9_through E t p1 p2 p3 h) := by
  unfold FX9_through
  refine S_enter (L := [some (.ref t), some (.int p1), some (.int p2), some (.int p3)]) (by decide +kernel) rfl rfl rfl ?_
  refine S_aload_0 0 dX9_through_0 ?_
  refine S_iload_1 1 dX9_through_1 ?_
  refine S_iload_3 2 dX9_through_2 ?_
  refine S_callV (a' := 0) (b' := 0) (a := 0) (b := 0) 3 (As := [.int p1, .int p3]) (ci := 9) rfl calX9_noTop imX9_noTop seX9_noTop mkX9_393 rfl rfl rfl rfl rfl (by decide) rfl rfl dX9_through_3 (CX9_noTop E t p1 p3 h) (fun v1 h2 => kqI ?_)
  refine S_join (fun jj => ∀  (h3 : XH), XS E mX9_through eI 0 0 45 [none, none, none, none] [] h3 (jj  h3)) (fun  h3 => ?_) (fun j45 hj45 => ?_)
  · skip
    refine S_ic 45 0 dX9_through_45 (by decide) ?_
    exact S_iret 46 dX9_through_46 rfl
  refine S_ifne 6 45 dX9_through_6 (by decide) ?_ ?_
  · skip
    exact S_drop [0, 1, 2, 3] rfl (hj45 _)
  · skip
    refine S_aload_0 9 dX9_through_9 ?_
    refine S_iload_2 10 dX9_through_10 ?_
    refine S_callV (a' := 0) (b' := 0) (a := 0) (b := 0) 11 (As := [.int p2]) (ci := 9) rfl calX9_noArrow imX9_noArrow seX9_noArrow mkX9_390 rfl rfl rfl rfl rfl (by decide) rfl rfl dX9_through_11 (CX9_noArrow E t p2 h2) (fun v4 h5 => kqI ?_)
    refine S_ifne 14 45 dX9_through_14 (by decide) ?_ ?_
    · skip
      exact S_drop [0, 1, 2, 3] rfl (hj45 _)
    · skip
      refine S_aload_0 17 dX9_through_17 ?_
      refine S_aload_0 18 dX9_through_18 ?_
      refine S_getR 19 fsX9_22 rfl dX9_through_19 (fun w6 => ?_)
      refine S_iload_2 22 dX9_through_22 ?_
      refine S_iald 23 dX9_through_23 ?_
      refine S_aload_0 24 dX9_through_24 ?_
      refine S_getR 25 fsX9_25 rfl dX9_through_25 (fun w7 => ?_)
      refine S_iload_1 28 dX9_through_28 ?_
      refine S_iald 29 dX9_through_29 ?_
      refine S_join (fun jj => ∀ (v8 : Int32) (h9 : XH), XS E mX9_through eI 0 0 38 [some (.ref t), some (.int p1), some (.int p2), some (.int p3)] [.int v8, .ref t] h9 (jj v8 h9)) (fun v8 h9 => ?_) (fun j38 hj38 => ?_)
      · skip
        refine S_ic 38 3 dX9_through_38 (by decide) ?_
        refine S_callV (a' := 0) (b' := 0) (a := 0) (b := 0) 39 (As := [.int v8, .int 3]) (ci := 9) rfl calX9_refuse imX9_refuse seX9_refuse mkX9_94 rfl rfl rfl rfl rfl (by decide) rfl rfl dX9_through_39 (CX9_refuse E t v8 3 h9) (fun v10 h11 => kqI ?_)
        refine S_ifeq 42 47 dX9_through_42 (by decide) ?_ ?_
        · skip
          refine S_aload_0 47 dX9_through_47 ?_
          refine S_iload_2 48 dX9_through_48 ?_
          refine S_aload_0 49 dX9_through_49 ?_
          refine S_iload_1 50 dX9_through_50 ?_
          refine S_iload_3 51 dX9_through_51 ?_
          refine S_callV (a' := 0) (b' := 0) (a := 0) (b := 0) 52 (As := [.int p1, .int p3]) (ci := 9) rfl calX9_topOf imX9_topOf seX9_topOf mkX9_396 rfl rfl rfl rfl rfl (by decide) rfl rfl dX9_through_52 (CX9_topOf E t p1 p3 h11) (fun v12 h13 => kqI ?_)
          refine S_callV (a' := 0) (b' := 0) (a := 0) (b := 0) 55 (As := [.int p2, .int v12]) (ci := 9) rfl calX9_topOf imX9_topOf seX9_topOf mkX9_396 rfl rfl rfl rfl rfl (by decide) rfl rfl dX9_through_55 (CX9_topOf E t p2 v12 h13) (fun v14 h15 => kqI ?_)
          exact S_iret 58 dX9_through_58 rfl
        · skip
          exact S_drop [0, 1, 2, 3] rfl (hj45 _)
      refine S_icmpeq 30 37 dX9_through_30 (by decide) ?_ ?_
      · skip
        refine S_ic 37 0 dX9_through_37 (by decide) ?_
        exact S_drop [] rfl (hj38 _ _)
      · skip
        refine S_ic 33 1 dX9_through_33 (by decide) ?_
        refine S_goto 34 38 dX9_through_34 (by decide) ?_
        exact S_drop [] rfl (hj38 _ _)
def FX9_account (E : XG) (t : Nat) (p1 : Int32) (h : XH) : XP Int32 := xg (xk h t = 10) <| xb (FX9_notLoaded E t  h) fun v1 h2 => xjn (fun (v3 : Int32) (h4 : XH) => xv v3 h4) fun (j43 : Int32 → XH → XP Int32) => xjn (fun  (h5 : XH) => j43 0 h5) fun (j29 : XH → XP Int32) => if (v1 : Int32) = 0 then (xb (FX9_in E p1 0 2 h2) fun v6 h7 => xjn (fun (v8 : Int32) (h9 : XH) => xg (xk h9 t = 10) <| xb (FX9_refuse E t v8 2 h9) fun v10 h11 => if (v10 : Int32) = 0 then (xg (xk h11 t = 10) <| xnn (xr h11 t 12) fun w12 => xg (xk h11 w12 = 12 ∧ xin (560 + p1) (xn h11 w12)) <| j43 (xi h11 w12 ((560 + p1) : Int32).toNatClampNeg) h11) else (j29 h11)) fun (j22 : Int32 → XH → XP Int32) => if (v6 : Int32) = 0 then (j22 1 h7) else (j22 0 h7)) else (j29 h2)
theorem CX9_account (E : XG) (t : Nat) (p1 : Int32) (h : XH) : XN E mX9_account eI 0 0 [.ref t, .int p1] h (FX9_account E t p1 h) := by
  unfold FX9_account
  refine S_enter (L := [some (.ref t), some (.int p1)]) (by decide +kernel) rfl rfl rfl ?_
  refine S_aload_0 0 dX9_account_0 ?_
  refine S_callV (a' := 0) (b' := 0) (a := 0) (b := 0) 1 (As := []) (ci := 9) rfl calX9_notLoaded imX9_notLoaded seX9_notLoaded mkX9_272 rfl rfl rfl rfl rfl (by decide) rfl rfl dX9_account_1 (CX9_notLoaded E t  h) (fun v1 h2 => kqI ?_)
  refine S_join (fun jj => ∀ (v3 : Int32) (h4 : XH), XS E mX9_account eI 0 0 43 [none, none] [.int v3] h4 (jj v3 h4)) (fun v3 h4 => ?_) (fun j43 hj43 => ?_)
  · skip
    exact S_iret 43 dX9_account_43 rfl
  refine S_join (fun jj => ∀  (h5 : XH), XS E mX9_account eI 0 0 29 [none, none] [] h5 (jj  h5)) (fun  h5 => ?_) (fun j29 hj29 => ?_)
  · skip
    refine S_ic 29 0 dX9_account_29 (by decide) ?_
    refine S_goto 30 43 dX9_account_30 (by decide) ?_
    exact S_drop [] rfl (hj43 _ _)
  refine S_ifne 4 29 dX9_account_4 (by decide) ?_ ?_
  · skip
    exact S_drop [0, 1] rfl (hj29 _)
  · skip
    refine S_aload_0 7 dX9_account_7 ?_
    refine S_iload_1 8 dX9_account_8 ?_
    refine S_ic 9 0 dX9_account_9 (by decide) ?_
    refine S_ic 10 2 dX9_account_10 (by decide) ?_
    refine S_callS (a' := 0) (b' := 0) (a := 0) (b := 0) 11 (As := [.int p1, .int 0, .int 2]) rfl calX9_in stX9_in mkX9_152 rfl rfl rfl rfl rfl dX9_account_11 (CX9_in E p1 0 2 h2) (fun v6 h7 => kqI ?_)
    refine S_join (fun jj => ∀ (v8 : Int32) (h9 : XH), XS E mX9_account eI 0 0 22 [some (.ref t), some (.int p1)] [.int v8, .ref t] h9 (jj v8 h9)) (fun v8 h9 => ?_) (fun j22 hj22 => ?_)
    · skip
      refine S_ic 22 2 dX9_account_22 (by decide) ?_
      refine S_callV (a' := 0) (b' := 0) (a := 0) (b := 0) 23 (As := [.int v8, .int 2]) (ci := 9) rfl calX9_refuse imX9_refuse seX9_refuse mkX9_94 rfl rfl rfl rfl rfl (by decide) rfl rfl dX9_account_23 (CX9_refuse E t v8 2 h9) (fun v10 h11 => kqI ?_)
      refine S_ifeq 26 33 dX9_account_26 (by decide) ?_ ?_
      · skip
        refine S_aload_0 33 dX9_account_33 ?_
        refine S_getR 34 fsX9_31 rfl dX9_account_34 (fun w12 => ?_)
        refine S_sip 37 560 dX9_account_37 (by decide) ?_
        refine S_iload_1 40 dX9_account_40 ?_
        refine S_iadd 41 dX9_account_41 ?_
        refine S_iald 42 dX9_account_42 ?_
        exact S_drop [0, 1] rfl (hj43 _ _)
      · skip
        exact S_drop [0, 1] rfl (hj29 _)
    refine S_ifne 14 21 dX9_account_14 (by decide) ?_ ?_
    · skip
      refine S_ic 21 0 dX9_account_21 (by decide) ?_
      exact S_drop [] rfl (hj22 _ _)
    · skip
      refine S_ic 17 1 dX9_account_17 (by decide) ?_
      refine S_goto 18 22 dX9_account_18 (by decide) ?_
      exact S_drop [] rfl (hj22 _ _)
