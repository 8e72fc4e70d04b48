/-! Methods as functions, 18. -/
set_option linter.unusedVariables false
set_option maxRecDepth 10000
def FX9_says (E : XG) (t : Nat) (p1 : Int32) (h : XH) : XP Unit := xg (xk h t = 10) <| xnn (xr h t 42) fun w1 => xg (xk h t = 10) <| xg (xk h w1 = 12 ∧ xin (xi h t 43) (xn h w1)) <| xlt (yi h w1 ((xi h t 43) : Int32).toNatClampNeg p1) fun h2 => xg (xk h2 t = 10) <| xg (xk h2 t = 10) <| xlt (yi h2 t 43 ((xi h2 t 43) + 1)) fun h3 => xv () h3
theorem CX9_says (E : XG) (t : Nat) (p1 : Int32) (h : XH) : XN E mX9_says eU 0 0 [.ref t, .int p1] h (FX9_says E t p1 h) := by
  unfold FX9_says
  refine S_enter (L := [some (.ref t), some (.int p1)]) (by decide +kernel) rfl rfl rfl ?_
  refine S_aload_0 0 dX9_says_0 ?_
  refine S_getR 1 fsX9_84 rfl dX9_says_1 (fun w1 => ?_)
  refine S_aload_0 4 dX9_says_4 ?_
  refine S_getI 5 fsX9_432 rfl dX9_says_5 ?_
  refine S_iload_1 8 dX9_says_8 ?_
  refine S_iast 9 dX9_says_9 (fun h2 => ?_)
  refine S_aload_0 10 dX9_says_10 ?_
  refine S_dup 11 dX9_says_11 rfl ?_
  refine S_getI 12 fsX9_432 rfl dX9_says_12 ?_
  refine S_ic 15 1 dX9_says_15 (by decide) ?_
  refine S_iadd 16 dX9_says_16 ?_
  refine S_putI 17 frX9_432 rfl (fun q => by cases q) dX9_says_17 (fun h3 => ?_)
  exact S_ret 20 dX9_says_20 rfl
def FX9_writeModule (E : XG) (t : Nat) (p1 : Int32) (h : XH) : XP Int32 := xg (xk h t = 10) <| xb (FX9_noModule E t p1 h) fun v1 h2 => if (v1 : Int32) = 0 then (xg (xk h2 t = 10) <| xlt (yi h2 t 43 0) fun h3 => xlp (fun again17 (s17 : Int32) h4 => xg (xk h4 t = 10) <| xb (FX9_nameLong E t (6 + p1) h4) fun v5 h6 => if (v5 : Int32) ≤ s17 then (xlp (fun again55 (s55 : Int32) h7 => xg (xk h7 t = 10) <| xb (FX9_uppers E t p1 h7) fun v8 h9 => if (v8 : Int32) ≤ s55 then (xg (xk h9 t = 10) <| xb (FX9_whyOf E t p1 h9) fun v10 h11 => xjn (fun  (h12 : XH) => xg (xk h12 t = 10) <| xv (xi h12 t 43) h12) fun (j122 : XH → XP Int32) => if (v10 : Int32) = 0 then (j122 h11) else (xg (xk h11 t = 10) <| xb (FX9_says E t 59 h11) fun _ h13 => xg (xk h13 t = 10) <| xb (FX9_says E t (48 + v10) h13) fun _ h14 => j122 h14)) else (xjn (fun (v15 : Int32) (h16 : XH) => xg (xk h16 t = 10) <| xb (FX9_says E t v15 h16) fun _ h17 => xg (xk h17 t = 10) <| xb (FX9_boundaryOf E t p1 s55 h17) fun v18 h19 => xg (xk h19 t = 10) <| xb (FX9_says E t (48 + v18) h19) fun _ h20 => again55 (s55 + 1) h20) fun (j76 : Int32 → XH → XP Int32) => if (s55 : Int32) = 0 then (j76 58 h9) else (j76 44 h9))) xfu 0 h6) else (xg (xk h6 t = 10) <| xnn (xr h6 t 11) fun w21 => xg (xk h6 w21 = 12 ∧ xin ((10 * (6 + p1)) + s17) (xn h6 w21)) <| xg (xk h6 t = 10) <| xb (FX9_says E t (xi h6 w21 (((10 * (6 + p1)) + s17) : Int32).toNatClampNeg) h6) fun _ h22 => again17 (s17 + 1) h22)) xfu 0 h3) else (xv 0 h2)
theorem CX9_writeModule (E : XG) (t : Nat) (p1 : Int32) (h : XH) : XN E mX9_writeModule eI 0 0 [.ref t, .int p1] h (FX9_writeModule E t p1 h) := by
  unfold FX9_writeModule
  refine S_enter (L := [some (.ref t), some (.int p1), none]) (by decide +kernel) rfl rfl rfl ?_
  refine S_aload_0 0 dX9_writeModule_0 ?_
  refine S_iload_1 1 dX9_writeModule_1 ?_
  refine S_callV (a' := 0) (b' := 0) (a := 0) (b := 0) 2 (As := [.int p1]) (ci := 9) rfl calX9_noModule imX9_noModule seX9_noModule mkX9_308 rfl rfl rfl rfl rfl (by decide) rfl rfl dX9_writeModule_2 (CX9_noModule E t p1 h) (fun v1 h2 => kqI ?_)
  refine S_ifeq 5 10 dX9_writeModule_5 (by decide) ?_ ?_
  · skip
    refine S_aload_0 10 dX9_writeModule_10 ?_
    refine S_ic 11 0 dX9_writeModule_11 (by decide) ?_
    refine S_putI 12 frX9_432 rfl (fun q => by cases q) dX9_writeModule_12 (fun h3 => ?_)
    refine S_ic 15 0 dX9_writeModule_15 (by decide) ?_
    refine S_istore_2 16 dX9_writeModule_16 rfl ?_
    refine S_loop (fun (s17 : Int32) => [some (.ref t), some (.int p1), some (.int s17)]) (fun again17 hg17 s17 h4 => ?_) xfu _ _
    refine S_iload_2 17 dX9_writeModule_17 ?_
    refine S_aload_0 18 dX9_writeModule_18 ?_
    refine S_bip 19 6 dX9_writeModule_19 (by decide) ?_
    refine S_iload_1 21 dX9_writeModule_21 ?_
    refine S_iadd 22 dX9_writeModule_22 ?_
    refine S_callV (a' := 0) (b' := 0) (a := 0) (b := 0) 23 (As := [.int (6 + p1)]) (ci := 9) rfl calX9_nameLong imX9_nameLong seX9_nameLong mkX9_276 rfl rfl rfl rfl rfl (by decide) rfl rfl dX9_writeModule_23 (CX9_nameLong E t (6 + p1) h4) (fun v5 h6 => kqI ?_)
    refine S_icmpge 26 53 dX9_writeModule_26 (by decide) ?_ ?_
    · skip
      refine S_ic 53 0 dX9_writeModule_53 (by decide) ?_
      refine S_istore_2 54 dX9_writeModule_54 rfl ?_
      refine S_loop (fun (s55 : Int32) => [some (.ref t), some (.int p1), some (.int s55)]) (fun again55 hg55 s55 h7 => ?_) xfu _ _
      refine S_iload_2 55 dX9_writeModule_55 ?_
      refine S_aload_0 56 dX9_writeModule_56 ?_
      refine S_iload_1 57 dX9_writeModule_57 ?_
      refine S_callV (a' := 0) (b' := 0) (a := 0) (b := 0) 58 (As := [.int p1]) (ci := 9) rfl calX9_uppers imX9_uppers seX9_uppers mkX9_323 rfl rfl rfl rfl rfl (by decide) rfl rfl dX9_writeModule_58 (CX9_uppers E t p1 h7) (fun v8 h9 => kqI ?_)
      refine S_icmpge 61 98 dX9_writeModule_61 (by decide) ?_ ?_
      · skip
        refine S_aload_0 98 dX9_writeModule_98 ?_
        refine S_iload_1 99 dX9_writeModule_99 ?_
        refine S_callV (a' := 0) (b' := 0) (a := 0) (b := 0) 100 (As := [.int p1]) (ci := 9) rfl calX9_whyOf imX9_whyOf seX9_whyOf mkX9_350 rfl rfl rfl rfl rfl (by decide) rfl rfl dX9_writeModule_100 (CX9_whyOf E t p1 h9) (fun v10 h11 => kqI ?_)
        refine S_istore_2 103 dX9_writeModule_103 rfl ?_
        refine S_iload_2 104 dX9_writeModule_104 ?_
        refine S_join (fun jj => ∀  (h12 : XH), XS E mX9_writeModule eI 0 0 122 [some (.ref t), none, none] [] h12 (jj  h12)) (fun  h12 => ?_) (fun j122 hj122 => ?_)
        · skip
          refine S_aload_0 122 dX9_writeModule_122 ?_
          refine S_getI 123 fsX9_432 rfl dX9_writeModule_123 ?_
          exact S_iret 126 dX9_writeModule_126 rfl
        refine S_ifeq 105 122 dX9_writeModule_105 (by decide) ?_ ?_
        · skip
          exact S_drop [1, 2] rfl (hj122 _)
        · skip
          refine S_aload_0 108 dX9_writeModule_108 ?_
          refine S_bip 109 59 dX9_writeModule_109 (by decide) ?_
          refine S_callV (a' := 0) (b' := 0) (a := 0) (b := 0) 111 (As := [.int 59]) (ci := 9) rfl calX9_says imX9_says seX9_says mkX9_435 rfl rfl rfl rfl rfl (by decide) rfl rfl dX9_writeModule_111 (CX9_says E t 59 h11) (fun _ h13 => kqU ?_)
          refine S_aload_0 114 dX9_writeModule_114 ?_
          refine S_bip 115 48 dX9_writeModule_115 (by decide) ?_
          refine S_iload_2 117 dX9_writeModule_117 ?_
          refine S_iadd 118 dX9_writeModule_118 ?_
          refine S_callV (a' := 0) (b' := 0) (a := 0) (b := 0) 119 (As := [.int (48 + v10)]) (ci := 9) rfl calX9_says imX9_says seX9_says mkX9_435 rfl rfl rfl rfl rfl (by decide) rfl rfl dX9_writeModule_119 (CX9_says E t (48 + v10) h13) (fun _ h14 => kqU ?_)
          exact S_drop [1, 2] rfl (hj122 _)
      · skip
        refine S_aload_0 64 dX9_writeModule_64 ?_
        refine S_iload_2 65 dX9_writeModule_65 ?_
        refine S_join (fun jj => ∀ (v15 : Int32) (h16 : XH), XS E mX9_writeModule eI 0 0 76 [some (.ref t), some (.int p1), some (.int s55)] [.int v15, .ref t] h16 (jj v15 h16)) (fun v15 h16 => ?_) (fun j76 hj76 => ?_)
        · skip
          refine S_callV (a' := 0) (b' := 0) (a := 0) (b := 0) 76 (As := [.int v15]) (ci := 9) rfl calX9_says imX9_says seX9_says mkX9_435 rfl rfl rfl rfl rfl (by decide) rfl rfl dX9_writeModule_76 (CX9_says E t v15 h16) (fun _ h17 => kqU ?_)
          refine S_aload_0 79 dX9_writeModule_79 ?_
          refine S_bip 80 48 dX9_writeModule_80 (by decide) ?_
          refine S_aload_0 82 dX9_writeModule_82 ?_
          refine S_iload_1 83 dX9_writeModule_83 ?_
          refine S_iload_2 84 dX9_writeModule_84 ?_
          refine S_callV (a' := 0) (b' := 0) (a := 0) (b := 0) 85 (As := [.int p1, .int s55]) (ci := 9) rfl calX9_boundaryOf imX9_boundaryOf seX9_boundaryOf mkX9_314 rfl rfl rfl rfl rfl (by decide) rfl rfl dX9_writeModule_85 (CX9_boundaryOf E t p1 s55 h17) (fun v18 h19 => kqI ?_)
          refine S_iadd 88 dX9_writeModule_88 ?_
          refine S_callV (a' := 0) (b' := 0) (a := 0) (b := 0) 89 (As := [.int (48 + v18)]) (ci := 9) rfl calX9_says imX9_says seX9_says mkX9_435 rfl rfl rfl rfl rfl (by decide) rfl rfl dX9_writeModule_89 (CX9_says E t (48 + v18) h19) (fun _ h20 => kqU ?_)
          refine S_iinc_2 92 (s55 + 1) dX9_writeModule_92 (by rfl) rfl ?_
          refine S_goto 95 55 dX9_writeModule_95 (by decide) ?_
          exact S_drop [] rfl (hg55 _ _)
        refine S_ifne 66 74 dX9_writeModule_66 (by decide) ?_ ?_
        · skip
          refine S_bip 74 44 dX9_writeModule_74 (by decide) ?_
          exact S_drop [] rfl (hj76 _ _)
        · skip
          refine S_bip 69 58 dX9_writeModule_69 (by decide) ?_
          refine S_goto 71 76 dX9_writeModule_71 (by decide) ?_
          exact S_drop [] rfl (hj76 _ _)
    · skip
      refine S_aload_0 29 dX9_writeModule_29 ?_
      refine S_aload_0 30 dX9_writeModule_30 ?_
      refine S_getR 31 fsX9_28 rfl dX9_writeModule_31 (fun w21 => ?_)
      refine S_bip 34 10 dX9_writeModule_34 (by decide) ?_
      refine S_bip 36 6 dX9_writeModule_36 (by decide) ?_
      refine S_iload_1 38 dX9_writeModule_38 ?_
      refine S_iadd 39 dX9_writeModule_39 ?_
      refine S_imul 40 dX9_writeModule_40 ?_
      refine S_iload_2 41 dX9_writeModule_41 ?_
      refine S_iadd 42 dX9_writeModule_42 ?_
      refine S_iald 43 dX9_writeModule_43 ?_
      refine S_callV (a' := 0) (b' := 0) (a := 0) (b := 0) 44 (As := [.int (xi h6 w21 (((10 * (6 + p1)) + s17) : Int32).toNatClampNeg)]) (ci := 9) rfl calX9_says imX9_says seX9_says mkX9_435 rfl rfl rfl rfl rfl (by decide) rfl rfl dX9_writeModule_44 (CX9_says E t (xi h6 w21 (((10 * (6 + p1)) + s17) : Int32).toNatClampNeg) h6) (fun _ h22 => kqU ?_)
      refine S_iinc_2 47 (s17 + 1) dX9_writeModule_47 (by rfl) rfl ?_
      refine S_goto 50 17 dX9_writeModule_50 (by decide) ?_
      exact S_drop [] rfl (hg17 _ _)
  · skip
    refine S_ic 8 0 dX9_writeModule_8 (by decide) ?_
    exact S_iret 9 dX9_writeModule_9 rfl
def FX9_writeTable (E : XG) (t : Nat) (p1 : Int32) (h : XH) : XP Int32 := xg (xk h t = 10) <| xb (FX9_noGroup E t p1 h) fun v1 h2 => if (v1 : Int32) = 0 then (xg (xk h2 t = 10) <| xlt (yi h2 t 43 0) fun h3 => xlp (fun again17 (s17 : Int32) h4 => xg (xk h4 t = 10) <| xnn (xr h4 t 5) fun w5 => xg (xk h4 w5 = 12 ∧ xin p1 (xn h4 w5)) <| if ((xi h4 w5 (p1 : Int32).toNatClampNeg) : Int32) ≤ s17 then (xg (xk h4 t = 10) <| xv (xi h4 t 43) h4) else (xjn (fun  (h6 : XH) => xlp (fun again39 (s39 : Int32) h7 => xg (xk h7 t = 10) <| xnn (xr h7 t 5) fun w8 => xg (xk h7 w8 = 12 ∧ xin p1 (xn h7 w8)) <| if ((xi h7 w8 (p1 : Int32).toNatClampNeg) : Int32) ≤ s39 then (again17 (s17 + 1) h7) else (xg (xk h7 t = 10) <| xb (FX9_of E t p1 s17 s39 h7) fun v9 h10 => xg (xk h10 t = 10) <| xb (FX9_says E t (48 + v9) h10) fun _ h11 => again39 (s39 + 1) h11)) xfu 0 h6) fun (j37 : XH → XP Int32) => if (s17 : Int32) ≤ 0 then (j37 h4) else (xg (xk h4 t = 10) <| xb (FX9_says E t 47 h4) fun _ h12 => j37 h12))) xfu 0 h3) else (xv 0 h2)
theorem CX9_writeTable (E : XG) (t : Nat) (p1 : Int32) (h : XH) : XN E mX9_writeTable eI 0 0 [.ref t, .int p1] h (FX9_writeTable E t p1 h) := by
  unfold FX9_writeTable
  refine S_enter (L := [some (.ref t), some (.int p1), none, none]) (by decide +kernel) rfl rfl rfl ?_
  refine S_aload_0 0 dX9_writeTable_0 ?_
  refine S_iload_1 1 dX9_writeTable_1 ?_
  refine S_callV (a' := 0) (b' := 0) (a := 0) (b := 0) 2 (As := [.int p1]) (ci := 9) rfl calX9_noGroup imX9_noGroup seX9_noGroup mkX9_279 rfl rfl rfl rfl rfl (by decide) rfl rfl dX9_writeTable_2 (CX9_noGroup E t p1 h) (fun v1 h2 => kqI ?_)
  refine S_ifeq 5 10 dX9_writeTable_5 (by decide) ?_ ?_
  · skip
    refine S_aload_0 10 dX9_writeTable_10 ?_
    refine S_ic 11 0 dX9_writeTable_11 (by decide) ?_
    refine S_putI 12 frX9_432 rfl (fun q => by cases q) dX9_writeTable_12 (fun h3 => ?_)
    refine S_ic 15 0 dX9_writeTable_15 (by decide) ?_
    refine S_istore_2 16 dX9_writeTable_16 rfl ?_
    refine S_loop (fun (s17 : Int32) => [some (.ref t), some (.int p1), some (.int s17), none]) (fun again17 hg17 s17 h4 => ?_) xfu _ _
    refine S_iload_2 17 dX9_writeTable_17 ?_
    refine S_aload_0 18 dX9_writeTable_18 ?_
    refine S_getR 19 fsX9_7 rfl dX9_writeTable_19 (fun w5 => ?_)
    refine S_iload_1 22 dX9_writeTable_22 ?_
    refine S_iald 23 dX9_writeTable_23 ?_
    refine S_icmpge 24 75 dX9_writeTable_24 (by decide) ?_ ?_
    · skip
      refine S_aload_0 75 dX9_writeTable_75 ?_
      refine S_getI 76 fsX9_432 rfl dX9_writeTable_76 ?_
      exact S_iret 79 dX9_writeTable_79 rfl
    · skip
      refine S_iload_2 27 dX9_writeTable_27 ?_
      refine S_join (fun jj => ∀  (h6 : XH), XS E mX9_writeTable eI 0 0 37 [some (.ref t), some (.int p1), some (.int s17), none] [] h6 (jj  h6)) (fun  h6 => ?_) (fun j37 hj37 => ?_)
      · skip
        refine S_ic 37 0 dX9_writeTable_37 (by decide) ?_
        refine S_istore_3 38 dX9_writeTable_38 rfl ?_
        refine S_loop (fun (s39 : Int32) => [some (.ref t), some (.int p1), some (.int s17), some (.int s39)]) (fun again39 hg39 s39 h7 => ?_) xfu _ _
        refine S_iload_3 39 dX9_writeTable_39 ?_
        refine S_aload_0 40 dX9_writeTable_40 ?_
        refine S_getR 41 fsX9_7 rfl dX9_writeTable_41 (fun w8 => ?_)
        refine S_iload_1 44 dX9_writeTable_44 ?_
        refine S_iald 45 dX9_writeTable_45 ?_
        refine S_icmpge 46 69 dX9_writeTable_46 (by decide) ?_ ?_
        · skip
          refine S_iinc_2 69 (s17 + 1) dX9_writeTable_69 (by rfl) rfl ?_
          refine S_goto 72 17 dX9_writeTable_72 (by decide) ?_
          exact S_drop [3] rfl (hg17 _ _)
        · skip
          refine S_aload_0 49 dX9_writeTable_49 ?_
          refine S_bip 50 48 dX9_writeTable_50 (by decide) ?_
          refine S_aload_0 52 dX9_writeTable_52 ?_
          refine S_iload_1 53 dX9_writeTable_53 ?_
          refine S_iload_2 54 dX9_writeTable_54 ?_
          refine S_iload_3 55 dX9_writeTable_55 ?_
          refine S_callV (a' := 0) (b' := 0) (a := 0) (b := 0) 56 (As := [.int p1, .int s17, .int s39]) (ci := 9) rfl calX9_of imX9_of seX9_of mkX9_285 rfl rfl rfl rfl rfl (by decide) rfl rfl dX9_writeTable_56 (CX9_of E t p1 s17 s39 h7) (fun v9 h10 => kqI ?_)
          refine S_iadd 59 dX9_writeTable_59 ?_
          refine S_callV (a' := 0) (b' := 0) (a := 0) (b := 0) 60 (As := [.int (48 + v9)]) (ci := 9) rfl calX9_says imX9_says seX9_says mkX9_435 rfl rfl rfl rfl rfl (by decide) rfl rfl dX9_writeTable_60 (CX9_says E t (48 + v9) h10) (fun _ h11 => kqU ?_)
          refine S_iinc_3 63 (s39 + 1) dX9_writeTable_63 (by rfl) rfl ?_
          refine S_goto 66 39 dX9_writeTable_66 (by decide) ?_
          exact S_drop [] rfl (hg39 _ _)
      refine S_ifle 28 37 dX9_writeTable_28 (by decide) ?_ ?_
      · skip
        exact S_drop [] rfl (hj37 _)
      · skip
        refine S_aload_0 31 dX9_writeTable_31 ?_
        refine S_bip 32 47 dX9_writeTable_32 (by decide) ?_
        refine S_callV (a' := 0) (b' := 0) (a := 0) (b := 0) 34 (As := [.int 47]) (ci := 9) rfl calX9_says imX9_says seX9_says mkX9_435 rfl rfl rfl rfl rfl (by decide) rfl rfl dX9_writeTable_34 (CX9_says E t 47 h4) (fun _ h12 => kqU ?_)
        exact S_drop [] rfl (hj37 _)
  · skip
    refine S_ic 8 0 dX9_writeTable_8 (by decide) ?_
    exact S_iret 9 dX9_writeTable_9 rfl
def FX9_textByte (E : XG) (t : Nat) (p1 : Int32) (h : XH) : XP Int32 := xg (xk h t = 10) <| xlt (yi h t 0 0) fun h1 => xg (xk h1 t = 10) <| xb (FX9_in E p1 0 ((xi h1 t 43) - 1) h1) fun v2 h3 => xjn (fun (v4 : Int32) (h5 : XH) => xg (xk h5 t = 10) <| xb (FX9_refuse E t v4 1 h5) fun v6 h7 => xjn (fun (v8 : Int32) (h9 : XH) => xv v8 h9) fun (j42 : Int32 → XH → XP Int32) => if (v6 : Int32) = 0 then (xg (xk h7 t = 10) <| xnn (xr h7 t 42) fun w10 => xg (xk h7 w10 = 12 ∧ xin p1 (xn h7 w10)) <| j42 (xi h7 w10 (p1 : Int32).toNatClampNeg) h7) else (j42 0 h7)) fun (j25 : Int32 → XH → XP Int32) => if (v2 : Int32) = 0 then (j25 1 h3) else (j25 0 h3)
theorem CX9_textByte (E : XG) (t : Nat) (p1 : Int32) (h : XH) : XN E mX9_textByte eI 0 0 [.ref t, .int p1] h (FX9_textByte E t p1 h) := by
  unfold FX9_textByte
  refine S_enter (L := [some (.ref t), some (.int p1)]) (by decide +kernel) rfl rfl rfl ?_
  refine S_aload_0 0 dX9_textByte_0 ?_
  refine S_ic 1 0 dX9_textByte_1 (by decide) ?_
  refine S_putI 2 frX9_87 rfl (fun q => by cases q) dX9_textByte_2 (fun h1 => ?_)
  refine S_aload_0 5 dX9_textByte_5 ?_
  refine S_iload_1 6 dX9_textByte_6 ?_
  refine S_ic 7 0 dX9_textByte_7 (by decide) ?_
  refine S_aload_0 8 dX9_textByte_8 ?_
  refine S_getI 9 fsX9_432 rfl dX9_textByte_9 ?_
  refine S_ic 12 1 dX9_textByte_12 (by decide) ?_
  refine S_isub 13 dX9_textByte_13 ?_
  refine S_callS (a' := 0) (b' := 0) (a := 0) (b := 0) 14 (As := [.int p1, .int 0, .int ((xi h1 t 43) - 1)]) rfl calX9_in stX9_in mkX9_152 rfl rfl rfl rfl rfl dX9_textByte_14 (CX9_in E p1 0 ((xi h1 t 43) - 1) h1) (fun v2 h3 => kqI ?_)
  refine S_join (fun jj => ∀ (v4 : Int32) (h5 : XH), XS E mX9_textByte eI 0 0 25 [some (.ref t), some (.int p1)] [.int v4, .ref t] h5 (jj v4 h5)) (fun v4 h5 => ?_) (fun j25 hj25 => ?_)
  · skip
    refine S_ic 25 1 dX9_textByte_25 (by decide) ?_
    refine S_callV (a' := 0) (b' := 0) (a := 0) (b := 0) 26 (As := [.int v4, .int 1]) (ci := 9) rfl calX9_refuse imX9_refuse seX9_refuse mkX9_94 rfl rfl rfl rfl rfl (by decide) rfl rfl dX9_textByte_26 (CX9_refuse E t v4 1 h5) (fun v6 h7 => kqI ?_)
    refine S_join (fun jj => ∀ (v8 : Int32) (h9 : XH), XS E mX9_textByte eI 0 0 42 [none, none] [.int v8] h9 (jj v8 h9)) (fun v8 h9 => ?_) (fun j42 hj42 => ?_)
    · skip
      exact S_iret 42 dX9_textByte_42 rfl
    refine S_ifeq 29 36 dX9_textByte_29 (by decide) ?_ ?_
    · skip
      refine S_aload_0 36 dX9_textByte_36 ?_
      refine S_getR 37 fsX9_84 rfl dX9_textByte_37 (fun w10 => ?_)
      refine S_iload_1 40 dX9_textByte_40 ?_
      refine S_iald 41 dX9_textByte_41 ?_
      exact S_drop [0, 1] rfl (hj42 _ _)
    · skip
      refine S_ic 32 0 dX9_textByte_32 (by decide) ?_
      refine S_goto 33 42 dX9_textByte_33 (by decide) ?_
      exact S_drop [0, 1] rfl (hj42 _ _)
  refine S_ifne 17 24 dX9_textByte_17 (by decide) ?_ ?_
  · skip
    refine S_ic 24 0 dX9_textByte_24 (by decide) ?_
    exact S_drop [] rfl (hj25 _ _)
  · skip
    refine S_ic 20 1 dX9_textByte_20 (by decide) ?_
    refine S_goto 21 25 dX9_textByte_21 (by decide) ?_
    exact S_drop [] rfl (hj25 _ _)
def FX9_keeps (E : XG) (t : Nat) (p1 : Int32) (h : XH) : XP Unit := xlp (fun again2 (s2 : Int32) h1 => if (563 : Int32) ≤ s2 then (xv () h1) else (xg (xk h1 t = 10) <| xnn (xr h1 t 13) fun w2 => xg (xk h1 t = 10) <| xnn (xr h1 t 12) fun w3 => xg (xk h1 w3 = 12 ∧ xin s2 (xn h1 w3)) <| xg (xk h1 w2 = 12 ∧ xin ((563 * p1) + s2) (xn h1 w2)) <| xlt (yi h1 w2 (((563 * p1) + s2) : Int32).toNatClampNeg (xi h1 w3 (s2 : Int32).toNatClampNeg)) fun h4 => again2 (s2 + 1) h4)) xfu 0 h
theorem CX9_keeps (E : XG) (t : Nat) (p1 : Int32) (h : XH) : XN E mX9_keeps eU 0 0 [.ref t, .int p1] h (FX9_keeps E t p1 h) := by
  unfold FX9_keeps
  refine S_enter (L := [some (.ref t), some (.int p1), none]) (by decide +kernel) rfl rfl rfl ?_
  refine S_ic 0 0 dX9_keeps_0 (by decide) ?_
  refine S_istore_2 1 dX9_keeps_1 rfl ?_
  refine S_loop (fun (s2 : Int32) => [some (.ref t), some (.int p1), some (.int s2)]) (fun again2 hg2 s2 h1 => ?_) xfu _ _
  refine S_iload_2 2 dX9_keeps_2 ?_
  refine S_sip 3 563 dX9_keeps_3 (by decide) ?_
  refine S_icmpge 6 33 dX9_keeps_6 (by decide) ?_ ?_
  · skip
    exact S_ret 33 dX9_keeps_33 rfl
  · skip
    refine S_aload_0 9 dX9_keeps_9 ?_
    refine S_getR 10 fsX9_34 rfl dX9_keeps_10 (fun w2 => ?_)
    refine S_sip 13 563 dX9_keeps_13 (by decide) ?_
    refine S_iload_1 16 dX9_keeps_16 ?_
    refine S_imul 17 dX9_keeps_17 ?_
    refine S_iload_2 18 dX9_keeps_18 ?_
    refine S_iadd 19 dX9_keeps_19 ?_
    refine S_aload_0 20 dX9_keeps_20 ?_
    refine S_getR 21 fsX9_31 rfl dX9_keeps_21 (fun w3 => ?_)
    refine S_iload_2 24 dX9_keeps_24 ?_
    refine S_iald 25 dX9_keeps_25 ?_
    refine S_iast 26 dX9_keeps_26 (fun h4 => ?_)
    refine S_iinc_2 27 (s2 + 1) dX9_keeps_27 (by rfl) rfl ?_
    refine S_goto 30 2 dX9_keeps_30 (by decide) ?_
    exact S_drop [] rfl (hg2 _ _)
def FX9_fetches (E : XG) (t : Nat) (p1 : Int32) (h : XH) : XP Unit := xlp (fun again2 (s2 : Int32) h1 => if (563 : Int32) ≤ s2 then (xv () h1) else (xg (xk h1 t = 10) <| xnn (xr h1 t 12) fun w2 => xg (xk h1 t = 10) <| xnn (xr h1 t 13) fun w3 => xg (xk h1 w3 = 12 ∧ xin ((563 * p1) + s2) (xn h1 w3)) <| xg (xk h1 w2 = 12 ∧ xin s2 (xn h1 w2)) <| xlt (yi h1 w2 (s2 : Int32).toNatClampNeg (xi h1 w3 (((563 * p1) + s2) : Int32).toNatClampNeg)) fun h4 => again2 (s2 + 1) h4)) xfu 0 h
theorem CX9_fetches (E : XG) (t : Nat) (p1 : Int32) (h : XH) : XN E mX9_fetches eU 0 0 [.ref t, .int p1] h (FX9_fetches E t p1 h) := by
  unfold FX9_fetches
  refine S_enter (L := [some (.ref t), some (.int p1), none]) (by decide +kernel) rfl rfl rfl ?_
  refine S_ic 0 0 dX9_fetches_0 (by decide) ?_
  refine S_istore_2 1 dX9_fetches_1 rfl ?_
  refine S_loop (fun (s2 : Int32) => [some (.ref t), some (.int p1), some (.int s2)]) (fun again2 hg2 s2 h1 => ?_) xfu _ _
  refine S_iload_2 2 dX9_fetches_2 ?_
  refine S_sip 3 563 dX9_fetches_3 (by decide) ?_
  refine S_icmpge 6 33 dX9_fetches_6 (by decide) ?_ ?_
  · skip
    exact S_ret 33 dX9_fetches_33 rfl
  · skip
    refine S_aload_0 9 dX9_fetches_9 ?_
    refine S_getR 10 fsX9_31 rfl dX9_fetches_10 (fun w2 => ?_)
    refine S_iload_2 13 dX9_fetches_13 ?_
    refine S_aload_0 14 dX9_fetches_14 ?_
    refine S_getR 15 fsX9_34 rfl dX9_fetches_15 (fun w3 => ?_)
    refine S_sip 18 563 dX9_fetches_18 (by decide) ?_
    refine S_iload_1 21 dX9_fetches_21 ?_
    refine S_imul 22 dX9_fetches_22 ?_
    refine S_iload_2 23 dX9_fetches_23 ?_
    refine S_iadd 24 dX9_fetches_24 ?_
    refine S_iald 25 dX9_fetches_25 ?_
    refine S_iast 26 dX9_fetches_26 (fun h4 => ?_)
    refine S_iinc_2 27 (s2 + 1) dX9_fetches_27 (by rfl) rfl ?_
    refine S_goto 30 2 dX9_fetches_30 (by decide) ?_
    exact S_drop [] rfl (hg2 _ _)
def FX9_begins (E : XG) (t : Nat) (h : XH) : XP Unit := xg (xk h t = 10) <| xjn (fun  (h1 : XH) => xg (xk h1 t = 10) <| xg (xk h1 t = 10) <| xb (FX9_keeps E t (xi h1 t 14) h1) fun _ h2 => xg (xk h2 t = 10) <| xg (xk h2 t = 10) <| xlt (yi h2 t 14 ((xi h2 t 14) + 1)) fun h3 => xg (xk h3 t = 10) <| xnn (xr h3 t 12) fun w4 => xg (xk h3 w4 = 12 ∧ xin 560 (xn h3 w4)) <| xg (xk h3 w4 = 12 ∧ xin 560 (xn h3 w4)) <| xlt (yi h3 w4 (560 : Int32).toNatClampNeg ((xi h3 w4 (560 : Int32).toNatClampNeg) + 1)) fun h5 => xv () h5) fun (j50 : XH → XP Unit) => if ((xi h t 14) : Int32) = 8 then (xlp (fun again11 (s11 : Int32) h6 => if (3941 : Int32) ≤ s11 then (xg (xk h6 t = 10) <| xg (xk h6 t = 10) <| xlt (yi h6 t 14 ((xi h6 t 14) - 1)) fun h7 => j50 h7) else (xg (xk h6 t = 10) <| xnn (xr h6 t 13) fun w8 => xg (xk h6 t = 10) <| xnn (xr h6 t 13) fun w9 => xg (xk h6 w9 = 12 ∧ xin (s11 + 563) (xn h6 w9)) <| xg (xk h6 w8 = 12 ∧ xin s11 (xn h6 w8)) <| xlt (yi h6 w8 (s11 : Int32).toNatClampNeg (xi h6 w9 ((s11 + 563) : Int32).toNatClampNeg)) fun h10 => again11 (s11 + 1) h10)) xfu 0 h) else (j50 h)
theorem CX9_begins (E : XG) (t : Nat) (h : XH) : XN E mX9_begins eU 0 0 [.ref t] h (FX9_begins E t h) := by
  unfold FX9_begins
  refine S_enter (L := [some (.ref t), none]) (by decide +kernel) rfl rfl rfl ?_
  refine S_aload_0 0 dX9_begins_0 ?_
  refine S_getI 1 fsX9_269 rfl dX9_begins_1 ?_
  refine S_bip 4 8 dX9_begins_4 (by decide) ?_
  refine S_join (fun jj => ∀  (h1 : XH), XS E mX9_begins eU 0 0 50 [some (.ref t), none] [] h1 (jj  h1)) (fun  h1 => ?_) (fun j50 hj50 => ?_)
  · skip
    refine S_aload_0 50 dX9_begins_50 ?_
    refine S_aload_0 51 dX9_begins_51 ?_
    refine S_getI 52 fsX9_269 rfl dX9_begins_52 ?_
    refine S_callV (a' := 0) (b' := 0) (a := 0) (b := 0) 55 (As := [.int (xi h1 t 14)]) (ci := 9) rfl calX9_keeps imX9_keeps seX9_keeps mkX9_438 rfl rfl rfl rfl rfl (by decide) rfl rfl dX9_begins_55 (CX9_keeps E t (xi h1 t 14) h1) (fun _ h2 => kqU ?_)
    refine S_aload_0 58 dX9_begins_58 ?_
    refine S_dup 59 dX9_begins_59 rfl ?_
    refine S_getI 60 fsX9_269 rfl dX9_begins_60 ?_
    refine S_ic 63 1 dX9_begins_63 (by decide) ?_
    refine S_iadd 64 dX9_begins_64 ?_
    refine S_putI 65 frX9_269 rfl (fun q => by cases q) dX9_begins_65 (fun h3 => ?_)
    refine S_aload_0 68 dX9_begins_68 ?_
    refine S_getR 69 fsX9_31 rfl dX9_begins_69 (fun w4 => ?_)
    refine S_sip 72 560 dX9_begins_72 (by decide) ?_
    refine S_dup2 75 dX9_begins_75 rfl rfl ?_
    refine S_iald 76 dX9_begins_76 ?_
    refine S_ic 77 1 dX9_begins_77 (by decide) ?_
    refine S_iadd 78 dX9_begins_78 ?_
    refine S_iast 79 dX9_begins_79 (fun h5 => ?_)
    exact S_ret 80 dX9_begins_80 rfl
  refine S_icmpne 6 50 dX9_begins_6 (by decide) ?_ ?_
  · skip
    exact S_drop [] rfl (hj50 _)
  · skip
    refine S_ic 9 0 dX9_begins_9 (by decide) ?_
    refine S_istore_1 10 dX9_begins_10 rfl ?_
    refine S_loop (fun (s11 : Int32) => [some (.ref t), some (.int s11)]) (fun again11 hg11 s11 h6 => ?_) xfu _ _
    refine S_iload_1 11 dX9_begins_11 ?_
    refine S_sip 12 3941 dX9_begins_12 (by decide) ?_
    refine S_icmpge 15 40 dX9_begins_15 (by decide) ?_ ?_
    · skip
      refine S_aload_0 40 dX9_begins_40 ?_
      refine S_dup 41 dX9_begins_41 rfl ?_
      refine S_getI 42 fsX9_269 rfl dX9_begins_42 ?_
      refine S_ic 45 1 dX9_begins_45 (by decide) ?_
      refine S_isub 46 dX9_begins_46 ?_
      refine S_putI 47 frX9_269 rfl (fun q => by cases q) dX9_begins_47 (fun h7 => ?_)
      exact S_drop [1] rfl (hj50 _)
    · skip
      refine S_aload_0 18 dX9_begins_18 ?_
      refine S_getR 19 fsX9_34 rfl dX9_begins_19 (fun w8 => ?_)
      refine S_iload_1 22 dX9_begins_22 ?_
      refine S_aload_0 23 dX9_begins_23 ?_
      refine S_getR 24 fsX9_34 rfl dX9_begins_24 (fun w9 => ?_)
      refine S_iload_1 27 dX9_begins_27 ?_
      refine S_sip 28 563 dX9_begins_28 (by decide) ?_
      refine S_iadd 31 dX9_begins_31 ?_
      refine S_iald 32 dX9_begins_32 ?_
      refine S_iast 33 dX9_begins_33 (fun h10 => ?_)
      refine S_iinc_1 34 (s11 + 1) dX9_begins_34 (by rfl) rfl ?_
      refine S_goto 37 11 dX9_begins_37 (by decide) ?_
      exact S_drop [] rfl (hg11 _ _)
def FX9_touches (E : XG) (t : Nat) (p1 : Int32) (h : XH) : XP Unit := xg (xk h t = 10) <| xb (FX9_begins E t  h) fun _ h1 => xg (xk h1 t = 10) <| xb (FX9_whyOf E t p1 h1) fun v2 h3 => xjn (fun (v4 : Int32) (h5 : XH) => xg (xk h5 t = 10 ∧ ((v4 : Int32) = 0 ∨ (v4 : Int32) = 1)) <| xlt (yi h5 t 44 v4) fun h6 => xv () h6) fun (j18 : Int32 → XH → XP Unit) => if (v2 : Int32) = 0 then (j18 1 h3) else (j18 0 h3)
theorem CX9_touches (E : XG) (t : Nat) (p1 : Int32) (h : XH) : XN E mX9_touches eU 0 0 [.ref t, .int p1] h (FX9_touches E t p1 h) := by
  unfold FX9_touches
  refine S_enter (L := [some (.ref t), some (.int p1)]) (by decide +kernel) rfl rfl rfl ?_
  refine S_aload_0 0 dX9_touches_0 ?_
  refine S_callV (a' := 0) (b' := 0) (a := 0) (b := 0) 1 (As := []) (ci := 9) rfl calX9_begins imX9_begins seX9_begins mkX9_441 rfl rfl rfl rfl rfl (by decide) rfl rfl dX9_touches_1 (CX9_begins E t  h) (fun _ h1 => kqU ?_)
  refine S_aload_0 4 dX9_touches_4 ?_
  refine S_aload_0 5 dX9_touches_5 ?_
  refine S_iload_1 6 dX9_touches_6 ?_
  refine S_callV (a' := 0) (b' := 0) (a := 0) (b := 0) 7 (As := [.int p1]) (ci := 9) rfl calX9_whyOf imX9_whyOf seX9_whyOf mkX9_350 rfl rfl rfl rfl rfl (by decide) rfl rfl dX9_touches_7 (CX9_whyOf E t p1 h1) (fun v2 h3 => kqI ?_)
  refine S_join (fun jj => ∀ (v4 : Int32) (h5 : XH), XS E mX9_touches eU 0 0 18 [none, none] [.int v4, .ref t] h5 (jj v4 h5)) (fun v4 h5 => ?_) (fun j18 hj18 => ?_)
  · skip
    refine S_putZ 18 frX9_444 rfl (fun q => by cases q) dX9_touches_18 (fun h6 => ?_)
    exact S_ret 21 dX9_touches_21 rfl
  refine S_ifne 10 17 dX9_touches_10 (by decide) ?_ ?_
  · skip
    refine S_ic 17 0 dX9_touches_17 (by decide) ?_
    exact S_drop [0, 1] rfl (hj18 _ _)
  · skip
    refine S_ic 13 1 dX9_touches_13 (by decide) ?_
    refine S_goto 14 18 dX9_touches_14 (by decide) ?_
    exact S_drop [0, 1] rfl (hj18 _ _)
def FX9_ends (E : XG) (t : Nat) (p1 : Int32) (h : XH) : XP Unit := xg (xk h t = 10) <| xb (FX9_whyOf E t p1 h) fun v1 h2 => xjn (fun (v3 : Int32) (h4 : XH) => xg (xk h4 t = 10) <| xnn (xr h4 t 12) fun w5 => xg (xk h4 w5 = 12 ∧ xin 561 (xn h4 w5)) <| xg (xk h4 t = 10) <| xjn (fun (v6 : Int32) (h7 : XH) => xb (FX9_flag E v6 h7) fun v8 h9 => xg (xk h9 w5 = 12 ∧ xin 561 (xn h9 w5)) <| xlt (yi h9 w5 (561 : Int32).toNatClampNeg ((xi h4 w5 (561 : Int32).toNatClampNeg) + v8)) fun h10 => xg (xk h10 t = 10) <| xnn (xr h10 t 12) fun w11 => xg (xk h10 w11 = 12 ∧ xin 562 (xn h10 w11)) <| xg (xk h10 t = 10) <| xjn (fun (v12 : Int32) (h13 : XH) => xb (FX9_flag E v12 h13) fun v14 h15 => xg (xk h15 w11 = 12 ∧ xin 562 (xn h15 w11)) <| xlt (yi h15 w11 (562 : Int32).toNatClampNeg ((xi h10 w11 (562 : Int32).toNatClampNeg) + v14)) fun h16 => xv () h16) fun (j69 : Int32 → XH → XP Unit) => xjn (fun  (h17 : XH) => j69 0 h17) fun (j68 : XH → XP Unit) => if ((xi h10 t 44) : Int32) = 0 then (if (v3 : Int32) = 0 then (j68 h10) else (j69 1 h10)) else (j68 h10)) fun (j39 : Int32 → XH → XP Unit) => xjn (fun  (h18 : XH) => j39 0 h18) fun (j38 : XH → XP Unit) => if ((xi h4 t 44) : Int32) = 0 then (j38 h4) else (if (v3 : Int32) = 0 then (j39 1 h4) else (j38 h4))) fun (j13 : Int32 → XH → XP Unit) => if (v1 : Int32) = 0 then (j13 1 h2) else (j13 0 h2)
theorem CX9_ends (E : XG) (t : Nat) (p1 : Int32) (h : XH) : XN E mX9_ends eU 0 0 [.ref t, .int p1] h (FX9_ends E t p1 h) := by
  unfold FX9_ends
  refine S_enter (L := [some (.ref t), some (.int p1), none]) (by decide +kernel) rfl rfl rfl ?_
  refine S_aload_0 0 dX9_ends_0 ?_
  refine S_iload_1 1 dX9_ends_1 ?_
  refine S_callV (a' := 0) (b' := 0) (a := 0) (b := 0) 2 (As := [.int p1]) (ci := 9) rfl calX9_whyOf imX9_whyOf seX9_whyOf mkX9_350 rfl rfl rfl rfl rfl (by decide) rfl rfl dX9_ends_2 (CX9_whyOf E t p1 h) (fun v1 h2 => kqI ?_)
  refine S_join (fun jj => ∀ (v3 : Int32) (h4 : XH), XS E mX9_ends eU 0 0 13 [some (.ref t), none, none] [.int v3] h4 (jj v3 h4)) (fun v3 h4 => ?_) (fun j13 hj13 => ?_)
  · skip
    refine S_istore_2 13 dX9_ends_13 rfl ?_
    refine S_aload_0 14 dX9_ends_14 ?_
    refine S_getR 15 fsX9_31 rfl dX9_ends_15 (fun w5 => ?_)
    refine S_sip 18 561 dX9_ends_18 (by decide) ?_
    refine S_dup2 21 dX9_ends_21 rfl rfl ?_
    refine S_iald 22 dX9_ends_22 ?_
    refine S_aload_0 23 dX9_ends_23 ?_
    refine S_getI 24 fsX9_444 rfl dX9_ends_24 ?_
    refine S_join (fun jj => ∀ (v6 : Int32) (h7 : XH), XS E mX9_ends eU 0 0 39 [some (.ref t), none, some (.int v3)] [.int v6, .int (xi h4 w5 (561 : Int32).toNatClampNeg), .int 561, .ref w5] h7 (jj v6 h7)) (fun v6 h7 => ?_) (fun j39 hj39 => ?_)
    · skip
      refine S_callS (a' := 0) (b' := 0) (a := 0) (b := 0) 39 (As := [.int v6]) rfl calX9_flag stX9_flag mkX9_207 rfl rfl rfl rfl rfl dX9_ends_39 (CX9_flag E v6 h7) (fun v8 h9 => kqI ?_)
      refine S_iadd 42 dX9_ends_42 ?_
      refine S_iast 43 dX9_ends_43 (fun h10 => ?_)
      refine S_aload_0 44 dX9_ends_44 ?_
      refine S_getR 45 fsX9_31 rfl dX9_ends_45 (fun w11 => ?_)
      refine S_sip 48 562 dX9_ends_48 (by decide) ?_
      refine S_dup2 51 dX9_ends_51 rfl rfl ?_
      refine S_iald 52 dX9_ends_52 ?_
      refine S_aload_0 53 dX9_ends_53 ?_
      refine S_getI 54 fsX9_444 rfl dX9_ends_54 ?_
      refine S_join (fun jj => ∀ (v12 : Int32) (h13 : XH), XS E mX9_ends eU 0 0 69 [none, none, none] [.int v12, .int (xi h10 w11 (562 : Int32).toNatClampNeg), .int 562, .ref w11] h13 (jj v12 h13)) (fun v12 h13 => ?_) (fun j69 hj69 => ?_)
      · skip
        refine S_callS (a' := 0) (b' := 0) (a := 0) (b := 0) 69 (As := [.int v12]) rfl calX9_flag stX9_flag mkX9_207 rfl rfl rfl rfl rfl dX9_ends_69 (CX9_flag E v12 h13) (fun v14 h15 => kqI ?_)
        refine S_iadd 72 dX9_ends_72 ?_
        refine S_iast 73 dX9_ends_73 (fun h16 => ?_)
        exact S_ret 74 dX9_ends_74 rfl
      refine S_join (fun jj => ∀  (h17 : XH), XS E mX9_ends eU 0 0 68 [none, none, none] [.int (xi h10 w11 (562 : Int32).toNatClampNeg), .int 562, .ref w11] h17 (jj  h17)) (fun  h17 => ?_) (fun j68 hj68 => ?_)
      · skip
        refine S_ic 68 0 dX9_ends_68 (by decide) ?_
        exact S_drop [] rfl (hj69 _ _)
      refine S_ifne 57 68 dX9_ends_57 (by decide) ?_ ?_
      · skip
        exact S_drop [0, 2] rfl (hj68 _)
      · skip
        refine S_iload_2 60 dX9_ends_60 ?_
        refine S_ifeq 61 68 dX9_ends_61 (by decide) ?_ ?_
        · skip
          exact S_drop [0, 2] rfl (hj68 _)
        · skip
          refine S_ic 64 1 dX9_ends_64 (by decide) ?_
          refine S_goto 65 69 dX9_ends_65 (by decide) ?_
          exact S_drop [0, 2] rfl (hj69 _ _)
    refine S_join (fun jj => ∀  (h18 : XH), XS E mX9_ends eU 0 0 38 [some (.ref t), none, some (.int v3)] [.int (xi h4 w5 (561 : Int32).toNatClampNeg), .int 561, .ref w5] h18 (jj  h18)) (fun  h18 => ?_) (fun j38 hj38 => ?_)
    · skip
      refine S_ic 38 0 dX9_ends_38 (by decide) ?_
      exact S_drop [] rfl (hj39 _ _)
    refine S_ifeq 27 38 dX9_ends_27 (by decide) ?_ ?_
    · skip
      exact S_drop [] rfl (hj38 _)
    · skip
      refine S_iload_2 30 dX9_ends_30 ?_
      refine S_ifne 31 38 dX9_ends_31 (by decide) ?_ ?_
      · skip
        exact S_drop [] rfl (hj38 _)
      · skip
        refine S_ic 34 1 dX9_ends_34 (by decide) ?_
        refine S_goto 35 39 dX9_ends_35 (by decide) ?_
        exact S_drop [] rfl (hj39 _ _)
  refine S_ifne 5 12 dX9_ends_5 (by decide) ?_ ?_
  · skip
    refine S_ic 12 0 dX9_ends_12 (by decide) ?_
    exact S_drop [1] rfl (hj13 _ _)
  · skip
    refine S_ic 8 1 dX9_ends_8 (by decide) ?_
    refine S_goto 9 13 dX9_ends_9 (by decide) ?_
    exact S_drop [1] rfl (hj13 _ _)
def FX9_setBoundary (E : XG) (t : Nat) (p1 : Int32) (p2 : Int32) (p3 : Int32) (h : XH) : XP Int32 := xg (xk h t = 10) <| xb (FX9_noUpper E t p1 p2 h) fun v1 h2 => xjn (fun  (h3 : XH) => xv 0 h3) fun (j18 : XH → XP Int32) => if (v1 : Int32) = 0 then (xg (xk h2 t = 10) <| xb (FX9_noLower E t p1 p3 h2) fun v4 h5 => if (v4 : Int32) = 0 then (xg (xk h5 t = 10) <| xb (FX9_touches E t p1 h5) fun _ h6 => xg (xk h6 t = 10) <| xb (FX9_boundaryOf E t p1 p2 h6) fun v7 h8 => xg (xk h8 t = 10) <| xnn (xr h8 t 12) fun w9 => xg (xk h8 w9 = 12 ∧ xin ((0 + (8 * p1)) + p2) (xn h8 w9)) <| xlt (yi h8 w9 (((0 + (8 * p1)) + p2) : Int32).toNatClampNeg p3) fun h10 => xg (xk h10 t = 10) <| xb (FX9_ends E t p1 h10) fun _ h11 => xv v7 h11) else (j18 h5)) else (j18 h2)
theorem CX9_setBoundary (E : XG) (t : Nat) (p1 : Int32) (p2 : Int32) (p3 : Int32) (h : XH) : XN E mX9_setBoundary eI 0 0 [.ref t, .int p1, .int p2, .int p3] h (FX9_setBoundary E t p1 p2 p3 h) := by
  unfold FX9_setBoundary
  refine S_enter (L := [some (.ref t), some (.int p1), some (.int p2), some (.int p3), none]) (by decide +kernel) rfl rfl rfl ?_
  refine S_aload_0 0 dX9_setBoundary_0 ?_
  refine S_iload_1 1 dX9_setBoundary_1 ?_
  refine S_iload_2 2 dX9_setBoundary_2 ?_
  refine S_callV (a' := 0) (b' := 0) (a := 0) (b := 0) 3 (As := [.int p1, .int p2]) (ci := 9) rfl calX9_noUpper imX9_noUpper seX9_noUpper mkX9_311 rfl rfl rfl rfl rfl (by decide) rfl rfl dX9_setBoundary_3 (CX9_noUpper E t p1 p2 h) (fun v1 h2 => kqI ?_)
  refine S_join (fun jj => ∀  (h3 : XH), XS E mX9_setBoundary eI 0 0 18 [none, none, none, none, none] [] h3 (jj  h3)) (fun  h3 => ?_) (fun j18 hj18 => ?_)
  · skip
    refine S_ic 18 0 dX9_setBoundary_18 (by decide) ?_
    exact S_iret 19 dX9_setBoundary_19 rfl
  refine S_ifne 6 18 dX9_setBoundary_6 (by decide) ?_ ?_
  · skip
    exact S_drop [0, 1, 2, 3] rfl (hj18 _)
  · skip
    refine S_aload_0 9 dX9_setBoundary_9 ?_
    refine S_iload_1 10 dX9_setBoundary_10 ?_
    refine S_iload_3 11 dX9_setBoundary_11 ?_
    refine S_callV (a' := 0) (b' := 0) (a := 0) (b := 0) 12 (As := [.int p1, .int p3]) (ci := 9) rfl calX9_noLower imX9_noLower seX9_noLower mkX9_317 rfl rfl rfl rfl rfl (by decide) rfl rfl dX9_setBoundary_12 (CX9_noLower E t p1 p3 h2) (fun v4 h5 => kqI ?_)
    refine S_ifeq 15 20 dX9_setBoundary_15 (by decide) ?_ ?_
    · skip
      refine S_aload_0 20 dX9_setBoundary_20 ?_
      refine S_iload_1 21 dX9_setBoundary_21 ?_
      refine S_callV (a' := 0) (b' := 0) (a := 0) (b := 0) 22 (As := [.int p1]) (ci := 9) rfl calX9_touches imX9_touches seX9_touches mkX9_447 rfl rfl rfl rfl rfl (by decide) rfl rfl dX9_setBoundary_22 (CX9_touches E t p1 h5) (fun _ h6 => kqU ?_)
      refine S_aload_0 25 dX9_setBoundary_25 ?_
      refine S_iload_1 26 dX9_setBoundary_26 ?_
      refine S_iload_2 27 dX9_setBoundary_27 ?_
      refine S_callV (a' := 0) (b' := 0) (a := 0) (b := 0) 28 (As := [.int p1, .int p2]) (ci := 9) rfl calX9_boundaryOf imX9_boundaryOf seX9_boundaryOf mkX9_314 rfl rfl rfl rfl rfl (by decide) rfl rfl dX9_setBoundary_28 (CX9_boundaryOf E t p1 p2 h6) (fun v7 h8 => kqI ?_)
      refine S_istore_4 31 dX9_setBoundary_31 rfl ?_
      refine S_aload_0 33 dX9_setBoundary_33 ?_
      refine S_getR 34 fsX9_31 rfl dX9_setBoundary_34 (fun w9 => ?_)
      refine S_ic 37 0 dX9_setBoundary_37 (by decide) ?_
      refine S_bip 38 8 dX9_setBoundary_38 (by decide) ?_
      refine S_iload_1 40 dX9_setBoundary_40 ?_
      refine S_imul 41 dX9_setBoundary_41 ?_
      refine S_iadd 42 dX9_setBoundary_42 ?_
      refine S_iload_2 43 dX9_setBoundary_43 ?_
      refine S_iadd 44 dX9_setBoundary_44 ?_
      refine S_iload_3 45 dX9_setBoundary_45 ?_
      refine S_iast 46 dX9_setBoundary_46 (fun h10 => ?_)
      refine S_aload_0 47 dX9_setBoundary_47 ?_
      refine S_iload_1 48 dX9_setBoundary_48 ?_
      refine S_callV (a' := 0) (b' := 0) (a := 0) (b := 0) 49 (As := [.int p1]) (ci := 9) rfl calX9_ends imX9_ends seX9_ends mkX9_450 rfl rfl rfl rfl rfl (by decide) rfl rfl dX9_setBoundary_49 (CX9_ends E t p1 h10) (fun _ h11 => kqU ?_)
      refine S_iload_4 52 dX9_setBoundary_52 ?_
      exact S_iret 54 dX9_setBoundary_54 rfl
    · skip
      exact S_drop [0, 1, 2, 3] rfl (hj18 _)
def FX9_setAct (E : XG) (t : Nat) (p1 : Int32) (p2 : Int32) (p3 : Int32) (p4 : Int32) (h : XH) : XP Int32 := xg (xk h t = 10) <| xb (FX9_noLower E t p1 p2 h) fun v1 h2 => xjn (fun  (h3 : XH) => xv 0 h3) fun (j28 : XH → XP Int32) => if (v1 : Int32) = 0 then (xg (xk h2 t = 10) <| xb (FX9_noUpper E t p1 p3 h2) fun v4 h5 => if (v4 : Int32) = 0 then (xg (xk h5 t = 10) <| xb (FX9_noUpper E t p1 p4 h5) fun v6 h7 => if (v6 : Int32) = 0 then (xg (xk h7 t = 10) <| xb (FX9_touches E t p1 h7) fun _ h8 => xg (xk h8 t = 10) <| xb (FX9_on E t p1 p2 p3 h8) fun v9 h10 => xg (xk h10 t = 10) <| xnn (xr h10 t 12) fun w11 => xg (xk h10 w11 = 12 ∧ xin (((48 + (64 * p1)) + (8 * p2)) + p3) (xn h10 w11)) <| xlt (yi h10 w11 ((((48 + (64 * p1)) + (8 * p2)) + p3) : Int32).toNatClampNeg p4) fun h12 => xg (xk h12 t = 10) <| xb (FX9_ends E t p1 h12) fun _ h13 => xv v9 h13) else (j28 h7)) else (j28 h5)) else (j28 h2)
theorem CX9_setAct (E : XG) (t : Nat) (p1 : Int32) (p2 : Int32) (p3 : Int32) (p4 : Int32) (h : XH) : XN E mX9_setAct eI 0 0 [.ref t, .int p1, .int p2, .int p3, .int p4] h (FX9_setAct E t p1 p2 p3 p4 h) := by
  unfold FX9_setAct
  refine S_enter (L := [some (.ref t), some (.int p1), some (.int p2), some (.int p3), some (.int p4), none]) (by decide +kernel) rfl rfl rfl ?_
  refine S_aload_0 0 dX9_setAct_0 ?_
  refine S_iload_1 1 dX9_setAct_1 ?_
  refine S_iload_2 2 dX9_setAct_2 ?_
  refine S_callV (a' := 0) (b' := 0) (a := 0) (b := 0) 3 (As := [.int p1, .int p2]) (ci := 9) rfl calX9_noLower imX9_noLower seX9_noLower mkX9_317 rfl rfl rfl rfl rfl (by decide) rfl rfl dX9_setAct_3 (CX9_noLower E t p1 p2 h) (fun v1 h2 => kqI ?_)
  refine S_join (fun jj => ∀  (h3 : XH), XS E mX9_setAct eI 0 0 28 [none, none, none, none, none, none] [] h3 (jj  h3)) (fun  h3 => ?_) (fun j28 hj28 => ?_)
  · skip
    refine S_ic 28 0 dX9_setAct_28 (by decide) ?_
    exact S_iret 29 dX9_setAct_29 rfl
  refine S_ifne 6 28 dX9_setAct_6 (by decide) ?_ ?_
  · skip
    exact S_drop [0, 1, 2, 3, 4] rfl (hj28 _)
  · skip
    refine S_aload_0 9 dX9_setAct_9 ?_
    refine S_iload_1 10 dX9_setAct_10 ?_
    refine S_iload_3 11 dX9_setAct_11 ?_
    refine S_callV (a' := 0) (b' := 0) (a := 0) (b := 0) 12 (As := [.int p1, .int p3]) (ci := 9) rfl calX9_noUpper imX9_noUpper seX9_noUpper mkX9_311 rfl rfl rfl rfl rfl (by decide) rfl rfl dX9_setAct_12 (CX9_noUpper E t p1 p3 h2) (fun v4 h5 => kqI ?_)
    refine S_ifne 15 28 dX9_setAct_15 (by decide) ?_ ?_
    · skip
      exact S_drop [0, 1, 2, 3, 4] rfl (hj28 _)
    · skip
      refine S_aload_0 18 dX9_setAct_18 ?_
      refine S_iload_1 19 dX9_setAct_19 ?_
      refine S_iload_4 20 dX9_setAct_20 ?_
      refine S_callV (a' := 0) (b' := 0) (a := 0) (b := 0) 22 (As := [.int p1, .int p4]) (ci := 9) rfl calX9_noUpper imX9_noUpper seX9_noUpper mkX9_311 rfl rfl rfl rfl rfl (by decide) rfl rfl dX9_setAct_22 (CX9_noUpper E t p1 p4 h5) (fun v6 h7 => kqI ?_)
      refine S_ifeq 25 30 dX9_setAct_25 (by decide) ?_ ?_
      · skip
        refine S_aload_0 30 dX9_setAct_30 ?_
        refine S_iload_1 31 dX9_setAct_31 ?_
        refine S_callV (a' := 0) (b' := 0) (a := 0) (b := 0) 32 (As := [.int p1]) (ci := 9) rfl calX9_touches imX9_touches seX9_touches mkX9_447 rfl rfl rfl rfl rfl (by decide) rfl rfl dX9_setAct_32 (CX9_touches E t p1 h7) (fun _ h8 => kqU ?_)
        refine S_aload_0 35 dX9_setAct_35 ?_
        refine S_iload_1 36 dX9_setAct_36 ?_
        refine S_iload_2 37 dX9_setAct_37 ?_
        refine S_iload_3 38 dX9_setAct_38 ?_
        refine S_callV (a' := 0) (b' := 0) (a := 0) (b := 0) 39 (As := [.int p1, .int p2, .int p3]) (ci := 9) rfl calX9_on imX9_on seX9_on mkX9_320 rfl rfl rfl rfl rfl (by decide) rfl rfl dX9_setAct_39 (CX9_on E t p1 p2 p3 h8) (fun v9 h10 => kqI ?_)
        refine S_istore_5 42 dX9_setAct_42 rfl ?_
        refine S_aload_0 44 dX9_setAct_44 ?_
        refine S_getR 45 fsX9_31 rfl dX9_setAct_45 (fun w11 => ?_)
        refine S_bip 48 48 dX9_setAct_48 (by decide) ?_
        refine S_bip 50 64 dX9_setAct_50 (by decide) ?_
        refine S_iload_1 52 dX9_setAct_52 ?_
        refine S_imul 53 dX9_setAct_53 ?_
        refine S_iadd 54 dX9_setAct_54 ?_
        refine S_bip 55 8 dX9_setAct_55 (by decide) ?_
        refine S_iload_2 57 dX9_setAct_57 ?_
        refine S_imul 58 dX9_setAct_58 ?_
        refine S_iadd 59 dX9_setAct_59 ?_
        refine S_iload_3 60 dX9_setAct_60 ?_
        refine S_iadd 61 dX9_setAct_61 ?_
        refine S_iload_4 62 dX9_setAct_62 ?_
        refine S_iast 64 dX9_setAct_64 (fun h12 => ?_)
        refine S_aload_0 65 dX9_setAct_65 ?_
        refine S_iload_1 66 dX9_setAct_66 ?_
        refine S_callV (a' := 0) (b' := 0) (a := 0) (b := 0) 67 (As := [.int p1]) (ci := 9) rfl calX9_ends imX9_ends seX9_ends mkX9_450 rfl rfl rfl rfl rfl (by decide) rfl rfl dX9_setAct_67 (CX9_ends E t p1 h12) (fun _ h13 => kqU ?_)
        refine S_iload_5 70 dX9_setAct_70 ?_
        exact S_iret 72 dX9_setAct_72 rfl
      · skip
        exact S_drop [0, 1, 2, 3, 4] rfl (hj28 _)
def FX9_acts (E : XG) (t : Nat) (p1 : Int32) (p2 : Int32) (h : XH) : XP Int32 := xg (xk h t = 10) <| xb (FX9_touches E t p1 h) fun _ h1 => xlp (fun again10 (s10 : Int32 × Int32) h2 => xg (xk h2 t = 10) <| xb (FX9_lowers E t p1 h2) fun v3 h4 => if (v3 : Int32) ≤ s10.2 then (xg (xk h4 t = 10) <| xb (FX9_ends E t p1 h4) fun _ h5 => xv s10.1 h5) else (xlp (fun again23 (s23 : Int32 × Int32) h6 => xg (xk h6 t = 10) <| xb (FX9_uppers E t p1 h6) fun v7 h8 => if (v7 : Int32) ≤ s23.2 then (again10 (s23.1, (s10.2 + 1)) h8) else (xjn (fun (v9 : Int32) (h10 : XH) => xg (xk h10 t = 10) <| xb (FX9_on E t p1 s10.2 s23.2 h10) fun v11 h12 => xjn (fun (v13 : Int32) (h14 : XH) => xb (FX9_flag E v13 h14) fun v15 h16 => xlt (s23.1 + v15) fun v17 => xg (xk h16 t = 10) <| xnn (xr h16 t 12) fun w18 => xg (xk h16 w18 = 12 ∧ xin (((48 + (64 * p1)) + (8 * s10.2)) + s23.2) (xn h16 w18)) <| xlt (yi h16 w18 ((((48 + (64 * p1)) + (8 * s10.2)) + s23.2) : Int32).toNatClampNeg v9) fun h19 => again23 (v17, (s23.2 + 1)) h19) fun (j78 : Int32 → XH → XP Int32) => if (v11 : Int32) = v9 then (j78 0 h12) else (j78 1 h12)) fun (j56 : Int32 → XH → XP Int32) => if (p2 : Int32) = 0 then (j56 s23.2 h8) else (xg (xk h8 t = 10) <| xnn (xr h8 t 7) fun w20 => xg (xk h8 w20 = 12 ∧ xin p1 (xn h8 w20)) <| xg (xk h8 t = 10) <| xb (FX9_conjugateOf E t (xi h8 w20 (p1 : Int32).toNatClampNeg) s10.2 s23.2 h8) fun v21 h22 => j56 v21 h22))) xfu (s10.1, 0) h4)) xfu (0, 0) h1
theorem CX9_acts (E : XG) (t : Nat) (p1 : Int32) (p2 : Int32) (h : XH) : XN E mX9_acts eI 0 0 [.ref t, .int p1, .int p2] h (FX9_acts E t p1 p2 h) := by
  unfold FX9_acts
  refine S_enter (L := [some (.ref t), some (.int p1), some (.int p2), none, none, none, none]) (by decide +kernel) rfl rfl rfl ?_
  refine S_aload_0 0 dX9_acts_0 ?_
  refine S_iload_1 1 dX9_acts_1 ?_
  refine S_callV (a' := 0) (b' := 0) (a := 0) (b := 0) 2 (As := [.int p1]) (ci := 9) rfl calX9_touches imX9_touches seX9_touches mkX9_447 rfl rfl rfl rfl rfl (by decide) rfl rfl dX9_acts_2 (CX9_touches E t p1 h) (fun _ h1 => kqU ?_)
  refine S_ic 5 0 dX9_acts_5 (by decide) ?_
  refine S_istore_3 6 dX9_acts_6 rfl ?_
  refine S_ic 7 0 dX9_acts_7 (by decide) ?_
  refine S_istore_4 8 dX9_acts_8 rfl ?_
  refine S_loop (fun (s10 : Int32 × Int32) => [some (.ref t), some (.int p1), some (.int p2), some (.int s10.1), some (.int s10.2), none, none]) (fun again10 hg10 s10 h2 => ?_) xfu _ _
  refine S_iload_4 10 dX9_acts_10 ?_
  refine S_aload_0 12 dX9_acts_12 ?_
  refine S_iload_1 13 dX9_acts_13 ?_
  refine S_callV (a' := 0) (b' := 0) (a := 0) (b := 0) 14 (As := [.int p1]) (ci := 9) rfl calX9_lowers imX9_lowers seX9_lowers mkX9_332 rfl rfl rfl rfl rfl (by decide) rfl rfl dX9_acts_14 (CX9_lowers E t p1 h2) (fun v3 h4 => kqI ?_)
  refine S_icmpge 17 118 dX9_acts_17 (by decide) ?_ ?_
  · skip
    refine S_aload_0 118 dX9_acts_118 ?_
    refine S_iload_1 119 dX9_acts_119 ?_
    refine S_callV (a' := 0) (b' := 0) (a := 0) (b := 0) 120 (As := [.int p1]) (ci := 9) rfl calX9_ends imX9_ends seX9_ends mkX9_450 rfl rfl rfl rfl rfl (by decide) rfl rfl dX9_acts_120 (CX9_ends E t p1 h4) (fun _ h5 => kqU ?_)
    refine S_iload_3 123 dX9_acts_123 ?_
    exact S_iret 124 dX9_acts_124 rfl
  · skip
    refine S_ic 20 0 dX9_acts_20 (by decide) ?_
    refine S_istore_5 21 dX9_acts_21 rfl ?_
    refine S_loop (fun (s23 : Int32 × Int32) => [some (.ref t), some (.int p1), some (.int p2), some (.int s23.1), some (.int s10.2), some (.int s23.2), none]) (fun again23 hg23 s23 h6 => ?_) xfu _ _
    refine S_iload_5 23 dX9_acts_23 ?_
    refine S_aload_0 25 dX9_acts_25 ?_
    refine S_iload_1 26 dX9_acts_26 ?_
    refine S_callV (a' := 0) (b' := 0) (a := 0) (b := 0) 27 (As := [.int p1]) (ci := 9) rfl calX9_uppers imX9_uppers seX9_uppers mkX9_323 rfl rfl rfl rfl rfl (by decide) rfl rfl dX9_acts_27 (CX9_uppers E t p1 h6) (fun v7 h8 => kqI ?_)
    refine S_icmpge 30 112 dX9_acts_30 (by decide) ?_ ?_
    · skip
      refine S_iinc_4 112 (s10.2 + 1) dX9_acts_112 (by rfl) rfl ?_
      refine S_goto 115 10 dX9_acts_115 (by decide) ?_
      exact S_drop [5] rfl (hg10 _ _)
    · skip
      refine S_iload_2 33 dX9_acts_33 ?_
      refine S_join (fun jj => ∀ (v9 : Int32) (h10 : XH), XS E mX9_acts eI 0 0 56 [some (.ref t), some (.int p1), some (.int p2), some (.int s23.1), some (.int s10.2), some (.int s23.2), none] [.int v9] h10 (jj v9 h10)) (fun v9 h10 => ?_) (fun j56 hj56 => ?_)
      · skip
        refine S_istore_6 56 dX9_acts_56 rfl ?_
        refine S_iload_3 58 dX9_acts_58 ?_
        refine S_aload_0 59 dX9_acts_59 ?_
        refine S_iload_1 60 dX9_acts_60 ?_
        refine S_iload_4 61 dX9_acts_61 ?_
        refine S_iload_5 63 dX9_acts_63 ?_
        refine S_callV (a' := 0) (b' := 0) (a := 0) (b := 0) 65 (As := [.int p1, .int s10.2, .int s23.2]) (ci := 9) rfl calX9_on imX9_on seX9_on mkX9_320 rfl rfl rfl rfl rfl (by decide) rfl rfl dX9_acts_65 (CX9_on E t p1 s10.2 s23.2 h10) (fun v11 h12 => kqI ?_)
        refine S_iload_6 68 dX9_acts_68 ?_
        refine S_join (fun jj => ∀ (v13 : Int32) (h14 : XH), XS E mX9_acts eI 0 0 78 [some (.ref t), some (.int p1), some (.int p2), none, some (.int s10.2), some (.int s23.2), some (.int v9)] [.int v13, .int s23.1] h14 (jj v13 h14)) (fun v13 h14 => ?_) (fun j78 hj78 => ?_)
        · skip
          refine S_callS (a' := 0) (b' := 0) (a := 0) (b := 0) 78 (As := [.int v13]) rfl calX9_flag stX9_flag mkX9_207 rfl rfl rfl rfl rfl dX9_acts_78 (CX9_flag E v13 h14) (fun v15 h16 => kqI ?_)
          refine S_iadd 81 dX9_acts_81 ?_
          refine S_gen (fun v17 => ?_)
          refine S_istore_3 82 dX9_acts_82 rfl ?_
          refine S_aload_0 83 dX9_acts_83 ?_
          refine S_getR 84 fsX9_31 rfl dX9_acts_84 (fun w18 => ?_)
          refine S_bip 87 48 dX9_acts_87 (by decide) ?_
          refine S_bip 89 64 dX9_acts_89 (by decide) ?_
          refine S_iload_1 91 dX9_acts_91 ?_
          refine S_imul 92 dX9_acts_92 ?_
          refine S_iadd 93 dX9_acts_93 ?_
          refine S_bip 94 8 dX9_acts_94 (by decide) ?_
          refine S_iload_4 96 dX9_acts_96 ?_
          refine S_imul 98 dX9_acts_98 ?_
          refine S_iadd 99 dX9_acts_99 ?_
          refine S_iload_5 100 dX9_acts_100 ?_
          refine S_iadd 102 dX9_acts_102 ?_
          refine S_iload_6 103 dX9_acts_103 ?_
          refine S_iast 105 dX9_acts_105 (fun h19 => ?_)
          refine S_iinc_5 106 (s23.2 + 1) dX9_acts_106 (by rfl) rfl ?_
          refine S_goto 109 23 dX9_acts_109 (by decide) ?_
          exact S_drop [6] rfl (hg23 _ _)
        refine S_icmpeq 70 77 dX9_acts_70 (by decide) ?_ ?_
        · skip
          refine S_ic 77 0 dX9_acts_77 (by decide) ?_
          exact S_drop [3] rfl (hj78 _ _)
        · skip
          refine S_ic 73 1 dX9_acts_73 (by decide) ?_
          refine S_goto 74 78 dX9_acts_74 (by decide) ?_
          exact S_drop [3] rfl (hj78 _ _)
      refine S_ifeq 34 54 dX9_acts_34 (by decide) ?_ ?_
      · skip
        refine S_iload_5 54 dX9_acts_54 ?_
        exact S_drop [] rfl (hj56 _ _)
      · skip
        refine S_aload_0 37 dX9_acts_37 ?_
        refine S_aload_0 38 dX9_acts_38 ?_
        refine S_getR 39 fsX9_16 rfl dX9_acts_39 (fun w20 => ?_)
        refine S_iload_1 42 dX9_acts_42 ?_
        refine S_iald 43 dX9_acts_43 ?_
        refine S_iload_4 44 dX9_acts_44 ?_
        refine S_iload_5 46 dX9_acts_46 ?_
        refine S_callV (a' := 0) (b' := 0) (a := 0) (b := 0) 48 (As := [.int (xi h8 w20 (p1 : Int32).toNatClampNeg), .int s10.2, .int s23.2]) (ci := 9) rfl calX9_conjugateOf imX9_conjugateOf seX9_conjugateOf mkX9_298 rfl rfl rfl rfl rfl (by decide) rfl rfl dX9_acts_48 (CX9_conjugateOf E t (xi h8 w20 (p1 : Int32).toNatClampNeg) s10.2 s23.2 h8) (fun v21 h22 => kqI ?_)
        refine S_goto 51 56 dX9_acts_51 (by decide) ?_
        exact S_drop [] rfl (hj56 _ _)
def FX9_rest (E : XG) (t : Nat) (p1 : Int32) (h : XH) : XP Int32 := xg (xk h t = 10) <| xb (FX9_noModule E t p1 h) fun v1 h2 => xjn (fun (v3 : Int32) (h4 : XH) => xv v3 h4) fun (j18 : Int32 → XH → XP Int32) => if (v1 : Int32) = 0 then (xg (xk h2 t = 10) <| xb (FX9_acts E t p1 0 h2) fun v5 h6 => j18 v5 h6) else (j18 0 h2)
theorem CX9_rest (E : XG) (t : Nat) (p1 : Int32) (h : XH) : XN E mX9_rest eI 0 0 [.ref t, .int p1] h (FX9_rest E t p1 h) := by
  unfold FX9_rest
  refine S_enter (L := [some (.ref t), some (.int p1)]) (by decide +kernel) rfl rfl rfl ?_
  refine S_aload_0 0 dX9_rest_0 ?_
  refine S_iload_1 1 dX9_rest_1 ?_
  refine S_callV (a' := 0) (b' := 0) (a := 0) (b := 0) 2 (As := [.int p1]) (ci := 9) rfl calX9_noModule imX9_noModule seX9_noModule mkX9_308 rfl rfl rfl rfl rfl (by decide) rfl rfl dX9_rest_2 (CX9_noModule E t p1 h) (fun v1 h2 => kqI ?_)
  refine S_join (fun jj => ∀ (v3 : Int32) (h4 : XH), XS E mX9_rest eI 0 0 18 [none, none] [.int v3] h4 (jj v3 h4)) (fun v3 h4 => ?_) (fun j18 hj18 => ?_)
  · skip
    exact S_iret 18 dX9_rest_18 rfl
  refine S_ifeq 5 12 dX9_rest_5 (by decide) ?_ ?_
  · skip
    refine S_aload_0 12 dX9_rest_12 ?_
    refine S_iload_1 13 dX9_rest_13 ?_
    refine S_ic 14 0 dX9_rest_14 (by decide) ?_
    refine S_callV (a' := 0) (b' := 0) (a := 0) (b := 0) 15 (As := [.int p1, .int 0]) (ci := 9) rfl calX9_acts imX9_acts seX9_acts mkX9_453 rfl rfl rfl rfl rfl (by decide) rfl rfl dX9_rest_15 (CX9_acts E t p1 0 h2) (fun v5 h6 => kqI ?_)
    exact S_drop [0, 1] rfl (hj18 _ _)
  · skip
    refine S_ic 8 0 dX9_rest_8 (by decide) ?_
    refine S_goto 9 18 dX9_rest_9 (by decide) ?_
    exact S_drop [0, 1] rfl (hj18 _ _)
def FX9_conjugate (E : XG) (t : Nat) (p1 : Int32) (h : XH) : XP Int32 := xg (xk h t = 10) <| xb (FX9_noModule E t p1 h) fun v1 h2 => xjn (fun (v3 : Int32) (h4 : XH) => xv v3 h4) fun (j46 : Int32 → XH → XP Int32) => xjn (fun  (h5 : XH) => j46 0 h5) fun (j36 : XH → XP Int32) => if (v1 : Int32) = 0 then (xg (xk h2 t = 10) <| xnn (xr h2 t 7) fun w6 => xg (xk h2 w6 = 12 ∧ xin p1 (xn h2 w6)) <| xg (xk h2 t = 10) <| xnn (xr h2 t 8) fun w7 => xg (xk h2 w7 = 12 ∧ xin p1 (xn h2 w7)) <| xjn (fun (v8 : Int32) (h9 : XH) => xg (xk h9 t = 10) <| xb (FX9_refuse E t v8 3 h9) fun v10 h11 => if (v10 : Int32) = 0 then (xg (xk h11 t = 10) <| xb (FX9_acts E t p1 1 h11) fun v12 h13 => j46 v12 h13) else (j36 h11)) fun (j29 : Int32 → XH → XP Int32) => if ((xi h2 w6 (p1 : Int32).toNatClampNeg) : Int32) = (xi h2 w7 (p1 : Int32).toNatClampNeg) then (j29 0 h2) else (j29 1 h2)) else (j36 h2)
theorem CX9_conjugate (E : XG) (t : Nat) (p1 : Int32) (h : XH) : XN E mX9_conjugate eI 0 0 [.ref t, .int p1] h (FX9_conjugate E t p1 h) := by
  unfold FX9_conjugate
  refine S_enter (L := [some (.ref t), some (.int p1)]) (by decide +kernel) rfl rfl rfl ?_
  refine S_aload_0 0 dX9_conjugate_0 ?_
  refine S_iload_1 1 dX9_conjugate_1 ?_
  refine S_callV (a' := 0) (b' := 0) (a := 0) (b := 0) 2 (As := [.int p1]) (ci := 9) rfl calX9_noModule imX9_noModule seX9_noModule mkX9_308 rfl rfl rfl rfl rfl (by decide) rfl rfl dX9_conjugate_2 (CX9_noModule E t p1 h) (fun v1 h2 => kqI ?_)
  refine S_join (fun jj => ∀ (v3 : Int32) (h4 : XH), XS E mX9_conjugate eI 0 0 46 [none, none] [.int v3] h4 (jj v3 h4)) (fun v3 h4 => ?_) (fun j46 hj46 => ?_)
  · skip
    exact S_iret 46 dX9_conjugate_46 rfl
  refine S_join (fun jj => ∀  (h5 : XH), XS E mX9_conjugate eI 0 0 36 [none, none] [] h5 (jj  h5)) (fun  h5 => ?_) (fun j36 hj36 => ?_)
  · skip
    refine S_ic 36 0 dX9_conjugate_36 (by decide) ?_
    refine S_goto 37 46 dX9_conjugate_37 (by decide) ?_
    exact S_drop [] rfl (hj46 _ _)
  refine S_ifne 5 36 dX9_conjugate_5 (by decide) ?_ ?_
  · skip
    exact S_drop [0, 1] rfl (hj36 _)
  · skip
    refine S_aload_0 8 dX9_conjugate_8 ?_
    refine S_aload_0 9 dX9_conjugate_9 ?_
    refine S_getR 10 fsX9_16 rfl dX9_conjugate_10 (fun w6 => ?_)
    refine S_iload_1 13 dX9_conjugate_13 ?_
    refine S_iald 14 dX9_conjugate_14 ?_
    refine S_aload_0 15 dX9_conjugate_15 ?_
    refine S_getR 16 fsX9_19 rfl dX9_conjugate_16 (fun w7 => ?_)
    refine S_iload_1 19 dX9_conjugate_19 ?_
    refine S_iald 20 dX9_conjugate_20 ?_
    refine S_join (fun jj => ∀ (v8 : Int32) (h9 : XH), XS E mX9_conjugate eI 0 0 29 [some (.ref t), some (.int p1)] [.int v8, .ref t] h9 (jj v8 h9)) (fun v8 h9 => ?_) (fun j29 hj29 => ?_)
    · skip
      refine S_ic 29 3 dX9_conjugate_29 (by decide) ?_
      refine S_callV (a' := 0) (b' := 0) (a := 0) (b := 0) 30 (As := [.int v8, .int 3]) (ci := 9) rfl calX9_refuse imX9_refuse seX9_refuse mkX9_94 rfl rfl rfl rfl rfl (by decide) rfl rfl dX9_conjugate_30 (CX9_refuse E t v8 3 h9) (fun v10 h11 => kqI ?_)
      refine S_ifeq 33 40 dX9_conjugate_33 (by decide) ?_ ?_
      · skip
        refine S_aload_0 40 dX9_conjugate_40 ?_
        refine S_iload_1 41 dX9_conjugate_41 ?_
        refine S_ic 42 1 dX9_conjugate_42 (by decide) ?_
        refine S_callV (a' := 0) (b' := 0) (a := 0) (b := 0) 43 (As := [.int p1, .int 1]) (ci := 9) rfl calX9_acts imX9_acts seX9_acts mkX9_453 rfl rfl rfl rfl rfl (by decide) rfl rfl dX9_conjugate_43 (CX9_acts E t p1 1 h11) (fun v12 h13 => kqI ?_)
        exact S_drop [0, 1] rfl (hj46 _ _)
      · skip
        exact S_drop [0, 1] rfl (hj36 _)
    refine S_icmpeq 21 28 dX9_conjugate_21 (by decide) ?_ ?_
    · skip
      refine S_ic 28 0 dX9_conjugate_28 (by decide) ?_
      exact S_drop [] rfl (hj29 _ _)
    · skip
      refine S_ic 24 1 dX9_conjugate_24 (by decide) ?_
      refine S_goto 25 29 dX9_conjugate_25 (by decide) ?_
      exact S_drop [] rfl (hj29 _ _)
def FX9_setTop (E : XG) (t : Nat) (p1 : Int32) (p2 : Int32) (p3 : Int32) (h : XH) : XP Int32 := xg (xk h t = 10) <| xb (FX9_noTop E t p1 p2 h) fun v1 h2 => xjn (fun  (h3 : XH) => xv 0 h3) fun (j42 : XH → XP Int32) => if (v1 : Int32) = 0 then (xg (xk h2 t = 10) <| xnn (xr h2 t 10) fun w4 => xg (xk h2 w4 = 12 ∧ xin p1 (xn h2 w4)) <| xg (xk h2 t = 10) <| xb (FX9_uppers E t (xi h2 w4 (p1 : Int32).toNatClampNeg) h2) fun v5 h6 => xb (FX9_in E p3 0 (v5 - 1) h6) fun v7 h8 => xjn (fun (v9 : Int32) (h10 : XH) => xg (xk h10 t = 10) <| xb (FX9_refuse E t v9 2 h10) fun v11 h12 => if (v11 : Int32) = 0 then (xg (xk h12 t = 10) <| xb (FX9_begins E t  h12) fun _ h13 => xg (xk h13 t = 10) <| xb (FX9_topOf E t p1 p2 h13) fun v14 h15 => xg (xk h15 t = 10) <| xnn (xr h15 t 12) fun w16 => xg (xk h15 w16 = 12 ∧ xin ((432 + (8 * p1)) + p2) (xn h15 w16)) <| xlt (yi h15 w16 (((432 + (8 * p1)) + p2) : Int32).toNatClampNeg p3) fun h17 => xv v14 h17) else (j42 h12)) fun (j35 : Int32 → XH → XP Int32) => if (v7 : Int32) = 0 then (j35 1 h8) else (j35 0 h8)) else (j42 h2)
theorem CX9_setTop (E : XG) (t : Nat) (p1 : Int32) (p2 : Int32) (p3 : Int32) (h : XH) : XN E mX9_setTop eI 0 0 [.ref t, .int p1, .int p2, .int p3] h (FX9_setTop E t p1 p2 p3 h) := by
  unfold FX9_setTop
  refine S_enter (L := [some (.ref t), some (.int p1), some (.int p2), some (.int p3), none]) (by decide +kernel) rfl rfl rfl ?_
  refine S_aload_0 0 dX9_setTop_0 ?_
  refine S_iload_1 1 dX9_setTop_1 ?_
  refine S_iload_2 2 dX9_setTop_2 ?_
  refine S_callV (a' := 0) (b' := 0) (a := 0) (b := 0) 3 (As := [.int p1, .int p2]) (ci := 9) rfl calX9_noTop imX9_noTop seX9_noTop mkX9_393 rfl rfl rfl rfl rfl (by decide) rfl rfl dX9_setTop_3 (CX9_noTop E t p1 p2 h) (fun v1 h2 => kqI ?_)
  refine S_join (fun jj => ∀  (h3 : XH), XS E mX9_setTop eI 0 0 42 [none, none, none, none, none] [] h3 (jj  h3)) (fun  h3 => ?_) (fun j42 hj42 => ?_)
  · skip
    refine S_ic 42 0 dX9_setTop_42 (by decide) ?_
    exact S_iret 43 dX9_setTop_43 rfl
  refine S_ifne 6 42 dX9_setTop_6 (by decide) ?_ ?_
  · skip
    exact S_drop [0, 1, 2, 3] rfl (hj42 _)
  · skip
    refine S_aload_0 9 dX9_setTop_9 ?_
    refine S_iload_3 10 dX9_setTop_10 ?_
    refine S_ic 11 0 dX9_setTop_11 (by decide) ?_
    refine S_aload_0 12 dX9_setTop_12 ?_
    refine S_aload_0 13 dX9_setTop_13 ?_
    refine S_getR 14 fsX9_25 rfl dX9_setTop_14 (fun w4 => ?_)
    refine S_iload_1 17 dX9_setTop_17 ?_
    refine S_iald 18 dX9_setTop_18 ?_
    refine S_callV (a' := 0) (b' := 0) (a := 0) (b := 0) 19 (As := [.int (xi h2 w4 (p1 : Int32).toNatClampNeg)]) (ci := 9) rfl calX9_uppers imX9_uppers seX9_uppers mkX9_323 rfl rfl rfl rfl rfl (by decide) rfl rfl dX9_setTop_19 (CX9_uppers E t (xi h2 w4 (p1 : Int32).toNatClampNeg) h2) (fun v5 h6 => kqI ?_)
    refine S_ic 22 1 dX9_setTop_22 (by decide) ?_
    refine S_isub 23 dX9_setTop_23 ?_
    refine S_callS (a' := 0) (b' := 0) (a := 0) (b := 0) 24 (As := [.int p3, .int 0, .int (v5 - 1)]) rfl calX9_in stX9_in mkX9_152 rfl rfl rfl rfl rfl dX9_setTop_24 (CX9_in E p3 0 (v5 - 1) h6) (fun v7 h8 => kqI ?_)
    refine S_join (fun jj => ∀ (v9 : Int32) (h10 : XH), XS E mX9_setTop eI 0 0 35 [some (.ref t), some (.int p1), some (.int p2), some (.int p3), none] [.int v9, .ref t] h10 (jj v9 h10)) (fun v9 h10 => ?_) (fun j35 hj35 => ?_)
    · skip
      refine S_ic 35 2 dX9_setTop_35 (by decide) ?_
      refine S_callV (a' := 0) (b' := 0) (a := 0) (b := 0) 36 (As := [.int v9, .int 2]) (ci := 9) rfl calX9_refuse imX9_refuse seX9_refuse mkX9_94 rfl rfl rfl rfl rfl (by decide) rfl rfl dX9_setTop_36 (CX9_refuse E t v9 2 h10) (fun v11 h12 => kqI ?_)
      refine S_ifeq 39 44 dX9_setTop_39 (by decide) ?_ ?_
      · skip
        refine S_aload_0 44 dX9_setTop_44 ?_
        refine S_callV (a' := 0) (b' := 0) (a := 0) (b := 0) 45 (As := []) (ci := 9) rfl calX9_begins imX9_begins seX9_begins mkX9_441 rfl rfl rfl rfl rfl (by decide) rfl rfl dX9_setTop_45 (CX9_begins E t  h12) (fun _ h13 => kqU ?_)
        refine S_aload_0 48 dX9_setTop_48 ?_
        refine S_iload_1 49 dX9_setTop_49 ?_
        refine S_iload_2 50 dX9_setTop_50 ?_
        refine S_callV (a' := 0) (b' := 0) (a := 0) (b := 0) 51 (As := [.int p1, .int p2]) (ci := 9) rfl calX9_topOf imX9_topOf seX9_topOf mkX9_396 rfl rfl rfl rfl rfl (by decide) rfl rfl dX9_setTop_51 (CX9_topOf E t p1 p2 h13) (fun v14 h15 => kqI ?_)
        refine S_istore_4 54 dX9_setTop_54 rfl ?_
        refine S_aload_0 56 dX9_setTop_56 ?_
        refine S_getR 57 fsX9_31 rfl dX9_setTop_57 (fun w16 => ?_)
        refine S_sip 60 432 dX9_setTop_60 (by decide) ?_
        refine S_bip 63 8 dX9_setTop_63 (by decide) ?_
        refine S_iload_1 65 dX9_setTop_65 ?_
        refine S_imul 66 dX9_setTop_66 ?_
        refine S_iadd 67 dX9_setTop_67 ?_
        refine S_iload_2 68 dX9_setTop_68 ?_
        refine S_iadd 69 dX9_setTop_69 ?_
        refine S_iload_3 70 dX9_setTop_70 ?_
        refine S_iast 71 dX9_setTop_71 (fun h17 => ?_)
        refine S_iload_4 72 dX9_setTop_72 ?_
        exact S_iret 74 dX9_setTop_74 rfl
      · skip
        exact S_drop [0, 1, 2, 3] rfl (hj42 _)
    refine S_ifne 27 34 dX9_setTop_27 (by decide) ?_ ?_
    · skip
      refine S_ic 34 0 dX9_setTop_34 (by decide) ?_
      exact S_drop [] rfl (hj35 _ _)
    · skip
      refine S_ic 30 1 dX9_setTop_30 (by decide) ?_
      refine S_goto 31 35 dX9_setTop_31 (by decide) ?_
      exact S_drop [] rfl (hj35 _ _)
