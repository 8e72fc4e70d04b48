/-! Methods as functions, 14. -/
set_option linter.unusedVariables false
set_option maxRecDepth 10000
def FX9_up (E : XG) (t : Nat) (p1 : Int32) (p2 : Int32) (p3 : Int32) (h : XH) : XP Int32 := xg (xk h t = 10) <| xnn (xr h t 7) fun w1 => xg (xk h w1 = 12 ∧ xin p1 (xn h w1)) <| xg (xk h t = 10) <| xb (FX9_of E t (xi h w1 (p1 : Int32).toNatClampNeg) p2 p3 h) fun v2 h3 => xv v2 h3
theorem CX9_up (E : XG) (t : Nat) (p1 : Int32) (p2 : Int32) (p3 : Int32) (h : XH) : XN E mX9_up eI 0 0 [.ref t, .int p1, .int p2, .int p3] h (FX9_up E t p1 p2 p3 h) := by
  unfold FX9_up
  refine S_enter (L := [some (.ref t), some (.int p1), some (.int p2), some (.int p3)]) (by decide +kernel) rfl rfl rfl ?_
  refine S_aload_0 0 dX9_up_0 ?_
  refine S_aload_0 1 dX9_up_1 ?_
  refine S_getR 2 fsX9_16 rfl dX9_up_2 (fun w1 => ?_)
  refine S_iload_1 5 dX9_up_5 ?_
  refine S_iald 6 dX9_up_6 ?_
  refine S_iload_2 7 dX9_up_7 ?_
  refine S_iload_3 8 dX9_up_8 ?_
  refine S_callV (a' := 0) (b' := 0) (a := 0) (b := 0) 9 (As := [.int (xi h w1 (p1 : Int32).toNatClampNeg), .int p2, .int p3]) (ci := 9) rfl calX9_of imX9_of seX9_of mkX9_285 rfl rfl rfl rfl rfl (by decide) rfl rfl dX9_up_9 (CX9_of E t (xi h w1 (p1 : Int32).toNatClampNeg) p2 p3 h) (fun v2 h3 => kqI ?_)
  exact S_iret 12 dX9_up_12 rfl
def FX9_down (E : XG) (t : Nat) (p1 : Int32) (p2 : Int32) (p3 : Int32) (h : XH) : XP Int32 := xg (xk h t = 10) <| xnn (xr h t 8) fun w1 => xg (xk h w1 = 12 ∧ xin p1 (xn h w1)) <| xg (xk h t = 10) <| xb (FX9_of E t (xi h w1 (p1 : Int32).toNatClampNeg) p2 p3 h) fun v2 h3 => xv v2 h3
theorem CX9_down (E : XG) (t : Nat) (p1 : Int32) (p2 : Int32) (p3 : Int32) (h : XH) : XN E mX9_down eI 0 0 [.ref t, .int p1, .int p2, .int p3] h (FX9_down E t p1 p2 p3 h) := by
  unfold FX9_down
  refine S_enter (L := [some (.ref t), some (.int p1), some (.int p2), some (.int p3)]) (by decide +kernel) rfl rfl rfl ?_
  refine S_aload_0 0 dX9_down_0 ?_
  refine S_aload_0 1 dX9_down_1 ?_
  refine S_getR 2 fsX9_19 rfl dX9_down_2 (fun w1 => ?_)
  refine S_iload_1 5 dX9_down_5 ?_
  refine S_iald 6 dX9_down_6 ?_
  refine S_iload_2 7 dX9_down_7 ?_
  refine S_iload_3 8 dX9_down_8 ?_
  refine S_callV (a' := 0) (b' := 0) (a := 0) (b := 0) 9 (As := [.int (xi h w1 (p1 : Int32).toNatClampNeg), .int p2, .int p3]) (ci := 9) rfl calX9_of imX9_of seX9_of mkX9_285 rfl rfl rfl rfl rfl (by decide) rfl rfl dX9_down_9 (CX9_of E t (xi h w1 (p1 : Int32).toNatClampNeg) p2 p3 h) (fun v2 h3 => kqI ?_)
  exact S_iret 12 dX9_down_12 rfl
def FX9_uppers (E : XG) (t : Nat) (p1 : Int32) (h : XH) : XP Int32 := xg (xk h t = 10) <| xnn (xr h t 5) fun w1 => xg (xk h t = 10) <| xnn (xr h t 7) fun w2 => xg (xk h w2 = 12 ∧ xin p1 (xn h w2)) <| xg (xk h w1 = 12 ∧ xin (xi h w2 (p1 : Int32).toNatClampNeg) (xn h w1)) <| xv (xi h w1 ((xi h w2 (p1 : Int32).toNatClampNeg) : Int32).toNatClampNeg) h
theorem CX9_uppers (E : XG) (t : Nat) (p1 : Int32) (h : XH) : XN E mX9_uppers eI 0 0 [.ref t, .int p1] h (FX9_uppers E t p1 h) := by
  unfold FX9_uppers
  refine S_enter (L := [some (.ref t), some (.int p1)]) (by decide +kernel) rfl rfl rfl ?_
  refine S_aload_0 0 dX9_uppers_0 ?_
  refine S_getR 1 fsX9_7 rfl dX9_uppers_1 (fun w1 => ?_)
  refine S_aload_0 4 dX9_uppers_4 ?_
  refine S_getR 5 fsX9_16 rfl dX9_uppers_5 (fun w2 => ?_)
  refine S_iload_1 8 dX9_uppers_8 ?_
  refine S_iald 9 dX9_uppers_9 ?_
  refine S_iald 10 dX9_uppers_10 ?_
  exact S_iret 11 dX9_uppers_11 rfl
def FX9_lowers (E : XG) (t : Nat) (p1 : Int32) (h : XH) : XP Int32 := xg (xk h t = 10) <| xnn (xr h t 5) fun w1 => xg (xk h t = 10) <| xnn (xr h t 8) fun w2 => xg (xk h w2 = 12 ∧ xin p1 (xn h w2)) <| xg (xk h w1 = 12 ∧ xin (xi h w2 (p1 : Int32).toNatClampNeg) (xn h w1)) <| xv (xi h w1 ((xi h w2 (p1 : Int32).toNatClampNeg) : Int32).toNatClampNeg) h
theorem CX9_lowers (E : XG) (t : Nat) (p1 : Int32) (h : XH) : XN E mX9_lowers eI 0 0 [.ref t, .int p1] h (FX9_lowers E t p1 h) := by
  unfold FX9_lowers
  refine S_enter (L := [some (.ref t), some (.int p1)]) (by decide +kernel) rfl rfl rfl ?_
  refine S_aload_0 0 dX9_lowers_0 ?_
  refine S_getR 1 fsX9_7 rfl dX9_lowers_1 (fun w1 => ?_)
  refine S_aload_0 4 dX9_lowers_4 ?_
  refine S_getR 5 fsX9_19 rfl dX9_lowers_5 (fun w2 => ?_)
  refine S_iload_1 8 dX9_lowers_8 ?_
  refine S_iald 9 dX9_lowers_9 ?_
  refine S_iald 10 dX9_lowers_10 ?_
  exact S_iret 11 dX9_lowers_11 rfl
def FX9_groupOf (E : XG) (t : Nat) (p1 : Int32) (p2 : Int32) (h : XH) : XP Int32 := xg (xk h t = 10) <| xb (FX9_noModule E t p1 h) fun v1 h2 => xjn (fun (v3 : Int32) (h4 : XH) => xv v3 h4) fun (j31 : Int32 → XH → XP Int32) => if (v1 : Int32) = 0 then (if (p2 : Int32) = 0 then (xg (xk h2 t = 10) <| xnn (xr h2 t 7) fun w5 => xg (xk h2 w5 = 12 ∧ xin p1 (xn h2 w5)) <| j31 (xi h2 w5 (p1 : Int32).toNatClampNeg) h2) else (xg (xk h2 t = 10) <| xnn (xr h2 t 8) fun w6 => xg (xk h2 w6 = 12 ∧ xin p1 (xn h2 w6)) <| j31 (xi h2 w6 (p1 : Int32).toNatClampNeg) h2)) else (j31 0 h2)
theorem CX9_groupOf (E : XG) (t : Nat) (p1 : Int32) (p2 : Int32) (h : XH) : XN E mX9_groupOf eI 0 0 [.ref t, .int p1, .int p2] h (FX9_groupOf E t p1 p2 h) := by
  unfold FX9_groupOf
  refine S_enter (L := [some (.ref t), some (.int p1), some (.int p2)]) (by decide +kernel) rfl rfl rfl ?_
  refine S_aload_0 0 dX9_groupOf_0 ?_
  refine S_iload_1 1 dX9_groupOf_1 ?_
  refine S_callV (a' := 0) (b' := 0) (a := 0) (b := 0) 2 (As := [.int p1]) (ci := 9) rfl calX9_noModule imX9_noModule seX9_noModule mkX9_308 rfl rfl rfl rfl rfl (by decide) rfl rfl dX9_groupOf_2 (CX9_noModule E t p1 h) (fun v1 h2 => kqI ?_)
  refine S_join (fun jj => ∀ (v3 : Int32) (h4 : XH), XS E mX9_groupOf eI 0 0 31 [none, none, none] [.int v3] h4 (jj v3 h4)) (fun v3 h4 => ?_) (fun j31 hj31 => ?_)
  · skip
    exact S_iret 31 dX9_groupOf_31 rfl
  refine S_ifeq 5 12 dX9_groupOf_5 (by decide) ?_ ?_
  · skip
    refine S_iload_2 12 dX9_groupOf_12 ?_
    refine S_ifeq 13 25 dX9_groupOf_13 (by decide) ?_ ?_
    · skip
      refine S_aload_0 25 dX9_groupOf_25 ?_
      refine S_getR 26 fsX9_16 rfl dX9_groupOf_26 (fun w5 => ?_)
      refine S_iload_1 29 dX9_groupOf_29 ?_
      refine S_iald 30 dX9_groupOf_30 ?_
      exact S_drop [0, 1, 2] rfl (hj31 _ _)
    · skip
      refine S_aload_0 16 dX9_groupOf_16 ?_
      refine S_getR 17 fsX9_19 rfl dX9_groupOf_17 (fun w6 => ?_)
      refine S_iload_1 20 dX9_groupOf_20 ?_
      refine S_iald 21 dX9_groupOf_21 ?_
      refine S_goto 22 31 dX9_groupOf_22 (by decide) ?_
      exact S_drop [0, 1, 2] rfl (hj31 _ _)
  · skip
    refine S_ic 8 0 dX9_groupOf_8 (by decide) ?_
    refine S_goto 9 31 dX9_groupOf_9 (by decide) ?_
    exact S_drop [0, 1, 2] rfl (hj31 _ _)
def FX9_boundary (E : XG) (t : Nat) (p1 : Int32) (p2 : Int32) (h : XH) : XP Int32 := xg (xk h t = 10) <| xb (FX9_noUpper E t p1 p2 h) fun v1 h2 => xjn (fun (v3 : Int32) (h4 : XH) => xv v3 h4) fun (j19 : Int32 → XH → XP Int32) => if (v1 : Int32) = 0 then (xg (xk h2 t = 10) <| xb (FX9_boundaryOf E t p1 p2 h2) fun v5 h6 => j19 v5 h6) else (j19 0 h2)
theorem CX9_boundary (E : XG) (t : Nat) (p1 : Int32) (p2 : Int32) (h : XH) : XN E mX9_boundary eI 0 0 [.ref t, .int p1, .int p2] h (FX9_boundary E t p1 p2 h) := by
  unfold FX9_boundary
  refine S_enter (L := [some (.ref t), some (.int p1), some (.int p2)]) (by decide +kernel) rfl rfl rfl ?_
  refine S_aload_0 0 dX9_boundary_0 ?_
  refine S_iload_1 1 dX9_boundary_1 ?_
  refine S_iload_2 2 dX9_boundary_2 ?_
  refine S_callV (a' := 0) (b' := 0) (a := 0) (b := 0) 3 (As := [.int p1, .int p2]) (ci := 9) rfl calX9_noUpper imX9_noUpper seX9_noUpper mkX9_311 rfl rfl rfl rfl rfl (by decide) rfl rfl dX9_boundary_3 (CX9_noUpper E t p1 p2 h) (fun v1 h2 => kqI ?_)
  refine S_join (fun jj => ∀ (v3 : Int32) (h4 : XH), XS E mX9_boundary eI 0 0 19 [none, none, none] [.int v3] h4 (jj v3 h4)) (fun v3 h4 => ?_) (fun j19 hj19 => ?_)
  · skip
    exact S_iret 19 dX9_boundary_19 rfl
  refine S_ifeq 6 13 dX9_boundary_6 (by decide) ?_ ?_
  · skip
    refine S_aload_0 13 dX9_boundary_13 ?_
    refine S_iload_1 14 dX9_boundary_14 ?_
    refine S_iload_2 15 dX9_boundary_15 ?_
    refine S_callV (a' := 0) (b' := 0) (a := 0) (b := 0) 16 (As := [.int p1, .int p2]) (ci := 9) rfl calX9_boundaryOf imX9_boundaryOf seX9_boundaryOf mkX9_314 rfl rfl rfl rfl rfl (by decide) rfl rfl dX9_boundary_16 (CX9_boundaryOf E t p1 p2 h2) (fun v5 h6 => kqI ?_)
    exact S_drop [0, 1, 2] rfl (hj19 _ _)
  · skip
    refine S_ic 9 0 dX9_boundary_9 (by decide) ?_
    refine S_goto 10 19 dX9_boundary_10 (by decide) ?_
    exact S_drop [0, 1, 2] rfl (hj19 _ _)
def FX9_act (E : XG) (t : Nat) (p1 : Int32) (p2 : Int32) (p3 : Int32) (h : XH) : XP Int32 := xg (xk h t = 10) <| xb (FX9_noLower E t p1 p2 h) fun v1 h2 => xjn (fun (v3 : Int32) (h4 : XH) => xv v3 h4) fun (j29 : Int32 → XH → XP Int32) => xjn (fun  (h5 : XH) => j29 0 h5) fun (j18 : XH → XP Int32) => if (v1 : Int32) = 0 then (xg (xk h2 t = 10) <| xb (FX9_noUpper E t p1 p3 h2) fun v6 h7 => if (v6 : Int32) = 0 then (xg (xk h7 t = 10) <| xb (FX9_on E t p1 p2 p3 h7) fun v8 h9 => j29 v8 h9) else (j18 h7)) else (j18 h2)
theorem CX9_act (E : XG) (t : Nat) (p1 : Int32) (p2 : Int32) (p3 : Int32) (h : XH) : XN E mX9_act eI 0 0 [.ref t, .int p1, .int p2, .int p3] h (FX9_act E t p1 p2 p3 h) := by
  unfold FX9_act
  refine S_enter (L := [some (.ref t), some (.int p1), some (.int p2), some (.int p3)]) (by decide +kernel) rfl rfl rfl ?_
  refine S_aload_0 0 dX9_act_0 ?_
  refine S_iload_1 1 dX9_act_1 ?_
  refine S_iload_2 2 dX9_act_2 ?_
  refine S_callV (a' := 0) (b' := 0) (a := 0) (b := 0) 3 (As := [.int p1, .int p2]) (ci := 9) rfl calX9_noLower imX9_noLower seX9_noLower mkX9_317 rfl rfl rfl rfl rfl (by decide) rfl rfl dX9_act_3 (CX9_noLower E t p1 p2 h) (fun v1 h2 => kqI ?_)
  refine S_join (fun jj => ∀ (v3 : Int32) (h4 : XH), XS E mX9_act eI 0 0 29 [none, none, none, none] [.int v3] h4 (jj v3 h4)) (fun v3 h4 => ?_) (fun j29 hj29 => ?_)
  · skip
    exact S_iret 29 dX9_act_29 rfl
  refine S_join (fun jj => ∀  (h5 : XH), XS E mX9_act eI 0 0 18 [none, none, none, none] [] h5 (jj  h5)) (fun  h5 => ?_) (fun j18 hj18 => ?_)
  · skip
    refine S_ic 18 0 dX9_act_18 (by decide) ?_
    refine S_goto 19 29 dX9_act_19 (by decide) ?_
    exact S_drop [] rfl (hj29 _ _)
  refine S_ifne 6 18 dX9_act_6 (by decide) ?_ ?_
  · skip
    exact S_drop [0, 1, 2, 3] rfl (hj18 _)
  · skip
    refine S_aload_0 9 dX9_act_9 ?_
    refine S_iload_1 10 dX9_act_10 ?_
    refine S_iload_3 11 dX9_act_11 ?_
    refine S_callV (a' := 0) (b' := 0) (a := 0) (b := 0) 12 (As := [.int p1, .int p3]) (ci := 9) rfl calX9_noUpper imX9_noUpper seX9_noUpper mkX9_311 rfl rfl rfl rfl rfl (by decide) rfl rfl dX9_act_12 (CX9_noUpper E t p1 p3 h2) (fun v6 h7 => kqI ?_)
    refine S_ifeq 15 22 dX9_act_15 (by decide) ?_ ?_
    · skip
      refine S_aload_0 22 dX9_act_22 ?_
      refine S_iload_1 23 dX9_act_23 ?_
      refine S_iload_2 24 dX9_act_24 ?_
      refine S_iload_3 25 dX9_act_25 ?_
      refine S_callV (a' := 0) (b' := 0) (a := 0) (b := 0) 26 (As := [.int p1, .int p2, .int p3]) (ci := 9) rfl calX9_on imX9_on seX9_on mkX9_320 rfl rfl rfl rfl rfl (by decide) rfl rfl dX9_act_26 (CX9_on E t p1 p2 p3 h7) (fun v8 h9 => kqI ?_)
      exact S_drop [0, 1, 2, 3] rfl (hj29 _ _)
    · skip
      exact S_drop [0, 1, 2, 3] rfl (hj18 _)
def FX9_breaksProducts (E : XG) (t : Nat) (p1 : Int32) (h : XH) : XP Int32 := xlp (fun again2 (s2 : Int32) h1 => xg (xk h1 t = 10) <| xb (FX9_uppers E t p1 h1) fun v2 h3 => if (v2 : Int32) ≤ s2 then (xg ((0 : Int32) = 0 ∨ (0 : Int32) = 1) <| xv 0 h3) else (xlp (fun again13 (s13 : Int32) h4 => xg (xk h4 t = 10) <| xb (FX9_uppers E t p1 h4) fun v5 h6 => if (v5 : Int32) ≤ s13 then (again2 (s2 + 1) h6) else (xg (xk h6 t = 10) <| xb (FX9_up E t p1 s2 s13 h6) fun v7 h8 => xg (xk h8 t = 10) <| xb (FX9_boundaryOf E t p1 v7 h8) fun v9 h10 => xg (xk h10 t = 10) <| xb (FX9_boundaryOf E t p1 s2 h10) fun v11 h12 => xg (xk h12 t = 10) <| xb (FX9_boundaryOf E t p1 s13 h12) fun v13 h14 => xg (xk h14 t = 10) <| xb (FX9_down E t p1 v11 v13 h14) fun v15 h16 => if (v9 : Int32) = v15 then (again13 (s13 + 1) h16) else (xg ((1 : Int32) = 0 ∨ (1 : Int32) = 1) <| xv 1 h16))) xfu 0 h3)) xfu 0 h
theorem CX9_breaksProducts (E : XG) (t : Nat) (p1 : Int32) (h : XH) : XN E mX9_breaksProducts eI 0 0 [.ref t, .int p1] h (FX9_breaksProducts E t p1 h) := by
  unfold FX9_breaksProducts
  refine S_enter (L := [some (.ref t), some (.int p1), none, none]) (by decide +kernel) rfl rfl rfl ?_
  refine S_ic 0 0 dX9_breaksProducts_0 (by decide) ?_
  refine S_istore_2 1 dX9_breaksProducts_1 rfl ?_
  refine S_loop (fun (s2 : Int32) => [some (.ref t), some (.int p1), some (.int s2), none]) (fun again2 hg2 s2 h1 => ?_) xfu _ _
  refine S_iload_2 2 dX9_breaksProducts_2 ?_
  refine S_aload_0 3 dX9_breaksProducts_3 ?_
  refine S_iload_1 4 dX9_breaksProducts_4 ?_
  refine S_callV (a' := 0) (b' := 0) (a := 0) (b := 0) 5 (As := [.int p1]) (ci := 9) rfl calX9_uppers imX9_uppers seX9_uppers mkX9_323 rfl rfl rfl rfl rfl (by decide) rfl rfl dX9_breaksProducts_5 (CX9_uppers E t p1 h1) (fun v2 h3 => kqI ?_)
  refine S_icmpge 8 68 dX9_breaksProducts_8 (by decide) ?_ ?_
  · skip
    refine S_ic 68 0 dX9_breaksProducts_68 (by decide) ?_
    exact S_zret 69 dX9_breaksProducts_69 rfl
  · skip
    refine S_ic 11 0 dX9_breaksProducts_11 (by decide) ?_
    refine S_istore_3 12 dX9_breaksProducts_12 rfl ?_
    refine S_loop (fun (s13 : Int32) => [some (.ref t), some (.int p1), some (.int s2), some (.int s13)]) (fun again13 hg13 s13 h4 => ?_) xfu _ _
    refine S_iload_3 13 dX9_breaksProducts_13 ?_
    refine S_aload_0 14 dX9_breaksProducts_14 ?_
    refine S_iload_1 15 dX9_breaksProducts_15 ?_
    refine S_callV (a' := 0) (b' := 0) (a := 0) (b := 0) 16 (As := [.int p1]) (ci := 9) rfl calX9_uppers imX9_uppers seX9_uppers mkX9_323 rfl rfl rfl rfl rfl (by decide) rfl rfl dX9_breaksProducts_16 (CX9_uppers E t p1 h4) (fun v5 h6 => kqI ?_)
    refine S_icmpge 19 62 dX9_breaksProducts_19 (by decide) ?_ ?_
    · skip
      refine S_iinc_2 62 (s2 + 1) dX9_breaksProducts_62 (by rfl) rfl ?_
      refine S_goto 65 2 dX9_breaksProducts_65 (by decide) ?_
      exact S_drop [3] rfl (hg2 _ _)
    · skip
      refine S_aload_0 22 dX9_breaksProducts_22 ?_
      refine S_iload_1 23 dX9_breaksProducts_23 ?_
      refine S_aload_0 24 dX9_breaksProducts_24 ?_
      refine S_iload_1 25 dX9_breaksProducts_25 ?_
      refine S_iload_2 26 dX9_breaksProducts_26 ?_
      refine S_iload_3 27 dX9_breaksProducts_27 ?_
      refine S_callV (a' := 0) (b' := 0) (a := 0) (b := 0) 28 (As := [.int p1, .int s2, .int s13]) (ci := 9) rfl calX9_up imX9_up seX9_up mkX9_326 rfl rfl rfl rfl rfl (by decide) rfl rfl dX9_breaksProducts_28 (CX9_up E t p1 s2 s13 h6) (fun v7 h8 => kqI ?_)
      refine S_callV (a' := 0) (b' := 0) (a := 0) (b := 0) 31 (As := [.int p1, .int v7]) (ci := 9) rfl calX9_boundaryOf imX9_boundaryOf seX9_boundaryOf mkX9_314 rfl rfl rfl rfl rfl (by decide) rfl rfl dX9_breaksProducts_31 (CX9_boundaryOf E t p1 v7 h8) (fun v9 h10 => kqI ?_)
      refine S_aload_0 34 dX9_breaksProducts_34 ?_
      refine S_iload_1 35 dX9_breaksProducts_35 ?_
      refine S_aload_0 36 dX9_breaksProducts_36 ?_
      refine S_iload_1 37 dX9_breaksProducts_37 ?_
      refine S_iload_2 38 dX9_breaksProducts_38 ?_
      refine S_callV (a' := 0) (b' := 0) (a := 0) (b := 0) 39 (As := [.int p1, .int s2]) (ci := 9) rfl calX9_boundaryOf imX9_boundaryOf seX9_boundaryOf mkX9_314 rfl rfl rfl rfl rfl (by decide) rfl rfl dX9_breaksProducts_39 (CX9_boundaryOf E t p1 s2 h10) (fun v11 h12 => kqI ?_)
      refine S_aload_0 42 dX9_breaksProducts_42 ?_
      refine S_iload_1 43 dX9_breaksProducts_43 ?_
      refine S_iload_3 44 dX9_breaksProducts_44 ?_
      refine S_callV (a' := 0) (b' := 0) (a := 0) (b := 0) 45 (As := [.int p1, .int s13]) (ci := 9) rfl calX9_boundaryOf imX9_boundaryOf seX9_boundaryOf mkX9_314 rfl rfl rfl rfl rfl (by decide) rfl rfl dX9_breaksProducts_45 (CX9_boundaryOf E t p1 s13 h12) (fun v13 h14 => kqI ?_)
      refine S_callV (a' := 0) (b' := 0) (a := 0) (b := 0) 48 (As := [.int p1, .int v11, .int v13]) (ci := 9) rfl calX9_down imX9_down seX9_down mkX9_329 rfl rfl rfl rfl rfl (by decide) rfl rfl dX9_breaksProducts_48 (CX9_down E t p1 v11 v13 h14) (fun v15 h16 => kqI ?_)
      refine S_icmpeq 51 56 dX9_breaksProducts_51 (by decide) ?_ ?_
      · skip
        refine S_iinc_3 56 (s13 + 1) dX9_breaksProducts_56 (by rfl) rfl ?_
        refine S_goto 59 13 dX9_breaksProducts_59 (by decide) ?_
        exact S_drop [] rfl (hg13 _ _)
      · skip
        refine S_ic 54 1 dX9_breaksProducts_54 (by decide) ?_
        exact S_zret 55 dX9_breaksProducts_55 rfl
def FX9_breaksMaps (E : XG) (t : Nat) (p1 : Int32) (h : XH) : XP Int32 := xlp (fun again2 (s2 : Int32) h1 => xg (xk h1 t = 10) <| xb (FX9_lowers E t p1 h1) fun v2 h3 => if (v2 : Int32) ≤ s2 then (xg ((0 : Int32) = 0 ∨ (0 : Int32) = 1) <| xv 0 h3) else (xlp (fun again13 (s13 : Int32) h4 => xg (xk h4 t = 10) <| xb (FX9_uppers E t p1 h4) fun v5 h6 => if (v5 : Int32) ≤ s13 then (again2 (s2 + 1) h6) else (xlp (fun again25 (s25 : Int32) h7 => xg (xk h7 t = 10) <| xb (FX9_uppers E t p1 h7) fun v8 h9 => if (v8 : Int32) ≤ s25 then (again13 (s13 + 1) h9) else (xjn (fun  (h10 : XH) => xg ((1 : Int32) = 0 ∨ (1 : Int32) = 1) <| xv 1 h10) fun (j96 : XH → XP Int32) => xjn (fun  (h11 : XH) => xg (xk h11 t = 10) <| xb (FX9_up E t p1 s13 s25 h11) fun v12 h13 => xg (xk h13 t = 10) <| xb (FX9_on E t p1 s2 v12 h13) fun v14 h15 => xg (xk h15 t = 10) <| xb (FX9_on E t p1 s2 s13 h15) fun v16 h17 => xg (xk h17 t = 10) <| xb (FX9_on E t p1 s2 s25 h17) fun v18 h19 => xg (xk h19 t = 10) <| xb (FX9_up E t p1 v16 v18 h19) fun v20 h21 => if (v14 : Int32) = v20 then (again25 (s25 + 1) h21) else (j96 h21)) fun (j59 : XH → XP Int32) => if (s13 : Int32) = s25 then (j59 h9) else (xg (xk h9 t = 10) <| xb (FX9_on E t p1 s2 s13 h9) fun v22 h23 => xg (xk h23 t = 10) <| xb (FX9_on E t p1 s2 s25 h23) fun v24 h25 => if (v22 : Int32) = v24 then (j96 h25) else (j59 h25)))) xfu 0 h6)) xfu 0 h3)) xfu 0 h
theorem CX9_breaksMaps (E : XG) (t : Nat) (p1 : Int32) (h : XH) : XN E mX9_breaksMaps eI 0 0 [.ref t, .int p1] h (FX9_breaksMaps E t p1 h) := by
  unfold FX9_breaksMaps
  refine S_enter (L := [some (.ref t), some (.int p1), none, none, none]) (by decide +kernel) rfl rfl rfl ?_
  refine S_ic 0 0 dX9_breaksMaps_0 (by decide) ?_
  refine S_istore_2 1 dX9_breaksMaps_1 rfl ?_
  refine S_loop (fun (s2 : Int32) => [some (.ref t), some (.int p1), some (.int s2), none, none]) (fun again2 hg2 s2 h1 => ?_) xfu _ _
  refine S_iload_2 2 dX9_breaksMaps_2 ?_
  refine S_aload_0 3 dX9_breaksMaps_3 ?_
  refine S_iload_1 4 dX9_breaksMaps_4 ?_
  refine S_callV (a' := 0) (b' := 0) (a := 0) (b := 0) 5 (As := [.int p1]) (ci := 9) rfl calX9_lowers imX9_lowers seX9_lowers mkX9_332 rfl rfl rfl rfl rfl (by decide) rfl rfl dX9_breaksMaps_5 (CX9_lowers E t p1 h1) (fun v2 h3 => kqI ?_)
  refine S_icmpge 8 116 dX9_breaksMaps_8 (by decide) ?_ ?_
  · skip
    refine S_ic 116 0 dX9_breaksMaps_116 (by decide) ?_
    exact S_zret 117 dX9_breaksMaps_117 rfl
  · skip
    refine S_ic 11 0 dX9_breaksMaps_11 (by decide) ?_
    refine S_istore_3 12 dX9_breaksMaps_12 rfl ?_
    refine S_loop (fun (s13 : Int32) => [some (.ref t), some (.int p1), some (.int s2), some (.int s13), none]) (fun again13 hg13 s13 h4 => ?_) xfu _ _
    refine S_iload_3 13 dX9_breaksMaps_13 ?_
    refine S_aload_0 14 dX9_breaksMaps_14 ?_
    refine S_iload_1 15 dX9_breaksMaps_15 ?_
    refine S_callV (a' := 0) (b' := 0) (a := 0) (b := 0) 16 (As := [.int p1]) (ci := 9) rfl calX9_uppers imX9_uppers seX9_uppers mkX9_323 rfl rfl rfl rfl rfl (by decide) rfl rfl dX9_breaksMaps_16 (CX9_uppers E t p1 h4) (fun v5 h6 => kqI ?_)
    refine S_icmpge 19 110 dX9_breaksMaps_19 (by decide) ?_ ?_
    · skip
      refine S_iinc_2 110 (s2 + 1) dX9_breaksMaps_110 (by rfl) rfl ?_
      refine S_goto 113 2 dX9_breaksMaps_113 (by decide) ?_
      exact S_drop [3] rfl (hg2 _ _)
    · skip
      refine S_ic 22 0 dX9_breaksMaps_22 (by decide) ?_
      refine S_istore_4 23 dX9_breaksMaps_23 rfl ?_
      refine S_loop (fun (s25 : Int32) => [some (.ref t), some (.int p1), some (.int s2), some (.int s13), some (.int s25)]) (fun again25 hg25 s25 h7 => ?_) xfu _ _
      refine S_iload_4 25 dX9_breaksMaps_25 ?_
      refine S_aload_0 27 dX9_breaksMaps_27 ?_
      refine S_iload_1 28 dX9_breaksMaps_28 ?_
      refine S_callV (a' := 0) (b' := 0) (a := 0) (b := 0) 29 (As := [.int p1]) (ci := 9) rfl calX9_uppers imX9_uppers seX9_uppers mkX9_323 rfl rfl rfl rfl rfl (by decide) rfl rfl dX9_breaksMaps_29 (CX9_uppers E t p1 h7) (fun v8 h9 => kqI ?_)
      refine S_icmpge 32 104 dX9_breaksMaps_32 (by decide) ?_ ?_
      · skip
        refine S_iinc_3 104 (s13 + 1) dX9_breaksMaps_104 (by rfl) rfl ?_
        refine S_goto 107 13 dX9_breaksMaps_107 (by decide) ?_
        exact S_drop [4] rfl (hg13 _ _)
      · skip
        refine S_iload_3 35 dX9_breaksMaps_35 ?_
        refine S_iload_4 36 dX9_breaksMaps_36 ?_
        refine S_join (fun jj => ∀  (h10 : XH), XS E mX9_breaksMaps eI 0 0 96 [none, none, none, none, none] [] h10 (jj  h10)) (fun  h10 => ?_) (fun j96 hj96 => ?_)
        · skip
          refine S_ic 96 1 dX9_breaksMaps_96 (by decide) ?_
          exact S_zret 97 dX9_breaksMaps_97 rfl
        refine S_join (fun jj => ∀  (h11 : XH), XS E mX9_breaksMaps eI 0 0 59 [some (.ref t), some (.int p1), some (.int s2), some (.int s13), some (.int s25)] [] h11 (jj  h11)) (fun  h11 => ?_) (fun j59 hj59 => ?_)
        · skip
          refine S_aload_0 59 dX9_breaksMaps_59 ?_
          refine S_iload_1 60 dX9_breaksMaps_60 ?_
          refine S_iload_2 61 dX9_breaksMaps_61 ?_
          refine S_aload_0 62 dX9_breaksMaps_62 ?_
          refine S_iload_1 63 dX9_breaksMaps_63 ?_
          refine S_iload_3 64 dX9_breaksMaps_64 ?_
          refine S_iload_4 65 dX9_breaksMaps_65 ?_
          refine S_callV (a' := 0) (b' := 0) (a := 0) (b := 0) 67 (As := [.int p1, .int s13, .int s25]) (ci := 9) rfl calX9_up imX9_up seX9_up mkX9_326 rfl rfl rfl rfl rfl (by decide) rfl rfl dX9_breaksMaps_67 (CX9_up E t p1 s13 s25 h11) (fun v12 h13 => kqI ?_)
          refine S_callV (a' := 0) (b' := 0) (a := 0) (b := 0) 70 (As := [.int p1, .int s2, .int v12]) (ci := 9) rfl calX9_on imX9_on seX9_on mkX9_320 rfl rfl rfl rfl rfl (by decide) rfl rfl dX9_breaksMaps_70 (CX9_on E t p1 s2 v12 h13) (fun v14 h15 => kqI ?_)
          refine S_aload_0 73 dX9_breaksMaps_73 ?_
          refine S_iload_1 74 dX9_breaksMaps_74 ?_
          refine S_aload_0 75 dX9_breaksMaps_75 ?_
          refine S_iload_1 76 dX9_breaksMaps_76 ?_
          refine S_iload_2 77 dX9_breaksMaps_77 ?_
          refine S_iload_3 78 dX9_breaksMaps_78 ?_
          refine S_callV (a' := 0) (b' := 0) (a := 0) (b := 0) 79 (As := [.int p1, .int s2, .int s13]) (ci := 9) rfl calX9_on imX9_on seX9_on mkX9_320 rfl rfl rfl rfl rfl (by decide) rfl rfl dX9_breaksMaps_79 (CX9_on E t p1 s2 s13 h15) (fun v16 h17 => kqI ?_)
          refine S_aload_0 82 dX9_breaksMaps_82 ?_
          refine S_iload_1 83 dX9_breaksMaps_83 ?_
          refine S_iload_2 84 dX9_breaksMaps_84 ?_
          refine S_iload_4 85 dX9_breaksMaps_85 ?_
          refine S_callV (a' := 0) (b' := 0) (a := 0) (b := 0) 87 (As := [.int p1, .int s2, .int s25]) (ci := 9) rfl calX9_on imX9_on seX9_on mkX9_320 rfl rfl rfl rfl rfl (by decide) rfl rfl dX9_breaksMaps_87 (CX9_on E t p1 s2 s25 h17) (fun v18 h19 => kqI ?_)
          refine S_callV (a' := 0) (b' := 0) (a := 0) (b := 0) 90 (As := [.int p1, .int v16, .int v18]) (ci := 9) rfl calX9_up imX9_up seX9_up mkX9_326 rfl rfl rfl rfl rfl (by decide) rfl rfl dX9_breaksMaps_90 (CX9_up E t p1 v16 v18 h19) (fun v20 h21 => kqI ?_)
          refine S_icmpeq 93 98 dX9_breaksMaps_93 (by decide) ?_ ?_
          · skip
            refine S_iinc_4 98 (s25 + 1) dX9_breaksMaps_98 (by rfl) rfl ?_
            refine S_goto 101 25 dX9_breaksMaps_101 (by decide) ?_
            exact S_drop [] rfl (hg25 _ _)
          · skip
            exact S_drop [0, 1, 2, 3, 4] rfl (hj96 _)
        refine S_icmpeq 38 59 dX9_breaksMaps_38 (by decide) ?_ ?_
        · skip
          exact S_drop [] rfl (hj59 _)
        · skip
          refine S_aload_0 41 dX9_breaksMaps_41 ?_
          refine S_iload_1 42 dX9_breaksMaps_42 ?_
          refine S_iload_2 43 dX9_breaksMaps_43 ?_
          refine S_iload_3 44 dX9_breaksMaps_44 ?_
          refine S_callV (a' := 0) (b' := 0) (a := 0) (b := 0) 45 (As := [.int p1, .int s2, .int s13]) (ci := 9) rfl calX9_on imX9_on seX9_on mkX9_320 rfl rfl rfl rfl rfl (by decide) rfl rfl dX9_breaksMaps_45 (CX9_on E t p1 s2 s13 h9) (fun v22 h23 => kqI ?_)
          refine S_aload_0 48 dX9_breaksMaps_48 ?_
          refine S_iload_1 49 dX9_breaksMaps_49 ?_
          refine S_iload_2 50 dX9_breaksMaps_50 ?_
          refine S_iload_4 51 dX9_breaksMaps_51 ?_
          refine S_callV (a' := 0) (b' := 0) (a := 0) (b := 0) 53 (As := [.int p1, .int s2, .int s25]) (ci := 9) rfl calX9_on imX9_on seX9_on mkX9_320 rfl rfl rfl rfl rfl (by decide) rfl rfl dX9_breaksMaps_53 (CX9_on E t p1 s2 s25 h23) (fun v24 h25 => kqI ?_)
          refine S_icmpeq 56 96 dX9_breaksMaps_56 (by decide) ?_ ?_
          · skip
            exact S_drop [0, 1, 2, 3, 4] rfl (hj96 _)
          · skip
            exact S_drop [] rfl (hj59 _)
def FX9_breaksActions (E : XG) (t : Nat) (p1 : Int32) (h : XH) : XP Int32 := xlp (fun again2 (s2 : Int32) h1 => xg (xk h1 t = 10) <| xb (FX9_uppers E t p1 h1) fun v2 h3 => if (v2 : Int32) ≤ s2 then (xg ((0 : Int32) = 0 ∨ (0 : Int32) = 1) <| xv 0 h3) else (xg (xk h3 t = 10) <| xb (FX9_on E t p1 0 s2 h3) fun v4 h5 => if (v4 : Int32) = s2 then (xlp (fun again26 (s26 : Int32) h6 => xg (xk h6 t = 10) <| xb (FX9_lowers E t p1 h6) fun v7 h8 => if (v7 : Int32) ≤ s26 then (again2 (s2 + 1) h8) else (xlp (fun again38 (s38 : Int32) h9 => xg (xk h9 t = 10) <| xb (FX9_lowers E t p1 h9) fun v10 h11 => if (v10 : Int32) ≤ s38 then (again26 (s26 + 1) h11) else (xg (xk h11 t = 10) <| xb (FX9_down E t p1 s26 s38 h11) fun v12 h13 => xg (xk h13 t = 10) <| xb (FX9_on E t p1 v12 s2 h13) fun v14 h15 => xg (xk h15 t = 10) <| xb (FX9_on E t p1 s38 s2 h15) fun v16 h17 => xg (xk h17 t = 10) <| xb (FX9_on E t p1 s26 v16 h17) fun v18 h19 => if (v14 : Int32) = v18 then (again38 (s38 + 1) h19) else (xg ((1 : Int32) = 0 ∨ (1 : Int32) = 1) <| xv 1 h19))) xfu 0 h8)) xfu 0 h5) else (xg ((1 : Int32) = 0 ∨ (1 : Int32) = 1) <| xv 1 h5))) xfu 0 h
theorem CX9_breaksActions (E : XG) (t : Nat) (p1 : Int32) (h : XH) : XN E mX9_breaksActions eI 0 0 [.ref t, .int p1] h (FX9_breaksActions E t p1 h) := by
  unfold FX9_breaksActions
  refine S_enter (L := [some (.ref t), some (.int p1), none, none, none]) (by decide +kernel) rfl rfl rfl ?_
  refine S_ic 0 0 dX9_breaksActions_0 (by decide) ?_
  refine S_istore_2 1 dX9_breaksActions_1 rfl ?_
  refine S_loop (fun (s2 : Int32) => [some (.ref t), some (.int p1), some (.int s2), none, none]) (fun again2 hg2 s2 h1 => ?_) xfu _ _
  refine S_iload_2 2 dX9_breaksActions_2 ?_
  refine S_aload_0 3 dX9_breaksActions_3 ?_
  refine S_iload_1 4 dX9_breaksActions_4 ?_
  refine S_callV (a' := 0) (b' := 0) (a := 0) (b := 0) 5 (As := [.int p1]) (ci := 9) rfl calX9_uppers imX9_uppers seX9_uppers mkX9_323 rfl rfl rfl rfl rfl (by decide) rfl rfl dX9_breaksActions_5 (CX9_uppers E t p1 h1) (fun v2 h3 => kqI ?_)
  refine S_icmpge 8 99 dX9_breaksActions_8 (by decide) ?_ ?_
  · skip
    refine S_ic 99 0 dX9_breaksActions_99 (by decide) ?_
    exact S_zret 100 dX9_breaksActions_100 rfl
  · skip
    refine S_aload_0 11 dX9_breaksActions_11 ?_
    refine S_iload_1 12 dX9_breaksActions_12 ?_
    refine S_ic 13 0 dX9_breaksActions_13 (by decide) ?_
    refine S_iload_2 14 dX9_breaksActions_14 ?_
    refine S_callV (a' := 0) (b' := 0) (a := 0) (b := 0) 15 (As := [.int p1, .int 0, .int s2]) (ci := 9) rfl calX9_on imX9_on seX9_on mkX9_320 rfl rfl rfl rfl rfl (by decide) rfl rfl dX9_breaksActions_15 (CX9_on E t p1 0 s2 h3) (fun v4 h5 => kqI ?_)
    refine S_iload_2 18 dX9_breaksActions_18 ?_
    refine S_icmpeq 19 24 dX9_breaksActions_19 (by decide) ?_ ?_
    · skip
      refine S_ic 24 0 dX9_breaksActions_24 (by decide) ?_
      refine S_istore_3 25 dX9_breaksActions_25 rfl ?_
      refine S_loop (fun (s26 : Int32) => [some (.ref t), some (.int p1), some (.int s2), some (.int s26), none]) (fun again26 hg26 s26 h6 => ?_) xfu _ _
      refine S_iload_3 26 dX9_breaksActions_26 ?_
      refine S_aload_0 27 dX9_breaksActions_27 ?_
      refine S_iload_1 28 dX9_breaksActions_28 ?_
      refine S_callV (a' := 0) (b' := 0) (a := 0) (b := 0) 29 (As := [.int p1]) (ci := 9) rfl calX9_lowers imX9_lowers seX9_lowers mkX9_332 rfl rfl rfl rfl rfl (by decide) rfl rfl dX9_breaksActions_29 (CX9_lowers E t p1 h6) (fun v7 h8 => kqI ?_)
      refine S_icmpge 32 93 dX9_breaksActions_32 (by decide) ?_ ?_
      · skip
        refine S_iinc_2 93 (s2 + 1) dX9_breaksActions_93 (by rfl) rfl ?_
        refine S_goto 96 2 dX9_breaksActions_96 (by decide) ?_
        exact S_drop [3] rfl (hg2 _ _)
      · skip
        refine S_ic 35 0 dX9_breaksActions_35 (by decide) ?_
        refine S_istore_4 36 dX9_breaksActions_36 rfl ?_
        refine S_loop (fun (s38 : Int32) => [some (.ref t), some (.int p1), some (.int s2), some (.int s26), some (.int s38)]) (fun again38 hg38 s38 h9 => ?_) xfu _ _
        refine S_iload_4 38 dX9_breaksActions_38 ?_
        refine S_aload_0 40 dX9_breaksActions_40 ?_
        refine S_iload_1 41 dX9_breaksActions_41 ?_
        refine S_callV (a' := 0) (b' := 0) (a := 0) (b := 0) 42 (As := [.int p1]) (ci := 9) rfl calX9_lowers imX9_lowers seX9_lowers mkX9_332 rfl rfl rfl rfl rfl (by decide) rfl rfl dX9_breaksActions_42 (CX9_lowers E t p1 h9) (fun v10 h11 => kqI ?_)
        refine S_icmpge 45 87 dX9_breaksActions_45 (by decide) ?_ ?_
        · skip
          refine S_iinc_3 87 (s26 + 1) dX9_breaksActions_87 (by rfl) rfl ?_
          refine S_goto 90 26 dX9_breaksActions_90 (by decide) ?_
          exact S_drop [4] rfl (hg26 _ _)
        · skip
          refine S_aload_0 48 dX9_breaksActions_48 ?_
          refine S_iload_1 49 dX9_breaksActions_49 ?_
          refine S_aload_0 50 dX9_breaksActions_50 ?_
          refine S_iload_1 51 dX9_breaksActions_51 ?_
          refine S_iload_3 52 dX9_breaksActions_52 ?_
          refine S_iload_4 53 dX9_breaksActions_53 ?_
          refine S_callV (a' := 0) (b' := 0) (a := 0) (b := 0) 55 (As := [.int p1, .int s26, .int s38]) (ci := 9) rfl calX9_down imX9_down seX9_down mkX9_329 rfl rfl rfl rfl rfl (by decide) rfl rfl dX9_breaksActions_55 (CX9_down E t p1 s26 s38 h11) (fun v12 h13 => kqI ?_)
          refine S_iload_2 58 dX9_breaksActions_58 ?_
          refine S_callV (a' := 0) (b' := 0) (a := 0) (b := 0) 59 (As := [.int p1, .int v12, .int s2]) (ci := 9) rfl calX9_on imX9_on seX9_on mkX9_320 rfl rfl rfl rfl rfl (by decide) rfl rfl dX9_breaksActions_59 (CX9_on E t p1 v12 s2 h13) (fun v14 h15 => kqI ?_)
          refine S_aload_0 62 dX9_breaksActions_62 ?_
          refine S_iload_1 63 dX9_breaksActions_63 ?_
          refine S_iload_3 64 dX9_breaksActions_64 ?_
          refine S_aload_0 65 dX9_breaksActions_65 ?_
          refine S_iload_1 66 dX9_breaksActions_66 ?_
          refine S_iload_4 67 dX9_breaksActions_67 ?_
          refine S_iload_2 69 dX9_breaksActions_69 ?_
          refine S_callV (a' := 0) (b' := 0) (a := 0) (b := 0) 70 (As := [.int p1, .int s38, .int s2]) (ci := 9) rfl calX9_on imX9_on seX9_on mkX9_320 rfl rfl rfl rfl rfl (by decide) rfl rfl dX9_breaksActions_70 (CX9_on E t p1 s38 s2 h15) (fun v16 h17 => kqI ?_)
          refine S_callV (a' := 0) (b' := 0) (a := 0) (b := 0) 73 (As := [.int p1, .int s26, .int v16]) (ci := 9) rfl calX9_on imX9_on seX9_on mkX9_320 rfl rfl rfl rfl rfl (by decide) rfl rfl dX9_breaksActions_73 (CX9_on E t p1 s26 v16 h17) (fun v18 h19 => kqI ?_)
          refine S_icmpeq 76 81 dX9_breaksActions_76 (by decide) ?_ ?_
          · skip
            refine S_iinc_4 81 (s38 + 1) dX9_breaksActions_81 (by rfl) rfl ?_
            refine S_goto 84 38 dX9_breaksActions_84 (by decide) ?_
            exact S_drop [] rfl (hg38 _ _)
          · skip
            refine S_ic 79 1 dX9_breaksActions_79 (by decide) ?_
            exact S_zret 80 dX9_breaksActions_80 rfl
    · skip
      refine S_ic 22 1 dX9_breaksActions_22 (by decide) ?_
      exact S_zret 23 dX9_breaksActions_23 rfl
def FX9_breaksBoundaries (E : XG) (t : Nat) (p1 : Int32) (h : XH) : XP Int32 := xlp (fun again2 (s2 : Int32) h1 => xg (xk h1 t = 10) <| xb (FX9_lowers E t p1 h1) fun v2 h3 => if (v2 : Int32) ≤ s2 then (xg ((0 : Int32) = 0 ∨ (0 : Int32) = 1) <| xv 0 h3) else (xlp (fun again13 (s13 : Int32) h4 => xg (xk h4 t = 10) <| xb (FX9_uppers E t p1 h4) fun v5 h6 => if (v5 : Int32) ≤ s13 then (again2 (s2 + 1) h6) else (xg (xk h6 t = 10) <| xb (FX9_on E t p1 s2 s13 h6) fun v7 h8 => xg (xk h8 t = 10) <| xb (FX9_boundaryOf E t p1 v7 h8) fun v9 h10 => xg (xk h10 t = 10) <| xnn (xr h10 t 8) fun w11 => xg (xk h10 w11 = 12 ∧ xin p1 (xn h10 w11)) <| xg (xk h10 t = 10) <| xb (FX9_boundaryOf E t p1 s13 h10) fun v12 h13 => xg (xk h13 t = 10) <| xb (FX9_conjugateOf E t (xi h10 w11 (p1 : Int32).toNatClampNeg) s2 v12 h13) fun v14 h15 => if (v9 : Int32) = v14 then (again13 (s13 + 1) h15) else (xg ((1 : Int32) = 0 ∨ (1 : Int32) = 1) <| xv 1 h15))) xfu 0 h3)) xfu 0 h
theorem CX9_breaksBoundaries (E : XG) (t : Nat) (p1 : Int32) (h : XH) : XN E mX9_breaksBoundaries eI 0 0 [.ref t, .int p1] h (FX9_breaksBoundaries E t p1 h) := by
  unfold FX9_breaksBoundaries
  refine S_enter (L := [some (.ref t), some (.int p1), none, none]) (by decide +kernel) rfl rfl rfl ?_
  refine S_ic 0 0 dX9_breaksBoundaries_0 (by decide) ?_
  refine S_istore_2 1 dX9_breaksBoundaries_1 rfl ?_
  refine S_loop (fun (s2 : Int32) => [some (.ref t), some (.int p1), some (.int s2), none]) (fun again2 hg2 s2 h1 => ?_) xfu _ _
  refine S_iload_2 2 dX9_breaksBoundaries_2 ?_
  refine S_aload_0 3 dX9_breaksBoundaries_3 ?_
  refine S_iload_1 4 dX9_breaksBoundaries_4 ?_
  refine S_callV (a' := 0) (b' := 0) (a := 0) (b := 0) 5 (As := [.int p1]) (ci := 9) rfl calX9_lowers imX9_lowers seX9_lowers mkX9_332 rfl rfl rfl rfl rfl (by decide) rfl rfl dX9_breaksBoundaries_5 (CX9_lowers E t p1 h1) (fun v2 h3 => kqI ?_)
  refine S_icmpge 8 68 dX9_breaksBoundaries_8 (by decide) ?_ ?_
  · skip
    refine S_ic 68 0 dX9_breaksBoundaries_68 (by decide) ?_
    exact S_zret 69 dX9_breaksBoundaries_69 rfl
  · skip
    refine S_ic 11 0 dX9_breaksBoundaries_11 (by decide) ?_
    refine S_istore_3 12 dX9_breaksBoundaries_12 rfl ?_
    refine S_loop (fun (s13 : Int32) => [some (.ref t), some (.int p1), some (.int s2), some (.int s13)]) (fun again13 hg13 s13 h4 => ?_) xfu _ _
    refine S_iload_3 13 dX9_breaksBoundaries_13 ?_
    refine S_aload_0 14 dX9_breaksBoundaries_14 ?_
    refine S_iload_1 15 dX9_breaksBoundaries_15 ?_
    refine S_callV (a' := 0) (b' := 0) (a := 0) (b := 0) 16 (As := [.int p1]) (ci := 9) rfl calX9_uppers imX9_uppers seX9_uppers mkX9_323 rfl rfl rfl rfl rfl (by decide) rfl rfl dX9_breaksBoundaries_16 (CX9_uppers E t p1 h4) (fun v5 h6 => kqI ?_)
    refine S_icmpge 19 62 dX9_breaksBoundaries_19 (by decide) ?_ ?_
    · skip
      refine S_iinc_2 62 (s2 + 1) dX9_breaksBoundaries_62 (by rfl) rfl ?_
      refine S_goto 65 2 dX9_breaksBoundaries_65 (by decide) ?_
      exact S_drop [3] rfl (hg2 _ _)
    · skip
      refine S_aload_0 22 dX9_breaksBoundaries_22 ?_
      refine S_iload_1 23 dX9_breaksBoundaries_23 ?_
      refine S_aload_0 24 dX9_breaksBoundaries_24 ?_
      refine S_iload_1 25 dX9_breaksBoundaries_25 ?_
      refine S_iload_2 26 dX9_breaksBoundaries_26 ?_
      refine S_iload_3 27 dX9_breaksBoundaries_27 ?_
      refine S_callV (a' := 0) (b' := 0) (a := 0) (b := 0) 28 (As := [.int p1, .int s2, .int s13]) (ci := 9) rfl calX9_on imX9_on seX9_on mkX9_320 rfl rfl rfl rfl rfl (by decide) rfl rfl dX9_breaksBoundaries_28 (CX9_on E t p1 s2 s13 h6) (fun v7 h8 => kqI ?_)
      refine S_callV (a' := 0) (b' := 0) (a := 0) (b := 0) 31 (As := [.int p1, .int v7]) (ci := 9) rfl calX9_boundaryOf imX9_boundaryOf seX9_boundaryOf mkX9_314 rfl rfl rfl rfl rfl (by decide) rfl rfl dX9_breaksBoundaries_31 (CX9_boundaryOf E t p1 v7 h8) (fun v9 h10 => kqI ?_)
      refine S_aload_0 34 dX9_breaksBoundaries_34 ?_
      refine S_aload_0 35 dX9_breaksBoundaries_35 ?_
      refine S_getR 36 fsX9_19 rfl dX9_breaksBoundaries_36 (fun w11 => ?_)
      refine S_iload_1 39 dX9_breaksBoundaries_39 ?_
      refine S_iald 40 dX9_breaksBoundaries_40 ?_
      refine S_iload_2 41 dX9_breaksBoundaries_41 ?_
      refine S_aload_0 42 dX9_breaksBoundaries_42 ?_
      refine S_iload_1 43 dX9_breaksBoundaries_43 ?_
      refine S_iload_3 44 dX9_breaksBoundaries_44 ?_
      refine S_callV (a' := 0) (b' := 0) (a := 0) (b := 0) 45 (As := [.int p1, .int s13]) (ci := 9) rfl calX9_boundaryOf imX9_boundaryOf seX9_boundaryOf mkX9_314 rfl rfl rfl rfl rfl (by decide) rfl rfl dX9_breaksBoundaries_45 (CX9_boundaryOf E t p1 s13 h10) (fun v12 h13 => kqI ?_)
      refine S_callV (a' := 0) (b' := 0) (a := 0) (b := 0) 48 (As := [.int (xi h10 w11 (p1 : Int32).toNatClampNeg), .int s2, .int v12]) (ci := 9) rfl calX9_conjugateOf imX9_conjugateOf seX9_conjugateOf mkX9_298 rfl rfl rfl rfl rfl (by decide) rfl rfl dX9_breaksBoundaries_48 (CX9_conjugateOf E t (xi h10 w11 (p1 : Int32).toNatClampNeg) s2 v12 h13) (fun v14 h15 => kqI ?_)
      refine S_icmpeq 51 56 dX9_breaksBoundaries_51 (by decide) ?_ ?_
      · skip
        refine S_iinc_3 56 (s13 + 1) dX9_breaksBoundaries_56 (by rfl) rfl ?_
        refine S_goto 59 13 dX9_breaksBoundaries_59 (by decide) ?_
        exact S_drop [] rfl (hg13 _ _)
      · skip
        refine S_ic 54 1 dX9_breaksBoundaries_54 (by decide) ?_
        exact S_zret 55 dX9_breaksBoundaries_55 rfl
def FX9_breaksConjugates (E : XG) (t : Nat) (p1 : Int32) (h : XH) : XP Int32 := xlp (fun again2 (s2 : Int32) h1 => xg (xk h1 t = 10) <| xb (FX9_uppers E t p1 h1) fun v2 h3 => if (v2 : Int32) ≤ s2 then (xg ((0 : Int32) = 0 ∨ (0 : Int32) = 1) <| xv 0 h3) else (xlp (fun again13 (s13 : Int32) h4 => xg (xk h4 t = 10) <| xb (FX9_uppers E t p1 h4) fun v5 h6 => if (v5 : Int32) ≤ s13 then (again2 (s2 + 1) h6) else (xg (xk h6 t = 10) <| xb (FX9_boundaryOf E t p1 s2 h6) fun v7 h8 => xg (xk h8 t = 10) <| xb (FX9_on E t p1 v7 s13 h8) fun v9 h10 => xg (xk h10 t = 10) <| xnn (xr h10 t 7) fun w11 => xg (xk h10 w11 = 12 ∧ xin p1 (xn h10 w11)) <| xg (xk h10 t = 10) <| xb (FX9_conjugateOf E t (xi h10 w11 (p1 : Int32).toNatClampNeg) s2 s13 h10) fun v12 h13 => if (v9 : Int32) = v12 then (again13 (s13 + 1) h13) else (xg ((1 : Int32) = 0 ∨ (1 : Int32) = 1) <| xv 1 h13))) xfu 0 h3)) xfu 0 h
theorem CX9_breaksConjugates (E : XG) (t : Nat) (p1 : Int32) (h : XH) : XN E mX9_breaksConjugates eI 0 0 [.ref t, .int p1] h (FX9_breaksConjugates E t p1 h) := by
  unfold FX9_breaksConjugates
  refine S_enter (L := [some (.ref t), some (.int p1), none, none]) (by decide +kernel) rfl rfl rfl ?_
  refine S_ic 0 0 dX9_breaksConjugates_0 (by decide) ?_
  refine S_istore_2 1 dX9_breaksConjugates_1 rfl ?_
  refine S_loop (fun (s2 : Int32) => [some (.ref t), some (.int p1), some (.int s2), none]) (fun again2 hg2 s2 h1 => ?_) xfu _ _
  refine S_iload_2 2 dX9_breaksConjugates_2 ?_
  refine S_aload_0 3 dX9_breaksConjugates_3 ?_
  refine S_iload_1 4 dX9_breaksConjugates_4 ?_
  refine S_callV (a' := 0) (b' := 0) (a := 0) (b := 0) 5 (As := [.int p1]) (ci := 9) rfl calX9_uppers imX9_uppers seX9_uppers mkX9_323 rfl rfl rfl rfl rfl (by decide) rfl rfl dX9_breaksConjugates_5 (CX9_uppers E t p1 h1) (fun v2 h3 => kqI ?_)
  refine S_icmpge 8 63 dX9_breaksConjugates_8 (by decide) ?_ ?_
  · skip
    refine S_ic 63 0 dX9_breaksConjugates_63 (by decide) ?_
    exact S_zret 64 dX9_breaksConjugates_64 rfl
  · skip
    refine S_ic 11 0 dX9_breaksConjugates_11 (by decide) ?_
    refine S_istore_3 12 dX9_breaksConjugates_12 rfl ?_
    refine S_loop (fun (s13 : Int32) => [some (.ref t), some (.int p1), some (.int s2), some (.int s13)]) (fun again13 hg13 s13 h4 => ?_) xfu _ _
    refine S_iload_3 13 dX9_breaksConjugates_13 ?_
    refine S_aload_0 14 dX9_breaksConjugates_14 ?_
    refine S_iload_1 15 dX9_breaksConjugates_15 ?_
    refine S_callV (a' := 0) (b' := 0) (a := 0) (b := 0) 16 (As := [.int p1]) (ci := 9) rfl calX9_uppers imX9_uppers seX9_uppers mkX9_323 rfl rfl rfl rfl rfl (by decide) rfl rfl dX9_breaksConjugates_16 (CX9_uppers E t p1 h4) (fun v5 h6 => kqI ?_)
    refine S_icmpge 19 57 dX9_breaksConjugates_19 (by decide) ?_ ?_
    · skip
      refine S_iinc_2 57 (s2 + 1) dX9_breaksConjugates_57 (by rfl) rfl ?_
      refine S_goto 60 2 dX9_breaksConjugates_60 (by decide) ?_
      exact S_drop [3] rfl (hg2 _ _)
    · skip
      refine S_aload_0 22 dX9_breaksConjugates_22 ?_
      refine S_iload_1 23 dX9_breaksConjugates_23 ?_
      refine S_aload_0 24 dX9_breaksConjugates_24 ?_
      refine S_iload_1 25 dX9_breaksConjugates_25 ?_
      refine S_iload_2 26 dX9_breaksConjugates_26 ?_
      refine S_callV (a' := 0) (b' := 0) (a := 0) (b := 0) 27 (As := [.int p1, .int s2]) (ci := 9) rfl calX9_boundaryOf imX9_boundaryOf seX9_boundaryOf mkX9_314 rfl rfl rfl rfl rfl (by decide) rfl rfl dX9_breaksConjugates_27 (CX9_boundaryOf E t p1 s2 h6) (fun v7 h8 => kqI ?_)
      refine S_iload_3 30 dX9_breaksConjugates_30 ?_
      refine S_callV (a' := 0) (b' := 0) (a := 0) (b := 0) 31 (As := [.int p1, .int v7, .int s13]) (ci := 9) rfl calX9_on imX9_on seX9_on mkX9_320 rfl rfl rfl rfl rfl (by decide) rfl rfl dX9_breaksConjugates_31 (CX9_on E t p1 v7 s13 h8) (fun v9 h10 => kqI ?_)
      refine S_aload_0 34 dX9_breaksConjugates_34 ?_
      refine S_aload_0 35 dX9_breaksConjugates_35 ?_
      refine S_getR 36 fsX9_16 rfl dX9_breaksConjugates_36 (fun w11 => ?_)
      refine S_iload_1 39 dX9_breaksConjugates_39 ?_
      refine S_iald 40 dX9_breaksConjugates_40 ?_
      refine S_iload_2 41 dX9_breaksConjugates_41 ?_
      refine S_iload_3 42 dX9_breaksConjugates_42 ?_
      refine S_callV (a' := 0) (b' := 0) (a := 0) (b := 0) 43 (As := [.int (xi h10 w11 (p1 : Int32).toNatClampNeg), .int s2, .int s13]) (ci := 9) rfl calX9_conjugateOf imX9_conjugateOf seX9_conjugateOf mkX9_298 rfl rfl rfl rfl rfl (by decide) rfl rfl dX9_breaksConjugates_43 (CX9_conjugateOf E t (xi h10 w11 (p1 : Int32).toNatClampNeg) s2 s13 h10) (fun v12 h13 => kqI ?_)
      refine S_icmpeq 46 51 dX9_breaksConjugates_46 (by decide) ?_ ?_
      · skip
        refine S_iinc_3 51 (s13 + 1) dX9_breaksConjugates_51 (by rfl) rfl ?_
        refine S_goto 54 13 dX9_breaksConjugates_54 (by decide) ?_
        exact S_drop [] rfl (hg13 _ _)
      · skip
        refine S_ic 49 1 dX9_breaksConjugates_49 (by decide) ?_
        exact S_zret 50 dX9_breaksConjugates_50 rfl
def FX9_whyOf (E : XG) (t : Nat) (p1 : Int32) (h : XH) : XP Int32 := xg (xk h t = 10) <| xb (FX9_breaksProducts E t p1 h) fun v1 h2 => xjn (fun (v3 : Int32) (h4 : XH) => xv v3 h4) fun (j61 : Int32 → XH → XP Int32) => if (v1 : Int32) = 0 then (xg (xk h2 t = 10) <| xb (FX9_breaksMaps E t p1 h2) fun v5 h6 => if (v5 : Int32) = 0 then (xg (xk h6 t = 10) <| xb (FX9_breaksActions E t p1 h6) fun v7 h8 => if (v7 : Int32) = 0 then (xg (xk h8 t = 10) <| xb (FX9_breaksBoundaries E t p1 h8) fun v9 h10 => if (v9 : Int32) = 0 then (xg (xk h10 t = 10) <| xb (FX9_breaksConjugates E t p1 h10) fun v11 h12 => if (v11 : Int32) = 0 then (j61 0 h12) else (j61 5 h12)) else (j61 4 h10)) else (j61 3 h8)) else (j61 2 h6)) else (j61 1 h2)
theorem CX9_whyOf (E : XG) (t : Nat) (p1 : Int32) (h : XH) : XN E mX9_whyOf eI 0 0 [.ref t, .int p1] h (FX9_whyOf E t p1 h) := by
  unfold FX9_whyOf
  refine S_enter (L := [some (.ref t), some (.int p1)]) (by decide +kernel) rfl rfl rfl ?_
  refine S_aload_0 0 dX9_whyOf_0 ?_
  refine S_iload_1 1 dX9_whyOf_1 ?_
  refine S_callV (a' := 0) (b' := 0) (a := 0) (b := 0) 2 (As := [.int p1]) (ci := 9) rfl calX9_breaksProducts imX9_breaksProducts seX9_breaksProducts mkX9_335 rfl rfl rfl rfl rfl (by decide) rfl rfl dX9_whyOf_2 (CX9_breaksProducts E t p1 h) (fun v1 h2 => kqI ?_)
  refine S_join (fun jj => ∀ (v3 : Int32) (h4 : XH), XS E mX9_whyOf eI 0 0 61 [none, none] [.int v3] h4 (jj v3 h4)) (fun v3 h4 => ?_) (fun j61 hj61 => ?_)
  · skip
    exact S_iret 61 dX9_whyOf_61 rfl
  refine S_ifeq 5 12 dX9_whyOf_5 (by decide) ?_ ?_
  · skip
    refine S_aload_0 12 dX9_whyOf_12 ?_
    refine S_iload_1 13 dX9_whyOf_13 ?_
    refine S_callV (a' := 0) (b' := 0) (a := 0) (b := 0) 14 (As := [.int p1]) (ci := 9) rfl calX9_breaksMaps imX9_breaksMaps seX9_breaksMaps mkX9_338 rfl rfl rfl rfl rfl (by decide) rfl rfl dX9_whyOf_14 (CX9_breaksMaps E t p1 h2) (fun v5 h6 => kqI ?_)
    refine S_ifeq 17 24 dX9_whyOf_17 (by decide) ?_ ?_
    · skip
      refine S_aload_0 24 dX9_whyOf_24 ?_
      refine S_iload_1 25 dX9_whyOf_25 ?_
      refine S_callV (a' := 0) (b' := 0) (a := 0) (b := 0) 26 (As := [.int p1]) (ci := 9) rfl calX9_breaksActions imX9_breaksActions seX9_breaksActions mkX9_341 rfl rfl rfl rfl rfl (by decide) rfl rfl dX9_whyOf_26 (CX9_breaksActions E t p1 h6) (fun v7 h8 => kqI ?_)
      refine S_ifeq 29 36 dX9_whyOf_29 (by decide) ?_ ?_
      · skip
        refine S_aload_0 36 dX9_whyOf_36 ?_
        refine S_iload_1 37 dX9_whyOf_37 ?_
        refine S_callV (a' := 0) (b' := 0) (a := 0) (b := 0) 38 (As := [.int p1]) (ci := 9) rfl calX9_breaksBoundaries imX9_breaksBoundaries seX9_breaksBoundaries mkX9_344 rfl rfl rfl rfl rfl (by decide) rfl rfl dX9_whyOf_38 (CX9_breaksBoundaries E t p1 h8) (fun v9 h10 => kqI ?_)
        refine S_ifeq 41 48 dX9_whyOf_41 (by decide) ?_ ?_
        · skip
          refine S_aload_0 48 dX9_whyOf_48 ?_
          refine S_iload_1 49 dX9_whyOf_49 ?_
          refine S_callV (a' := 0) (b' := 0) (a := 0) (b := 0) 50 (As := [.int p1]) (ci := 9) rfl calX9_breaksConjugates imX9_breaksConjugates seX9_breaksConjugates mkX9_347 rfl rfl rfl rfl rfl (by decide) rfl rfl dX9_whyOf_50 (CX9_breaksConjugates E t p1 h10) (fun v11 h12 => kqI ?_)
          refine S_ifeq 53 60 dX9_whyOf_53 (by decide) ?_ ?_
          · skip
            refine S_ic 60 0 dX9_whyOf_60 (by decide) ?_
            exact S_drop [0, 1] rfl (hj61 _ _)
          · skip
            refine S_ic 56 5 dX9_whyOf_56 (by decide) ?_
            refine S_goto 57 61 dX9_whyOf_57 (by decide) ?_
            exact S_drop [0, 1] rfl (hj61 _ _)
        · skip
          refine S_ic 44 4 dX9_whyOf_44 (by decide) ?_
          refine S_goto 45 61 dX9_whyOf_45 (by decide) ?_
          exact S_drop [0, 1] rfl (hj61 _ _)
      · skip
        refine S_ic 32 3 dX9_whyOf_32 (by decide) ?_
        refine S_goto 33 61 dX9_whyOf_33 (by decide) ?_
        exact S_drop [0, 1] rfl (hj61 _ _)
    · skip
      refine S_ic 20 2 dX9_whyOf_20 (by decide) ?_
      refine S_goto 21 61 dX9_whyOf_21 (by decide) ?_
      exact S_drop [0, 1] rfl (hj61 _ _)
  · skip
    refine S_ic 8 1 dX9_whyOf_8 (by decide) ?_
    refine S_goto 9 61 dX9_whyOf_9 (by decide) ?_
    exact S_drop [0, 1] rfl (hj61 _ _)
def FX9_why (E : XG) (t : Nat) (p1 : Int32) (h : XH) : XP Int32 := xg (xk h t = 10) <| xb (FX9_noModule E t p1 h) fun v1 h2 => xjn (fun (v3 : Int32) (h4 : XH) => xv v3 h4) fun (j17 : Int32 → XH → XP Int32) => if (v1 : Int32) = 0 then (xg (xk h2 t = 10) <| xb (FX9_whyOf E t p1 h2) fun v5 h6 => j17 v5 h6) else (j17 0 h2)
theorem CX9_why (E : XG) (t : Nat) (p1 : Int32) (h : XH) : XN E mX9_why eI 0 0 [.ref t, .int p1] h (FX9_why E t p1 h) := by
  unfold FX9_why
  refine S_enter (L := [some (.ref t), some (.int p1)]) (by decide +kernel) rfl rfl rfl ?_
  refine S_aload_0 0 dX9_why_0 ?_
  refine S_iload_1 1 dX9_why_1 ?_
  refine S_callV (a' := 0) (b' := 0) (a := 0) (b := 0) 2 (As := [.int p1]) (ci := 9) rfl calX9_noModule imX9_noModule seX9_noModule mkX9_308 rfl rfl rfl rfl rfl (by decide) rfl rfl dX9_why_2 (CX9_noModule E t p1 h) (fun v1 h2 => kqI ?_)
  refine S_join (fun jj => ∀ (v3 : Int32) (h4 : XH), XS E mX9_why eI 0 0 17 [none, none] [.int v3] h4 (jj v3 h4)) (fun v3 h4 => ?_) (fun j17 hj17 => ?_)
  · skip
    exact S_iret 17 dX9_why_17 rfl
  refine S_ifeq 5 12 dX9_why_5 (by decide) ?_ ?_
  · skip
    refine S_aload_0 12 dX9_why_12 ?_
    refine S_iload_1 13 dX9_why_13 ?_
    refine S_callV (a' := 0) (b' := 0) (a := 0) (b := 0) 14 (As := [.int p1]) (ci := 9) rfl calX9_whyOf imX9_whyOf seX9_whyOf mkX9_350 rfl rfl rfl rfl rfl (by decide) rfl rfl dX9_why_14 (CX9_whyOf E t p1 h2) (fun v5 h6 => kqI ?_)
    exact S_drop [0, 1] rfl (hj17 _ _)
  · skip
    refine S_ic 8 0 dX9_why_8 (by decide) ?_
    refine S_goto 9 17 dX9_why_9 (by decide) ?_
    exact S_drop [0, 1] rfl (hj17 _ _)
def FX9_lawfulNow (E : XG) (t : Nat) (h : XH) : XP Int32 := xlp (fun again4 (s4 : Int32 × Int32) h1 => xg (xk h1 t = 10) <| if ((xi h1 t 3) : Int32) ≤ s4.2 then (xv s4.1 h1) else (xg (xk h1 t = 10) <| xb (FX9_whyOf E t s4.2 h1) fun v2 h3 => xjn (fun (v4 : Int32) (h5 : XH) => xlt (s4.1 ||| v4) fun v6 => again4 (v6, (s4.2 + 1)) h5) fun (j28 : Int32 → XH → XP Int32) => if (v2 : Int32) = 0 then (j28 (1 <<< (s4.2 &&& 31)) h3) else (j28 0 h3))) xfu (0, 0) h
theorem CX9_lawfulNow (E : XG) (t : Nat) (h : XH) : XN E mX9_lawfulNow eI 0 0 [.ref t] h (FX9_lawfulNow E t h) := by
  unfold FX9_lawfulNow
  refine S_enter (L := [some (.ref t), none, none]) (by decide +kernel) rfl rfl rfl ?_
  refine S_ic 0 0 dX9_lawfulNow_0 (by decide) ?_
  refine S_istore_1 1 dX9_lawfulNow_1 rfl ?_
  refine S_ic 2 0 dX9_lawfulNow_2 (by decide) ?_
  refine S_istore_2 3 dX9_lawfulNow_3 rfl ?_
  refine S_loop (fun (s4 : Int32 × Int32) => [some (.ref t), some (.int s4.1), some (.int s4.2)]) (fun again4 hg4 s4 h1 => ?_) xfu _ _
  refine S_iload_2 4 dX9_lawfulNow_4 ?_
  refine S_aload_0 5 dX9_lawfulNow_5 ?_
  refine S_getI 6 fsX9_259 rfl dX9_lawfulNow_6 ?_
  refine S_icmpge 9 36 dX9_lawfulNow_9 (by decide) ?_ ?_
  · skip
    refine S_iload_1 36 dX9_lawfulNow_36 ?_
    exact S_iret 37 dX9_lawfulNow_37 rfl
  · skip
    refine S_iload_1 12 dX9_lawfulNow_12 ?_
    refine S_aload_0 13 dX9_lawfulNow_13 ?_
    refine S_iload_2 14 dX9_lawfulNow_14 ?_
    refine S_callV (a' := 0) (b' := 0) (a := 0) (b := 0) 15 (As := [.int s4.2]) (ci := 9) rfl calX9_whyOf imX9_whyOf seX9_whyOf mkX9_350 rfl rfl rfl rfl rfl (by decide) rfl rfl dX9_lawfulNow_15 (CX9_whyOf E t s4.2 h1) (fun v2 h3 => kqI ?_)
    refine S_join (fun jj => ∀ (v4 : Int32) (h5 : XH), XS E mX9_lawfulNow eI 0 0 28 [some (.ref t), none, some (.int s4.2)] [.int v4, .int s4.1] h5 (jj v4 h5)) (fun v4 h5 => ?_) (fun j28 hj28 => ?_)
    · skip
      refine S_ior 28 dX9_lawfulNow_28 ?_
      refine S_gen (fun v6 => ?_)
      refine S_istore_1 29 dX9_lawfulNow_29 rfl ?_
      refine S_iinc_2 30 (s4.2 + 1) dX9_lawfulNow_30 (by rfl) rfl ?_
      refine S_goto 33 4 dX9_lawfulNow_33 (by decide) ?_
      exact S_drop [] rfl (hg4 _ _)
    refine S_ifne 18 27 dX9_lawfulNow_18 (by decide) ?_ ?_
    · skip
      refine S_ic 27 0 dX9_lawfulNow_27 (by decide) ?_
      exact S_drop [1] rfl (hj28 _ _)
    · skip
      refine S_ic 21 1 dX9_lawfulNow_21 (by decide) ?_
      refine S_iload_2 22 dX9_lawfulNow_22 ?_
      refine S_ishl 23 dX9_lawfulNow_23 ?_
      refine S_goto 24 28 dX9_lawfulNow_24 (by decide) ?_
      exact S_drop [1] rfl (hj28 _ _)
def FX9_lawful (E : XG) (t : Nat) (h : XH) : XP Int32 := xg (xk h t = 10) <| xb (FX9_notLoaded E t  h) fun v1 h2 => xjn (fun (v3 : Int32) (h4 : XH) => xv v3 h4) fun (j15 : Int32 → XH → XP Int32) => if (v1 : Int32) = 0 then (xg (xk h2 t = 10) <| xb (FX9_lawfulNow E t  h2) fun v5 h6 => j15 v5 h6) else (j15 0 h2)
theorem CX9_lawful (E : XG) (t : Nat) (h : XH) : XN E mX9_lawful eI 0 0 [.ref t] h (FX9_lawful E t h) := by
  unfold FX9_lawful
  refine S_enter (L := [some (.ref t)]) (by decide +kernel) rfl rfl rfl ?_
  refine S_aload_0 0 dX9_lawful_0 ?_
  refine S_callV (a' := 0) (b' := 0) (a := 0) (b := 0) 1 (As := []) (ci := 9) rfl calX9_notLoaded imX9_notLoaded seX9_notLoaded mkX9_272 rfl rfl rfl rfl rfl (by decide) rfl rfl dX9_lawful_1 (CX9_notLoaded E t  h) (fun v1 h2 => kqI ?_)
  refine S_join (fun jj => ∀ (v3 : Int32) (h4 : XH), XS E mX9_lawful eI 0 0 15 [none] [.int v3] h4 (jj v3 h4)) (fun v3 h4 => ?_) (fun j15 hj15 => ?_)
  · skip
    exact S_iret 15 dX9_lawful_15 rfl
  refine S_ifeq 4 11 dX9_lawful_4 (by decide) ?_ ?_
  · skip
    refine S_aload_0 11 dX9_lawful_11 ?_
    refine S_callV (a' := 0) (b' := 0) (a := 0) (b := 0) 12 (As := []) (ci := 9) rfl calX9_lawfulNow imX9_lawfulNow seX9_lawfulNow mkX9_353 rfl rfl rfl rfl rfl (by decide) rfl rfl dX9_lawful_12 (CX9_lawfulNow E t  h2) (fun v5 h6 => kqI ?_)
    exact S_drop [0] rfl (hj15 _ _)
  · skip
    refine S_ic 7 0 dX9_lawful_7 (by decide) ?_
    refine S_goto 8 15 dX9_lawful_8 (by decide) ?_
    exact S_drop [0] rfl (hj15 _ _)
def FX9_kernelOf (E : XG) (t : Nat) (p1 : Int32) (h : XH) : XP Int32 := xlp (fun again4 (s4 : Int32 × Int32) h1 => xg (xk h1 t = 10) <| xb (FX9_uppers E t p1 h1) fun v2 h3 => if (v2 : Int32) ≤ s4.2 then (xv s4.1 h3) else (xg (xk h3 t = 10) <| xb (FX9_boundaryOf E t p1 s4.2 h3) fun v4 h5 => xjn (fun (v6 : Int32) (h7 : XH) => xlt (s4.1 ||| v6) fun v8 => again4 (v8, (s4.2 + 1)) h7) fun (j30 : Int32 → XH → XP Int32) => if (v4 : Int32) = 0 then (j30 (1 <<< (s4.2 &&& 31)) h5) else (j30 0 h5))) xfu (0, 0) h
theorem CX9_kernelOf (E : XG) (t : Nat) (p1 : Int32) (h : XH) : XN E mX9_kernelOf eI 0 0 [.ref t, .int p1] h (FX9_kernelOf E t p1 h) := by
  unfold FX9_kernelOf
  refine S_enter (L := [some (.ref t), some (.int p1), none, none]) (by decide +kernel) rfl rfl rfl ?_
  refine S_ic 0 0 dX9_kernelOf_0 (by decide) ?_
  refine S_istore_2 1 dX9_kernelOf_1 rfl ?_
  refine S_ic 2 0 dX9_kernelOf_2 (by decide) ?_
  refine S_istore_3 3 dX9_kernelOf_3 rfl ?_
  refine S_loop (fun (s4 : Int32 × Int32) => [some (.ref t), some (.int p1), some (.int s4.1), some (.int s4.2)]) (fun again4 hg4 s4 h1 => ?_) xfu _ _
  refine S_iload_3 4 dX9_kernelOf_4 ?_
  refine S_aload_0 5 dX9_kernelOf_5 ?_
  refine S_iload_1 6 dX9_kernelOf_6 ?_
  refine S_callV (a' := 0) (b' := 0) (a := 0) (b := 0) 7 (As := [.int p1]) (ci := 9) rfl calX9_uppers imX9_uppers seX9_uppers mkX9_323 rfl rfl rfl rfl rfl (by decide) rfl rfl dX9_kernelOf_7 (CX9_uppers E t p1 h1) (fun v2 h3 => kqI ?_)
  refine S_icmpge 10 38 dX9_kernelOf_10 (by decide) ?_ ?_
  · skip
    refine S_iload_2 38 dX9_kernelOf_38 ?_
    exact S_iret 39 dX9_kernelOf_39 rfl
  · skip
    refine S_iload_2 13 dX9_kernelOf_13 ?_
    refine S_aload_0 14 dX9_kernelOf_14 ?_
    refine S_iload_1 15 dX9_kernelOf_15 ?_
    refine S_iload_3 16 dX9_kernelOf_16 ?_
    refine S_callV (a' := 0) (b' := 0) (a := 0) (b := 0) 17 (As := [.int p1, .int s4.2]) (ci := 9) rfl calX9_boundaryOf imX9_boundaryOf seX9_boundaryOf mkX9_314 rfl rfl rfl rfl rfl (by decide) rfl rfl dX9_kernelOf_17 (CX9_boundaryOf E t p1 s4.2 h3) (fun v4 h5 => kqI ?_)
    refine S_join (fun jj => ∀ (v6 : Int32) (h7 : XH), XS E mX9_kernelOf eI 0 0 30 [some (.ref t), some (.int p1), none, some (.int s4.2)] [.int v6, .int s4.1] h7 (jj v6 h7)) (fun v6 h7 => ?_) (fun j30 hj30 => ?_)
    · skip
      refine S_ior 30 dX9_kernelOf_30 ?_
      refine S_gen (fun v8 => ?_)
      refine S_istore_2 31 dX9_kernelOf_31 rfl ?_
      refine S_iinc_3 32 (s4.2 + 1) dX9_kernelOf_32 (by rfl) rfl ?_
      refine S_goto 35 4 dX9_kernelOf_35 (by decide) ?_
      exact S_drop [] rfl (hg4 _ _)
    refine S_ifne 20 29 dX9_kernelOf_20 (by decide) ?_ ?_
    · skip
      refine S_ic 29 0 dX9_kernelOf_29 (by decide) ?_
      exact S_drop [2] rfl (hj30 _ _)
    · skip
      refine S_ic 23 1 dX9_kernelOf_23 (by decide) ?_
      refine S_iload_3 24 dX9_kernelOf_24 ?_
      refine S_ishl 25 dX9_kernelOf_25 ?_
      refine S_goto 26 30 dX9_kernelOf_26 (by decide) ?_
      exact S_drop [2] rfl (hj30 _ _)
def FX9_imageOf (E : XG) (t : Nat) (p1 : Int32) (h : XH) : XP Int32 := xlp (fun again4 (s4 : Int32 × Int32) h1 => xg (xk h1 t = 10) <| xb (FX9_uppers E t p1 h1) fun v2 h3 => if (v2 : Int32) ≤ s4.2 then (xv s4.1 h3) else (xg (xk h3 t = 10) <| xb (FX9_boundaryOf E t p1 s4.2 h3) fun v4 h5 => xlt (s4.1 ||| (1 <<< (v4 &&& 31))) fun v6 => again4 (v6, (s4.2 + 1)) h5)) xfu (0, 0) h
theorem CX9_imageOf (E : XG) (t : Nat) (p1 : Int32) (h : XH) : XN E mX9_imageOf eI 0 0 [.ref t, .int p1] h (FX9_imageOf E t p1 h) := by
  unfold FX9_imageOf
  refine S_enter (L := [some (.ref t), some (.int p1), none, none]) (by decide +kernel) rfl rfl rfl ?_
  refine S_ic 0 0 dX9_imageOf_0 (by decide) ?_
  refine S_istore_2 1 dX9_imageOf_1 rfl ?_
  refine S_ic 2 0 dX9_imageOf_2 (by decide) ?_
  refine S_istore_3 3 dX9_imageOf_3 rfl ?_
  refine S_loop (fun (s4 : Int32 × Int32) => [some (.ref t), some (.int p1), some (.int s4.1), some (.int s4.2)]) (fun again4 hg4 s4 h1 => ?_) xfu _ _
  refine S_iload_3 4 dX9_imageOf_4 ?_
  refine S_aload_0 5 dX9_imageOf_5 ?_
  refine S_iload_1 6 dX9_imageOf_6 ?_
  refine S_callV (a' := 0) (b' := 0) (a := 0) (b := 0) 7 (As := [.int p1]) (ci := 9) rfl calX9_uppers imX9_uppers seX9_uppers mkX9_323 rfl rfl rfl rfl rfl (by decide) rfl rfl dX9_imageOf_7 (CX9_uppers E t p1 h1) (fun v2 h3 => kqI ?_)
  refine S_icmpge 10 30 dX9_imageOf_10 (by decide) ?_ ?_
  · skip
    refine S_iload_2 30 dX9_imageOf_30 ?_
    exact S_iret 31 dX9_imageOf_31 rfl
  · skip
    refine S_iload_2 13 dX9_imageOf_13 ?_
    refine S_ic 14 1 dX9_imageOf_14 (by decide) ?_
    refine S_aload_0 15 dX9_imageOf_15 ?_
    refine S_iload_1 16 dX9_imageOf_16 ?_
    refine S_iload_3 17 dX9_imageOf_17 ?_
    refine S_callV (a' := 0) (b' := 0) (a := 0) (b := 0) 18 (As := [.int p1, .int s4.2]) (ci := 9) rfl calX9_boundaryOf imX9_boundaryOf seX9_boundaryOf mkX9_314 rfl rfl rfl rfl rfl (by decide) rfl rfl dX9_imageOf_18 (CX9_boundaryOf E t p1 s4.2 h3) (fun v4 h5 => kqI ?_)
    refine S_ishl 21 dX9_imageOf_21 ?_
    refine S_ior 22 dX9_imageOf_22 ?_
    refine S_gen (fun v6 => ?_)
    refine S_istore_2 23 dX9_imageOf_23 rfl ?_
    refine S_iinc_3 24 (s4.2 + 1) dX9_imageOf_24 (by rfl) rfl ?_
    refine S_goto 27 4 dX9_imageOf_27 (by decide) ?_
    exact S_drop [] rfl (hg4 _ _)
def FX9_kernel (E : XG) (t : Nat) (p1 : Int32) (h : XH) : XP Int32 := xg (xk h t = 10) <| xb (FX9_noModule E t p1 h) fun v1 h2 => xjn (fun (v3 : Int32) (h4 : XH) => xv v3 h4) fun (j17 : Int32 → XH → XP Int32) => if (v1 : Int32) = 0 then (xg (xk h2 t = 10) <| xb (FX9_kernelOf E t p1 h2) fun v5 h6 => j17 v5 h6) else (j17 0 h2)
theorem CX9_kernel (E : XG) (t : Nat) (p1 : Int32) (h : XH) : XN E mX9_kernel eI 0 0 [.ref t, .int p1] h (FX9_kernel E t p1 h) := by
  unfold FX9_kernel
  refine S_enter (L := [some (.ref t), some (.int p1)]) (by decide +kernel) rfl rfl rfl ?_
  refine S_aload_0 0 dX9_kernel_0 ?_
  refine S_iload_1 1 dX9_kernel_1 ?_
  refine S_callV (a' := 0) (b' := 0) (a := 0) (b := 0) 2 (As := [.int p1]) (ci := 9) rfl calX9_noModule imX9_noModule seX9_noModule mkX9_308 rfl rfl rfl rfl rfl (by decide) rfl rfl dX9_kernel_2 (CX9_noModule E t p1 h) (fun v1 h2 => kqI ?_)
  refine S_join (fun jj => ∀ (v3 : Int32) (h4 : XH), XS E mX9_kernel eI 0 0 17 [none, none] [.int v3] h4 (jj v3 h4)) (fun v3 h4 => ?_) (fun j17 hj17 => ?_)
  · skip
    exact S_iret 17 dX9_kernel_17 rfl
  refine S_ifeq 5 12 dX9_kernel_5 (by decide) ?_ ?_
  · skip
    refine S_aload_0 12 dX9_kernel_12 ?_
    refine S_iload_1 13 dX9_kernel_13 ?_
    refine S_callV (a' := 0) (b' := 0) (a := 0) (b := 0) 14 (As := [.int p1]) (ci := 9) rfl calX9_kernelOf imX9_kernelOf seX9_kernelOf mkX9_356 rfl rfl rfl rfl rfl (by decide) rfl rfl dX9_kernel_14 (CX9_kernelOf E t p1 h2) (fun v5 h6 => kqI ?_)
    exact S_drop [0, 1] rfl (hj17 _ _)
  · skip
    refine S_ic 8 0 dX9_kernel_8 (by decide) ?_
    refine S_goto 9 17 dX9_kernel_9 (by decide) ?_
    exact S_drop [0, 1] rfl (hj17 _ _)
def FX9_image (E : XG) (t : Nat) (p1 : Int32) (h : XH) : XP Int32 := xg (xk h t = 10) <| xb (FX9_noModule E t p1 h) fun v1 h2 => xjn (fun (v3 : Int32) (h4 : XH) => xv v3 h4) fun (j17 : Int32 → XH → XP Int32) => if (v1 : Int32) = 0 then (xg (xk h2 t = 10) <| xb (FX9_imageOf E t p1 h2) fun v5 h6 => j17 v5 h6) else (j17 0 h2)
theorem CX9_image (E : XG) (t : Nat) (p1 : Int32) (h : XH) : XN E mX9_image eI 0 0 [.ref t, .int p1] h (FX9_image E t p1 h) := by
  unfold FX9_image
  refine S_enter (L := [some (.ref t), some (.int p1)]) (by decide +kernel) rfl rfl rfl ?_
  refine S_aload_0 0 dX9_image_0 ?_
  refine S_iload_1 1 dX9_image_1 ?_
  refine S_callV (a' := 0) (b' := 0) (a := 0) (b := 0) 2 (As := [.int p1]) (ci := 9) rfl calX9_noModule imX9_noModule seX9_noModule mkX9_308 rfl rfl rfl rfl rfl (by decide) rfl rfl dX9_image_2 (CX9_noModule E t p1 h) (fun v1 h2 => kqI ?_)
  refine S_join (fun jj => ∀ (v3 : Int32) (h4 : XH), XS E mX9_image eI 0 0 17 [none, none] [.int v3] h4 (jj v3 h4)) (fun v3 h4 => ?_) (fun j17 hj17 => ?_)
  · skip
    exact S_iret 17 dX9_image_17 rfl
  refine S_ifeq 5 12 dX9_image_5 (by decide) ?_ ?_
  · skip
    refine S_aload_0 12 dX9_image_12 ?_
    refine S_iload_1 13 dX9_image_13 ?_
    refine S_callV (a' := 0) (b' := 0) (a := 0) (b := 0) 14 (As := [.int p1]) (ci := 9) rfl calX9_imageOf imX9_imageOf seX9_imageOf mkX9_359 rfl rfl rfl rfl rfl (by decide) rfl rfl dX9_image_14 (CX9_imageOf E t p1 h2) (fun v5 h6 => kqI ?_)
    exact S_drop [0, 1] rfl (hj17 _ _)
  · skip
    refine S_ic 8 0 dX9_image_8 (by decide) ?_
    refine S_goto 9 17 dX9_image_9 (by decide) ?_
    exact S_drop [0, 1] rfl (hj17 _ _)
