/-! Methods as functions, 13. -/
set_option linter.unusedVariables false
set_option maxRecDepth 10000
def FX9_noElement (E : XG) (t : Nat) (p1 : Int32) (p2 : Int32) (h : XH) : XP Int32 := xg (xk h t = 10) <| xb (FX9_noGroup E t p1 h) fun v1 h2 => xjn (fun (v3 : Int32) (h4 : XH) => xg ((v3 : Int32) = 0 ∨ (v3 : Int32) = 1) <| xv v3 h4) fun (j42 : Int32 → XH → XP Int32) => xjn (fun  (h5 : XH) => j42 1 h5) fun (j37 : XH → XP Int32) => if (v1 : Int32) = 0 then (xg (xk h2 t = 10) <| xnn (xr h2 t 5) fun w6 => xg (xk h2 w6 = 12 ∧ xin p1 (xn h2 w6)) <| xb (FX9_in E p2 0 ((xi h2 w6 (p1 : Int32).toNatClampNeg) - 1) h2) fun v7 h8 => xjn (fun (v9 : Int32) (h10 : XH) => xg (xk h10 t = 10) <| xb (FX9_refuse E t v9 2 h10) fun v11 h12 => if (v11 : Int32) = 0 then (j42 0 h12) else (j37 h12)) fun (j30 : Int32 → XH → XP Int32) => if (v7 : Int32) = 0 then (j30 1 h8) else (j30 0 h8)) else (j37 h2)
theorem CX9_noElement (E : XG) (t : Nat) (p1 : Int32) (p2 : Int32) (h : XH) : XN E mX9_noElement eI 0 0 [.ref t, .int p1, .int p2] h (FX9_noElement E t p1 p2 h) := by
  unfold FX9_noElement
  refine S_enter (L := [some (.ref t), some (.int p1), some (.int p2)]) (by decide +kernel) rfl rfl rfl ?_
  refine S_aload_0 0 dX9_noElement_0 ?_
  refine S_iload_1 1 dX9_noElement_1 ?_
  refine S_callV (a' := 0) (b' := 0) (a := 0) (b := 0) 2 (As := [.int p1]) (ci := 9) rfl calX9_noGroup imX9_noGroup seX9_noGroup mkX9_279 rfl rfl rfl rfl rfl (by decide) rfl rfl dX9_noElement_2 (CX9_noGroup E t p1 h) (fun v1 h2 => kqI ?_)
  refine S_join (fun jj => ∀ (v3 : Int32) (h4 : XH), XS E mX9_noElement eI 0 0 42 [none, none, none] [.int v3] h4 (jj v3 h4)) (fun v3 h4 => ?_) (fun j42 hj42 => ?_)
  · skip
    exact S_zret 42 dX9_noElement_42 rfl
  refine S_join (fun jj => ∀  (h5 : XH), XS E mX9_noElement eI 0 0 37 [none, none, none] [] h5 (jj  h5)) (fun  h5 => ?_) (fun j37 hj37 => ?_)
  · skip
    refine S_ic 37 1 dX9_noElement_37 (by decide) ?_
    refine S_goto 38 42 dX9_noElement_38 (by decide) ?_
    exact S_drop [] rfl (hj42 _ _)
  refine S_ifne 5 37 dX9_noElement_5 (by decide) ?_ ?_
  · skip
    exact S_drop [0, 1, 2] rfl (hj37 _)
  · skip
    refine S_aload_0 8 dX9_noElement_8 ?_
    refine S_iload_2 9 dX9_noElement_9 ?_
    refine S_ic 10 0 dX9_noElement_10 (by decide) ?_
    refine S_aload_0 11 dX9_noElement_11 ?_
    refine S_getR 12 fsX9_7 rfl dX9_noElement_12 (fun w6 => ?_)
    refine S_iload_1 15 dX9_noElement_15 ?_
    refine S_iald 16 dX9_noElement_16 ?_
    refine S_ic 17 1 dX9_noElement_17 (by decide) ?_
    refine S_isub 18 dX9_noElement_18 ?_
    refine S_callS (a' := 0) (b' := 0) (a := 0) (b := 0) 19 (As := [.int p2, .int 0, .int ((xi h2 w6 (p1 : Int32).toNatClampNeg) - 1)]) rfl calX9_in stX9_in mkX9_152 rfl rfl rfl rfl rfl dX9_noElement_19 (CX9_in E p2 0 ((xi h2 w6 (p1 : Int32).toNatClampNeg) - 1) h2) (fun v7 h8 => kqI ?_)
    refine S_join (fun jj => ∀ (v9 : Int32) (h10 : XH), XS E mX9_noElement eI 0 0 30 [none, none, none] [.int v9, .ref t] h10 (jj v9 h10)) (fun v9 h10 => ?_) (fun j30 hj30 => ?_)
    · skip
      refine S_ic 30 2 dX9_noElement_30 (by decide) ?_
      refine S_callV (a' := 0) (b' := 0) (a := 0) (b := 0) 31 (As := [.int v9, .int 2]) (ci := 9) rfl calX9_refuse imX9_refuse seX9_refuse mkX9_94 rfl rfl rfl rfl rfl (by decide) rfl rfl dX9_noElement_31 (CX9_refuse E t v9 2 h10) (fun v11 h12 => kqI ?_)
      refine S_ifeq 34 41 dX9_noElement_34 (by decide) ?_ ?_
      · skip
        refine S_ic 41 0 dX9_noElement_41 (by decide) ?_
        exact S_drop [] rfl (hj42 _ _)
      · skip
        exact S_drop [] rfl (hj37 _)
    refine S_ifne 22 29 dX9_noElement_22 (by decide) ?_ ?_
    · skip
      refine S_ic 29 0 dX9_noElement_29 (by decide) ?_
      exact S_drop [0, 1, 2] rfl (hj30 _ _)
    · skip
      refine S_ic 25 1 dX9_noElement_25 (by decide) ?_
      refine S_goto 26 30 dX9_noElement_26 (by decide) ?_
      exact S_drop [0, 1, 2] rfl (hj30 _ _)
def FX9_size (E : XG) (t : Nat) (p1 : Int32) (h : XH) : XP Int32 := xg (xk h t = 10) <| xb (FX9_noGroup E t p1 h) fun v1 h2 => xjn (fun (v3 : Int32) (h4 : XH) => xv v3 h4) fun (j18 : Int32 → XH → XP Int32) => if (v1 : Int32) = 0 then (xg (xk h2 t = 10) <| xnn (xr h2 t 5) fun w5 => xg (xk h2 w5 = 12 ∧ xin p1 (xn h2 w5)) <| j18 (xi h2 w5 (p1 : Int32).toNatClampNeg) h2) else (j18 0 h2)
theorem CX9_size (E : XG) (t : Nat) (p1 : Int32) (h : XH) : XN E mX9_size eI 0 0 [.ref t, .int p1] h (FX9_size E t p1 h) := by
  unfold FX9_size
  refine S_enter (L := [some (.ref t), some (.int p1)]) (by decide +kernel) rfl rfl rfl ?_
  refine S_aload_0 0 dX9_size_0 ?_
  refine S_iload_1 1 dX9_size_1 ?_
  refine S_callV (a' := 0) (b' := 0) (a := 0) (b := 0) 2 (As := [.int p1]) (ci := 9) rfl calX9_noGroup imX9_noGroup seX9_noGroup mkX9_279 rfl rfl rfl rfl rfl (by decide) rfl rfl dX9_size_2 (CX9_noGroup E t p1 h) (fun v1 h2 => kqI ?_)
  refine S_join (fun jj => ∀ (v3 : Int32) (h4 : XH), XS E mX9_size eI 0 0 18 [none, none] [.int v3] h4 (jj v3 h4)) (fun v3 h4 => ?_) (fun j18 hj18 => ?_)
  · skip
    exact S_iret 18 dX9_size_18 rfl
  refine S_ifeq 5 12 dX9_size_5 (by decide) ?_ ?_
  · skip
    refine S_aload_0 12 dX9_size_12 ?_
    refine S_getR 13 fsX9_7 rfl dX9_size_13 (fun w5 => ?_)
    refine S_iload_1 16 dX9_size_16 ?_
    refine S_iald 17 dX9_size_17 ?_
    exact S_drop [0, 1] rfl (hj18 _ _)
  · skip
    refine S_ic 8 0 dX9_size_8 (by decide) ?_
    refine S_goto 9 18 dX9_size_9 (by decide) ?_
    exact S_drop [0, 1] rfl (hj18 _ _)
def FX9_of (E : XG) (t : Nat) (p1 : Int32) (p2 : Int32) (p3 : Int32) (h : XH) : XP Int32 := xg (xk h t = 10) <| xnn (xr h t 6) fun w1 => xg (xk h w1 = 12 ∧ xin (((64 * p1) + (8 * p2)) + p3) (xn h w1)) <| xv (xi h w1 ((((64 * p1) + (8 * p2)) + p3) : Int32).toNatClampNeg) h
theorem CX9_of (E : XG) (t : Nat) (p1 : Int32) (p2 : Int32) (p3 : Int32) (h : XH) : XN E mX9_of eI 0 0 [.ref t, .int p1, .int p2, .int p3] h (FX9_of E t p1 p2 p3 h) := by
  unfold FX9_of
  refine S_enter (L := [some (.ref t), some (.int p1), some (.int p2), some (.int p3)]) (by decide +kernel) rfl rfl rfl ?_
  refine S_aload_0 0 dX9_of_0 ?_
  refine S_getR 1 fsX9_13 rfl dX9_of_1 (fun w1 => ?_)
  refine S_bip 4 64 dX9_of_4 (by decide) ?_
  refine S_iload_1 6 dX9_of_6 ?_
  refine S_imul 7 dX9_of_7 ?_
  refine S_bip 8 8 dX9_of_8 (by decide) ?_
  refine S_iload_2 10 dX9_of_10 ?_
  refine S_imul 11 dX9_of_11 ?_
  refine S_iadd 12 dX9_of_12 ?_
  refine S_iload_3 13 dX9_of_13 ?_
  refine S_iadd 14 dX9_of_14 ?_
  refine S_iald 15 dX9_of_15 ?_
  exact S_iret 16 dX9_of_16 rfl
def FX9_times (E : XG) (t : Nat) (p1 : Int32) (p2 : Int32) (p3 : Int32) (h : XH) : XP Int32 := xg (xk h t = 10) <| xb (FX9_noElement E t p1 p2 h) fun v1 h2 => xjn (fun (v3 : Int32) (h4 : XH) => xv v3 h4) fun (j29 : Int32 → XH → XP Int32) => xjn (fun  (h5 : XH) => j29 0 h5) fun (j18 : XH → XP Int32) => if (v1 : Int32) = 0 then (xg (xk h2 t = 10) <| xb (FX9_noElement E t p1 p3 h2) fun v6 h7 => if (v6 : Int32) = 0 then (xg (xk h7 t = 10) <| xb (FX9_of E t p1 p2 p3 h7) fun v8 h9 => j29 v8 h9) else (j18 h7)) else (j18 h2)
theorem CX9_times (E : XG) (t : Nat) (p1 : Int32) (p2 : Int32) (p3 : Int32) (h : XH) : XN E mX9_times eI 0 0 [.ref t, .int p1, .int p2, .int p3] h (FX9_times E t p1 p2 p3 h) := by
  unfold FX9_times
  refine S_enter (L := [some (.ref t), some (.int p1), some (.int p2), some (.int p3)]) (by decide +kernel) rfl rfl rfl ?_
  refine S_aload_0 0 dX9_times_0 ?_
  refine S_iload_1 1 dX9_times_1 ?_
  refine S_iload_2 2 dX9_times_2 ?_
  refine S_callV (a' := 0) (b' := 0) (a := 0) (b := 0) 3 (As := [.int p1, .int p2]) (ci := 9) rfl calX9_noElement imX9_noElement seX9_noElement mkX9_282 rfl rfl rfl rfl rfl (by decide) rfl rfl dX9_times_3 (CX9_noElement E t p1 p2 h) (fun v1 h2 => kqI ?_)
  refine S_join (fun jj => ∀ (v3 : Int32) (h4 : XH), XS E mX9_times eI 0 0 29 [none, none, none, none] [.int v3] h4 (jj v3 h4)) (fun v3 h4 => ?_) (fun j29 hj29 => ?_)
  · skip
    exact S_iret 29 dX9_times_29 rfl
  refine S_join (fun jj => ∀  (h5 : XH), XS E mX9_times eI 0 0 18 [none, none, none, none] [] h5 (jj  h5)) (fun  h5 => ?_) (fun j18 hj18 => ?_)
  · skip
    refine S_ic 18 0 dX9_times_18 (by decide) ?_
    refine S_goto 19 29 dX9_times_19 (by decide) ?_
    exact S_drop [] rfl (hj29 _ _)
  refine S_ifne 6 18 dX9_times_6 (by decide) ?_ ?_
  · skip
    exact S_drop [0, 1, 2, 3] rfl (hj18 _)
  · skip
    refine S_aload_0 9 dX9_times_9 ?_
    refine S_iload_1 10 dX9_times_10 ?_
    refine S_iload_3 11 dX9_times_11 ?_
    refine S_callV (a' := 0) (b' := 0) (a := 0) (b := 0) 12 (As := [.int p1, .int p3]) (ci := 9) rfl calX9_noElement imX9_noElement seX9_noElement mkX9_282 rfl rfl rfl rfl rfl (by decide) rfl rfl dX9_times_12 (CX9_noElement E t p1 p3 h2) (fun v6 h7 => kqI ?_)
    refine S_ifeq 15 22 dX9_times_15 (by decide) ?_ ?_
    · skip
      refine S_aload_0 22 dX9_times_22 ?_
      refine S_iload_1 23 dX9_times_23 ?_
      refine S_iload_2 24 dX9_times_24 ?_
      refine S_iload_3 25 dX9_times_25 ?_
      refine S_callV (a' := 0) (b' := 0) (a := 0) (b := 0) 26 (As := [.int p1, .int p2, .int p3]) (ci := 9) rfl calX9_of imX9_of seX9_of mkX9_285 rfl rfl rfl rfl rfl (by decide) rfl rfl dX9_times_26 (CX9_of E t p1 p2 p3 h7) (fun v8 h9 => kqI ?_)
      exact S_drop [0, 1, 2, 3] rfl (hj29 _ _)
    · skip
      exact S_drop [0, 1, 2, 3] rfl (hj18 _)
def FX9_inverseOf (E : XG) (t : Nat) (p1 : Int32) (p2 : Int32) (h : XH) : XP Int32 := xlp (fun again2 (s2 : Int32) h1 => xg (xk h1 t = 10) <| xb (FX9_of E t p1 p2 s2 h1) fun v2 h3 => if (v2 : Int32) = 0 then (xv s2 h3) else (again2 (s2 + 1) h3)) xfu 0 h
theorem CX9_inverseOf (E : XG) (t : Nat) (p1 : Int32) (p2 : Int32) (h : XH) : XN E mX9_inverseOf eI 0 0 [.ref t, .int p1, .int p2] h (FX9_inverseOf E t p1 p2 h) := by
  unfold FX9_inverseOf
  refine S_enter (L := [some (.ref t), some (.int p1), some (.int p2), none]) (by decide +kernel) rfl rfl rfl ?_
  refine S_ic 0 0 dX9_inverseOf_0 (by decide) ?_
  refine S_istore_3 1 dX9_inverseOf_1 rfl ?_
  refine S_loop (fun (s2 : Int32) => [some (.ref t), some (.int p1), some (.int p2), some (.int s2)]) (fun again2 hg2 s2 h1 => ?_) xfu _ _
  refine S_aload_0 2 dX9_inverseOf_2 ?_
  refine S_iload_1 3 dX9_inverseOf_3 ?_
  refine S_iload_2 4 dX9_inverseOf_4 ?_
  refine S_iload_3 5 dX9_inverseOf_5 ?_
  refine S_callV (a' := 0) (b' := 0) (a := 0) (b := 0) 6 (As := [.int p1, .int p2, .int s2]) (ci := 9) rfl calX9_of imX9_of seX9_of mkX9_285 rfl rfl rfl rfl rfl (by decide) rfl rfl dX9_inverseOf_6 (CX9_of E t p1 p2 s2 h1) (fun v2 h3 => kqI ?_)
  refine S_ifeq 9 18 dX9_inverseOf_9 (by decide) ?_ ?_
  · skip
    refine S_iload_3 18 dX9_inverseOf_18 ?_
    exact S_iret 19 dX9_inverseOf_19 rfl
  · skip
    refine S_iinc_3 12 (s2 + 1) dX9_inverseOf_12 (by rfl) rfl ?_
    refine S_goto 15 2 dX9_inverseOf_15 (by decide) ?_
    exact S_drop [] rfl (hg2 _ _)
def FX9_inverse (E : XG) (t : Nat) (p1 : Int32) (p2 : Int32) (h : XH) : XP Int32 := xg (xk h t = 10) <| xb (FX9_noElement E t p1 p2 h) fun v1 h2 => xjn (fun (v3 : Int32) (h4 : XH) => xv v3 h4) fun (j19 : Int32 → XH → XP Int32) => if (v1 : Int32) = 0 then (xg (xk h2 t = 10) <| xb (FX9_inverseOf E t p1 p2 h2) fun v5 h6 => j19 v5 h6) else (j19 0 h2)
theorem CX9_inverse (E : XG) (t : Nat) (p1 : Int32) (p2 : Int32) (h : XH) : XN E mX9_inverse eI 0 0 [.ref t, .int p1, .int p2] h (FX9_inverse E t p1 p2 h) := by
  unfold FX9_inverse
  refine S_enter (L := [some (.ref t), some (.int p1), some (.int p2)]) (by decide +kernel) rfl rfl rfl ?_
  refine S_aload_0 0 dX9_inverse_0 ?_
  refine S_iload_1 1 dX9_inverse_1 ?_
  refine S_iload_2 2 dX9_inverse_2 ?_
  refine S_callV (a' := 0) (b' := 0) (a := 0) (b := 0) 3 (As := [.int p1, .int p2]) (ci := 9) rfl calX9_noElement imX9_noElement seX9_noElement mkX9_282 rfl rfl rfl rfl rfl (by decide) rfl rfl dX9_inverse_3 (CX9_noElement E t p1 p2 h) (fun v1 h2 => kqI ?_)
  refine S_join (fun jj => ∀ (v3 : Int32) (h4 : XH), XS E mX9_inverse eI 0 0 19 [none, none, none] [.int v3] h4 (jj v3 h4)) (fun v3 h4 => ?_) (fun j19 hj19 => ?_)
  · skip
    exact S_iret 19 dX9_inverse_19 rfl
  refine S_ifeq 6 13 dX9_inverse_6 (by decide) ?_ ?_
  · skip
    refine S_aload_0 13 dX9_inverse_13 ?_
    refine S_iload_1 14 dX9_inverse_14 ?_
    refine S_iload_2 15 dX9_inverse_15 ?_
    refine S_callV (a' := 0) (b' := 0) (a := 0) (b := 0) 16 (As := [.int p1, .int p2]) (ci := 9) rfl calX9_inverseOf imX9_inverseOf seX9_inverseOf mkX9_289 rfl rfl rfl rfl rfl (by decide) rfl rfl dX9_inverse_16 (CX9_inverseOf E t p1 p2 h2) (fun v5 h6 => kqI ?_)
    exact S_drop [0, 1, 2] rfl (hj19 _ _)
  · skip
    refine S_ic 9 0 dX9_inverse_9 (by decide) ?_
    refine S_goto 10 19 dX9_inverse_10 (by decide) ?_
    exact S_drop [0, 1, 2] rfl (hj19 _ _)
def FX9_orderIn (E : XG) (t : Nat) (p1 : Int32) (p2 : Int32) (h : XH) : XP Int32 := xlp (fun again5 (s5 : Int32 × Int32) h1 => if (s5.2 : Int32) = 0 then (xv s5.1 h1) else (xg (xk h1 t = 10) <| xb (FX9_of E t p1 s5.2 p2 h1) fun v2 h3 => again5 ((s5.1 + 1), v2) h3)) xfu (1, p2) h
theorem CX9_orderIn (E : XG) (t : Nat) (p1 : Int32) (p2 : Int32) (h : XH) : XN E mX9_orderIn eI 0 0 [.ref t, .int p1, .int p2] h (FX9_orderIn E t p1 p2 h) := by
  unfold FX9_orderIn
  refine S_enter (L := [some (.ref t), some (.int p1), some (.int p2), none, none]) (by decide +kernel) rfl rfl rfl ?_
  refine S_ic 0 1 dX9_orderIn_0 (by decide) ?_
  refine S_istore_3 1 dX9_orderIn_1 rfl ?_
  refine S_iload_2 2 dX9_orderIn_2 ?_
  refine S_istore_4 3 dX9_orderIn_3 rfl ?_
  refine S_loop (fun (s5 : Int32 × Int32) => [some (.ref t), some (.int p1), some (.int p2), some (.int s5.1), some (.int s5.2)]) (fun again5 hg5 s5 h1 => ?_) xfu _ _
  refine S_iload_4 5 dX9_orderIn_5 ?_
  refine S_ifeq 7 26 dX9_orderIn_7 (by decide) ?_ ?_
  · skip
    refine S_iload_3 26 dX9_orderIn_26 ?_
    exact S_iret 27 dX9_orderIn_27 rfl
  · skip
    refine S_iinc_3 10 (s5.1 + 1) dX9_orderIn_10 (by rfl) rfl ?_
    refine S_aload_0 13 dX9_orderIn_13 ?_
    refine S_iload_1 14 dX9_orderIn_14 ?_
    refine S_iload_4 15 dX9_orderIn_15 ?_
    refine S_iload_2 17 dX9_orderIn_17 ?_
    refine S_callV (a' := 0) (b' := 0) (a := 0) (b := 0) 18 (As := [.int p1, .int s5.2, .int p2]) (ci := 9) rfl calX9_of imX9_of seX9_of mkX9_285 rfl rfl rfl rfl rfl (by decide) rfl rfl dX9_orderIn_18 (CX9_of E t p1 s5.2 p2 h1) (fun v2 h3 => kqI ?_)
    refine S_istore_4 21 dX9_orderIn_21 rfl ?_
    refine S_goto 23 5 dX9_orderIn_23 (by decide) ?_
    exact S_drop [] rfl (hg5 _ _)
def FX9_orderOf (E : XG) (t : Nat) (p1 : Int32) (p2 : Int32) (h : XH) : XP Int32 := xg (xk h t = 10) <| xb (FX9_noElement E t p1 p2 h) fun v1 h2 => xjn (fun (v3 : Int32) (h4 : XH) => xv v3 h4) fun (j19 : Int32 → XH → XP Int32) => if (v1 : Int32) = 0 then (xg (xk h2 t = 10) <| xb (FX9_orderIn E t p1 p2 h2) fun v5 h6 => j19 v5 h6) else (j19 0 h2)
theorem CX9_orderOf (E : XG) (t : Nat) (p1 : Int32) (p2 : Int32) (h : XH) : XN E mX9_orderOf eI 0 0 [.ref t, .int p1, .int p2] h (FX9_orderOf E t p1 p2 h) := by
  unfold FX9_orderOf
  refine S_enter (L := [some (.ref t), some (.int p1), some (.int p2)]) (by decide +kernel) rfl rfl rfl ?_
  refine S_aload_0 0 dX9_orderOf_0 ?_
  refine S_iload_1 1 dX9_orderOf_1 ?_
  refine S_iload_2 2 dX9_orderOf_2 ?_
  refine S_callV (a' := 0) (b' := 0) (a := 0) (b := 0) 3 (As := [.int p1, .int p2]) (ci := 9) rfl calX9_noElement imX9_noElement seX9_noElement mkX9_282 rfl rfl rfl rfl rfl (by decide) rfl rfl dX9_orderOf_3 (CX9_noElement E t p1 p2 h) (fun v1 h2 => kqI ?_)
  refine S_join (fun jj => ∀ (v3 : Int32) (h4 : XH), XS E mX9_orderOf eI 0 0 19 [none, none, none] [.int v3] h4 (jj v3 h4)) (fun v3 h4 => ?_) (fun j19 hj19 => ?_)
  · skip
    exact S_iret 19 dX9_orderOf_19 rfl
  refine S_ifeq 6 13 dX9_orderOf_6 (by decide) ?_ ?_
  · skip
    refine S_aload_0 13 dX9_orderOf_13 ?_
    refine S_iload_1 14 dX9_orderOf_14 ?_
    refine S_iload_2 15 dX9_orderOf_15 ?_
    refine S_callV (a' := 0) (b' := 0) (a := 0) (b := 0) 16 (As := [.int p1, .int p2]) (ci := 9) rfl calX9_orderIn imX9_orderIn seX9_orderIn mkX9_292 rfl rfl rfl rfl rfl (by decide) rfl rfl dX9_orderOf_16 (CX9_orderIn E t p1 p2 h2) (fun v5 h6 => kqI ?_)
    exact S_drop [0, 1, 2] rfl (hj19 _ _)
  · skip
    refine S_ic 9 0 dX9_orderOf_9 (by decide) ?_
    refine S_goto 10 19 dX9_orderOf_10 (by decide) ?_
    exact S_drop [0, 1, 2] rfl (hj19 _ _)
def FX9_centreOf (E : XG) (t : Nat) (p1 : Int32) (h : XH) : XP Int32 := xlp (fun again4 (s4 : Int32 × Int32) h1 => xg (xk h1 t = 10) <| xnn (xr h1 t 5) fun w2 => xg (xk h1 w2 = 12 ∧ xin p1 (xn h1 w2)) <| if ((xi h1 w2 (p1 : Int32).toNatClampNeg) : Int32) ≤ s4.2 then (xv s4.1 h1) else (xlp (fun again20 (s20 : Int32 × Int32) h3 => xg (xk h3 t = 10) <| xnn (xr h3 t 5) fun w4 => xg (xk h3 w4 = 12 ∧ xin p1 (xn h3 w4)) <| if ((xi h3 w4 (p1 : Int32).toNatClampNeg) : Int32) ≤ s20.2 then (xjn (fun (v5 : Int32) (h6 : XH) => xlt (s4.1 ||| v5) fun v7 => again4 (v7, (s4.2 + 1)) h6) fun (j81 : Int32 → XH → XP Int32) => if (s20.1 : Int32) = 0 then (j81 0 h3) else (j81 (1 <<< (s4.2 &&& 31)) h3)) else (xjn (fun (v8 : Int32) (h9 : XH) => again20 (v8, (s20.2 + 1)) h9) fun (j60 : Int32 → XH → XP Int32) => xjn (fun  (h10 : XH) => j60 0 h10) fun (j59 : XH → XP Int32) => if (s20.1 : Int32) = 0 then (j59 h3) else (xg (xk h3 t = 10) <| xb (FX9_of E t p1 s4.2 s20.2 h3) fun v11 h12 => xg (xk h12 t = 10) <| xb (FX9_of E t p1 s20.2 s4.2 h12) fun v13 h14 => if (v11 : Int32) = v13 then (j60 1 h14) else (j59 h14)))) xfu (1, 0) h1)) xfu (0, 0) h
theorem CX9_centreOf (E : XG) (t : Nat) (p1 : Int32) (h : XH) : XN E mX9_centreOf eI 0 0 [.ref t, .int p1] h (FX9_centreOf E t p1 h) := by
  unfold FX9_centreOf
  refine S_enter (L := [some (.ref t), some (.int p1), none, none, none, none]) (by decide +kernel) rfl rfl rfl ?_
  refine S_ic 0 0 dX9_centreOf_0 (by decide) ?_
  refine S_istore_2 1 dX9_centreOf_1 rfl ?_
  refine S_ic 2 0 dX9_centreOf_2 (by decide) ?_
  refine S_istore_3 3 dX9_centreOf_3 rfl ?_
  refine S_loop (fun (s4 : Int32 × Int32) => [some (.ref t), some (.int p1), some (.int s4.1), some (.int s4.2), none, none]) (fun again4 hg4 s4 h1 => ?_) xfu _ _
  refine S_iload_3 4 dX9_centreOf_4 ?_
  refine S_aload_0 5 dX9_centreOf_5 ?_
  refine S_getR 6 fsX9_7 rfl dX9_centreOf_6 (fun w2 => ?_)
  refine S_iload_1 9 dX9_centreOf_9 ?_
  refine S_iald 10 dX9_centreOf_10 ?_
  refine S_icmpge 11 89 dX9_centreOf_11 (by decide) ?_ ?_
  · skip
    refine S_iload_2 89 dX9_centreOf_89 ?_
    exact S_iret 90 dX9_centreOf_90 rfl
  · skip
    refine S_ic 14 1 dX9_centreOf_14 (by decide) ?_
    refine S_istore_4 15 dX9_centreOf_15 rfl ?_
    refine S_ic 17 0 dX9_centreOf_17 (by decide) ?_
    refine S_istore_5 18 dX9_centreOf_18 rfl ?_
    refine S_loop (fun (s20 : Int32 × Int32) => [some (.ref t), some (.int p1), some (.int s4.1), some (.int s4.2), some (.int s20.1), some (.int s20.2)]) (fun again20 hg20 s20 h3 => ?_) xfu _ _
    refine S_iload_5 20 dX9_centreOf_20 ?_
    refine S_aload_0 22 dX9_centreOf_22 ?_
    refine S_getR 23 fsX9_7 rfl dX9_centreOf_23 (fun w4 => ?_)
    refine S_iload_1 26 dX9_centreOf_26 ?_
    refine S_iald 27 dX9_centreOf_27 ?_
    refine S_icmpge 28 68 dX9_centreOf_28 (by decide) ?_ ?_
    · skip
      refine S_iload_2 68 dX9_centreOf_68 ?_
      refine S_iload_4 69 dX9_centreOf_69 ?_
      refine S_join (fun jj => ∀ (v5 : Int32) (h6 : XH), XS E mX9_centreOf eI 0 0 81 [some (.ref t), some (.int p1), none, some (.int s4.2), none, none] [.int v5, .int s4.1] h6 (jj v5 h6)) (fun v5 h6 => ?_) (fun j81 hj81 => ?_)
      · skip
        refine S_ior 81 dX9_centreOf_81 ?_
        refine S_gen (fun v7 => ?_)
        refine S_istore_2 82 dX9_centreOf_82 rfl ?_
        refine S_iinc_3 83 (s4.2 + 1) dX9_centreOf_83 (by rfl) rfl ?_
        refine S_goto 86 4 dX9_centreOf_86 (by decide) ?_
        exact S_drop [] rfl (hg4 _ _)
      refine S_ifeq 71 80 dX9_centreOf_71 (by decide) ?_ ?_
      · skip
        refine S_ic 80 0 dX9_centreOf_80 (by decide) ?_
        exact S_drop [2, 4, 5] rfl (hj81 _ _)
      · skip
        refine S_ic 74 1 dX9_centreOf_74 (by decide) ?_
        refine S_iload_3 75 dX9_centreOf_75 ?_
        refine S_ishl 76 dX9_centreOf_76 ?_
        refine S_goto 77 81 dX9_centreOf_77 (by decide) ?_
        exact S_drop [2, 4, 5] rfl (hj81 _ _)
    · skip
      refine S_iload_4 31 dX9_centreOf_31 ?_
      refine S_join (fun jj => ∀ (v8 : Int32) (h9 : XH), XS E mX9_centreOf eI 0 0 60 [some (.ref t), some (.int p1), some (.int s4.1), some (.int s4.2), none, some (.int s20.2)] [.int v8] h9 (jj v8 h9)) (fun v8 h9 => ?_) (fun j60 hj60 => ?_)
      · skip
        refine S_istore_4 60 dX9_centreOf_60 rfl ?_
        refine S_iinc_5 62 (s20.2 + 1) dX9_centreOf_62 (by rfl) rfl ?_
        refine S_goto 65 20 dX9_centreOf_65 (by decide) ?_
        exact S_drop [] rfl (hg20 _ _)
      refine S_join (fun jj => ∀  (h10 : XH), XS E mX9_centreOf eI 0 0 59 [some (.ref t), some (.int p1), some (.int s4.1), some (.int s4.2), none, some (.int s20.2)] [] h10 (jj  h10)) (fun  h10 => ?_) (fun j59 hj59 => ?_)
      · skip
        refine S_ic 59 0 dX9_centreOf_59 (by decide) ?_
        exact S_drop [] rfl (hj60 _ _)
      refine S_ifeq 33 59 dX9_centreOf_33 (by decide) ?_ ?_
      · skip
        exact S_drop [4] rfl (hj59 _)
      · skip
        refine S_aload_0 36 dX9_centreOf_36 ?_
        refine S_iload_1 37 dX9_centreOf_37 ?_
        refine S_iload_3 38 dX9_centreOf_38 ?_
        refine S_iload_5 39 dX9_centreOf_39 ?_
        refine S_callV (a' := 0) (b' := 0) (a := 0) (b := 0) 41 (As := [.int p1, .int s4.2, .int s20.2]) (ci := 9) rfl calX9_of imX9_of seX9_of mkX9_285 rfl rfl rfl rfl rfl (by decide) rfl rfl dX9_centreOf_41 (CX9_of E t p1 s4.2 s20.2 h3) (fun v11 h12 => kqI ?_)
        refine S_aload_0 44 dX9_centreOf_44 ?_
        refine S_iload_1 45 dX9_centreOf_45 ?_
        refine S_iload_5 46 dX9_centreOf_46 ?_
        refine S_iload_3 48 dX9_centreOf_48 ?_
        refine S_callV (a' := 0) (b' := 0) (a := 0) (b := 0) 49 (As := [.int p1, .int s20.2, .int s4.2]) (ci := 9) rfl calX9_of imX9_of seX9_of mkX9_285 rfl rfl rfl rfl rfl (by decide) rfl rfl dX9_centreOf_49 (CX9_of E t p1 s20.2 s4.2 h12) (fun v13 h14 => kqI ?_)
        refine S_icmpne 52 59 dX9_centreOf_52 (by decide) ?_ ?_
        · skip
          exact S_drop [4] rfl (hj59 _)
        · skip
          refine S_ic 55 1 dX9_centreOf_55 (by decide) ?_
          refine S_goto 56 60 dX9_centreOf_56 (by decide) ?_
          exact S_drop [4] rfl (hj60 _ _)
def FX9_centre (E : XG) (t : Nat) (p1 : Int32) (h : XH) : XP Int32 := xg (xk h t = 10) <| xb (FX9_noGroup E t p1 h) fun v1 h2 => xjn (fun (v3 : Int32) (h4 : XH) => xv v3 h4) fun (j17 : Int32 → XH → XP Int32) => if (v1 : Int32) = 0 then (xg (xk h2 t = 10) <| xb (FX9_centreOf E t p1 h2) fun v5 h6 => j17 v5 h6) else (j17 0 h2)
theorem CX9_centre (E : XG) (t : Nat) (p1 : Int32) (h : XH) : XN E mX9_centre eI 0 0 [.ref t, .int p1] h (FX9_centre E t p1 h) := by
  unfold FX9_centre
  refine S_enter (L := [some (.ref t), some (.int p1)]) (by decide +kernel) rfl rfl rfl ?_
  refine S_aload_0 0 dX9_centre_0 ?_
  refine S_iload_1 1 dX9_centre_1 ?_
  refine S_callV (a' := 0) (b' := 0) (a := 0) (b := 0) 2 (As := [.int p1]) (ci := 9) rfl calX9_noGroup imX9_noGroup seX9_noGroup mkX9_279 rfl rfl rfl rfl rfl (by decide) rfl rfl dX9_centre_2 (CX9_noGroup E t p1 h) (fun v1 h2 => kqI ?_)
  refine S_join (fun jj => ∀ (v3 : Int32) (h4 : XH), XS E mX9_centre eI 0 0 17 [none, none] [.int v3] h4 (jj v3 h4)) (fun v3 h4 => ?_) (fun j17 hj17 => ?_)
  · skip
    exact S_iret 17 dX9_centre_17 rfl
  refine S_ifeq 5 12 dX9_centre_5 (by decide) ?_ ?_
  · skip
    refine S_aload_0 12 dX9_centre_12 ?_
    refine S_iload_1 13 dX9_centre_13 ?_
    refine S_callV (a' := 0) (b' := 0) (a := 0) (b := 0) 14 (As := [.int p1]) (ci := 9) rfl calX9_centreOf imX9_centreOf seX9_centreOf mkX9_295 rfl rfl rfl rfl rfl (by decide) rfl rfl dX9_centre_14 (CX9_centreOf E t p1 h2) (fun v5 h6 => kqI ?_)
    exact S_drop [0, 1] rfl (hj17 _ _)
  · skip
    refine S_ic 8 0 dX9_centre_8 (by decide) ?_
    refine S_goto 9 17 dX9_centre_9 (by decide) ?_
    exact S_drop [0, 1] rfl (hj17 _ _)
def FX9_conjugateOf (E : XG) (t : Nat) (p1 : Int32) (p2 : Int32) (p3 : Int32) (h : XH) : XP Int32 := xg (xk h t = 10) <| xb (FX9_of E t p1 p2 p3 h) fun v1 h2 => xg (xk h2 t = 10) <| xb (FX9_inverseOf E t p1 p2 h2) fun v3 h4 => xg (xk h4 t = 10) <| xb (FX9_of E t p1 v1 v3 h4) fun v5 h6 => xv v5 h6
theorem CX9_conjugateOf (E : XG) (t : Nat) (p1 : Int32) (p2 : Int32) (p3 : Int32) (h : XH) : XN E mX9_conjugateOf eI 0 0 [.ref t, .int p1, .int p2, .int p3] h (FX9_conjugateOf E t p1 p2 p3 h) := by
  unfold FX9_conjugateOf
  refine S_enter (L := [some (.ref t), some (.int p1), some (.int p2), some (.int p3)]) (by decide +kernel) rfl rfl rfl ?_
  refine S_aload_0 0 dX9_conjugateOf_0 ?_
  refine S_iload_1 1 dX9_conjugateOf_1 ?_
  refine S_aload_0 2 dX9_conjugateOf_2 ?_
  refine S_iload_1 3 dX9_conjugateOf_3 ?_
  refine S_iload_2 4 dX9_conjugateOf_4 ?_
  refine S_iload_3 5 dX9_conjugateOf_5 ?_
  refine S_callV (a' := 0) (b' := 0) (a := 0) (b := 0) 6 (As := [.int p1, .int p2, .int p3]) (ci := 9) rfl calX9_of imX9_of seX9_of mkX9_285 rfl rfl rfl rfl rfl (by decide) rfl rfl dX9_conjugateOf_6 (CX9_of E t p1 p2 p3 h) (fun v1 h2 => kqI ?_)
  refine S_aload_0 9 dX9_conjugateOf_9 ?_
  refine S_iload_1 10 dX9_conjugateOf_10 ?_
  refine S_iload_2 11 dX9_conjugateOf_11 ?_
  refine S_callV (a' := 0) (b' := 0) (a := 0) (b := 0) 12 (As := [.int p1, .int p2]) (ci := 9) rfl calX9_inverseOf imX9_inverseOf seX9_inverseOf mkX9_289 rfl rfl rfl rfl rfl (by decide) rfl rfl dX9_conjugateOf_12 (CX9_inverseOf E t p1 p2 h2) (fun v3 h4 => kqI ?_)
  refine S_callV (a' := 0) (b' := 0) (a := 0) (b := 0) 15 (As := [.int p1, .int v1, .int v3]) (ci := 9) rfl calX9_of imX9_of seX9_of mkX9_285 rfl rfl rfl rfl rfl (by decide) rfl rfl dX9_conjugateOf_15 (CX9_of E t p1 v1 v3 h4) (fun v5 h6 => kqI ?_)
  exact S_iret 18 dX9_conjugateOf_18 rfl
def FX9_conjugacy (E : XG) (t : Nat) (p1 : Int32) (h : XH) : XP Int32 := xg (xk h t = 10) <| xb (FX9_noGroup E t p1 h) fun v1 h2 => if (v1 : Int32) = 0 then (xlp (fun again17 (s17 : Int32 × Int32 × Int32) h3 => xg (xk h3 t = 10) <| xnn (xr h3 t 5) fun w4 => xg (xk h3 w4 = 12 ∧ xin p1 (xn h3 w4)) <| if ((xi h3 w4 (p1 : Int32).toNatClampNeg) : Int32) ≤ s17.2.2 then (xv s17.2.1 h3) else (xb (FX9_has E s17.1 s17.2.2 h3) fun v5 h6 => xjn (fun (v7 : Int32) (h8 : XH) => xlt (s17.2.1 + v7) fun v9 => xlp (fun again48 (s48 : Int32 × Int32) h10 => xg (xk h10 t = 10) <| xnn (xr h10 t 5) fun w11 => xg (xk h10 w11 = 12 ∧ xin p1 (xn h10 w11)) <| if ((xi h10 w11 (p1 : Int32).toNatClampNeg) : Int32) ≤ s48.2 then (again17 (s48.1, v9, (s17.2.2 + 1)) h10) else (xg (xk h10 t = 10) <| xb (FX9_conjugateOf E t p1 s48.2 s17.2.2 h10) fun v12 h13 => xlt (s48.1 ||| (1 <<< (v12 &&& 31))) fun v14 => again48 (v14, (s48.2 + 1)) h13)) xfu (s17.1, 0) h8) fun (j43 : Int32 → XH → XP Int32) => if (v5 : Int32) = 0 then (j43 1 h6) else (j43 0 h6))) xfu (0, 0, 0) h2) else (xv 0 h2)
theorem CX9_conjugacy (E : XG) (t : Nat) (p1 : Int32) (h : XH) : XN E mX9_conjugacy eI 0 0 [.ref t, .int p1] h (FX9_conjugacy E t p1 h) := by
  unfold FX9_conjugacy
  refine S_enter (L := [some (.ref t), some (.int p1), none, none, none, none]) (by decide +kernel) rfl rfl rfl ?_
  refine S_aload_0 0 dX9_conjugacy_0 ?_
  refine S_iload_1 1 dX9_conjugacy_1 ?_
  refine S_callV (a' := 0) (b' := 0) (a := 0) (b := 0) 2 (As := [.int p1]) (ci := 9) rfl calX9_noGroup imX9_noGroup seX9_noGroup mkX9_279 rfl rfl rfl rfl rfl (by decide) rfl rfl dX9_conjugacy_2 (CX9_noGroup E t p1 h) (fun v1 h2 => kqI ?_)
  refine S_ifeq 5 10 dX9_conjugacy_5 (by decide) ?_ ?_
  · skip
    refine S_ic 10 0 dX9_conjugacy_10 (by decide) ?_
    refine S_istore_2 11 dX9_conjugacy_11 rfl ?_
    refine S_ic 12 0 dX9_conjugacy_12 (by decide) ?_
    refine S_istore_3 13 dX9_conjugacy_13 rfl ?_
    refine S_ic 14 0 dX9_conjugacy_14 (by decide) ?_
    refine S_istore_4 15 dX9_conjugacy_15 rfl ?_
    refine S_loop (fun (s17 : Int32 × Int32 × Int32) => [some (.ref t), some (.int p1), some (.int s17.1), some (.int s17.2.1), some (.int s17.2.2), none]) (fun again17 hg17 s17 h3 => ?_) xfu _ _
    refine S_iload_4 17 dX9_conjugacy_17 ?_
    refine S_aload_0 19 dX9_conjugacy_19 ?_
    refine S_getR 20 fsX9_7 rfl dX9_conjugacy_20 (fun w4 => ?_)
    refine S_iload_1 23 dX9_conjugacy_23 ?_
    refine S_iald 24 dX9_conjugacy_24 ?_
    refine S_icmpge 25 85 dX9_conjugacy_25 (by decide) ?_ ?_
    · skip
      refine S_iload_3 85 dX9_conjugacy_85 ?_
      exact S_iret 86 dX9_conjugacy_86 rfl
    · skip
      refine S_iload_3 28 dX9_conjugacy_28 ?_
      refine S_iload_2 29 dX9_conjugacy_29 ?_
      refine S_iload_4 30 dX9_conjugacy_30 ?_
      refine S_callS (a' := 0) (b' := 0) (a := 0) (b := 0) 32 (As := [.int s17.1, .int s17.2.2]) rfl calX9_has stX9_has mkX9_221 rfl rfl rfl rfl rfl dX9_conjugacy_32 (CX9_has E s17.1 s17.2.2 h3) (fun v5 h6 => kqI ?_)
      refine S_join (fun jj => ∀ (v7 : Int32) (h8 : XH), XS E mX9_conjugacy eI 0 0 43 [some (.ref t), some (.int p1), some (.int s17.1), none, some (.int s17.2.2), none] [.int v7, .int s17.2.1] h8 (jj v7 h8)) (fun v7 h8 => ?_) (fun j43 hj43 => ?_)
      · skip
        refine S_iadd 43 dX9_conjugacy_43 ?_
        refine S_gen (fun v9 => ?_)
        refine S_istore_3 44 dX9_conjugacy_44 rfl ?_
        refine S_ic 45 0 dX9_conjugacy_45 (by decide) ?_
        refine S_istore_5 46 dX9_conjugacy_46 rfl ?_
        refine S_loop (fun (s48 : Int32 × Int32) => [some (.ref t), some (.int p1), some (.int s48.1), some (.int v9), some (.int s17.2.2), some (.int s48.2)]) (fun again48 hg48 s48 h10 => ?_) xfu _ _
        refine S_iload_5 48 dX9_conjugacy_48 ?_
        refine S_aload_0 50 dX9_conjugacy_50 ?_
        refine S_getR 51 fsX9_7 rfl dX9_conjugacy_51 (fun w11 => ?_)
        refine S_iload_1 54 dX9_conjugacy_54 ?_
        refine S_iald 55 dX9_conjugacy_55 ?_
        refine S_icmpge 56 79 dX9_conjugacy_56 (by decide) ?_ ?_
        · skip
          refine S_iinc_4 79 (s17.2.2 + 1) dX9_conjugacy_79 (by rfl) rfl ?_
          refine S_goto 82 17 dX9_conjugacy_82 (by decide) ?_
          exact S_drop [5] rfl (hg17 _ _)
        · skip
          refine S_iload_2 59 dX9_conjugacy_59 ?_
          refine S_ic 60 1 dX9_conjugacy_60 (by decide) ?_
          refine S_aload_0 61 dX9_conjugacy_61 ?_
          refine S_iload_1 62 dX9_conjugacy_62 ?_
          refine S_iload_5 63 dX9_conjugacy_63 ?_
          refine S_iload_4 65 dX9_conjugacy_65 ?_
          refine S_callV (a' := 0) (b' := 0) (a := 0) (b := 0) 67 (As := [.int p1, .int s48.2, .int s17.2.2]) (ci := 9) rfl calX9_conjugateOf imX9_conjugateOf seX9_conjugateOf mkX9_298 rfl rfl rfl rfl rfl (by decide) rfl rfl dX9_conjugacy_67 (CX9_conjugateOf E t p1 s48.2 s17.2.2 h10) (fun v12 h13 => kqI ?_)
          refine S_ishl 70 dX9_conjugacy_70 ?_
          refine S_ior 71 dX9_conjugacy_71 ?_
          refine S_gen (fun v14 => ?_)
          refine S_istore_2 72 dX9_conjugacy_72 rfl ?_
          refine S_iinc_5 73 (s48.2 + 1) dX9_conjugacy_73 (by rfl) rfl ?_
          refine S_goto 76 48 dX9_conjugacy_76 (by decide) ?_
          exact S_drop [] rfl (hg48 _ _)
      refine S_ifeq 35 42 dX9_conjugacy_35 (by decide) ?_ ?_
      · skip
        refine S_ic 42 1 dX9_conjugacy_42 (by decide) ?_
        exact S_drop [3] rfl (hj43 _ _)
      · skip
        refine S_ic 38 0 dX9_conjugacy_38 (by decide) ?_
        refine S_goto 39 43 dX9_conjugacy_39 (by decide) ?_
        exact S_drop [3] rfl (hj43 _ _)
  · skip
    refine S_ic 8 0 dX9_conjugacy_8 (by decide) ?_
    exact S_iret 9 dX9_conjugacy_9 rfl
def FX9_made (E : XG) (t : Nat) (p1 : Int32) (p2 : Int32) (p3 : Int32) (h : XH) : XP Int32 := xlt (p2 ||| 1) fun v1 => xlp (fun again8 (s8 : Int32 × Int32) h2 => if (s8.1 : Int32) = s8.2 then (xv s8.1 h2) else (xlp (fun again22 (s22 : Int32 × Int32) h3 => xg (xk h3 t = 10) <| xnn (xr h3 t 5) fun w4 => xg (xk h3 w4 = 12 ∧ xin p1 (xn h3 w4)) <| if ((xi h3 w4 (p1 : Int32).toNatClampNeg) : Int32) ≤ s22.2 then (again8 (s22.1, s8.1) h3) else (xlp (fun again36 (s36 : Int32 × Int32) h5 => xg (xk h5 t = 10) <| xnn (xr h5 t 5) fun w6 => xg (xk h5 w6 = 12 ∧ xin p1 (xn h5 w6)) <| xjn (fun  (h7 : XH) => again22 (s36.1, (s22.2 + 1)) h7) fun (j117 : XH → XP Int32) => if ((xi h5 w6 (p1 : Int32).toNatClampNeg) : Int32) ≤ s36.2 then (j117 h5) else (xb (FX9_has E s36.1 s22.2 h5) fun v8 h9 => if (v8 : Int32) = 0 then (j117 h9) else (xb (FX9_has E s36.1 s36.2 h9) fun v10 h11 => xjn (fun (v12 : Int32) (h13 : XH) => xlt (s36.1 ||| v12) fun v14 => xjn (fun (v15 : Int32) (h16 : XH) => xlt (v14 ||| v15) fun v17 => again36 (v17, (s36.2 + 1)) h16) fun (j108 : Int32 → XH → XP Int32) => if (p3 : Int32) = 0 then (j108 0 h13) else (xg (xk h13 t = 10) <| xb (FX9_conjugateOf E t p1 s36.2 s22.2 h13) fun v18 h19 => j108 (1 <<< (v18 &&& 31)) h19)) fun (j84 : Int32 → XH → XP Int32) => if (v10 : Int32) = 0 then (j84 0 h11) else (xg (xk h11 t = 10) <| xb (FX9_of E t p1 s22.2 s36.2 h11) fun v20 h21 => j84 (1 <<< (v20 &&& 31)) h21)))) xfu (s22.1, 0) h3)) xfu (s8.1, 0) h2)) xfu (v1, 0) h
theorem CX9_made (E : XG) (t : Nat) (p1 : Int32) (p2 : Int32) (p3 : Int32) (h : XH) : XN E mX9_made eI 0 0 [.ref t, .int p1, .int p2, .int p3] h (FX9_made E t p1 p2 p3 h) := by
  unfold FX9_made
  refine S_enter (L := [some (.ref t), some (.int p1), some (.int p2), some (.int p3), none, none, none, none]) (by decide +kernel) rfl rfl rfl ?_
  refine S_iload_2 0 dX9_made_0 ?_
  refine S_ic 1 1 dX9_made_1 (by decide) ?_
  refine S_ior 2 dX9_made_2 ?_
  refine S_gen (fun v1 => ?_)
  refine S_istore_4 3 dX9_made_3 rfl ?_
  refine S_ic 5 0 dX9_made_5 (by decide) ?_
  refine S_istore_5 6 dX9_made_6 rfl ?_
  refine S_drop [2] rfl ?_
  refine S_loop (fun (s8 : Int32 × Int32) => [some (.ref t), some (.int p1), none, some (.int p3), some (.int s8.1), some (.int s8.2), none, none]) (fun again8 hg8 s8 h2 => ?_) xfu _ _
  refine S_iload_4 8 dX9_made_8 ?_
  refine S_iload_5 10 dX9_made_10 ?_
  refine S_icmpeq 12 126 dX9_made_12 (by decide) ?_ ?_
  · skip
    refine S_iload_4 126 dX9_made_126 ?_
    exact S_iret 128 dX9_made_128 rfl
  · skip
    refine S_iload_4 15 dX9_made_15 ?_
    refine S_istore_5 17 dX9_made_17 rfl ?_
    refine S_ic 19 0 dX9_made_19 (by decide) ?_
    refine S_istore_6 20 dX9_made_20 rfl ?_
    refine S_loop (fun (s22 : Int32 × Int32) => [some (.ref t), some (.int p1), none, some (.int p3), some (.int s22.1), some (.int s8.1), some (.int s22.2), none]) (fun again22 hg22 s22 h3 => ?_) xfu _ _
    refine S_iload_6 22 dX9_made_22 ?_
    refine S_aload_0 24 dX9_made_24 ?_
    refine S_getR 25 fsX9_7 rfl dX9_made_25 (fun w4 => ?_)
    refine S_iload_1 28 dX9_made_28 ?_
    refine S_iald 29 dX9_made_29 ?_
    refine S_icmpge 30 123 dX9_made_30 (by decide) ?_ ?_
    · skip
      refine S_goto 123 8 dX9_made_123 (by decide) ?_
      exact S_drop [6] rfl (hg8 _ _)
    · skip
      refine S_ic 33 0 dX9_made_33 (by decide) ?_
      refine S_istore_7 34 dX9_made_34 rfl ?_
      refine S_loop (fun (s36 : Int32 × Int32) => [some (.ref t), some (.int p1), none, some (.int p3), some (.int s36.1), some (.int s8.1), some (.int s22.2), some (.int s36.2)]) (fun again36 hg36 s36 h5 => ?_) xfu _ _
      refine S_iload_7 36 dX9_made_36 ?_
      refine S_aload_0 38 dX9_made_38 ?_
      refine S_getR 39 fsX9_7 rfl dX9_made_39 (fun w6 => ?_)
      refine S_iload_1 42 dX9_made_42 ?_
      refine S_iald 43 dX9_made_43 ?_
      refine S_join (fun jj => ∀  (h7 : XH), XS E mX9_made eI 0 0 117 [some (.ref t), some (.int p1), none, some (.int p3), some (.int s36.1), some (.int s8.1), some (.int s22.2), none] [] h7 (jj  h7)) (fun  h7 => ?_) (fun j117 hj117 => ?_)
      · skip
        refine S_iinc_6 117 (s22.2 + 1) dX9_made_117 (by rfl) rfl ?_
        refine S_goto 120 22 dX9_made_120 (by decide) ?_
        exact S_drop [] rfl (hg22 _ _)
      refine S_icmpge 44 117 dX9_made_44 (by decide) ?_ ?_
      · skip
        exact S_drop [7] rfl (hj117 _)
      · skip
        refine S_iload_4 47 dX9_made_47 ?_
        refine S_iload_6 49 dX9_made_49 ?_
        refine S_callS (a' := 0) (b' := 0) (a := 0) (b := 0) 51 (As := [.int s36.1, .int s22.2]) rfl calX9_has stX9_has mkX9_221 rfl rfl rfl rfl rfl dX9_made_51 (CX9_has E s36.1 s22.2 h5) (fun v8 h9 => kqI ?_)
        refine S_ifeq 54 117 dX9_made_54 (by decide) ?_ ?_
        · skip
          exact S_drop [7] rfl (hj117 _)
        · skip
          refine S_iload_4 57 dX9_made_57 ?_
          refine S_iload_4 59 dX9_made_59 ?_
          refine S_iload_7 61 dX9_made_61 ?_
          refine S_callS (a' := 0) (b' := 0) (a := 0) (b := 0) 63 (As := [.int s36.1, .int s36.2]) rfl calX9_has stX9_has mkX9_221 rfl rfl rfl rfl rfl dX9_made_63 (CX9_has E s36.1 s36.2 h9) (fun v10 h11 => kqI ?_)
          refine S_join (fun jj => ∀ (v12 : Int32) (h13 : XH), XS E mX9_made eI 0 0 84 [some (.ref t), some (.int p1), none, some (.int p3), none, some (.int s8.1), some (.int s22.2), some (.int s36.2)] [.int v12, .int s36.1] h13 (jj v12 h13)) (fun v12 h13 => ?_) (fun j84 hj84 => ?_)
          · skip
            refine S_ior 84 dX9_made_84 ?_
            refine S_gen (fun v14 => ?_)
            refine S_istore_4 85 dX9_made_85 rfl ?_
            refine S_iload_4 87 dX9_made_87 ?_
            refine S_iload_3 89 dX9_made_89 ?_
            refine S_join (fun jj => ∀ (v15 : Int32) (h16 : XH), XS E mX9_made eI 0 0 108 [some (.ref t), some (.int p1), none, some (.int p3), none, some (.int s8.1), some (.int s22.2), some (.int s36.2)] [.int v15, .int v14] h16 (jj v15 h16)) (fun v15 h16 => ?_) (fun j108 hj108 => ?_)
            · skip
              refine S_ior 108 dX9_made_108 ?_
              refine S_gen (fun v17 => ?_)
              refine S_istore_4 109 dX9_made_109 rfl ?_
              refine S_iinc_7 111 (s36.2 + 1) dX9_made_111 (by rfl) rfl ?_
              refine S_goto 114 36 dX9_made_114 (by decide) ?_
              exact S_drop [] rfl (hg36 _ _)
            refine S_ifeq 90 107 dX9_made_90 (by decide) ?_ ?_
            · skip
              refine S_ic 107 0 dX9_made_107 (by decide) ?_
              exact S_drop [4] rfl (hj108 _ _)
            · skip
              refine S_ic 93 1 dX9_made_93 (by decide) ?_
              refine S_aload_0 94 dX9_made_94 ?_
              refine S_iload_1 95 dX9_made_95 ?_
              refine S_iload_7 96 dX9_made_96 ?_
              refine S_iload_6 98 dX9_made_98 ?_
              refine S_callV (a' := 0) (b' := 0) (a := 0) (b := 0) 100 (As := [.int p1, .int s36.2, .int s22.2]) (ci := 9) rfl calX9_conjugateOf imX9_conjugateOf seX9_conjugateOf mkX9_298 rfl rfl rfl rfl rfl (by decide) rfl rfl dX9_made_100 (CX9_conjugateOf E t p1 s36.2 s22.2 h13) (fun v18 h19 => kqI ?_)
              refine S_ishl 103 dX9_made_103 ?_
              refine S_goto 104 108 dX9_made_104 (by decide) ?_
              exact S_drop [4] rfl (hj108 _ _)
          refine S_ifeq 66 83 dX9_made_66 (by decide) ?_ ?_
          · skip
            refine S_ic 83 0 dX9_made_83 (by decide) ?_
            exact S_drop [4] rfl (hj84 _ _)
          · skip
            refine S_ic 69 1 dX9_made_69 (by decide) ?_
            refine S_aload_0 70 dX9_made_70 ?_
            refine S_iload_1 71 dX9_made_71 ?_
            refine S_iload_6 72 dX9_made_72 ?_
            refine S_iload_7 74 dX9_made_74 ?_
            refine S_callV (a' := 0) (b' := 0) (a := 0) (b := 0) 76 (As := [.int p1, .int s22.2, .int s36.2]) (ci := 9) rfl calX9_of imX9_of seX9_of mkX9_285 rfl rfl rfl rfl rfl (by decide) rfl rfl dX9_made_76 (CX9_of E t p1 s22.2 s36.2 h11) (fun v20 h21 => kqI ?_)
            refine S_ishl 79 dX9_made_79 ?_
            refine S_goto 80 84 dX9_made_80 (by decide) ?_
            exact S_drop [4] rfl (hj84 _ _)
def FX9_noSet (E : XG) (t : Nat) (p1 : Int32) (p2 : Int32) (h : XH) : XP Int32 := xg (xk h t = 10) <| xb (FX9_noGroup E t p1 h) fun v1 h2 => xjn (fun (v3 : Int32) (h4 : XH) => xg ((v3 : Int32) = 0 ∨ (v3 : Int32) = 1) <| xv v3 h4) fun (j42 : Int32 → XH → XP Int32) => xjn (fun  (h5 : XH) => j42 1 h5) fun (j37 : XH → XP Int32) => if (v1 : Int32) = 0 then (xjn (fun (v6 : Int32) (h7 : XH) => xg (xk h7 t = 10) <| xb (FX9_refuse E t v6 3 h7) fun v8 h9 => if (v8 : Int32) = 0 then (j42 0 h9) else (j37 h9)) fun (j30 : Int32 → XH → XP Int32) => xjn (fun  (h10 : XH) => j30 1 h10) fun (j25 : XH → XP Int32) => if (p2 : Int32) < 0 then (j25 h2) else (xg (xk h2 t = 10) <| xnn (xr h2 t 5) fun w11 => xg (xk h2 w11 = 12 ∧ xin p1 (xn h2 w11)) <| if (p2 : Int32) < (1 <<< ((xi h2 w11 (p1 : Int32).toNatClampNeg) &&& 31)) then (j30 0 h2) else (j25 h2))) else (j37 h2)
theorem CX9_noSet (E : XG) (t : Nat) (p1 : Int32) (p2 : Int32) (h : XH) : XN E mX9_noSet eI 0 0 [.ref t, .int p1, .int p2] h (FX9_noSet E t p1 p2 h) := by
  unfold FX9_noSet
  refine S_enter (L := [some (.ref t), some (.int p1), some (.int p2)]) (by decide +kernel) rfl rfl rfl ?_
  refine S_aload_0 0 dX9_noSet_0 ?_
  refine S_iload_1 1 dX9_noSet_1 ?_
  refine S_callV (a' := 0) (b' := 0) (a := 0) (b := 0) 2 (As := [.int p1]) (ci := 9) rfl calX9_noGroup imX9_noGroup seX9_noGroup mkX9_279 rfl rfl rfl rfl rfl (by decide) rfl rfl dX9_noSet_2 (CX9_noGroup E t p1 h) (fun v1 h2 => kqI ?_)
  refine S_join (fun jj => ∀ (v3 : Int32) (h4 : XH), XS E mX9_noSet eI 0 0 42 [none, none, none] [.int v3] h4 (jj v3 h4)) (fun v3 h4 => ?_) (fun j42 hj42 => ?_)
  · skip
    exact S_zret 42 dX9_noSet_42 rfl
  refine S_join (fun jj => ∀  (h5 : XH), XS E mX9_noSet eI 0 0 37 [none, none, none] [] h5 (jj  h5)) (fun  h5 => ?_) (fun j37 hj37 => ?_)
  · skip
    refine S_ic 37 1 dX9_noSet_37 (by decide) ?_
    refine S_goto 38 42 dX9_noSet_38 (by decide) ?_
    exact S_drop [] rfl (hj42 _ _)
  refine S_ifne 5 37 dX9_noSet_5 (by decide) ?_ ?_
  · skip
    exact S_drop [0, 1, 2] rfl (hj37 _)
  · skip
    refine S_aload_0 8 dX9_noSet_8 ?_
    refine S_iload_2 9 dX9_noSet_9 ?_
    refine S_join (fun jj => ∀ (v6 : Int32) (h7 : XH), XS E mX9_noSet eI 0 0 30 [none, none, none] [.int v6, .ref t] h7 (jj v6 h7)) (fun v6 h7 => ?_) (fun j30 hj30 => ?_)
    · skip
      refine S_ic 30 3 dX9_noSet_30 (by decide) ?_
      refine S_callV (a' := 0) (b' := 0) (a := 0) (b := 0) 31 (As := [.int v6, .int 3]) (ci := 9) rfl calX9_refuse imX9_refuse seX9_refuse mkX9_94 rfl rfl rfl rfl rfl (by decide) rfl rfl dX9_noSet_31 (CX9_refuse E t v6 3 h7) (fun v8 h9 => kqI ?_)
      refine S_ifeq 34 41 dX9_noSet_34 (by decide) ?_ ?_
      · skip
        refine S_ic 41 0 dX9_noSet_41 (by decide) ?_
        exact S_drop [] rfl (hj42 _ _)
      · skip
        exact S_drop [] rfl (hj37 _)
    refine S_join (fun jj => ∀  (h10 : XH), XS E mX9_noSet eI 0 0 25 [none, none, none] [.ref t] h10 (jj  h10)) (fun  h10 => ?_) (fun j25 hj25 => ?_)
    · skip
      refine S_ic 25 1 dX9_noSet_25 (by decide) ?_
      refine S_goto 26 30 dX9_noSet_26 (by decide) ?_
      exact S_drop [] rfl (hj30 _ _)
    refine S_iflt 10 25 dX9_noSet_10 (by decide) ?_ ?_
    · skip
      exact S_drop [0, 1, 2] rfl (hj25 _)
    · skip
      refine S_iload_2 13 dX9_noSet_13 ?_
      refine S_ic 14 1 dX9_noSet_14 (by decide) ?_
      refine S_aload_0 15 dX9_noSet_15 ?_
      refine S_getR 16 fsX9_7 rfl dX9_noSet_16 (fun w11 => ?_)
      refine S_iload_1 19 dX9_noSet_19 ?_
      refine S_iald 20 dX9_noSet_20 ?_
      refine S_ishl 21 dX9_noSet_21 ?_
      refine S_icmplt 22 29 dX9_noSet_22 (by decide) ?_ ?_
      · skip
        refine S_ic 29 0 dX9_noSet_29 (by decide) ?_
        exact S_drop [0, 1, 2] rfl (hj30 _ _)
      · skip
        exact S_drop [0, 1, 2] rfl (hj25 _)
def FX9_generated (E : XG) (t : Nat) (p1 : Int32) (p2 : Int32) (h : XH) : XP Int32 := xg (xk h t = 10) <| xb (FX9_noSet E t p1 p2 h) fun v1 h2 => xjn (fun (v3 : Int32) (h4 : XH) => xv v3 h4) fun (j20 : Int32 → XH → XP Int32) => if (v1 : Int32) = 0 then (xg (xk h2 t = 10) <| xb (FX9_made E t p1 p2 0 h2) fun v5 h6 => j20 v5 h6) else (j20 0 h2)
theorem CX9_generated (E : XG) (t : Nat) (p1 : Int32) (p2 : Int32) (h : XH) : XN E mX9_generated eI 0 0 [.ref t, .int p1, .int p2] h (FX9_generated E t p1 p2 h) := by
  unfold FX9_generated
  refine S_enter (L := [some (.ref t), some (.int p1), some (.int p2)]) (by decide +kernel) rfl rfl rfl ?_
  refine S_aload_0 0 dX9_generated_0 ?_
  refine S_iload_1 1 dX9_generated_1 ?_
  refine S_iload_2 2 dX9_generated_2 ?_
  refine S_callV (a' := 0) (b' := 0) (a := 0) (b := 0) 3 (As := [.int p1, .int p2]) (ci := 9) rfl calX9_noSet imX9_noSet seX9_noSet mkX9_301 rfl rfl rfl rfl rfl (by decide) rfl rfl dX9_generated_3 (CX9_noSet E t p1 p2 h) (fun v1 h2 => kqI ?_)
  refine S_join (fun jj => ∀ (v3 : Int32) (h4 : XH), XS E mX9_generated eI 0 0 20 [none, none, none] [.int v3] h4 (jj v3 h4)) (fun v3 h4 => ?_) (fun j20 hj20 => ?_)
  · skip
    exact S_iret 20 dX9_generated_20 rfl
  refine S_ifeq 6 13 dX9_generated_6 (by decide) ?_ ?_
  · skip
    refine S_aload_0 13 dX9_generated_13 ?_
    refine S_iload_1 14 dX9_generated_14 ?_
    refine S_iload_2 15 dX9_generated_15 ?_
    refine S_ic 16 0 dX9_generated_16 (by decide) ?_
    refine S_callV (a' := 0) (b' := 0) (a := 0) (b := 0) 17 (As := [.int p1, .int p2, .int 0]) (ci := 9) rfl calX9_made imX9_made seX9_made mkX9_304 rfl rfl rfl rfl rfl (by decide) rfl rfl dX9_generated_17 (CX9_made E t p1 p2 0 h2) (fun v5 h6 => kqI ?_)
    exact S_drop [0, 1, 2] rfl (hj20 _ _)
  · skip
    refine S_ic 9 0 dX9_generated_9 (by decide) ?_
    refine S_goto 10 20 dX9_generated_10 (by decide) ?_
    exact S_drop [0, 1, 2] rfl (hj20 _ _)
def FX9_normal (E : XG) (t : Nat) (p1 : Int32) (p2 : Int32) (h : XH) : XP Int32 := xg (xk h t = 10) <| xb (FX9_noSet E t p1 p2 h) fun v1 h2 => xjn (fun (v3 : Int32) (h4 : XH) => xv v3 h4) fun (j20 : Int32 → XH → XP Int32) => if (v1 : Int32) = 0 then (xg (xk h2 t = 10) <| xb (FX9_made E t p1 p2 1 h2) fun v5 h6 => j20 v5 h6) else (j20 0 h2)
theorem CX9_normal (E : XG) (t : Nat) (p1 : Int32) (p2 : Int32) (h : XH) : XN E mX9_normal eI 0 0 [.ref t, .int p1, .int p2] h (FX9_normal E t p1 p2 h) := by
  unfold FX9_normal
  refine S_enter (L := [some (.ref t), some (.int p1), some (.int p2)]) (by decide +kernel) rfl rfl rfl ?_
  refine S_aload_0 0 dX9_normal_0 ?_
  refine S_iload_1 1 dX9_normal_1 ?_
  refine S_iload_2 2 dX9_normal_2 ?_
  refine S_callV (a' := 0) (b' := 0) (a := 0) (b := 0) 3 (As := [.int p1, .int p2]) (ci := 9) rfl calX9_noSet imX9_noSet seX9_noSet mkX9_301 rfl rfl rfl rfl rfl (by decide) rfl rfl dX9_normal_3 (CX9_noSet E t p1 p2 h) (fun v1 h2 => kqI ?_)
  refine S_join (fun jj => ∀ (v3 : Int32) (h4 : XH), XS E mX9_normal eI 0 0 20 [none, none, none] [.int v3] h4 (jj v3 h4)) (fun v3 h4 => ?_) (fun j20 hj20 => ?_)
  · skip
    exact S_iret 20 dX9_normal_20 rfl
  refine S_ifeq 6 13 dX9_normal_6 (by decide) ?_ ?_
  · skip
    refine S_aload_0 13 dX9_normal_13 ?_
    refine S_iload_1 14 dX9_normal_14 ?_
    refine S_iload_2 15 dX9_normal_15 ?_
    refine S_ic 16 1 dX9_normal_16 (by decide) ?_
    refine S_callV (a' := 0) (b' := 0) (a := 0) (b := 0) 17 (As := [.int p1, .int p2, .int 1]) (ci := 9) rfl calX9_made imX9_made seX9_made mkX9_304 rfl rfl rfl rfl rfl (by decide) rfl rfl dX9_normal_17 (CX9_made E t p1 p2 1 h2) (fun v5 h6 => kqI ?_)
    exact S_drop [0, 1, 2] rfl (hj20 _ _)
  · skip
    refine S_ic 9 0 dX9_normal_9 (by decide) ?_
    refine S_goto 10 20 dX9_normal_10 (by decide) ?_
    exact S_drop [0, 1, 2] rfl (hj20 _ _)
def FX9_noModule (E : XG) (t : Nat) (p1 : Int32) (h : XH) : XP Int32 := xg (xk h t = 10) <| xb (FX9_notLoaded E t  h) fun v1 h2 => xjn (fun (v3 : Int32) (h4 : XH) => xg ((v3 : Int32) = 0 ∨ (v3 : Int32) = 1) <| xv v3 h4) fun (j39 : Int32 → XH → XP Int32) => xjn (fun  (h5 : XH) => j39 1 h5) fun (j34 : XH → XP Int32) => if (v1 : Int32) = 0 then (xg (xk h2 t = 10) <| xb (FX9_in E p1 0 ((xi h2 t 3) - 1) h2) fun v6 h7 => xjn (fun (v8 : Int32) (h9 : XH) => xg (xk h9 t = 10) <| xb (FX9_refuse E t v8 2 h9) fun v10 h11 => if (v10 : Int32) = 0 then (j39 0 h11) else (j34 h11)) fun (j27 : Int32 → XH → XP Int32) => if (v6 : Int32) = 0 then (j27 1 h7) else (j27 0 h7)) else (j34 h2)
theorem CX9_noModule (E : XG) (t : Nat) (p1 : Int32) (h : XH) : XN E mX9_noModule eI 0 0 [.ref t, .int p1] h (FX9_noModule E t p1 h) := by
  unfold FX9_noModule
  refine S_enter (L := [some (.ref t), some (.int p1)]) (by decide +kernel) rfl rfl rfl ?_
  refine S_aload_0 0 dX9_noModule_0 ?_
  refine S_callV (a' := 0) (b' := 0) (a := 0) (b := 0) 1 (As := []) (ci := 9) rfl calX9_notLoaded imX9_notLoaded seX9_notLoaded mkX9_272 rfl rfl rfl rfl rfl (by decide) rfl rfl dX9_noModule_1 (CX9_notLoaded E t  h) (fun v1 h2 => kqI ?_)
  refine S_join (fun jj => ∀ (v3 : Int32) (h4 : XH), XS E mX9_noModule eI 0 0 39 [none, none] [.int v3] h4 (jj v3 h4)) (fun v3 h4 => ?_) (fun j39 hj39 => ?_)
  · skip
    exact S_zret 39 dX9_noModule_39 rfl
  refine S_join (fun jj => ∀  (h5 : XH), XS E mX9_noModule eI 0 0 34 [none, none] [] h5 (jj  h5)) (fun  h5 => ?_) (fun j34 hj34 => ?_)
  · skip
    refine S_ic 34 1 dX9_noModule_34 (by decide) ?_
    refine S_goto 35 39 dX9_noModule_35 (by decide) ?_
    exact S_drop [] rfl (hj39 _ _)
  refine S_ifne 4 34 dX9_noModule_4 (by decide) ?_ ?_
  · skip
    exact S_drop [0, 1] rfl (hj34 _)
  · skip
    refine S_aload_0 7 dX9_noModule_7 ?_
    refine S_iload_1 8 dX9_noModule_8 ?_
    refine S_ic 9 0 dX9_noModule_9 (by decide) ?_
    refine S_aload_0 10 dX9_noModule_10 ?_
    refine S_getI 11 fsX9_259 rfl dX9_noModule_11 ?_
    refine S_ic 14 1 dX9_noModule_14 (by decide) ?_
    refine S_isub 15 dX9_noModule_15 ?_
    refine S_callS (a' := 0) (b' := 0) (a := 0) (b := 0) 16 (As := [.int p1, .int 0, .int ((xi h2 t 3) - 1)]) rfl calX9_in stX9_in mkX9_152 rfl rfl rfl rfl rfl dX9_noModule_16 (CX9_in E p1 0 ((xi h2 t 3) - 1) h2) (fun v6 h7 => kqI ?_)
    refine S_join (fun jj => ∀ (v8 : Int32) (h9 : XH), XS E mX9_noModule eI 0 0 27 [none, none] [.int v8, .ref t] h9 (jj v8 h9)) (fun v8 h9 => ?_) (fun j27 hj27 => ?_)
    · skip
      refine S_ic 27 2 dX9_noModule_27 (by decide) ?_
      refine S_callV (a' := 0) (b' := 0) (a := 0) (b := 0) 28 (As := [.int v8, .int 2]) (ci := 9) rfl calX9_refuse imX9_refuse seX9_refuse mkX9_94 rfl rfl rfl rfl rfl (by decide) rfl rfl dX9_noModule_28 (CX9_refuse E t v8 2 h9) (fun v10 h11 => kqI ?_)
      refine S_ifeq 31 38 dX9_noModule_31 (by decide) ?_ ?_
      · skip
        refine S_ic 38 0 dX9_noModule_38 (by decide) ?_
        exact S_drop [] rfl (hj39 _ _)
      · skip
        exact S_drop [] rfl (hj34 _)
    refine S_ifne 19 26 dX9_noModule_19 (by decide) ?_ ?_
    · skip
      refine S_ic 26 0 dX9_noModule_26 (by decide) ?_
      exact S_drop [0, 1] rfl (hj27 _ _)
    · skip
      refine S_ic 22 1 dX9_noModule_22 (by decide) ?_
      refine S_goto 23 27 dX9_noModule_23 (by decide) ?_
      exact S_drop [0, 1] rfl (hj27 _ _)
def FX9_noUpper (E : XG) (t : Nat) (p1 : Int32) (p2 : Int32) (h : XH) : XP Int32 := xg (xk h t = 10) <| xb (FX9_noModule E t p1 h) fun v1 h2 => xjn (fun (v3 : Int32) (h4 : XH) => xg ((v3 : Int32) = 0 ∨ (v3 : Int32) = 1) <| xv v3 h4) fun (j47 : Int32 → XH → XP Int32) => xjn (fun  (h5 : XH) => j47 1 h5) fun (j42 : XH → XP Int32) => if (v1 : Int32) = 0 then (xg (xk h2 t = 10) <| xnn (xr h2 t 5) fun w6 => xg (xk h2 t = 10) <| xnn (xr h2 t 7) fun w7 => xg (xk h2 w7 = 12 ∧ xin p1 (xn h2 w7)) <| xg (xk h2 w6 = 12 ∧ xin (xi h2 w7 (p1 : Int32).toNatClampNeg) (xn h2 w6)) <| xb (FX9_in E p2 0 ((xi h2 w6 ((xi h2 w7 (p1 : Int32).toNatClampNeg) : Int32).toNatClampNeg) - 1) h2) fun v8 h9 => xjn (fun (v10 : Int32) (h11 : XH) => xg (xk h11 t = 10) <| xb (FX9_refuse E t v10 2 h11) fun v12 h13 => if (v12 : Int32) = 0 then (j47 0 h13) else (j42 h13)) fun (j35 : Int32 → XH → XP Int32) => if (v8 : Int32) = 0 then (j35 1 h9) else (j35 0 h9)) else (j42 h2)
theorem CX9_noUpper (E : XG) (t : Nat) (p1 : Int32) (p2 : Int32) (h : XH) : XN E mX9_noUpper eI 0 0 [.ref t, .int p1, .int p2] h (FX9_noUpper E t p1 p2 h) := by
  unfold FX9_noUpper
  refine S_enter (L := [some (.ref t), some (.int p1), some (.int p2)]) (by decide +kernel) rfl rfl rfl ?_
  refine S_aload_0 0 dX9_noUpper_0 ?_
  refine S_iload_1 1 dX9_noUpper_1 ?_
  refine S_callV (a' := 0) (b' := 0) (a := 0) (b := 0) 2 (As := [.int p1]) (ci := 9) rfl calX9_noModule imX9_noModule seX9_noModule mkX9_308 rfl rfl rfl rfl rfl (by decide) rfl rfl dX9_noUpper_2 (CX9_noModule E t p1 h) (fun v1 h2 => kqI ?_)
  refine S_join (fun jj => ∀ (v3 : Int32) (h4 : XH), XS E mX9_noUpper eI 0 0 47 [none, none, none] [.int v3] h4 (jj v3 h4)) (fun v3 h4 => ?_) (fun j47 hj47 => ?_)
  · skip
    exact S_zret 47 dX9_noUpper_47 rfl
  refine S_join (fun jj => ∀  (h5 : XH), XS E mX9_noUpper eI 0 0 42 [none, none, none] [] h5 (jj  h5)) (fun  h5 => ?_) (fun j42 hj42 => ?_)
  · skip
    refine S_ic 42 1 dX9_noUpper_42 (by decide) ?_
    refine S_goto 43 47 dX9_noUpper_43 (by decide) ?_
    exact S_drop [] rfl (hj47 _ _)
  refine S_ifne 5 42 dX9_noUpper_5 (by decide) ?_ ?_
  · skip
    exact S_drop [0, 1, 2] rfl (hj42 _)
  · skip
    refine S_aload_0 8 dX9_noUpper_8 ?_
    refine S_iload_2 9 dX9_noUpper_9 ?_
    refine S_ic 10 0 dX9_noUpper_10 (by decide) ?_
    refine S_aload_0 11 dX9_noUpper_11 ?_
    refine S_getR 12 fsX9_7 rfl dX9_noUpper_12 (fun w6 => ?_)
    refine S_aload_0 15 dX9_noUpper_15 ?_
    refine S_getR 16 fsX9_16 rfl dX9_noUpper_16 (fun w7 => ?_)
    refine S_iload_1 19 dX9_noUpper_19 ?_
    refine S_iald 20 dX9_noUpper_20 ?_
    refine S_iald 21 dX9_noUpper_21 ?_
    refine S_ic 22 1 dX9_noUpper_22 (by decide) ?_
    refine S_isub 23 dX9_noUpper_23 ?_
    refine S_callS (a' := 0) (b' := 0) (a := 0) (b := 0) 24 (As := [.int p2, .int 0, .int ((xi h2 w6 ((xi h2 w7 (p1 : Int32).toNatClampNeg) : Int32).toNatClampNeg) - 1)]) rfl calX9_in stX9_in mkX9_152 rfl rfl rfl rfl rfl dX9_noUpper_24 (CX9_in E p2 0 ((xi h2 w6 ((xi h2 w7 (p1 : Int32).toNatClampNeg) : Int32).toNatClampNeg) - 1) h2) (fun v8 h9 => kqI ?_)
    refine S_join (fun jj => ∀ (v10 : Int32) (h11 : XH), XS E mX9_noUpper eI 0 0 35 [none, none, none] [.int v10, .ref t] h11 (jj v10 h11)) (fun v10 h11 => ?_) (fun j35 hj35 => ?_)
    · skip
      refine S_ic 35 2 dX9_noUpper_35 (by decide) ?_
      refine S_callV (a' := 0) (b' := 0) (a := 0) (b := 0) 36 (As := [.int v10, .int 2]) (ci := 9) rfl calX9_refuse imX9_refuse seX9_refuse mkX9_94 rfl rfl rfl rfl rfl (by decide) rfl rfl dX9_noUpper_36 (CX9_refuse E t v10 2 h11) (fun v12 h13 => kqI ?_)
      refine S_ifeq 39 46 dX9_noUpper_39 (by decide) ?_ ?_
      · skip
        refine S_ic 46 0 dX9_noUpper_46 (by decide) ?_
        exact S_drop [] rfl (hj47 _ _)
      · skip
        exact S_drop [] rfl (hj42 _)
    refine S_ifne 27 34 dX9_noUpper_27 (by decide) ?_ ?_
    · skip
      refine S_ic 34 0 dX9_noUpper_34 (by decide) ?_
      exact S_drop [0, 1, 2] rfl (hj35 _ _)
    · skip
      refine S_ic 30 1 dX9_noUpper_30 (by decide) ?_
      refine S_goto 31 35 dX9_noUpper_31 (by decide) ?_
      exact S_drop [0, 1, 2] rfl (hj35 _ _)
def FX9_noLower (E : XG) (t : Nat) (p1 : Int32) (p2 : Int32) (h : XH) : XP Int32 := xg (xk h t = 10) <| xb (FX9_noModule E t p1 h) fun v1 h2 => xjn (fun (v3 : Int32) (h4 : XH) => xg ((v3 : Int32) = 0 ∨ (v3 : Int32) = 1) <| xv v3 h4) fun (j47 : Int32 → XH → XP Int32) => xjn (fun  (h5 : XH) => j47 1 h5) fun (j42 : XH → XP Int32) => if (v1 : Int32) = 0 then (xg (xk h2 t = 10) <| xnn (xr h2 t 5) fun w6 => xg (xk h2 t = 10) <| xnn (xr h2 t 8) fun w7 => xg (xk h2 w7 = 12 ∧ xin p1 (xn h2 w7)) <| xg (xk h2 w6 = 12 ∧ xin (xi h2 w7 (p1 : Int32).toNatClampNeg) (xn h2 w6)) <| xb (FX9_in E p2 0 ((xi h2 w6 ((xi h2 w7 (p1 : Int32).toNatClampNeg) : Int32).toNatClampNeg) - 1) h2) fun v8 h9 => xjn (fun (v10 : Int32) (h11 : XH) => xg (xk h11 t = 10) <| xb (FX9_refuse E t v10 2 h11) fun v12 h13 => if (v12 : Int32) = 0 then (j47 0 h13) else (j42 h13)) fun (j35 : Int32 → XH → XP Int32) => if (v8 : Int32) = 0 then (j35 1 h9) else (j35 0 h9)) else (j42 h2)
theorem CX9_noLower (E : XG) (t : Nat) (p1 : Int32) (p2 : Int32) (h : XH) : XN E mX9_noLower eI 0 0 [.ref t, .int p1, .int p2] h (FX9_noLower E t p1 p2 h) := by
  unfold FX9_noLower
  refine S_enter (L := [some (.ref t), some (.int p1), some (.int p2)]) (by decide +kernel) rfl rfl rfl ?_
  refine S_aload_0 0 dX9_noLower_0 ?_
  refine S_iload_1 1 dX9_noLower_1 ?_
  refine S_callV (a' := 0) (b' := 0) (a := 0) (b := 0) 2 (As := [.int p1]) (ci := 9) rfl calX9_noModule imX9_noModule seX9_noModule mkX9_308 rfl rfl rfl rfl rfl (by decide) rfl rfl dX9_noLower_2 (CX9_noModule E t p1 h) (fun v1 h2 => kqI ?_)
  refine S_join (fun jj => ∀ (v3 : Int32) (h4 : XH), XS E mX9_noLower eI 0 0 47 [none, none, none] [.int v3] h4 (jj v3 h4)) (fun v3 h4 => ?_) (fun j47 hj47 => ?_)
  · skip
    exact S_zret 47 dX9_noLower_47 rfl
  refine S_join (fun jj => ∀  (h5 : XH), XS E mX9_noLower eI 0 0 42 [none, none, none] [] h5 (jj  h5)) (fun  h5 => ?_) (fun j42 hj42 => ?_)
  · skip
    refine S_ic 42 1 dX9_noLower_42 (by decide) ?_
    refine S_goto 43 47 dX9_noLower_43 (by decide) ?_
    exact S_drop [] rfl (hj47 _ _)
  refine S_ifne 5 42 dX9_noLower_5 (by decide) ?_ ?_
  · skip
    exact S_drop [0, 1, 2] rfl (hj42 _)
  · skip
    refine S_aload_0 8 dX9_noLower_8 ?_
    refine S_iload_2 9 dX9_noLower_9 ?_
    refine S_ic 10 0 dX9_noLower_10 (by decide) ?_
    refine S_aload_0 11 dX9_noLower_11 ?_
    refine S_getR 12 fsX9_7 rfl dX9_noLower_12 (fun w6 => ?_)
    refine S_aload_0 15 dX9_noLower_15 ?_
    refine S_getR 16 fsX9_19 rfl dX9_noLower_16 (fun w7 => ?_)
    refine S_iload_1 19 dX9_noLower_19 ?_
    refine S_iald 20 dX9_noLower_20 ?_
    refine S_iald 21 dX9_noLower_21 ?_
    refine S_ic 22 1 dX9_noLower_22 (by decide) ?_
    refine S_isub 23 dX9_noLower_23 ?_
    refine S_callS (a' := 0) (b' := 0) (a := 0) (b := 0) 24 (As := [.int p2, .int 0, .int ((xi h2 w6 ((xi h2 w7 (p1 : Int32).toNatClampNeg) : Int32).toNatClampNeg) - 1)]) rfl calX9_in stX9_in mkX9_152 rfl rfl rfl rfl rfl dX9_noLower_24 (CX9_in E p2 0 ((xi h2 w6 ((xi h2 w7 (p1 : Int32).toNatClampNeg) : Int32).toNatClampNeg) - 1) h2) (fun v8 h9 => kqI ?_)
    refine S_join (fun jj => ∀ (v10 : Int32) (h11 : XH), XS E mX9_noLower eI 0 0 35 [none, none, none] [.int v10, .ref t] h11 (jj v10 h11)) (fun v10 h11 => ?_) (fun j35 hj35 => ?_)
    · skip
      refine S_ic 35 2 dX9_noLower_35 (by decide) ?_
      refine S_callV (a' := 0) (b' := 0) (a := 0) (b := 0) 36 (As := [.int v10, .int 2]) (ci := 9) rfl calX9_refuse imX9_refuse seX9_refuse mkX9_94 rfl rfl rfl rfl rfl (by decide) rfl rfl dX9_noLower_36 (CX9_refuse E t v10 2 h11) (fun v12 h13 => kqI ?_)
      refine S_ifeq 39 46 dX9_noLower_39 (by decide) ?_ ?_
      · skip
        refine S_ic 46 0 dX9_noLower_46 (by decide) ?_
        exact S_drop [] rfl (hj47 _ _)
      · skip
        exact S_drop [] rfl (hj42 _)
    refine S_ifne 27 34 dX9_noLower_27 (by decide) ?_ ?_
    · skip
      refine S_ic 34 0 dX9_noLower_34 (by decide) ?_
      exact S_drop [0, 1, 2] rfl (hj35 _ _)
    · skip
      refine S_ic 30 1 dX9_noLower_30 (by decide) ?_
      refine S_goto 31 35 dX9_noLower_31 (by decide) ?_
      exact S_drop [0, 1, 2] rfl (hj35 _ _)
def FX9_boundaryOf (E : XG) (t : Nat) (p1 : Int32) (p2 : Int32) (h : XH) : XP Int32 := xg (xk h t = 10) <| xnn (xr h t 12) fun w1 => xg (xk h w1 = 12 ∧ xin ((0 + (8 * p1)) + p2) (xn h w1)) <| xv (xi h w1 (((0 + (8 * p1)) + p2) : Int32).toNatClampNeg) h
theorem CX9_boundaryOf (E : XG) (t : Nat) (p1 : Int32) (p2 : Int32) (h : XH) : XN E mX9_boundaryOf eI 0 0 [.ref t, .int p1, .int p2] h (FX9_boundaryOf E t p1 p2 h) := by
  unfold FX9_boundaryOf
  refine S_enter (L := [some (.ref t), some (.int p1), some (.int p2)]) (by decide +kernel) rfl rfl rfl ?_
  refine S_aload_0 0 dX9_boundaryOf_0 ?_
  refine S_getR 1 fsX9_31 rfl dX9_boundaryOf_1 (fun w1 => ?_)
  refine S_ic 4 0 dX9_boundaryOf_4 (by decide) ?_
  refine S_bip 5 8 dX9_boundaryOf_5 (by decide) ?_
  refine S_iload_1 7 dX9_boundaryOf_7 ?_
  refine S_imul 8 dX9_boundaryOf_8 ?_
  refine S_iadd 9 dX9_boundaryOf_9 ?_
  refine S_iload_2 10 dX9_boundaryOf_10 ?_
  refine S_iadd 11 dX9_boundaryOf_11 ?_
  refine S_iald 12 dX9_boundaryOf_12 ?_
  exact S_iret 13 dX9_boundaryOf_13 rfl
def FX9_on (E : XG) (t : Nat) (p1 : Int32) (p2 : Int32) (p3 : Int32) (h : XH) : XP Int32 := xg (xk h t = 10) <| xnn (xr h t 12) fun w1 => xg (xk h w1 = 12 ∧ xin (((48 + (64 * p1)) + (8 * p2)) + p3) (xn h w1)) <| xv (xi h w1 ((((48 + (64 * p1)) + (8 * p2)) + p3) : Int32).toNatClampNeg) h
theorem CX9_on (E : XG) (t : Nat) (p1 : Int32) (p2 : Int32) (p3 : Int32) (h : XH) : XN E mX9_on eI 0 0 [.ref t, .int p1, .int p2, .int p3] h (FX9_on E t p1 p2 p3 h) := by
  unfold FX9_on
  refine S_enter (L := [some (.ref t), some (.int p1), some (.int p2), some (.int p3)]) (by decide +kernel) rfl rfl rfl ?_
  refine S_aload_0 0 dX9_on_0 ?_
  refine S_getR 1 fsX9_31 rfl dX9_on_1 (fun w1 => ?_)
  refine S_bip 4 48 dX9_on_4 (by decide) ?_
  refine S_bip 6 64 dX9_on_6 (by decide) ?_
  refine S_iload_1 8 dX9_on_8 ?_
  refine S_imul 9 dX9_on_9 ?_
  refine S_iadd 10 dX9_on_10 ?_
  refine S_bip 11 8 dX9_on_11 (by decide) ?_
  refine S_iload_2 13 dX9_on_13 ?_
  refine S_imul 14 dX9_on_14 ?_
  refine S_iadd 15 dX9_on_15 ?_
  refine S_iload_3 16 dX9_on_16 ?_
  refine S_iadd 17 dX9_on_17 ?_
  refine S_iald 18 dX9_on_18 ?_
  exact S_iret 19 dX9_on_19 rfl
