/-! Methods as functions, 8. -/
set_option linter.unusedVariables false
set_option maxRecDepth 10000
def FX8_classTimes (E : XG) (t : Nat) (p1 : Int32) (p2 : Int32) (p3 : Int32) (h : XH) : XP Int32 := xg (xk h t = 9) <| xb (FX8_lawfulModuleAt E t p1 h) fun v1 h2 => xg (xk h2 v1 = 2) <| xb (FX1_freshPair E v1  h2) fun v3 h4 => xg (xk h4 v3 = 5) <| xb (FX4_has E v3 p2 h4) fun v5 h6 => xjn (fun (v7 : Int32) (h8 : XH) => xb (FX8_demandFit E v7 h8) fun _ h9 => xg (xk h9 v1 = 2) <| xnn (xr h9 v1 2) fun w10 => xg (xk h9 v3 = 5) <| xb (FX4_product E v3 w10 p2 p3 h9) fun v11 h12 => xv v11 h12) fun (j37 : Int32 → XH → XP Int32) => xjn (fun  (h13 : XH) => j37 0 h13) fun (j36 : XH → XP Int32) => if (v5 : Int32) = 0 then (j36 h6) else (xg (xk h6 v3 = 5) <| xb (FX4_has E v3 p3 h6) fun v14 h15 => if (v14 : Int32) = 0 then (j36 h15) else (j37 1 h15))
theorem CX8_classTimes (E : XG) (t : Nat) (p1 : Int32) (p2 : Int32) (p3 : Int32) (h : XH) : XN E mX8_classTimes eI 0 0 [.ref t, .int p1, .int p2, .int p3] h (FX8_classTimes E t p1 p2 p3 h) := by
  unfold FX8_classTimes
  refine S_enter (L := [some (.ref t), some (.int p1), some (.int p2), some (.int p3), none, none]) (by decide +kernel) rfl rfl rfl ?_
  refine S_aload_0 0 dX8_classTimes_0 ?_
  refine S_iload_1 1 dX8_classTimes_1 ?_
  refine S_callV (a' := 0) (b' := 0) (a := 0) (b := 0) 2 (As := [.int p1]) (ci := 8) rfl calX8_lawfulModuleAt imX8_lawfulModuleAt seX8_lawfulModuleAt mkX8_194 rfl rfl rfl rfl rfl (by decide) rfl rfl dX8_classTimes_2 (CX8_lawfulModuleAt E t p1 h) (fun v1 h2 => kqR ?_)
  refine S_astore_4 5 dX8_classTimes_5 rfl ?_
  refine S_aload_4 7 dX8_classTimes_7 ?_
  refine S_callV (a' := 0) (b' := 0) (a := 0) (b := 0) 9 (As := []) (ci := 1) rfl calX1_freshPair imX1_freshPair seX1_freshPair mkX8_197 rfl rfl rfl rfl rfl (by decide) rfl rfl dX8_classTimes_9 (CX1_freshPair E v1  h2) (fun v3 h4 => kqR ?_)
  refine S_astore_5 12 dX8_classTimes_12 rfl ?_
  refine S_aload_5 14 dX8_classTimes_14 ?_
  refine S_iload_2 16 dX8_classTimes_16 ?_
  refine S_callV (a' := 0) (b' := 0) (a := 0) (b := 0) 17 (As := [.int p2]) (ci := 4) rfl calX4_has imX4_has seX4_has mkX8_209 rfl rfl rfl rfl rfl (by decide) rfl rfl dX8_classTimes_17 (CX4_has E v3 p2 h4) (fun v5 h6 => kqI ?_)
  refine S_join (fun jj => ∀ (v7 : Int32) (h8 : XH), XS E mX8_classTimes eI 0 0 37 [none, none, some (.int p2), some (.int p3), some (.ref v1), some (.ref v3)] [.int v7] h8 (jj v7 h8)) (fun v7 h8 => ?_) (fun j37 hj37 => ?_)
  · skip
    refine S_callS (a' := 0) (b' := 0) (a := 0) (b := 0) 37 (As := [.int v7]) rfl calX8_demandFit stX8_demandFit mkX8_75 rfl rfl rfl rfl rfl dX8_classTimes_37 (CX8_demandFit E v7 h8) (fun _ h9 => kqU ?_)
    refine S_aload_5 40 dX8_classTimes_40 ?_
    refine S_aload_4 42 dX8_classTimes_42 ?_
    refine S_getR 44 fsX8_158 rfl dX8_classTimes_44 (fun w10 => ?_)
    refine S_iload_2 47 dX8_classTimes_47 ?_
    refine S_iload_3 48 dX8_classTimes_48 ?_
    refine S_callV (a' := 0) (b' := 0) (a := 0) (b := 0) 49 (As := [.ref w10, .int p2, .int p3]) (ci := 4) rfl calX4_product imX4_product seX4_product mkX8_210 rfl rfl rfl rfl rfl (by decide) rfl rfl dX8_classTimes_49 (CX4_product E v3 w10 p2 p3 h9) (fun v11 h12 => kqI ?_)
    exact S_iret 52 dX8_classTimes_52 rfl
  refine S_join (fun jj => ∀  (h13 : XH), XS E mX8_classTimes eI 0 0 36 [none, none, some (.int p2), some (.int p3), some (.ref v1), some (.ref v3)] [] h13 (jj  h13)) (fun  h13 => ?_) (fun j36 hj36 => ?_)
  · skip
    refine S_ic 36 0 dX8_classTimes_36 (by decide) ?_
    exact S_drop [] rfl (hj37 _ _)
  refine S_ifeq 20 36 dX8_classTimes_20 (by decide) ?_ ?_
  · skip
    exact S_drop [0, 1] rfl (hj36 _)
  · skip
    refine S_aload_5 23 dX8_classTimes_23 ?_
    refine S_iload_3 25 dX8_classTimes_25 ?_
    refine S_callV (a' := 0) (b' := 0) (a := 0) (b := 0) 26 (As := [.int p3]) (ci := 4) rfl calX4_has imX4_has seX4_has mkX8_209 rfl rfl rfl rfl rfl (by decide) rfl rfl dX8_classTimes_26 (CX4_has E v3 p3 h6) (fun v14 h15 => kqI ?_)
    refine S_ifeq 29 36 dX8_classTimes_29 (by decide) ?_ ?_
    · skip
      exact S_drop [0, 1] rfl (hj36 _)
    · skip
      refine S_ic 32 1 dX8_classTimes_32 (by decide) ?_
      refine S_goto 33 37 dX8_classTimes_33 (by decide) ?_
      exact S_drop [0, 1] rfl (hj37 _ _)
def FX8_classAct (E : XG) (t : Nat) (p1 : Int32) (p2 : Int32) (p3 : Int32) (h : XH) : XP Int32 := xg (xk h t = 9) <| xb (FX8_lawfulModuleAt E t p1 h) fun v1 h2 => xg (xk h2 v1 = 2) <| xb (FX1_freshPair E v1  h2) fun v3 h4 => xg (xk h4 v3 = 5) <| xb (FX4_has E v3 p2 h4) fun v5 h6 => xjn (fun (v7 : Int32) (h8 : XH) => xb (FX8_demandFit E v7 h8) fun _ h9 => xg (xk h9 v3 = 5) <| xb (FX4_leastOf E v3 p2 h9) fun v10 h11 => xg (xk h11 v1 = 2) <| xb (FX1_actionOf E v1 v10 p3 h11) fun v12 h13 => xv v12 h13) fun (j49 : Int32 → XH → XP Int32) => xjn (fun  (h14 : XH) => j49 0 h14) fun (j48 : XH → XP Int32) => if (v5 : Int32) = 0 then (j48 h6) else (xg (xk h6 v1 = 2) <| xnn (xr h6 v1 1) fun w15 => xg (xk h6 w15 = 3) <| xb (FX2_has E w15 p3 h6) fun v16 h17 => if (v16 : Int32) = 0 then (j48 h17) else (xg (xk h17 v1 = 2) <| xb (FX1_boundaryOf E v1 p3 h17) fun v18 h19 => if (v18 : Int32) = 0 then (j49 1 h19) else (j48 h19)))
theorem CX8_classAct (E : XG) (t : Nat) (p1 : Int32) (p2 : Int32) (p3 : Int32) (h : XH) : XN E mX8_classAct eI 0 0 [.ref t, .int p1, .int p2, .int p3] h (FX8_classAct E t p1 p2 p3 h) := by
  unfold FX8_classAct
  refine S_enter (L := [some (.ref t), some (.int p1), some (.int p2), some (.int p3), none, none]) (by decide +kernel) rfl rfl rfl ?_
  refine S_aload_0 0 dX8_classAct_0 ?_
  refine S_iload_1 1 dX8_classAct_1 ?_
  refine S_callV (a' := 0) (b' := 0) (a := 0) (b := 0) 2 (As := [.int p1]) (ci := 8) rfl calX8_lawfulModuleAt imX8_lawfulModuleAt seX8_lawfulModuleAt mkX8_194 rfl rfl rfl rfl rfl (by decide) rfl rfl dX8_classAct_2 (CX8_lawfulModuleAt E t p1 h) (fun v1 h2 => kqR ?_)
  refine S_astore_4 5 dX8_classAct_5 rfl ?_
  refine S_aload_4 7 dX8_classAct_7 ?_
  refine S_callV (a' := 0) (b' := 0) (a := 0) (b := 0) 9 (As := []) (ci := 1) rfl calX1_freshPair imX1_freshPair seX1_freshPair mkX8_197 rfl rfl rfl rfl rfl (by decide) rfl rfl dX8_classAct_9 (CX1_freshPair E v1  h2) (fun v3 h4 => kqR ?_)
  refine S_astore_5 12 dX8_classAct_12 rfl ?_
  refine S_aload_5 14 dX8_classAct_14 ?_
  refine S_iload_2 16 dX8_classAct_16 ?_
  refine S_callV (a' := 0) (b' := 0) (a := 0) (b := 0) 17 (As := [.int p2]) (ci := 4) rfl calX4_has imX4_has seX4_has mkX8_209 rfl rfl rfl rfl rfl (by decide) rfl rfl dX8_classAct_17 (CX4_has E v3 p2 h4) (fun v5 h6 => kqI ?_)
  refine S_join (fun jj => ∀ (v7 : Int32) (h8 : XH), XS E mX8_classAct eI 0 0 49 [none, none, some (.int p2), some (.int p3), some (.ref v1), some (.ref v3)] [.int v7] h8 (jj v7 h8)) (fun v7 h8 => ?_) (fun j49 hj49 => ?_)
  · skip
    refine S_callS (a' := 0) (b' := 0) (a := 0) (b := 0) 49 (As := [.int v7]) rfl calX8_demandFit stX8_demandFit mkX8_75 rfl rfl rfl rfl rfl dX8_classAct_49 (CX8_demandFit E v7 h8) (fun _ h9 => kqU ?_)
    refine S_aload_4 52 dX8_classAct_52 ?_
    refine S_aload_5 54 dX8_classAct_54 ?_
    refine S_iload_2 56 dX8_classAct_56 ?_
    refine S_callV (a' := 0) (b' := 0) (a := 0) (b := 0) 57 (As := [.int p2]) (ci := 4) rfl calX4_leastOf imX4_leastOf seX4_leastOf mkX8_213 rfl rfl rfl rfl rfl (by decide) rfl rfl dX8_classAct_57 (CX4_leastOf E v3 p2 h9) (fun v10 h11 => kqI ?_)
    refine S_iload_3 60 dX8_classAct_60 ?_
    refine S_callV (a' := 0) (b' := 0) (a := 0) (b := 0) 61 (As := [.int v10, .int p3]) (ci := 1) rfl calX1_actionOf imX1_actionOf seX1_actionOf mkX8_173 rfl rfl rfl rfl rfl (by decide) rfl rfl dX8_classAct_61 (CX1_actionOf E v1 v10 p3 h11) (fun v12 h13 => kqI ?_)
    exact S_iret 64 dX8_classAct_64 rfl
  refine S_join (fun jj => ∀  (h14 : XH), XS E mX8_classAct eI 0 0 48 [none, none, some (.int p2), some (.int p3), some (.ref v1), some (.ref v3)] [] h14 (jj  h14)) (fun  h14 => ?_) (fun j48 hj48 => ?_)
  · skip
    refine S_ic 48 0 dX8_classAct_48 (by decide) ?_
    exact S_drop [] rfl (hj49 _ _)
  refine S_ifeq 20 48 dX8_classAct_20 (by decide) ?_ ?_
  · skip
    exact S_drop [0, 1] rfl (hj48 _)
  · skip
    refine S_aload_4 23 dX8_classAct_23 ?_
    refine S_getR 25 fsX8_167 rfl dX8_classAct_25 (fun w15 => ?_)
    refine S_iload_3 28 dX8_classAct_28 ?_
    refine S_callV (a' := 0) (b' := 0) (a := 0) (b := 0) 29 (As := [.int p3]) (ci := 2) rfl calX2_has imX2_has seX2_has mkX8_128 rfl rfl rfl rfl rfl (by decide) rfl rfl dX8_classAct_29 (CX2_has E w15 p3 h6) (fun v16 h17 => kqI ?_)
    refine S_ifeq 32 48 dX8_classAct_32 (by decide) ?_ ?_
    · skip
      exact S_drop [0, 1] rfl (hj48 _)
    · skip
      refine S_aload_4 35 dX8_classAct_35 ?_
      refine S_iload_3 37 dX8_classAct_37 ?_
      refine S_callV (a' := 0) (b' := 0) (a := 0) (b := 0) 38 (As := [.int p3]) (ci := 1) rfl calX1_boundaryOf imX1_boundaryOf seX1_boundaryOf mkX8_170 rfl rfl rfl rfl rfl (by decide) rfl rfl dX8_classAct_38 (CX1_boundaryOf E v1 p3 h17) (fun v18 h19 => kqI ?_)
      refine S_ifne 41 48 dX8_classAct_41 (by decide) ?_ ?_
      · skip
        exact S_drop [0, 1] rfl (hj48 _)
      · skip
        refine S_ic 44 1 dX8_classAct_44 (by decide) ?_
        refine S_goto 45 49 dX8_classAct_45 (by decide) ?_
        exact S_drop [0, 1] rfl (hj49 _ _)
def FX8_profile (E : XG) (t : Nat) (p1 : Int32) (p2 : Int32) (p3 : Int32) (h : XH) : XP Int32 := xg (xk h t = 9) <| xb (FX8_lawfulModuleAt E t p1 h) fun v1 h2 => xjn (fun (v3 : Int32) (h4 : XH) => xb (FX8_demandFit E v3 h4) fun _ h5 => xg (xk h5 v1 = 2) <| xb (FX1_freshPair E v1  h5) fun v6 h7 => xjn (fun (v8 : Nat) (h9 : XH) => xb (FX8_at E v8 p3 h9) fun v10 h11 => xv v10 h11) fun (j50 : Nat → XH → XP Int32) => if (p2 : Int32) = 0 then (xg (xk h7 v6 = 5) <| xnn (xr h7 v6 2) fun w12 => j50 w12 h7) else (xg (xk h7 v6 = 5) <| xnn (xr h7 v6 3) fun w13 => j50 w13 h7)) fun (j23 : Int32 → XH → XP Int32) => xjn (fun  (h14 : XH) => j23 0 h14) fun (j22 : XH → XP Int32) => if (p3 : Int32) < 1 then (j22 h2) else (if (8 : Int32) < p3 then (j22 h2) else (j23 1 h2))
theorem CX8_profile (E : XG) (t : Nat) (p1 : Int32) (p2 : Int32) (p3 : Int32) (h : XH) : XN E mX8_profile eI 0 0 [.ref t, .int p1, .int p2, .int p3] h (FX8_profile E t p1 p2 p3 h) := by
  unfold FX8_profile
  refine S_enter (L := [some (.ref t), some (.int p1), some (.int p2), some (.int p3), none, none]) (by decide +kernel) rfl rfl rfl ?_
  refine S_aload_0 0 dX8_profile_0 ?_
  refine S_iload_1 1 dX8_profile_1 ?_
  refine S_callV (a' := 0) (b' := 0) (a := 0) (b := 0) 2 (As := [.int p1]) (ci := 8) rfl calX8_lawfulModuleAt imX8_lawfulModuleAt seX8_lawfulModuleAt mkX8_194 rfl rfl rfl rfl rfl (by decide) rfl rfl dX8_profile_2 (CX8_lawfulModuleAt E t p1 h) (fun v1 h2 => kqR ?_)
  refine S_astore_4 5 dX8_profile_5 rfl ?_
  refine S_iload_3 7 dX8_profile_7 ?_
  refine S_ic 8 1 dX8_profile_8 (by decide) ?_
  refine S_join (fun jj => ∀ (v3 : Int32) (h4 : XH), XS E mX8_profile eI 0 0 23 [none, none, some (.int p2), some (.int p3), some (.ref v1), none] [.int v3] h4 (jj v3 h4)) (fun v3 h4 => ?_) (fun j23 hj23 => ?_)
  · skip
    refine S_callS (a' := 0) (b' := 0) (a := 0) (b := 0) 23 (As := [.int v3]) rfl calX8_demandFit stX8_demandFit mkX8_75 rfl rfl rfl rfl rfl dX8_profile_23 (CX8_demandFit E v3 h4) (fun _ h5 => kqU ?_)
    refine S_aload_4 26 dX8_profile_26 ?_
    refine S_callV (a' := 0) (b' := 0) (a := 0) (b := 0) 28 (As := []) (ci := 1) rfl calX1_freshPair imX1_freshPair seX1_freshPair mkX8_197 rfl rfl rfl rfl rfl (by decide) rfl rfl dX8_profile_28 (CX1_freshPair E v1  h5) (fun v6 h7 => kqR ?_)
    refine S_astore_5 31 dX8_profile_31 rfl ?_
    refine S_iload_2 33 dX8_profile_33 ?_
    refine S_join (fun jj => ∀ (v8 : Nat) (h9 : XH), XS E mX8_profile eI 0 0 50 [none, none, none, some (.int p3), none, none] [.ref v8] h9 (jj v8 h9)) (fun v8 h9 => ?_) (fun j50 hj50 => ?_)
    · skip
      refine S_iload_3 50 dX8_profile_50 ?_
      refine S_callS (a' := 0) (b' := 0) (a := 0) (b := 0) 51 (As := [.ref v8, .int p3]) rfl calX8_at stX8_at mkX8_223 rfl rfl rfl rfl rfl dX8_profile_51 (CX8_at E v8 p3 h9) (fun v10 h11 => kqI ?_)
      exact S_iret 54 dX8_profile_54 rfl
    refine S_ifeq 34 45 dX8_profile_34 (by decide) ?_ ?_
    · skip
      refine S_aload_5 45 dX8_profile_45 ?_
      refine S_getR 47 fsX8_220 rfl dX8_profile_47 (fun w12 => ?_)
      exact S_drop [2, 4, 5] rfl (hj50 _ _)
    · skip
      refine S_aload_5 37 dX8_profile_37 ?_
      refine S_getR 39 fsX8_216 rfl dX8_profile_39 (fun w13 => ?_)
      refine S_goto 42 50 dX8_profile_42 (by decide) ?_
      exact S_drop [2, 4, 5] rfl (hj50 _ _)
  refine S_join (fun jj => ∀  (h14 : XH), XS E mX8_profile eI 0 0 22 [none, none, some (.int p2), some (.int p3), some (.ref v1), none] [] h14 (jj  h14)) (fun  h14 => ?_) (fun j22 hj22 => ?_)
  · skip
    refine S_ic 22 0 dX8_profile_22 (by decide) ?_
    exact S_drop [] rfl (hj23 _ _)
  refine S_icmplt 9 22 dX8_profile_9 (by decide) ?_ ?_
  · skip
    exact S_drop [0, 1] rfl (hj22 _)
  · skip
    refine S_iload_3 12 dX8_profile_12 ?_
    refine S_bip 13 8 dX8_profile_13 (by decide) ?_
    refine S_icmpgt 15 22 dX8_profile_15 (by decide) ?_ ?_
    · skip
      exact S_drop [0, 1] rfl (hj22 _)
    · skip
      refine S_ic 18 1 dX8_profile_18 (by decide) ?_
      refine S_goto 19 23 dX8_profile_19 (by decide) ?_
      exact S_drop [0, 1] rfl (hj23 _ _)
def FX8_areAlike (E : XG) (t : Nat) (p1 : Int32) (p2 : Int32) (h : XH) : XP Int32 := xg (xk h t = 9) <| xb (FX8_moduleAt E t p1 h) fun v1 h2 => xg (xk h2 t = 9) <| xb (FX8_moduleAt E t p2 h2) fun v3 h4 => xg (xk h4 v1 = 2) <| xjn (fun (v5 : Int32) (h6 : XH) => xb (FX8_demandFit E v5 h6) fun _ h7 => xg (xk h7 v1 = 2) <| xb (FX1_freshPair E v1  h7) fun v8 h9 => xg (xk h9 v3 = 2) <| xb (FX1_freshPair E v3  h9) fun v10 h11 => xg (xk h11 v8 = 5) <| xb (FX4_matches E v8 v10 h11) fun v12 h13 => xg ((v12 : Int32) = 0 ∨ (v12 : Int32) = 1) <| xv v12 h13) fun (j33 : Int32 → XH → XP Int32) => xjn (fun  (h14 : XH) => j33 0 h14) fun (j32 : XH → XP Int32) => if ((xi h4 v1 7) : Int32) = 0 then (xg (xk h4 v3 = 2) <| if ((xi h4 v3 7) : Int32) = 0 then (j33 1 h4) else (j32 h4)) else (j32 h4)
theorem CX8_areAlike (E : XG) (t : Nat) (p1 : Int32) (p2 : Int32) (h : XH) : XN E mX8_areAlike eI 0 0 [.ref t, .int p1, .int p2] h (FX8_areAlike E t p1 p2 h) := by
  unfold FX8_areAlike
  refine S_enter (L := [some (.ref t), some (.int p1), some (.int p2), none, none]) (by decide +kernel) rfl rfl rfl ?_
  refine S_aload_0 0 dX8_areAlike_0 ?_
  refine S_iload_1 1 dX8_areAlike_1 ?_
  refine S_callV (a' := 0) (b' := 0) (a := 0) (b := 0) 2 (As := [.int p1]) (ci := 8) rfl calX8_moduleAt imX8_moduleAt seX8_moduleAt mkX8_154 rfl rfl rfl rfl rfl (by decide) rfl rfl dX8_areAlike_2 (CX8_moduleAt E t p1 h) (fun v1 h2 => kqR ?_)
  refine S_astore_3 5 dX8_areAlike_5 rfl ?_
  refine S_aload_0 6 dX8_areAlike_6 ?_
  refine S_iload_2 7 dX8_areAlike_7 ?_
  refine S_callV (a' := 0) (b' := 0) (a := 0) (b := 0) 8 (As := [.int p2]) (ci := 8) rfl calX8_moduleAt imX8_moduleAt seX8_moduleAt mkX8_154 rfl rfl rfl rfl rfl (by decide) rfl rfl dX8_areAlike_8 (CX8_moduleAt E t p2 h2) (fun v3 h4 => kqR ?_)
  refine S_astore_4 11 dX8_areAlike_11 rfl ?_
  refine S_aload_3 13 dX8_areAlike_13 ?_
  refine S_getI 14 fsX8_176 rfl dX8_areAlike_14 ?_
  refine S_join (fun jj => ∀ (v5 : Int32) (h6 : XH), XS E mX8_areAlike eI 0 0 33 [none, none, none, some (.ref v1), some (.ref v3)] [.int v5] h6 (jj v5 h6)) (fun v5 h6 => ?_) (fun j33 hj33 => ?_)
  · skip
    refine S_callS (a' := 0) (b' := 0) (a := 0) (b := 0) 33 (As := [.int v5]) rfl calX8_demandFit stX8_demandFit mkX8_75 rfl rfl rfl rfl rfl dX8_areAlike_33 (CX8_demandFit E v5 h6) (fun _ h7 => kqU ?_)
    refine S_aload_3 36 dX8_areAlike_36 ?_
    refine S_callV (a' := 0) (b' := 0) (a := 0) (b := 0) 37 (As := []) (ci := 1) rfl calX1_freshPair imX1_freshPair seX1_freshPair mkX8_197 rfl rfl rfl rfl rfl (by decide) rfl rfl dX8_areAlike_37 (CX1_freshPair E v1  h7) (fun v8 h9 => kqR ?_)
    refine S_aload_4 40 dX8_areAlike_40 ?_
    refine S_callV (a' := 0) (b' := 0) (a := 0) (b := 0) 42 (As := []) (ci := 1) rfl calX1_freshPair imX1_freshPair seX1_freshPair mkX8_197 rfl rfl rfl rfl rfl (by decide) rfl rfl dX8_areAlike_42 (CX1_freshPair E v3  h9) (fun v10 h11 => kqR ?_)
    refine S_callV (a' := 0) (b' := 0) (a := 0) (b := 0) 45 (As := [.ref v10]) (ci := 4) rfl calX4_matches imX4_matches seX4_matches mkX8_227 rfl rfl rfl rfl rfl (by decide) rfl rfl dX8_areAlike_45 (CX4_matches E v8 v10 h11) (fun v12 h13 => kqI ?_)
    exact S_zret 48 dX8_areAlike_48 rfl
  refine S_join (fun jj => ∀  (h14 : XH), XS E mX8_areAlike eI 0 0 32 [none, none, none, some (.ref v1), some (.ref v3)] [] h14 (jj  h14)) (fun  h14 => ?_) (fun j32 hj32 => ?_)
  · skip
    refine S_ic 32 0 dX8_areAlike_32 (by decide) ?_
    exact S_drop [] rfl (hj33 _ _)
  refine S_ifne 17 32 dX8_areAlike_17 (by decide) ?_ ?_
  · skip
    exact S_drop [0, 1, 2] rfl (hj32 _)
  · skip
    refine S_aload_4 20 dX8_areAlike_20 ?_
    refine S_getI 22 fsX8_176 rfl dX8_areAlike_22 ?_
    refine S_ifne 25 32 dX8_areAlike_25 (by decide) ?_ ?_
    · skip
      exact S_drop [0, 1, 2] rfl (hj32 _)
    · skip
      refine S_ic 28 1 dX8_areAlike_28 (by decide) ?_
      refine S_goto 29 33 dX8_areAlike_29 (by decide) ?_
      exact S_drop [0, 1, 2] rfl (hj33 _ _)
def FX8_kinds (E : XG) (t : Nat) (h : XH) : XP Int32 := xg (xk h t = 9) <| xb (FX8_demandText E t  h) fun _ h1 => xlp (fun again8 (s8 : Int32 × Int32) h2 => xjn (fun  (h3 : XH) => xv s8.1 h3) fun (j71 : XH → XP Int32) => if (6 : Int32) ≤ s8.2 then (j71 h2) else (xg (xk h2 t = 9) <| xnn (xr h2 t 5) fun w4 => xg (xk h2 w4 = 8) <| xnn (xr h2 w4 1) fun w5 => xg (xk h2 w5 = 4) <| xb (FX3_has E w5 s8.2 h2) fun v6 h7 => if (v6 : Int32) = 0 then (j71 h7) else (xg (xk h7 t = 9) <| xnn (xr h7 t 5) fun w8 => xg (xk h7 w8 = 8) <| xnn (xr h7 w8 4) fun w9 => xg (xk h7 w9 = 16 ∧ xin s8.2 (xn h7 w9)) <| xnn (xr h7 w9 (s8.2 : Int32).toNatClampNeg) fun w10 => xg (xk h7 w10 = 2) <| xjn (fun (v11 : Int32) (h12 : XH) => xlt (s8.1 + v11) fun v13 => again8 (v13, (s8.2 + 1)) h12) fun (j63 : Int32 → XH → XP Int32) => xjn (fun  (h14 : XH) => j63 0 h14) fun (j62 : XH → XP Int32) => if ((xi h7 w10 7) : Int32) = 0 then (xg (xk h7 t = 9) <| xnn (xr h7 t 5) fun w15 => xg (xk h7 w15 = 8) <| xb (FX7_firstLike E w15 w10 h7) fun v16 h17 => if (v16 : Int32) = s8.2 then (j63 1 h17) else (j62 h17)) else (j62 h7)))) xfu (0, 0) h1
theorem CX8_kinds (E : XG) (t : Nat) (h : XH) : XN E mX8_kinds eI 0 0 [.ref t] h (FX8_kinds E t h) := by
  unfold FX8_kinds
  refine S_enter (L := [some (.ref t), none, none, none]) (by decide +kernel) rfl rfl rfl ?_
  refine S_aload_0 0 dX8_kinds_0 ?_
  refine S_callV (a' := 0) (b' := 0) (a := 0) (b := 0) 1 (As := []) (ci := 8) rfl calX8_demandText imX8_demandText seX8_demandText mkX8_100 rfl rfl rfl rfl rfl (by decide) rfl rfl dX8_kinds_1 (CX8_demandText E t  h) (fun _ h1 => kqU ?_)
  refine S_ic 4 0 dX8_kinds_4 (by decide) ?_
  refine S_istore_1 5 dX8_kinds_5 rfl ?_
  refine S_ic 6 0 dX8_kinds_6 (by decide) ?_
  refine S_istore_2 7 dX8_kinds_7 rfl ?_
  refine S_loop (fun (s8 : Int32 × Int32) => [some (.ref t), some (.int s8.1), some (.int s8.2), none]) (fun again8 hg8 s8 h2 => ?_) xfu _ _
  refine S_iload_2 8 dX8_kinds_8 ?_
  refine S_bip 9 6 dX8_kinds_9 (by decide) ?_
  refine S_join (fun jj => ∀  (h3 : XH), XS E mX8_kinds eI 0 0 71 [none, some (.int s8.1), none, none] [] h3 (jj  h3)) (fun  h3 => ?_) (fun j71 hj71 => ?_)
  · skip
    refine S_iload_1 71 dX8_kinds_71 ?_
    exact S_iret 72 dX8_kinds_72 rfl
  refine S_icmpge 11 71 dX8_kinds_11 (by decide) ?_ ?_
  · skip
    exact S_drop [0, 2] rfl (hj71 _)
  · skip
    refine S_aload_0 14 dX8_kinds_14 ?_
    refine S_getR 15 fsX8_20 rfl dX8_kinds_15 (fun w4 => ?_)
    refine S_getR 18 fsX8_91 rfl dX8_kinds_18 (fun w5 => ?_)
    refine S_iload_2 21 dX8_kinds_21 ?_
    refine S_callV (a' := 0) (b' := 0) (a := 0) (b := 0) 22 (As := [.int s8.2]) (ci := 3) rfl calX3_has imX3_has seX3_has mkX8_107 rfl rfl rfl rfl rfl (by decide) rfl rfl dX8_kinds_22 (CX3_has E w5 s8.2 h2) (fun v6 h7 => kqI ?_)
    refine S_ifeq 25 71 dX8_kinds_25 (by decide) ?_ ?_
    · skip
      exact S_drop [0, 2] rfl (hj71 _)
    · skip
      refine S_aload_0 28 dX8_kinds_28 ?_
      refine S_getR 29 fsX8_20 rfl dX8_kinds_29 (fun w8 => ?_)
      refine S_getR 32 fsX8_231 rfl dX8_kinds_32 (fun w9 => ?_)
      refine S_iload_2 35 dX8_kinds_35 ?_
      refine S_aald 36 16 5 (by decide) rfl rfl dX8_kinds_36 (fun w10 => ?_)
      refine S_astore_3 37 dX8_kinds_37 rfl ?_
      refine S_iload_1 38 dX8_kinds_38 ?_
      refine S_aload_3 39 dX8_kinds_39 ?_
      refine S_getI 40 fsX8_176 rfl dX8_kinds_40 ?_
      refine S_join (fun jj => ∀ (v11 : Int32) (h12 : XH), XS E mX8_kinds eI 0 0 63 [some (.ref t), none, some (.int s8.2), none] [.int v11, .int s8.1] h12 (jj v11 h12)) (fun v11 h12 => ?_) (fun j63 hj63 => ?_)
      · skip
        refine S_iadd 63 dX8_kinds_63 ?_
        refine S_gen (fun v13 => ?_)
        refine S_istore_1 64 dX8_kinds_64 rfl ?_
        refine S_iinc_2 65 (s8.2 + 1) dX8_kinds_65 (by rfl) rfl ?_
        refine S_goto 68 8 dX8_kinds_68 (by decide) ?_
        exact S_drop [] rfl (hg8 _ _)
      refine S_join (fun jj => ∀  (h14 : XH), XS E mX8_kinds eI 0 0 62 [some (.ref t), none, some (.int s8.2), none] [.int s8.1] h14 (jj  h14)) (fun  h14 => ?_) (fun j62 hj62 => ?_)
      · skip
        refine S_ic 62 0 dX8_kinds_62 (by decide) ?_
        exact S_drop [] rfl (hj63 _ _)
      refine S_ifne 43 62 dX8_kinds_43 (by decide) ?_ ?_
      · skip
        exact S_drop [1, 3] rfl (hj62 _)
      · skip
        refine S_aload_0 46 dX8_kinds_46 ?_
        refine S_getR 47 fsX8_20 rfl dX8_kinds_47 (fun w15 => ?_)
        refine S_aload_3 50 dX8_kinds_50 ?_
        refine S_callV (a' := 0) (b' := 0) (a := 0) (b := 0) 51 (As := [.ref w10]) (ci := 7) rfl calX7_firstLike imX7_firstLike seX7_firstLike mkX8_235 rfl rfl rfl rfl rfl (by decide) rfl rfl dX8_kinds_51 (CX7_firstLike E w15 w10 h7) (fun v16 h17 => kqI ?_)
        refine S_iload_2 54 dX8_kinds_54 ?_
        refine S_icmpne 55 62 dX8_kinds_55 (by decide) ?_ ?_
        · skip
          exact S_drop [1, 3] rfl (hj62 _)
        · skip
          refine S_ic 58 1 dX8_kinds_58 (by decide) ?_
          refine S_goto 59 63 dX8_kinds_59 (by decide) ?_
          exact S_drop [1, 3] rfl (hj63 _ _)
def FX8_firstAlike (E : XG) (t : Nat) (p1 : Int32) (h : XH) : XP Int32 := xg (xk h t = 9) <| xnn (xr h t 5) fun w1 => xg (xk h t = 9) <| xb (FX8_lawfulModuleAt E t p1 h) fun v2 h3 => xg (xk h3 w1 = 8) <| xb (FX7_firstLike E w1 v2 h3) fun v4 h5 => xv v4 h5
theorem CX8_firstAlike (E : XG) (t : Nat) (p1 : Int32) (h : XH) : XN E mX8_firstAlike eI 0 0 [.ref t, .int p1] h (FX8_firstAlike E t p1 h) := by
  unfold FX8_firstAlike
  refine S_enter (L := [some (.ref t), some (.int p1)]) (by decide +kernel) rfl rfl rfl ?_
  refine S_aload_0 0 dX8_firstAlike_0 ?_
  refine S_getR 1 fsX8_20 rfl dX8_firstAlike_1 (fun w1 => ?_)
  refine S_aload_0 4 dX8_firstAlike_4 ?_
  refine S_iload_1 5 dX8_firstAlike_5 ?_
  refine S_callV (a' := 0) (b' := 0) (a := 0) (b := 0) 6 (As := [.int p1]) (ci := 8) rfl calX8_lawfulModuleAt imX8_lawfulModuleAt seX8_lawfulModuleAt mkX8_194 rfl rfl rfl rfl rfl (by decide) rfl rfl dX8_firstAlike_6 (CX8_lawfulModuleAt E t p1 h) (fun v2 h3 => kqR ?_)
  refine S_callV (a' := 0) (b' := 0) (a := 0) (b := 0) 9 (As := [.ref v2]) (ci := 7) rfl calX7_firstLike imX7_firstLike seX7_firstLike mkX8_235 rfl rfl rfl rfl rfl (by decide) rfl rfl dX8_firstAlike_9 (CX7_firstLike E w1 v2 h3) (fun v4 h5 => kqI ?_)
  exact S_iret 12 dX8_firstAlike_12 rfl
def FX8_largeTimes (E : XG) (t : Nat) (p1 : Int32) (p2 : Int32) (p3 : Int32) (h : XH) : XP Int32 := xg (xk h t = 9) <| xb (FX8_lawfulModuleAt E t p1 h) fun v1 h2 => xg (xk h2 v1 = 2) <| xb (FX1_hasLarge E v1 p2 h2) fun v3 h4 => xjn (fun (v5 : Int32) (h6 : XH) => xb (FX8_demandFit E v5 h6) fun _ h7 => xg (xk h7 v1 = 2) <| xb (FX1_largeProduct E v1 p2 p3 h7) fun v8 h9 => xv v8 h9) fun (j30 : Int32 → XH → XP Int32) => xjn (fun  (h10 : XH) => j30 0 h10) fun (j29 : XH → XP Int32) => if (v3 : Int32) = 0 then (j29 h4) else (xg (xk h4 v1 = 2) <| xb (FX1_hasLarge E v1 p3 h4) fun v11 h12 => if (v11 : Int32) = 0 then (j29 h12) else (j30 1 h12))
theorem CX8_largeTimes (E : XG) (t : Nat) (p1 : Int32) (p2 : Int32) (p3 : Int32) (h : XH) : XN E mX8_largeTimes eI 0 0 [.ref t, .int p1, .int p2, .int p3] h (FX8_largeTimes E t p1 p2 p3 h) := by
  unfold FX8_largeTimes
  refine S_enter (L := [some (.ref t), some (.int p1), some (.int p2), some (.int p3), none]) (by decide +kernel) rfl rfl rfl ?_
  refine S_aload_0 0 dX8_largeTimes_0 ?_
  refine S_iload_1 1 dX8_largeTimes_1 ?_
  refine S_callV (a' := 0) (b' := 0) (a := 0) (b := 0) 2 (As := [.int p1]) (ci := 8) rfl calX8_lawfulModuleAt imX8_lawfulModuleAt seX8_lawfulModuleAt mkX8_194 rfl rfl rfl rfl rfl (by decide) rfl rfl dX8_largeTimes_2 (CX8_lawfulModuleAt E t p1 h) (fun v1 h2 => kqR ?_)
  refine S_astore_4 5 dX8_largeTimes_5 rfl ?_
  refine S_aload_4 7 dX8_largeTimes_7 ?_
  refine S_iload_2 9 dX8_largeTimes_9 ?_
  refine S_callV (a' := 0) (b' := 0) (a := 0) (b := 0) 10 (As := [.int p2]) (ci := 1) rfl calX1_hasLarge imX1_hasLarge seX1_hasLarge mkX8_239 rfl rfl rfl rfl rfl (by decide) rfl rfl dX8_largeTimes_10 (CX1_hasLarge E v1 p2 h2) (fun v3 h4 => kqI ?_)
  refine S_join (fun jj => ∀ (v5 : Int32) (h6 : XH), XS E mX8_largeTimes eI 0 0 30 [none, none, some (.int p2), some (.int p3), some (.ref v1)] [.int v5] h6 (jj v5 h6)) (fun v5 h6 => ?_) (fun j30 hj30 => ?_)
  · skip
    refine S_callS (a' := 0) (b' := 0) (a := 0) (b := 0) 30 (As := [.int v5]) rfl calX8_demandFit stX8_demandFit mkX8_75 rfl rfl rfl rfl rfl dX8_largeTimes_30 (CX8_demandFit E v5 h6) (fun _ h7 => kqU ?_)
    refine S_aload_4 33 dX8_largeTimes_33 ?_
    refine S_iload_2 35 dX8_largeTimes_35 ?_
    refine S_iload_3 36 dX8_largeTimes_36 ?_
    refine S_callV (a' := 0) (b' := 0) (a := 0) (b := 0) 37 (As := [.int p2, .int p3]) (ci := 1) rfl calX1_largeProduct imX1_largeProduct seX1_largeProduct mkX8_242 rfl rfl rfl rfl rfl (by decide) rfl rfl dX8_largeTimes_37 (CX1_largeProduct E v1 p2 p3 h7) (fun v8 h9 => kqI ?_)
    exact S_iret 40 dX8_largeTimes_40 rfl
  refine S_join (fun jj => ∀  (h10 : XH), XS E mX8_largeTimes eI 0 0 29 [none, none, some (.int p2), some (.int p3), some (.ref v1)] [] h10 (jj  h10)) (fun  h10 => ?_) (fun j29 hj29 => ?_)
  · skip
    refine S_ic 29 0 dX8_largeTimes_29 (by decide) ?_
    exact S_drop [] rfl (hj30 _ _)
  refine S_ifeq 13 29 dX8_largeTimes_13 (by decide) ?_ ?_
  · skip
    exact S_drop [0, 1] rfl (hj29 _)
  · skip
    refine S_aload_4 16 dX8_largeTimes_16 ?_
    refine S_iload_3 18 dX8_largeTimes_18 ?_
    refine S_callV (a' := 0) (b' := 0) (a := 0) (b := 0) 19 (As := [.int p3]) (ci := 1) rfl calX1_hasLarge imX1_hasLarge seX1_hasLarge mkX8_239 rfl rfl rfl rfl rfl (by decide) rfl rfl dX8_largeTimes_19 (CX1_hasLarge E v1 p3 h4) (fun v11 h12 => kqI ?_)
    refine S_ifeq 22 29 dX8_largeTimes_22 (by decide) ?_ ?_
    · skip
      exact S_drop [0, 1] rfl (hj29 _)
    · skip
      refine S_ic 25 1 dX8_largeTimes_25 (by decide) ?_
      refine S_goto 26 30 dX8_largeTimes_26 (by decide) ?_
      exact S_drop [0, 1] rfl (hj30 _ _)
def FX8_target (E : XG) (t : Nat) (p1 : Int32) (p2 : Int32) (h : XH) : XP Int32 := xg (xk h t = 9) <| xb (FX8_lawfulModuleAt E t p1 h) fun v1 h2 => xg (xk h2 v1 = 2) <| xb (FX1_hasLarge E v1 p2 h2) fun v3 h4 => xb (FX8_demandFit E v3 h4) fun _ h5 => xg (xk h5 v1 = 2) <| xb (FX1_upperPart E v1 p2 h5) fun v6 h7 => xg (xk h7 v1 = 2) <| xb (FX1_lowerPart E v1 p2 h7) fun v8 h9 => xg (xk h9 v1 = 2) <| xb (FX1_targetOf E v1 v6 v8 h9) fun v10 h11 => xv v10 h11
theorem CX8_target (E : XG) (t : Nat) (p1 : Int32) (p2 : Int32) (h : XH) : XN E mX8_target eI 0 0 [.ref t, .int p1, .int p2] h (FX8_target E t p1 p2 h) := by
  unfold FX8_target
  refine S_enter (L := [some (.ref t), some (.int p1), some (.int p2), none]) (by decide +kernel) rfl rfl rfl ?_
  refine S_aload_0 0 dX8_target_0 ?_
  refine S_iload_1 1 dX8_target_1 ?_
  refine S_callV (a' := 0) (b' := 0) (a := 0) (b := 0) 2 (As := [.int p1]) (ci := 8) rfl calX8_lawfulModuleAt imX8_lawfulModuleAt seX8_lawfulModuleAt mkX8_194 rfl rfl rfl rfl rfl (by decide) rfl rfl dX8_target_2 (CX8_lawfulModuleAt E t p1 h) (fun v1 h2 => kqR ?_)
  refine S_astore_3 5 dX8_target_5 rfl ?_
  refine S_aload_3 6 dX8_target_6 ?_
  refine S_iload_2 7 dX8_target_7 ?_
  refine S_callV (a' := 0) (b' := 0) (a := 0) (b := 0) 8 (As := [.int p2]) (ci := 1) rfl calX1_hasLarge imX1_hasLarge seX1_hasLarge mkX8_239 rfl rfl rfl rfl rfl (by decide) rfl rfl dX8_target_8 (CX1_hasLarge E v1 p2 h2) (fun v3 h4 => kqI ?_)
  refine S_callS (a' := 0) (b' := 0) (a := 0) (b := 0) 11 (As := [.int v3]) rfl calX8_demandFit stX8_demandFit mkX8_75 rfl rfl rfl rfl rfl dX8_target_11 (CX8_demandFit E v3 h4) (fun _ h5 => kqU ?_)
  refine S_aload_3 14 dX8_target_14 ?_
  refine S_aload_3 15 dX8_target_15 ?_
  refine S_iload_2 16 dX8_target_16 ?_
  refine S_callV (a' := 0) (b' := 0) (a := 0) (b := 0) 17 (As := [.int p2]) (ci := 1) rfl calX1_upperPart imX1_upperPart seX1_upperPart mkX8_245 rfl rfl rfl rfl rfl (by decide) rfl rfl dX8_target_17 (CX1_upperPart E v1 p2 h5) (fun v6 h7 => kqI ?_)
  refine S_aload_3 20 dX8_target_20 ?_
  refine S_iload_2 21 dX8_target_21 ?_
  refine S_callV (a' := 0) (b' := 0) (a := 0) (b := 0) 22 (As := [.int p2]) (ci := 1) rfl calX1_lowerPart imX1_lowerPart seX1_lowerPart mkX8_248 rfl rfl rfl rfl rfl (by decide) rfl rfl dX8_target_22 (CX1_lowerPart E v1 p2 h7) (fun v8 h9 => kqI ?_)
  refine S_callV (a' := 0) (b' := 0) (a := 0) (b := 0) 25 (As := [.int v6, .int v8]) (ci := 1) rfl calX1_targetOf imX1_targetOf seX1_targetOf mkX8_251 rfl rfl rfl rfl rfl (by decide) rfl rfl dX8_target_25 (CX1_targetOf E v1 v6 v8 h9) (fun v10 h11 => kqI ?_)
  exact S_iret 28 dX8_target_28 rfl
def FX8_largeOrder (E : XG) (t : Nat) (p1 : Int32) (p2 : Int32) (h : XH) : XP Int32 := xg (xk h t = 9) <| xb (FX8_lawfulModuleAt E t p1 h) fun v1 h2 => xg (xk h2 v1 = 2) <| xb (FX1_hasLarge E v1 p2 h2) fun v3 h4 => xb (FX8_demandFit E v3 h4) fun _ h5 => xg (xk h5 v1 = 2) <| xb (FX1_largePeriod E v1 p2 h5) fun v6 h7 => xv v6 h7
theorem CX8_largeOrder (E : XG) (t : Nat) (p1 : Int32) (p2 : Int32) (h : XH) : XN E mX8_largeOrder eI 0 0 [.ref t, .int p1, .int p2] h (FX8_largeOrder E t p1 p2 h) := by
  unfold FX8_largeOrder
  refine S_enter (L := [some (.ref t), some (.int p1), some (.int p2), none]) (by decide +kernel) rfl rfl rfl ?_
  refine S_aload_0 0 dX8_largeOrder_0 ?_
  refine S_iload_1 1 dX8_largeOrder_1 ?_
  refine S_callV (a' := 0) (b' := 0) (a := 0) (b := 0) 2 (As := [.int p1]) (ci := 8) rfl calX8_lawfulModuleAt imX8_lawfulModuleAt seX8_lawfulModuleAt mkX8_194 rfl rfl rfl rfl rfl (by decide) rfl rfl dX8_largeOrder_2 (CX8_lawfulModuleAt E t p1 h) (fun v1 h2 => kqR ?_)
  refine S_astore_3 5 dX8_largeOrder_5 rfl ?_
  refine S_aload_3 6 dX8_largeOrder_6 ?_
  refine S_iload_2 7 dX8_largeOrder_7 ?_
  refine S_callV (a' := 0) (b' := 0) (a := 0) (b := 0) 8 (As := [.int p2]) (ci := 1) rfl calX1_hasLarge imX1_hasLarge seX1_hasLarge mkX8_239 rfl rfl rfl rfl rfl (by decide) rfl rfl dX8_largeOrder_8 (CX1_hasLarge E v1 p2 h2) (fun v3 h4 => kqI ?_)
  refine S_callS (a' := 0) (b' := 0) (a := 0) (b := 0) 11 (As := [.int v3]) rfl calX8_demandFit stX8_demandFit mkX8_75 rfl rfl rfl rfl rfl dX8_largeOrder_11 (CX8_demandFit E v3 h4) (fun _ h5 => kqU ?_)
  refine S_aload_3 14 dX8_largeOrder_14 ?_
  refine S_iload_2 15 dX8_largeOrder_15 ?_
  refine S_callV (a' := 0) (b' := 0) (a := 0) (b := 0) 16 (As := [.int p2]) (ci := 1) rfl calX1_largePeriod imX1_largePeriod seX1_largePeriod mkX8_254 rfl rfl rfl rfl rfl (by decide) rfl rfl dX8_largeOrder_16 (CX1_largePeriod E v1 p2 h5) (fun v6 h7 => kqI ?_)
  exact S_iret 19 dX8_largeOrder_19 rfl
def FX8_between (E : XG) (t : Nat) (p1 : Int32) (p2 : Int32) (p3 : Int32) (h : XH) : XP Int32 := xg (xk h t = 9) <| xb (FX8_moduleAt E t p1 h) fun v1 h2 => xg (xk h2 v1 = 2) <| xnn (xr h2 v1 2) fun w3 => xg (xk h2 w3 = 3) <| xb (FX2_has E w3 p2 h2) fun v4 h5 => xjn (fun (v6 : Int32) (h7 : XH) => xb (FX8_demandThere E v6 h7) fun _ h8 => xg (xk h8 v1 = 2) <| xjn (fun (v9 : Int32) (h10 : XH) => xb (FX8_demandFit E v9 h10) fun _ h11 => xg (xk h11 v1 = 2) <| xb (FX1_countBetween E v1 p2 p3 h11) fun v12 h13 => xv v12 h13) fun (j52 : Int32 → XH → XP Int32) => if ((xi h8 v1 7) : Int32) = 0 then (j52 1 h8) else (j52 0 h8)) fun (j36 : Int32 → XH → XP Int32) => xjn (fun  (h14 : XH) => j36 0 h14) fun (j35 : XH → XP Int32) => if (v4 : Int32) = 0 then (j35 h5) else (xg (xk h5 v1 = 2) <| xnn (xr h5 v1 2) fun w15 => xg (xk h5 w15 = 3) <| xb (FX2_has E w15 p3 h5) fun v16 h17 => if (v16 : Int32) = 0 then (j35 h17) else (j36 1 h17))
theorem CX8_between (E : XG) (t : Nat) (p1 : Int32) (p2 : Int32) (p3 : Int32) (h : XH) : XN E mX8_between eI 0 0 [.ref t, .int p1, .int p2, .int p3] h (FX8_between E t p1 p2 p3 h) := by
  unfold FX8_between
  refine S_enter (L := [some (.ref t), some (.int p1), some (.int p2), some (.int p3), none]) (by decide +kernel) rfl rfl rfl ?_
  refine S_aload_0 0 dX8_between_0 ?_
  refine S_iload_1 1 dX8_between_1 ?_
  refine S_callV (a' := 0) (b' := 0) (a := 0) (b := 0) 2 (As := [.int p1]) (ci := 8) rfl calX8_moduleAt imX8_moduleAt seX8_moduleAt mkX8_154 rfl rfl rfl rfl rfl (by decide) rfl rfl dX8_between_2 (CX8_moduleAt E t p1 h) (fun v1 h2 => kqR ?_)
  refine S_astore_4 5 dX8_between_5 rfl ?_
  refine S_aload_4 7 dX8_between_7 ?_
  refine S_getR 9 fsX8_158 rfl dX8_between_9 (fun w3 => ?_)
  refine S_iload_2 12 dX8_between_12 ?_
  refine S_callV (a' := 0) (b' := 0) (a := 0) (b := 0) 13 (As := [.int p2]) (ci := 2) rfl calX2_has imX2_has seX2_has mkX8_128 rfl rfl rfl rfl rfl (by decide) rfl rfl dX8_between_13 (CX2_has E w3 p2 h2) (fun v4 h5 => kqI ?_)
  refine S_join (fun jj => ∀ (v6 : Int32) (h7 : XH), XS E mX8_between eI 0 0 36 [none, none, some (.int p2), some (.int p3), some (.ref v1)] [.int v6] h7 (jj v6 h7)) (fun v6 h7 => ?_) (fun j36 hj36 => ?_)
  · skip
    refine S_callS (a' := 0) (b' := 0) (a := 0) (b := 0) 36 (As := [.int v6]) rfl calX8_demandThere stX8_demandThere mkX8_45 rfl rfl rfl rfl rfl dX8_between_36 (CX8_demandThere E v6 h7) (fun _ h8 => kqU ?_)
    refine S_aload_4 39 dX8_between_39 ?_
    refine S_getI 41 fsX8_176 rfl dX8_between_41 ?_
    refine S_join (fun jj => ∀ (v9 : Int32) (h10 : XH), XS E mX8_between eI 0 0 52 [none, none, some (.int p2), some (.int p3), some (.ref v1)] [.int v9] h10 (jj v9 h10)) (fun v9 h10 => ?_) (fun j52 hj52 => ?_)
    · skip
      refine S_callS (a' := 0) (b' := 0) (a := 0) (b := 0) 52 (As := [.int v9]) rfl calX8_demandFit stX8_demandFit mkX8_75 rfl rfl rfl rfl rfl dX8_between_52 (CX8_demandFit E v9 h10) (fun _ h11 => kqU ?_)
      refine S_aload_4 55 dX8_between_55 ?_
      refine S_iload_2 57 dX8_between_57 ?_
      refine S_iload_3 58 dX8_between_58 ?_
      refine S_callV (a' := 0) (b' := 0) (a := 0) (b := 0) 59 (As := [.int p2, .int p3]) (ci := 1) rfl calX1_countBetween imX1_countBetween seX1_countBetween mkX8_257 rfl rfl rfl rfl rfl (by decide) rfl rfl dX8_between_59 (CX1_countBetween E v1 p2 p3 h11) (fun v12 h13 => kqI ?_)
      exact S_iret 62 dX8_between_62 rfl
    refine S_ifne 44 51 dX8_between_44 (by decide) ?_ ?_
    · skip
      refine S_ic 51 0 dX8_between_51 (by decide) ?_
      exact S_drop [] rfl (hj52 _ _)
    · skip
      refine S_ic 47 1 dX8_between_47 (by decide) ?_
      refine S_goto 48 52 dX8_between_48 (by decide) ?_
      exact S_drop [] rfl (hj52 _ _)
  refine S_join (fun jj => ∀  (h14 : XH), XS E mX8_between eI 0 0 35 [none, none, some (.int p2), some (.int p3), some (.ref v1)] [] h14 (jj  h14)) (fun  h14 => ?_) (fun j35 hj35 => ?_)
  · skip
    refine S_ic 35 0 dX8_between_35 (by decide) ?_
    exact S_drop [] rfl (hj36 _ _)
  refine S_ifeq 16 35 dX8_between_16 (by decide) ?_ ?_
  · skip
    exact S_drop [0, 1] rfl (hj35 _)
  · skip
    refine S_aload_4 19 dX8_between_19 ?_
    refine S_getR 21 fsX8_158 rfl dX8_between_21 (fun w15 => ?_)
    refine S_iload_3 24 dX8_between_24 ?_
    refine S_callV (a' := 0) (b' := 0) (a := 0) (b := 0) 25 (As := [.int p3]) (ci := 2) rfl calX2_has imX2_has seX2_has mkX8_128 rfl rfl rfl rfl rfl (by decide) rfl rfl dX8_between_25 (CX2_has E w15 p3 h5) (fun v16 h17 => kqI ?_)
    refine S_ifeq 28 35 dX8_between_28 (by decide) ?_ ?_
    · skip
      exact S_drop [0, 1] rfl (hj35 _)
    · skip
      refine S_ic 31 1 dX8_between_31 (by decide) ?_
      refine S_goto 32 36 dX8_between_32 (by decide) ?_
      exact S_drop [0, 1] rfl (hj36 _ _)
def FX8_arrowAt (E : XG) (t : Nat) (p1 : Int32) (h : XH) : XP Nat := xg (xk h t = 9) <| xb (FX8_demandText E t  h) fun _ h1 => xg (xk h1 t = 9) <| xnn (xr h1 t 5) fun w2 => xg (xk h1 w2 = 8) <| xnn (xr h1 w2 2) fun w3 => xg (xk h1 w3 = 4) <| xb (FX3_has E w3 p1 h1) fun v4 h5 => xb (FX8_demandThere E v4 h5) fun _ h6 => xg (xk h6 t = 9) <| xnn (xr h6 t 5) fun w7 => xg (xk h6 w7 = 8) <| xnn (xr h6 w7 5) fun w8 => xg (xk h6 w8 = 15 ∧ xin p1 (xn h6 w8)) <| xnn (xr h6 w8 (p1 : Int32).toNatClampNeg) fun w9 => xv w9 h6
theorem CX8_arrowAt (E : XG) (t : Nat) (p1 : Int32) (h : XH) : XN E mX8_arrowAt eR 0 0 [.ref t, .int p1] h (FX8_arrowAt E t p1 h) := by
  unfold FX8_arrowAt
  refine S_enter (L := [some (.ref t), some (.int p1)]) (by decide +kernel) rfl rfl rfl ?_
  refine S_aload_0 0 dX8_arrowAt_0 ?_
  refine S_callV (a' := 0) (b' := 0) (a := 0) (b := 0) 1 (As := []) (ci := 8) rfl calX8_demandText imX8_demandText seX8_demandText mkX8_100 rfl rfl rfl rfl rfl (by decide) rfl rfl dX8_arrowAt_1 (CX8_demandText E t  h) (fun _ h1 => kqU ?_)
  refine S_aload_0 4 dX8_arrowAt_4 ?_
  refine S_getR 5 fsX8_20 rfl dX8_arrowAt_5 (fun w2 => ?_)
  refine S_getR 8 fsX8_384 rfl dX8_arrowAt_8 (fun w3 => ?_)
  refine S_iload_1 11 dX8_arrowAt_11 ?_
  refine S_callV (a' := 0) (b' := 0) (a := 0) (b := 0) 12 (As := [.int p1]) (ci := 3) rfl calX3_has imX3_has seX3_has mkX8_107 rfl rfl rfl rfl rfl (by decide) rfl rfl dX8_arrowAt_12 (CX3_has E w3 p1 h1) (fun v4 h5 => kqI ?_)
  refine S_callS (a' := 0) (b' := 0) (a := 0) (b := 0) 15 (As := [.int v4]) rfl calX8_demandThere stX8_demandThere mkX8_45 rfl rfl rfl rfl rfl dX8_arrowAt_15 (CX8_demandThere E v4 h5) (fun _ h6 => kqU ?_)
  refine S_aload_0 18 dX8_arrowAt_18 ?_
  refine S_getR 19 fsX8_20 rfl dX8_arrowAt_19 (fun w7 => ?_)
  refine S_getR 22 fsX8_387 rfl dX8_arrowAt_22 (fun w8 => ?_)
  refine S_iload_1 25 dX8_arrowAt_25 ?_
  refine S_aald 26 15 4 (by decide) rfl rfl dX8_arrowAt_26 (fun w9 => ?_)
  exact S_aret 27 dX8_arrowAt_27 rfl
def FX8_top (E : XG) (t : Nat) (p1 : Int32) (p2 : Int32) (h : XH) : XP Int32 := xg (xk h t = 9) <| xb (FX8_arrowAt E t p1 h) fun v1 h2 => xg (xk h2 v1 = 1) <| xnn (xr h2 v1 0) fun w3 => xg (xk h2 w3 = 2) <| xnn (xr h2 w3 1) fun w4 => xg (xk h2 w4 = 3) <| xb (FX2_has E w4 p2 h2) fun v5 h6 => xb (FX8_demandThere E v5 h6) fun _ h7 => xg (xk h7 v1 = 1) <| xb (FX0_topOf E v1 p2 h7) fun v8 h9 => xv v8 h9
theorem CX8_top (E : XG) (t : Nat) (p1 : Int32) (p2 : Int32) (h : XH) : XN E mX8_top eI 0 0 [.ref t, .int p1, .int p2] h (FX8_top E t p1 p2 h) := by
  unfold FX8_top
  refine S_enter (L := [some (.ref t), some (.int p1), some (.int p2), none]) (by decide +kernel) rfl rfl rfl ?_
  refine S_aload_0 0 dX8_top_0 ?_
  refine S_iload_1 1 dX8_top_1 ?_
  refine S_callV (a' := 0) (b' := 0) (a := 0) (b := 0) 2 (As := [.int p1]) (ci := 8) rfl calX8_arrowAt imX8_arrowAt seX8_arrowAt mkX8_260 rfl rfl rfl rfl rfl (by decide) rfl rfl dX8_top_2 (CX8_arrowAt E t p1 h) (fun v1 h2 => kqR ?_)
  refine S_astore_3 5 dX8_top_5 rfl ?_
  refine S_aload_3 6 dX8_top_6 ?_
  refine S_getR 7 fsX8_271 rfl dX8_top_7 (fun w3 => ?_)
  refine S_getR 10 fsX8_167 rfl dX8_top_10 (fun w4 => ?_)
  refine S_iload_2 13 dX8_top_13 ?_
  refine S_callV (a' := 0) (b' := 0) (a := 0) (b := 0) 14 (As := [.int p2]) (ci := 2) rfl calX2_has imX2_has seX2_has mkX8_128 rfl rfl rfl rfl rfl (by decide) rfl rfl dX8_top_14 (CX2_has E w4 p2 h2) (fun v5 h6 => kqI ?_)
  refine S_callS (a' := 0) (b' := 0) (a := 0) (b := 0) 17 (As := [.int v5]) rfl calX8_demandThere stX8_demandThere mkX8_45 rfl rfl rfl rfl rfl dX8_top_17 (CX8_demandThere E v5 h6) (fun _ h7 => kqU ?_)
  refine S_aload_3 20 dX8_top_20 ?_
  refine S_iload_2 21 dX8_top_21 ?_
  refine S_callV (a' := 0) (b' := 0) (a := 0) (b := 0) 22 (As := [.int p2]) (ci := 0) rfl calX0_topOf imX0_topOf seX0_topOf mkX8_274 rfl rfl rfl rfl rfl (by decide) rfl rfl dX8_top_22 (CX0_topOf E v1 p2 h7) (fun v8 h9 => kqI ?_)
  exact S_iret 25 dX8_top_25 rfl
def FX8_bottom (E : XG) (t : Nat) (p1 : Int32) (p2 : Int32) (h : XH) : XP Int32 := xg (xk h t = 9) <| xb (FX8_arrowAt E t p1 h) fun v1 h2 => xg (xk h2 v1 = 1) <| xnn (xr h2 v1 0) fun w3 => xg (xk h2 w3 = 2) <| xnn (xr h2 w3 2) fun w4 => xg (xk h2 w4 = 3) <| xb (FX2_has E w4 p2 h2) fun v5 h6 => xb (FX8_demandThere E v5 h6) fun _ h7 => xg (xk h7 v1 = 1) <| xb (FX0_bottomOf E v1 p2 h7) fun v8 h9 => xv v8 h9
theorem CX8_bottom (E : XG) (t : Nat) (p1 : Int32) (p2 : Int32) (h : XH) : XN E mX8_bottom eI 0 0 [.ref t, .int p1, .int p2] h (FX8_bottom E t p1 p2 h) := by
  unfold FX8_bottom
  refine S_enter (L := [some (.ref t), some (.int p1), some (.int p2), none]) (by decide +kernel) rfl rfl rfl ?_
  refine S_aload_0 0 dX8_bottom_0 ?_
  refine S_iload_1 1 dX8_bottom_1 ?_
  refine S_callV (a' := 0) (b' := 0) (a := 0) (b := 0) 2 (As := [.int p1]) (ci := 8) rfl calX8_arrowAt imX8_arrowAt seX8_arrowAt mkX8_260 rfl rfl rfl rfl rfl (by decide) rfl rfl dX8_bottom_2 (CX8_arrowAt E t p1 h) (fun v1 h2 => kqR ?_)
  refine S_astore_3 5 dX8_bottom_5 rfl ?_
  refine S_aload_3 6 dX8_bottom_6 ?_
  refine S_getR 7 fsX8_271 rfl dX8_bottom_7 (fun w3 => ?_)
  refine S_getR 10 fsX8_158 rfl dX8_bottom_10 (fun w4 => ?_)
  refine S_iload_2 13 dX8_bottom_13 ?_
  refine S_callV (a' := 0) (b' := 0) (a := 0) (b := 0) 14 (As := [.int p2]) (ci := 2) rfl calX2_has imX2_has seX2_has mkX8_128 rfl rfl rfl rfl rfl (by decide) rfl rfl dX8_bottom_14 (CX2_has E w4 p2 h2) (fun v5 h6 => kqI ?_)
  refine S_callS (a' := 0) (b' := 0) (a := 0) (b := 0) 17 (As := [.int v5]) rfl calX8_demandThere stX8_demandThere mkX8_45 rfl rfl rfl rfl rfl dX8_bottom_17 (CX8_demandThere E v5 h6) (fun _ h7 => kqU ?_)
  refine S_aload_3 20 dX8_bottom_20 ?_
  refine S_iload_2 21 dX8_bottom_21 ?_
  refine S_callV (a' := 0) (b' := 0) (a := 0) (b := 0) 22 (As := [.int p2]) (ci := 0) rfl calX0_bottomOf imX0_bottomOf seX0_bottomOf mkX8_277 rfl rfl rfl rfl rfl (by decide) rfl rfl dX8_bottom_22 (CX0_bottomOf E v1 p2 h7) (fun v8 h9 => kqI ?_)
  exact S_iret 25 dX8_bottom_25 rfl
def FX8_arrowWhy (E : XG) (t : Nat) (p1 : Int32) (h : XH) : XP Int32 := xg (xk h t = 9) <| xb (FX8_arrowAt E t p1 h) fun v1 h2 => xg (xk h2 v1 = 1) <| xb (FX0_firstReason E v1  h2) fun v3 h4 => xv v3 h4
theorem CX8_arrowWhy (E : XG) (t : Nat) (p1 : Int32) (h : XH) : XN E mX8_arrowWhy eI 0 0 [.ref t, .int p1] h (FX8_arrowWhy E t p1 h) := by
  unfold FX8_arrowWhy
  refine S_enter (L := [some (.ref t), some (.int p1)]) (by decide +kernel) rfl rfl rfl ?_
  refine S_aload_0 0 dX8_arrowWhy_0 ?_
  refine S_iload_1 1 dX8_arrowWhy_1 ?_
  refine S_callV (a' := 0) (b' := 0) (a := 0) (b := 0) 2 (As := [.int p1]) (ci := 8) rfl calX8_arrowAt imX8_arrowAt seX8_arrowAt mkX8_260 rfl rfl rfl rfl rfl (by decide) rfl rfl dX8_arrowWhy_2 (CX8_arrowAt E t p1 h) (fun v1 h2 => kqR ?_)
  refine S_callV (a' := 0) (b' := 0) (a := 0) (b := 0) 5 (As := []) (ci := 0) rfl calX0_firstReason imX0_firstReason seX0_firstReason mkX8_280 rfl rfl rfl rfl rfl (by decide) rfl rfl dX8_arrowWhy_5 (CX0_firstReason E v1  h2) (fun v3 h4 => kqI ?_)
  exact S_iret 8 dX8_arrowWhy_8 rfl
def FX8_ladder (E : XG) (t : Nat) (p1 : Int32) (p2 : Int32) (h : XH) : XP Int32 := xg (xk h t = 9) <| xb (FX8_moduleAt E t p1 h) fun v1 h2 => xg (xk h2 t = 9) <| xb (FX8_moduleAt E t p2 h2) fun v3 h4 => xg (xk h4 t = 9) <| xnn (xr h4 t 5) fun w5 => xg (xk h4 v1 = 2) <| xg (xk h4 v3 = 2) <| xg (xk h4 t = 9) <| xnn (xr h4 t 5) fun w6 => xg (xk h4 w6 = 8) <| xb (FX7_equivalenceSet E w6  h4) fun v7 h8 => xg (xk h8 w5 = 8) <| xb (FX7_stepsBetween E w5 (xi h4 v1 0) (xi h4 v3 0) v7 h8) fun v9 h10 => xv v9 h10
theorem CX8_ladder (E : XG) (t : Nat) (p1 : Int32) (p2 : Int32) (h : XH) : XN E mX8_ladder eI 0 0 [.ref t, .int p1, .int p2] h (FX8_ladder E t p1 p2 h) := by
  unfold FX8_ladder
  refine S_enter (L := [some (.ref t), some (.int p1), some (.int p2), none, none]) (by decide +kernel) rfl rfl rfl ?_
  refine S_aload_0 0 dX8_ladder_0 ?_
  refine S_iload_1 1 dX8_ladder_1 ?_
  refine S_callV (a' := 0) (b' := 0) (a := 0) (b := 0) 2 (As := [.int p1]) (ci := 8) rfl calX8_moduleAt imX8_moduleAt seX8_moduleAt mkX8_154 rfl rfl rfl rfl rfl (by decide) rfl rfl dX8_ladder_2 (CX8_moduleAt E t p1 h) (fun v1 h2 => kqR ?_)
  refine S_astore_3 5 dX8_ladder_5 rfl ?_
  refine S_aload_0 6 dX8_ladder_6 ?_
  refine S_iload_2 7 dX8_ladder_7 ?_
  refine S_callV (a' := 0) (b' := 0) (a := 0) (b := 0) 8 (As := [.int p2]) (ci := 8) rfl calX8_moduleAt imX8_moduleAt seX8_moduleAt mkX8_154 rfl rfl rfl rfl rfl (by decide) rfl rfl dX8_ladder_8 (CX8_moduleAt E t p2 h2) (fun v3 h4 => kqR ?_)
  refine S_astore_4 11 dX8_ladder_11 rfl ?_
  refine S_aload_0 13 dX8_ladder_13 ?_
  refine S_getR 14 fsX8_20 rfl dX8_ladder_14 (fun w5 => ?_)
  refine S_aload_3 17 dX8_ladder_17 ?_
  refine S_getI 18 fsX8_270 rfl dX8_ladder_18 ?_
  refine S_aload_4 21 dX8_ladder_21 ?_
  refine S_getI 23 fsX8_270 rfl dX8_ladder_23 ?_
  refine S_aload_0 26 dX8_ladder_26 ?_
  refine S_getR 27 fsX8_20 rfl dX8_ladder_27 (fun w6 => ?_)
  refine S_callV (a' := 0) (b' := 0) (a := 0) (b := 0) 30 (As := []) (ci := 7) rfl calX7_equivalenceSet imX7_equivalenceSet seX7_equivalenceSet mkX8_286 rfl rfl rfl rfl rfl (by decide) rfl rfl dX8_ladder_30 (CX7_equivalenceSet E w6  h4) (fun v7 h8 => kqI ?_)
  refine S_callV (a' := 0) (b' := 0) (a := 0) (b := 0) 33 (As := [.int (xi h4 v1 0), .int (xi h4 v3 0), .int v7]) (ci := 7) rfl calX7_stepsBetween imX7_stepsBetween seX7_stepsBetween mkX8_289 rfl rfl rfl rfl rfl (by decide) rfl rfl dX8_ladder_33 (CX7_stepsBetween E w5 (xi h4 v1 0) (xi h4 v3 0) v7 h8) (fun v9 h10 => kqI ?_)
  exact S_iret 36 dX8_ladder_36 rfl
def FX8_through (E : XG) (t : Nat) (p1 : Int32) (p2 : Int32) (p3 : Int32) (h : XH) : XP Int32 := xg (xk h t = 9) <| xb (FX8_arrowAt E t p1 h) fun v1 h2 => xg (xk h2 t = 9) <| xb (FX8_arrowAt E t p2 h2) fun v3 h4 => xg (xk h4 v1 = 1) <| xnn (xr h4 v1 0) fun w5 => xg (xk h4 w5 = 2) <| xnn (xr h4 w5 1) fun w6 => xg (xk h4 w6 = 3) <| xb (FX2_has E w6 p3 h4) fun v7 h8 => xb (FX8_demandThere E v7 h8) fun _ h9 => xg (xk h9 v1 = 1) <| xnn (xr h9 v1 1) fun w10 => xg (xk h9 w10 = 2) <| xg (xk h9 v3 = 1) <| xnn (xr h9 v3 0) fun w11 => xg (xk h9 w11 = 2) <| xjn (fun (v12 : Int32) (h13 : XH) => xb (FX8_demandFit E v12 h13) fun _ h14 => xg (xk h14 v1 = 1) <| xb (FX0_topOf E v1 p3 h14) fun v15 h16 => xg (xk h16 v3 = 1) <| xb (FX0_topOf E v3 v15 h16) fun v17 h18 => xv v17 h18) fun (j53 : Int32 → XH → XP Int32) => if ((xi h9 w10 0) : Int32) = (xi h9 w11 0) then (j53 1 h9) else (j53 0 h9)
theorem CX8_through (E : XG) (t : Nat) (p1 : Int32) (p2 : Int32) (p3 : Int32) (h : XH) : XN E mX8_through eI 0 0 [.ref t, .int p1, .int p2, .int p3] h (FX8_through E t p1 p2 p3 h) := by
  unfold FX8_through
  refine S_enter (L := [some (.ref t), some (.int p1), some (.int p2), some (.int p3), none, none]) (by decide +kernel) rfl rfl rfl ?_
  refine S_aload_0 0 dX8_through_0 ?_
  refine S_iload_1 1 dX8_through_1 ?_
  refine S_callV (a' := 0) (b' := 0) (a := 0) (b := 0) 2 (As := [.int p1]) (ci := 8) rfl calX8_arrowAt imX8_arrowAt seX8_arrowAt mkX8_260 rfl rfl rfl rfl rfl (by decide) rfl rfl dX8_through_2 (CX8_arrowAt E t p1 h) (fun v1 h2 => kqR ?_)
  refine S_astore_4 5 dX8_through_5 rfl ?_
  refine S_aload_0 7 dX8_through_7 ?_
  refine S_iload_2 8 dX8_through_8 ?_
  refine S_callV (a' := 0) (b' := 0) (a := 0) (b := 0) 9 (As := [.int p2]) (ci := 8) rfl calX8_arrowAt imX8_arrowAt seX8_arrowAt mkX8_260 rfl rfl rfl rfl rfl (by decide) rfl rfl dX8_through_9 (CX8_arrowAt E t p2 h2) (fun v3 h4 => kqR ?_)
  refine S_astore_5 12 dX8_through_12 rfl ?_
  refine S_aload_4 14 dX8_through_14 ?_
  refine S_getR 16 fsX8_271 rfl dX8_through_16 (fun w5 => ?_)
  refine S_getR 19 fsX8_167 rfl dX8_through_19 (fun w6 => ?_)
  refine S_iload_3 22 dX8_through_22 ?_
  refine S_callV (a' := 0) (b' := 0) (a := 0) (b := 0) 23 (As := [.int p3]) (ci := 2) rfl calX2_has imX2_has seX2_has mkX8_128 rfl rfl rfl rfl rfl (by decide) rfl rfl dX8_through_23 (CX2_has E w6 p3 h4) (fun v7 h8 => kqI ?_)
  refine S_callS (a' := 0) (b' := 0) (a := 0) (b := 0) 26 (As := [.int v7]) rfl calX8_demandThere stX8_demandThere mkX8_45 rfl rfl rfl rfl rfl dX8_through_26 (CX8_demandThere E v7 h8) (fun _ h9 => kqU ?_)
  refine S_aload_4 29 dX8_through_29 ?_
  refine S_getR 31 fsX8_264 rfl dX8_through_31 (fun w10 => ?_)
  refine S_getI 34 fsX8_270 rfl dX8_through_34 ?_
  refine S_aload_5 37 dX8_through_37 ?_
  refine S_getR 39 fsX8_271 rfl dX8_through_39 (fun w11 => ?_)
  refine S_getI 42 fsX8_270 rfl dX8_through_42 ?_
  refine S_join (fun jj => ∀ (v12 : Int32) (h13 : XH), XS E mX8_through eI 0 0 53 [none, none, none, some (.int p3), some (.ref v1), some (.ref v3)] [.int v12] h13 (jj v12 h13)) (fun v12 h13 => ?_) (fun j53 hj53 => ?_)
  · skip
    refine S_callS (a' := 0) (b' := 0) (a := 0) (b := 0) 53 (As := [.int v12]) rfl calX8_demandFit stX8_demandFit mkX8_75 rfl rfl rfl rfl rfl dX8_through_53 (CX8_demandFit E v12 h13) (fun _ h14 => kqU ?_)
    refine S_aload_5 56 dX8_through_56 ?_
    refine S_aload_4 58 dX8_through_58 ?_
    refine S_iload_3 60 dX8_through_60 ?_
    refine S_callV (a' := 0) (b' := 0) (a := 0) (b := 0) 61 (As := [.int p3]) (ci := 0) rfl calX0_topOf imX0_topOf seX0_topOf mkX8_274 rfl rfl rfl rfl rfl (by decide) rfl rfl dX8_through_61 (CX0_topOf E v1 p3 h14) (fun v15 h16 => kqI ?_)
    refine S_callV (a' := 0) (b' := 0) (a := 0) (b := 0) 64 (As := [.int v15]) (ci := 0) rfl calX0_topOf imX0_topOf seX0_topOf mkX8_274 rfl rfl rfl rfl rfl (by decide) rfl rfl dX8_through_64 (CX0_topOf E v3 v15 h16) (fun v17 h18 => kqI ?_)
    exact S_iret 67 dX8_through_67 rfl
  refine S_icmpne 45 52 dX8_through_45 (by decide) ?_ ?_
  · skip
    refine S_ic 52 0 dX8_through_52 (by decide) ?_
    exact S_drop [0, 1, 2] rfl (hj53 _ _)
  · skip
    refine S_ic 48 1 dX8_through_48 (by decide) ?_
    refine S_goto 49 53 dX8_through_49 (by decide) ?_
    exact S_drop [0, 1, 2] rfl (hj53 _ _)
def FX8_account (E : XG) (t : Nat) (p1 : Int32) (h : XH) : XP Int32 := xg (xk h t = 9) <| xb (FX8_demandText E t  h) fun _ h1 => xjn (fun (v2 : Int32) (h3 : XH) => xb (FX8_demandFit E v2 h3) fun _ h4 => xg (xk h4 t = 9) <| xnn (xr h4 t 5) fun w5 => xg (xk h4 w5 = 8) <| xnn (xr h4 w5 6) fun w6 => xb (FX8_at E w6 p1 h4) fun v7 h8 => xv v7 h8) fun (j18 : Int32 → XH → XP Int32) => xjn (fun  (h9 : XH) => j18 0 h9) fun (j17 : XH → XP Int32) => if (p1 : Int32) < 0 then (j17 h1) else (if (3 : Int32) ≤ p1 then (j17 h1) else (j18 1 h1))
theorem CX8_account (E : XG) (t : Nat) (p1 : Int32) (h : XH) : XN E mX8_account eI 0 0 [.ref t, .int p1] h (FX8_account E t p1 h) := by
  unfold FX8_account
  refine S_enter (L := [some (.ref t), some (.int p1)]) (by decide +kernel) rfl rfl rfl ?_
  refine S_aload_0 0 dX8_account_0 ?_
  refine S_callV (a' := 0) (b' := 0) (a := 0) (b := 0) 1 (As := []) (ci := 8) rfl calX8_demandText imX8_demandText seX8_demandText mkX8_100 rfl rfl rfl rfl rfl (by decide) rfl rfl dX8_account_1 (CX8_demandText E t  h) (fun _ h1 => kqU ?_)
  refine S_iload_1 4 dX8_account_4 ?_
  refine S_join (fun jj => ∀ (v2 : Int32) (h3 : XH), XS E mX8_account eI 0 0 18 [some (.ref t), some (.int p1)] [.int v2] h3 (jj v2 h3)) (fun v2 h3 => ?_) (fun j18 hj18 => ?_)
  · skip
    refine S_callS (a' := 0) (b' := 0) (a := 0) (b := 0) 18 (As := [.int v2]) rfl calX8_demandFit stX8_demandFit mkX8_75 rfl rfl rfl rfl rfl dX8_account_18 (CX8_demandFit E v2 h3) (fun _ h4 => kqU ?_)
    refine S_aload_0 21 dX8_account_21 ?_
    refine S_getR 22 fsX8_20 rfl dX8_account_22 (fun w5 => ?_)
    refine S_getR 25 fsX8_296 rfl dX8_account_25 (fun w6 => ?_)
    refine S_iload_1 28 dX8_account_28 ?_
    refine S_callS (a' := 0) (b' := 0) (a := 0) (b := 0) 29 (As := [.ref w6, .int p1]) rfl calX8_at stX8_at mkX8_223 rfl rfl rfl rfl rfl dX8_account_29 (CX8_at E w6 p1 h4) (fun v7 h8 => kqI ?_)
    exact S_iret 32 dX8_account_32 rfl
  refine S_join (fun jj => ∀  (h9 : XH), XS E mX8_account eI 0 0 17 [some (.ref t), some (.int p1)] [] h9 (jj  h9)) (fun  h9 => ?_) (fun j17 hj17 => ?_)
  · skip
    refine S_ic 17 0 dX8_account_17 (by decide) ?_
    exact S_drop [] rfl (hj18 _ _)
  refine S_iflt 5 17 dX8_account_5 (by decide) ?_ ?_
  · skip
    exact S_drop [] rfl (hj17 _)
  · skip
    refine S_iload_1 8 dX8_account_8 ?_
    refine S_ic 9 3 dX8_account_9 (by decide) ?_
    refine S_icmpge 10 17 dX8_account_10 (by decide) ?_ ?_
    · skip
      exact S_drop [] rfl (hj17 _)
    · skip
      refine S_ic 13 1 dX8_account_13 (by decide) ?_
      refine S_goto 14 18 dX8_account_14 (by decide) ?_
      exact S_drop [] rfl (hj18 _ _)
def FX8_write (E : XG) (t : Nat) (p1 : Int32) (h : XH) : XP Unit := xg (xk h t = 9) <| xg (xk h t = 9) <| xnn (xr h t 12) fun w1 => xg (xk h w1 = 11) <| xjn (fun  (h2 : XH) => xv () h2) fun (j33 : XH → XP Unit) => if ((Int32.ofNat (xn h w1)) : Int32) ≤ (xi h t 13) then (j33 h) else (xg (xk h t = 9) <| xnn (xr h t 12) fun w3 => xg (xk h t = 9) <| xg (xk h w3 = 11 ∧ xin (xi h t 13) (xn h w3)) <| xlt (yi h w3 ((xi h t 13) : Int32).toNatClampNeg (vp_nar .byte (Int8.toInt32 (Int32.toInt8 p1)))) fun h4 => xg (xk h4 t = 9) <| xg (xk h4 t = 9) <| xlt (yi h4 t 13 ((xi h4 t 13) + 1)) fun h5 => j33 h5)
theorem CX8_write (E : XG) (t : Nat) (p1 : Int32) (h : XH) : XN E mX8_write eU 0 0 [.ref t, .int p1] h (FX8_write E t p1 h) := by
  unfold FX8_write
  refine S_enter (L := [some (.ref t), some (.int p1)]) (by decide +kernel) rfl rfl rfl ?_
  refine S_aload_0 0 dX8_write_0 ?_
  refine S_getI 1 fsX8_299 rfl dX8_write_1 ?_
  refine S_aload_0 4 dX8_write_4 ?_
  refine S_getR 5 fsX8_35 rfl dX8_write_5 (fun w1 => ?_)
  refine S_alen 8 11 0 (by decide) rfl dX8_write_8 ?_
  refine S_join (fun jj => ∀  (h2 : XH), XS E mX8_write eU 0 0 33 [none, none] [] h2 (jj  h2)) (fun  h2 => ?_) (fun j33 hj33 => ?_)
  · skip
    exact S_ret 33 dX8_write_33 rfl
  refine S_icmpge 9 33 dX8_write_9 (by decide) ?_ ?_
  · skip
    exact S_drop [0, 1] rfl (hj33 _)
  · skip
    refine S_aload_0 12 dX8_write_12 ?_
    refine S_getR 13 fsX8_35 rfl dX8_write_13 (fun w3 => ?_)
    refine S_aload_0 16 dX8_write_16 ?_
    refine S_getI 17 fsX8_299 rfl dX8_write_17 ?_
    refine S_iload_1 20 dX8_write_20 ?_
    refine S_i2b 21 dX8_write_21 ?_
    refine S_bast 22 dX8_write_22 (fun h4 => ?_)
    refine S_aload_0 23 dX8_write_23 ?_
    refine S_dup 24 dX8_write_24 rfl ?_
    refine S_getI 25 fsX8_299 rfl dX8_write_25 ?_
    refine S_ic 28 1 dX8_write_28 (by decide) ?_
    refine S_iadd 29 dX8_write_29 ?_
    refine S_putI 30 frX8_299 rfl (fun q => by cases q) dX8_write_30 (fun h5 => ?_)
    exact S_drop [0, 1] rfl (hj33 _)
def FX8_writeModule (E : XG) (t : Nat) (p1 : Int32) (h : XH) : XP Int32 := xg (xk h t = 9) <| xb (FX8_moduleAt E t p1 h) fun v1 h2 => xg (xk h2 t = 9) <| xnn (xr h2 t 5) fun w3 => xg (xk h2 w3 = 8) <| xnn (xr h2 w3 1) fun w4 => xg (xk h2 t = 9) <| xlt (yi h2 t 13 0) fun h5 => xlp (fun again22 (s22 : Int32) h6 => xg (xk h6 w4 = 4) <| xb (FX3_lengthOf E w4 p1 h6) fun v7 h8 => if (v7 : Int32) ≤ s22 then (xlp (fun again52 (s52 : Int32) h9 => xg (xk h9 v1 = 2) <| xnn (xr h9 v1 1) fun w10 => xg (xk h9 w10 = 3) <| if ((xi h9 w10 3) : Int32) ≤ s52 then (xg (xk h9 v1 = 2) <| xjn (fun  (h11 : XH) => xg (xk h11 t = 9) <| xv (xi h11 t 13) h11) fun (j123 : XH → XP Int32) => if ((xi h9 v1 7) : Int32) = 0 then (j123 h9) else (xg (xk h9 t = 9) <| xb (FX8_write E t 59 h9) fun _ h12 => xg (xk h12 v1 = 2) <| xg (xk h12 t = 9) <| xb (FX8_write E t (48 + (xi h12 v1 7)) h12) fun _ h13 => j123 h13)) else (xjn (fun (v14 : Int32) (h15 : XH) => xg (xk h15 t = 9) <| xb (FX8_write E t v14 h15) fun _ h16 => xg (xk h16 v1 = 2) <| xb (FX1_boundaryOf E v1 s52 h16) fun v17 h18 => xg (xk h18 t = 9) <| xb (FX8_write E t (48 + v17) h18) fun _ h19 => again52 (s52 + 1) h19) fun (j77 : Int32 → XH → XP Int32) => if (s52 : Int32) = 0 then (j77 58 h9) else (j77 44 h9))) xfu 0 h8) else (xg (xk h8 w4 = 4) <| xb (FX3_letterOf E w4 p1 s22 h8) fun v20 h21 => xg (xk h21 t = 9) <| xb (FX8_write E t v20 h21) fun _ h22 => again22 (s22 + 1) h22)) xfu 0 h5
theorem CX8_writeModule (E : XG) (t : Nat) (p1 : Int32) (h : XH) : XN E mX8_writeModule eI 0 0 [.ref t, .int p1] h (FX8_writeModule E t p1 h) := by
  unfold FX8_writeModule
  refine S_enter (L := [some (.ref t), some (.int p1), none, none, none]) (by decide +kernel) rfl rfl rfl ?_
  refine S_aload_0 0 dX8_writeModule_0 ?_
  refine S_iload_1 1 dX8_writeModule_1 ?_
  refine S_callV (a' := 0) (b' := 0) (a := 0) (b := 0) 2 (As := [.int p1]) (ci := 8) rfl calX8_moduleAt imX8_moduleAt seX8_moduleAt mkX8_154 rfl rfl rfl rfl rfl (by decide) rfl rfl dX8_writeModule_2 (CX8_moduleAt E t p1 h) (fun v1 h2 => kqR ?_)
  refine S_astore_2 5 dX8_writeModule_5 rfl ?_
  refine S_aload_0 6 dX8_writeModule_6 ?_
  refine S_getR 7 fsX8_20 rfl dX8_writeModule_7 (fun w3 => ?_)
  refine S_getR 10 fsX8_91 rfl dX8_writeModule_10 (fun w4 => ?_)
  refine S_astore_3 13 dX8_writeModule_13 rfl ?_
  refine S_aload_0 14 dX8_writeModule_14 ?_
  refine S_ic 15 0 dX8_writeModule_15 (by decide) ?_
  refine S_putI 16 frX8_299 rfl (fun q => by cases q) dX8_writeModule_16 (fun h5 => ?_)
  refine S_ic 19 0 dX8_writeModule_19 (by decide) ?_
  refine S_istore_4 20 dX8_writeModule_20 rfl ?_
  refine S_loop (fun (s22 : Int32) => [some (.ref t), some (.int p1), some (.ref v1), some (.ref w4), some (.int s22)]) (fun again22 hg22 s22 h6 => ?_) xfu _ _
  refine S_iload_4 22 dX8_writeModule_22 ?_
  refine S_aload_3 24 dX8_writeModule_24 ?_
  refine S_iload_1 25 dX8_writeModule_25 ?_
  refine S_callV (a' := 0) (b' := 0) (a := 0) (b := 0) 26 (As := [.int p1]) (ci := 3) rfl calX3_lengthOf imX3_lengthOf seX3_lengthOf mkX8_111 rfl rfl rfl rfl rfl (by decide) rfl rfl dX8_writeModule_26 (CX3_lengthOf E w4 p1 h6) (fun v7 h8 => kqI ?_)
  refine S_icmpge 29 49 dX8_writeModule_29 (by decide) ?_ ?_
  · skip
    refine S_ic 49 0 dX8_writeModule_49 (by decide) ?_
    refine S_istore_4 50 dX8_writeModule_50 rfl ?_
    refine S_drop [1, 3] rfl ?_
    refine S_loop (fun (s52 : Int32) => [some (.ref t), none, some (.ref v1), none, some (.int s52)]) (fun again52 hg52 s52 h9 => ?_) xfu _ _
    refine S_iload_4 52 dX8_writeModule_52 ?_
    refine S_aload_2 54 dX8_writeModule_54 ?_
    refine S_getR 55 fsX8_167 rfl dX8_writeModule_55 (fun w10 => ?_)
    refine S_getI 58 fsX8_123 rfl dX8_writeModule_58 ?_
    refine S_icmpge 61 99 dX8_writeModule_61 (by decide) ?_ ?_
    · skip
      refine S_aload_2 99 dX8_writeModule_99 ?_
      refine S_getI 100 fsX8_176 rfl dX8_writeModule_100 ?_
      refine S_join (fun jj => ∀  (h11 : XH), XS E mX8_writeModule eI 0 0 123 [some (.ref t), none, none, none, none] [] h11 (jj  h11)) (fun  h11 => ?_) (fun j123 hj123 => ?_)
      · skip
        refine S_aload_0 123 dX8_writeModule_123 ?_
        refine S_getI 124 fsX8_299 rfl dX8_writeModule_124 ?_
        exact S_iret 127 dX8_writeModule_127 rfl
      refine S_ifeq 103 123 dX8_writeModule_103 (by decide) ?_ ?_
      · skip
        exact S_drop [2, 4] rfl (hj123 _)
      · skip
        refine S_aload_0 106 dX8_writeModule_106 ?_
        refine S_bip 107 59 dX8_writeModule_107 (by decide) ?_
        refine S_callV (a' := 0) (b' := 0) (a := 0) (b := 0) 109 (As := [.int 59]) (ci := 8) rfl calX8_write imX8_write seX8_write mkX8_302 rfl rfl rfl rfl rfl (by decide) rfl rfl dX8_writeModule_109 (CX8_write E t 59 h9) (fun _ h12 => kqU ?_)
        refine S_aload_0 112 dX8_writeModule_112 ?_
        refine S_bip 113 48 dX8_writeModule_113 (by decide) ?_
        refine S_aload_2 115 dX8_writeModule_115 ?_
        refine S_getI 116 fsX8_176 rfl dX8_writeModule_116 ?_
        refine S_iadd 119 dX8_writeModule_119 ?_
        refine S_callV (a' := 0) (b' := 0) (a := 0) (b := 0) 120 (As := [.int (48 + (xi h12 v1 7))]) (ci := 8) rfl calX8_write imX8_write seX8_write mkX8_302 rfl rfl rfl rfl rfl (by decide) rfl rfl dX8_writeModule_120 (CX8_write E t (48 + (xi h12 v1 7)) h12) (fun _ h13 => kqU ?_)
        exact S_drop [2, 4] rfl (hj123 _)
    · skip
      refine S_aload_0 64 dX8_writeModule_64 ?_
      refine S_iload_4 65 dX8_writeModule_65 ?_
      refine S_join (fun jj => ∀ (v14 : Int32) (h15 : XH), XS E mX8_writeModule eI 0 0 77 [some (.ref t), none, some (.ref v1), none, some (.int s52)] [.int v14, .ref t] h15 (jj v14 h15)) (fun v14 h15 => ?_) (fun j77 hj77 => ?_)
      · skip
        refine S_callV (a' := 0) (b' := 0) (a := 0) (b := 0) 77 (As := [.int v14]) (ci := 8) rfl calX8_write imX8_write seX8_write mkX8_302 rfl rfl rfl rfl rfl (by decide) rfl rfl dX8_writeModule_77 (CX8_write E t v14 h15) (fun _ h16 => kqU ?_)
        refine S_aload_0 80 dX8_writeModule_80 ?_
        refine S_bip 81 48 dX8_writeModule_81 (by decide) ?_
        refine S_aload_2 83 dX8_writeModule_83 ?_
        refine S_iload_4 84 dX8_writeModule_84 ?_
        refine S_callV (a' := 0) (b' := 0) (a := 0) (b := 0) 86 (As := [.int s52]) (ci := 1) rfl calX1_boundaryOf imX1_boundaryOf seX1_boundaryOf mkX8_170 rfl rfl rfl rfl rfl (by decide) rfl rfl dX8_writeModule_86 (CX1_boundaryOf E v1 s52 h16) (fun v17 h18 => kqI ?_)
        refine S_iadd 89 dX8_writeModule_89 ?_
        refine S_callV (a' := 0) (b' := 0) (a := 0) (b := 0) 90 (As := [.int (48 + v17)]) (ci := 8) rfl calX8_write imX8_write seX8_write mkX8_302 rfl rfl rfl rfl rfl (by decide) rfl rfl dX8_writeModule_90 (CX8_write E t (48 + v17) h18) (fun _ h19 => kqU ?_)
        refine S_iinc_4 93 (s52 + 1) dX8_writeModule_93 (by rfl) rfl ?_
        refine S_goto 96 52 dX8_writeModule_96 (by decide) ?_
        exact S_drop [] rfl (hg52 _ _)
      refine S_ifne 67 75 dX8_writeModule_67 (by decide) ?_ ?_
      · skip
        refine S_bip 75 44 dX8_writeModule_75 (by decide) ?_
        exact S_drop [] rfl (hj77 _ _)
      · skip
        refine S_bip 70 58 dX8_writeModule_70 (by decide) ?_
        refine S_goto 72 77 dX8_writeModule_72 (by decide) ?_
        exact S_drop [] rfl (hj77 _ _)
  · skip
    refine S_aload_0 32 dX8_writeModule_32 ?_
    refine S_aload_3 33 dX8_writeModule_33 ?_
    refine S_iload_1 34 dX8_writeModule_34 ?_
    refine S_iload_4 35 dX8_writeModule_35 ?_
    refine S_callV (a' := 0) (b' := 0) (a := 0) (b := 0) 37 (As := [.int p1, .int s22]) (ci := 3) rfl calX3_letterOf imX3_letterOf seX3_letterOf mkX8_115 rfl rfl rfl rfl rfl (by decide) rfl rfl dX8_writeModule_37 (CX3_letterOf E w4 p1 s22 h8) (fun v20 h21 => kqI ?_)
    refine S_callV (a' := 0) (b' := 0) (a := 0) (b := 0) 40 (As := [.int v20]) (ci := 8) rfl calX8_write imX8_write seX8_write mkX8_302 rfl rfl rfl rfl rfl (by decide) rfl rfl dX8_writeModule_40 (CX8_write E t v20 h21) (fun _ h22 => kqU ?_)
    refine S_iinc_4 43 (s22 + 1) dX8_writeModule_43 (by rfl) rfl ?_
    refine S_goto 46 22 dX8_writeModule_46 (by decide) ?_
    exact S_drop [] rfl (hg22 _ _)
