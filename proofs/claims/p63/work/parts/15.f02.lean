/-! Methods as functions, 2. -/
set_option linter.unusedVariables false
set_option maxRecDepth 10000
def FX1_imageSet (E : XG) (t : Nat) (h : XH) : XP Int32 := xlp (fun again4 (s4 : Int32 × Int32) h1 => xg (xk h1 t = 2) <| xnn (xr h1 t 1) fun w2 => xg (xk h1 w2 = 3) <| if ((xi h1 w2 3) : Int32) ≤ s4.2 then (xv s4.1 h1) else (xg (xk h1 t = 2) <| xb (FX1_boundaryOf E t s4.2 h1) fun v3 h4 => xlt (s4.1 ||| (1 <<< (v3 &&& 31))) fun v5 => again4 (v5, (s4.2 + 1)) h4)) xfu (0, 0) h
theorem CX1_imageSet (E : XG) (t : Nat) (h : XH) : XN E mX1_imageSet eI 0 0 [.ref t] h (FX1_imageSet E t h) := by
  unfold FX1_imageSet
  refine S_enter (L := [some (.ref t), none, none]) (by decide +kernel) rfl rfl rfl ?_
  refine S_ic 0 0 dX1_imageSet_0 (by decide) ?_
  refine S_istore_1 1 dX1_imageSet_1 rfl ?_
  refine S_ic 2 0 dX1_imageSet_2 (by decide) ?_
  refine S_istore_2 3 dX1_imageSet_3 rfl ?_
  refine S_loop (fun (s4 : Int32 × Int32) => [some (.ref t), some (.int s4.1), some (.int s4.2)]) (fun again4 hg4 s4 h1 => ?_) xfu _ _
  refine S_iload_2 4 dX1_imageSet_4 ?_
  refine S_aload_0 5 dX1_imageSet_5 ?_
  refine S_getR 6 fsX1_29 rfl dX1_imageSet_6 (fun w2 => ?_)
  refine S_getI 9 fsX1_56 rfl dX1_imageSet_9 ?_
  refine S_icmpge 12 31 dX1_imageSet_12 (by decide) ?_ ?_
  · skip
    refine S_iload_1 31 dX1_imageSet_31 ?_
    exact S_iret 32 dX1_imageSet_32 rfl
  · skip
    refine S_iload_1 15 dX1_imageSet_15 ?_
    refine S_ic 16 1 dX1_imageSet_16 (by decide) ?_
    refine S_aload_0 17 dX1_imageSet_17 ?_
    refine S_iload_2 18 dX1_imageSet_18 ?_
    refine S_callV (a' := 0) (b' := 0) (a := 0) (b := 0) 19 (As := [.int s4.2]) (ci := 1) rfl calX1_boundaryOf imX1_boundaryOf seX1_boundaryOf mkX1_88 rfl rfl rfl rfl rfl (by decide) rfl rfl dX1_imageSet_19 (CX1_boundaryOf E t s4.2 h1) (fun v3 h4 => kqI ?_)
    refine S_ishl 22 dX1_imageSet_22 ?_
    refine S_ior 23 dX1_imageSet_23 ?_
    refine S_gen (fun v5 => ?_)
    refine S_istore_1 24 dX1_imageSet_24 rfl ?_
    refine S_iinc_2 25 (s4.2 + 1) dX1_imageSet_25 (by rfl) rfl ?_
    refine S_goto 28 4 dX1_imageSet_28 (by decide) ?_
    exact S_drop [] rfl (hg4 _ _)
def FX1_stabilizer (E : XG) (t : Nat) (p1 : Int32) (h : XH) : XP Int32 := xlp (fun again4 (s4 : Int32 × Int32) h1 => xg (xk h1 t = 2) <| xnn (xr h1 t 2) fun w2 => xg (xk h1 w2 = 3) <| if ((xi h1 w2 3) : Int32) ≤ s4.2 then (xv s4.1 h1) else (xg (xk h1 t = 2) <| xb (FX1_actionOf E t s4.2 p1 h1) fun v3 h4 => xjn (fun (v5 : Int32) (h6 : XH) => xlt (s4.1 ||| v5) fun v7 => again4 (v7, (s4.2 + 1)) h6) fun (j33 : Int32 → XH → XP Int32) => if (v3 : Int32) = p1 then (j33 (1 <<< (s4.2 &&& 31)) h4) else (j33 0 h4))) xfu (0, 0) h
theorem CX1_stabilizer (E : XG) (t : Nat) (p1 : Int32) (h : XH) : XN E mX1_stabilizer eI 0 0 [.ref t, .int p1] h (FX1_stabilizer E t p1 h) := by
  unfold FX1_stabilizer
  refine S_enter (L := [some (.ref t), some (.int p1), none, none]) (by decide +kernel) rfl rfl rfl ?_
  refine S_ic 0 0 dX1_stabilizer_0 (by decide) ?_
  refine S_istore_2 1 dX1_stabilizer_1 rfl ?_
  refine S_ic 2 0 dX1_stabilizer_2 (by decide) ?_
  refine S_istore_3 3 dX1_stabilizer_3 rfl ?_
  refine S_loop (fun (s4 : Int32 × Int32) => [some (.ref t), some (.int p1), some (.int s4.1), some (.int s4.2)]) (fun again4 hg4 s4 h1 => ?_) xfu _ _
  refine S_iload_3 4 dX1_stabilizer_4 ?_
  refine S_aload_0 5 dX1_stabilizer_5 ?_
  refine S_getR 6 fsX1_33 rfl dX1_stabilizer_6 (fun w2 => ?_)
  refine S_getI 9 fsX1_56 rfl dX1_stabilizer_9 ?_
  refine S_icmpge 12 41 dX1_stabilizer_12 (by decide) ?_ ?_
  · skip
    refine S_iload_2 41 dX1_stabilizer_41 ?_
    exact S_iret 42 dX1_stabilizer_42 rfl
  · skip
    refine S_iload_2 15 dX1_stabilizer_15 ?_
    refine S_aload_0 16 dX1_stabilizer_16 ?_
    refine S_iload_3 17 dX1_stabilizer_17 ?_
    refine S_iload_1 18 dX1_stabilizer_18 ?_
    refine S_callV (a' := 0) (b' := 0) (a := 0) (b := 0) 19 (As := [.int s4.2, .int p1]) (ci := 1) rfl calX1_actionOf imX1_actionOf seX1_actionOf mkX1_49 rfl rfl rfl rfl rfl (by decide) rfl rfl dX1_stabilizer_19 (CX1_actionOf E t s4.2 p1 h1) (fun v3 h4 => kqI ?_)
    refine S_iload_1 22 dX1_stabilizer_22 ?_
    refine S_join (fun jj => ∀ (v5 : Int32) (h6 : XH), XS E mX1_stabilizer eI 0 0 33 [some (.ref t), some (.int p1), none, some (.int s4.2)] [.int v5, .int s4.1] h6 (jj v5 h6)) (fun v5 h6 => ?_) (fun j33 hj33 => ?_)
    · skip
      refine S_ior 33 dX1_stabilizer_33 ?_
      refine S_gen (fun v7 => ?_)
      refine S_istore_2 34 dX1_stabilizer_34 rfl ?_
      refine S_iinc_3 35 (s4.2 + 1) dX1_stabilizer_35 (by rfl) rfl ?_
      refine S_goto 38 4 dX1_stabilizer_38 (by decide) ?_
      exact S_drop [] rfl (hg4 _ _)
    refine S_icmpne 23 32 dX1_stabilizer_23 (by decide) ?_ ?_
    · skip
      refine S_ic 32 0 dX1_stabilizer_32 (by decide) ?_
      exact S_drop [2] rfl (hj33 _ _)
    · skip
      refine S_ic 26 1 dX1_stabilizer_26 (by decide) ?_
      refine S_iload_3 27 dX1_stabilizer_27 ?_
      refine S_ishl 28 dX1_stabilizer_28 ?_
      refine S_goto 29 33 dX1_stabilizer_29 (by decide) ?_
      exact S_drop [2] rfl (hj33 _ _)
def FX1_orbitSet (E : XG) (t : Nat) (p1 : Int32) (h : XH) : XP Int32 := xlp (fun again4 (s4 : Int32 × Int32) h1 => xg (xk h1 t = 2) <| xnn (xr h1 t 2) fun w2 => xg (xk h1 w2 = 3) <| if ((xi h1 w2 3) : Int32) ≤ s4.2 then (xv s4.1 h1) else (xg (xk h1 t = 2) <| xb (FX1_actionOf E t s4.2 p1 h1) fun v3 h4 => xlt (s4.1 ||| (1 <<< (v3 &&& 31))) fun v5 => again4 (v5, (s4.2 + 1)) h4)) xfu (0, 0) h
theorem CX1_orbitSet (E : XG) (t : Nat) (p1 : Int32) (h : XH) : XN E mX1_orbitSet eI 0 0 [.ref t, .int p1] h (FX1_orbitSet E t p1 h) := by
  unfold FX1_orbitSet
  refine S_enter (L := [some (.ref t), some (.int p1), none, none]) (by decide +kernel) rfl rfl rfl ?_
  refine S_ic 0 0 dX1_orbitSet_0 (by decide) ?_
  refine S_istore_2 1 dX1_orbitSet_1 rfl ?_
  refine S_ic 2 0 dX1_orbitSet_2 (by decide) ?_
  refine S_istore_3 3 dX1_orbitSet_3 rfl ?_
  refine S_loop (fun (s4 : Int32 × Int32) => [some (.ref t), some (.int p1), some (.int s4.1), some (.int s4.2)]) (fun again4 hg4 s4 h1 => ?_) xfu _ _
  refine S_iload_3 4 dX1_orbitSet_4 ?_
  refine S_aload_0 5 dX1_orbitSet_5 ?_
  refine S_getR 6 fsX1_33 rfl dX1_orbitSet_6 (fun w2 => ?_)
  refine S_getI 9 fsX1_56 rfl dX1_orbitSet_9 ?_
  refine S_icmpge 12 32 dX1_orbitSet_12 (by decide) ?_ ?_
  · skip
    refine S_iload_2 32 dX1_orbitSet_32 ?_
    exact S_iret 33 dX1_orbitSet_33 rfl
  · skip
    refine S_iload_2 15 dX1_orbitSet_15 ?_
    refine S_ic 16 1 dX1_orbitSet_16 (by decide) ?_
    refine S_aload_0 17 dX1_orbitSet_17 ?_
    refine S_iload_3 18 dX1_orbitSet_18 ?_
    refine S_iload_1 19 dX1_orbitSet_19 ?_
    refine S_callV (a' := 0) (b' := 0) (a := 0) (b := 0) 20 (As := [.int s4.2, .int p1]) (ci := 1) rfl calX1_actionOf imX1_actionOf seX1_actionOf mkX1_49 rfl rfl rfl rfl rfl (by decide) rfl rfl dX1_orbitSet_20 (CX1_actionOf E t s4.2 p1 h1) (fun v3 h4 => kqI ?_)
    refine S_ishl 23 dX1_orbitSet_23 ?_
    refine S_ior 24 dX1_orbitSet_24 ?_
    refine S_gen (fun v5 => ?_)
    refine S_istore_2 25 dX1_orbitSet_25 rfl ?_
    refine S_iinc_3 26 (s4.2 + 1) dX1_orbitSet_26 (by rfl) rfl ?_
    refine S_goto 29 4 dX1_orbitSet_29 (by decide) ?_
    exact S_drop [] rfl (hg4 _ _)
def FX2_period (E : XG) (t : Nat) (p1 : Int32) (h : XH) : XP Int32 := xlp (fun again4 (s4 : Int32 × Int32) h1 => xjn (fun  (h2 : XH) => xv s4.1 h2) fun (j27 : XH → XP Int32) => if (s4.2 : Int32) = 0 then (j27 h1) else (if (8 : Int32) ≤ s4.1 then (j27 h1) else (xg (xk h1 t = 3) <| xb (FX2_product E t s4.2 p1 h1) fun v3 h4 => again4 ((s4.1 + 1), v3) h4))) xfu (1, p1) h
theorem CX2_period (E : XG) (t : Nat) (p1 : Int32) (h : XH) : XN E mX2_period eI 0 0 [.ref t, .int p1] h (FX2_period E t p1 h) := by
  unfold FX2_period
  refine S_enter (L := [some (.ref t), some (.int p1), none, none]) (by decide +kernel) rfl rfl rfl ?_
  refine S_ic 0 1 dX2_period_0 (by decide) ?_
  refine S_istore_2 1 dX2_period_1 rfl ?_
  refine S_iload_1 2 dX2_period_2 ?_
  refine S_istore_3 3 dX2_period_3 rfl ?_
  refine S_loop (fun (s4 : Int32 × Int32) => [some (.ref t), some (.int p1), some (.int s4.1), some (.int s4.2)]) (fun again4 hg4 s4 h1 => ?_) xfu _ _
  refine S_iload_3 4 dX2_period_4 ?_
  refine S_join (fun jj => ∀  (h2 : XH), XS E mX2_period eI 0 0 27 [none, none, some (.int s4.1), none] [] h2 (jj  h2)) (fun  h2 => ?_) (fun j27 hj27 => ?_)
  · skip
    refine S_iload_2 27 dX2_period_27 ?_
    exact S_iret 28 dX2_period_28 rfl
  refine S_ifeq 5 27 dX2_period_5 (by decide) ?_ ?_
  · skip
    exact S_drop [0, 1, 3] rfl (hj27 _)
  · skip
    refine S_iload_2 8 dX2_period_8 ?_
    refine S_bip 9 8 dX2_period_9 (by decide) ?_
    refine S_icmpge 11 27 dX2_period_11 (by decide) ?_ ?_
    · skip
      exact S_drop [0, 1, 3] rfl (hj27 _)
    · skip
      refine S_aload_0 14 dX2_period_14 ?_
      refine S_iload_3 15 dX2_period_15 ?_
      refine S_iload_1 16 dX2_period_16 ?_
      refine S_callV (a' := 0) (b' := 0) (a := 0) (b := 0) 17 (As := [.int s4.2, .int p1]) (ci := 2) rfl calX2_product imX2_product seX2_product mkX2_29 rfl rfl rfl rfl rfl (by decide) rfl rfl dX2_period_17 (CX2_product E t s4.2 p1 h1) (fun v3 h4 => kqI ?_)
      refine S_istore_3 20 dX2_period_20 rfl ?_
      refine S_iinc_2 21 (s4.1 + 1) dX2_period_21 (by rfl) rfl ?_
      refine S_goto 24 4 dX2_period_24 (by decide) ?_
      exact S_drop [] rfl (hg4 _ _)
def FX4_addOne (E : XG) (p1 : Nat) (p2 : Int32) (h : XH) : XP Unit := xb (FX8_at E p1 p2 h) fun v1 h2 => xb (FX8_put E p1 p2 (v1 + 1) h2) fun _ h3 => xv () h3
theorem CX4_addOne (E : XG) (p1 : Nat) (p2 : Int32) (h : XH) : XN E mX4_addOne eU 0 0 [.ref p1, .int p2] h (FX4_addOne E p1 p2 h) := by
  unfold FX4_addOne
  refine S_enter (L := [some (.ref p1), some (.int p2)]) (by decide +kernel) rfl rfl rfl ?_
  refine S_aload_0 0 dX4_addOne_0 ?_
  refine S_iload_1 1 dX4_addOne_1 ?_
  refine S_aload_0 2 dX4_addOne_2 ?_
  refine S_iload_1 3 dX4_addOne_3 ?_
  refine S_callSN (a' := 0) (b' := 0) (a := 0) (b := 0) 4 (As := [.ref p1, .int p2]) rfl calX8_at stX8_at (List.mem_of_getElem? (i := 11) rfl) rfl rfl rfl rfl rfl dX4_addOne_4 (CX8_at E p1 p2 h) (fun v1 h2 => kqI ?_)
  refine S_ic 7 1 dX4_addOne_7 (by decide) ?_
  refine S_iadd 8 dX4_addOne_8 ?_
  refine S_callSN (a' := 0) (b' := 0) (a := 0) (b := 0) 9 (As := [.ref p1, .int p2, .int (v1 + 1)]) rfl calX8_put stX8_put (List.mem_of_getElem? (i := 12) rfl) rfl rfl rfl rfl rfl dX4_addOne_9 (CX8_put E p1 p2 (v1 + 1) h2) (fun _ h3 => kqU ?_)
  exact S_ret 12 dX4_addOne_12 rfl
def FX4_product (E : XG) (t : Nat) (p1 : Nat) (p2 : Int32) (p3 : Int32) (h : XH) : XP Int32 := xg (xk h t = 5) <| xnn (xr h t 0) fun w1 => xg (xk h t = 5) <| xnn (xr h t 1) fun w2 => xb (FX8_at E w2 p2 h) fun v3 h4 => xg (xk h4 t = 5) <| xnn (xr h4 t 1) fun w5 => xb (FX8_at E w5 p3 h4) fun v6 h7 => xg (xk h7 p1 = 3) <| xb (FX2_product E p1 v3 v6 h7) fun v8 h9 => xb (FX8_at E w1 v8 h9) fun v10 h11 => xv v10 h11
theorem CX4_product (E : XG) (t : Nat) (p1 : Nat) (p2 : Int32) (p3 : Int32) (h : XH) : XN E mX4_product eI 0 0 [.ref t, .ref p1, .int p2, .int p3] h (FX4_product E t p1 p2 p3 h) := by
  unfold FX4_product
  refine S_enter (L := [some (.ref t), some (.ref p1), some (.int p2), some (.int p3)]) (by decide +kernel) rfl rfl rfl ?_
  refine S_aload_0 0 dX4_product_0 ?_
  refine S_getR 1 fsX4_9 rfl dX4_product_1 (fun w1 => ?_)
  refine S_aload_1 4 dX4_product_4 ?_
  refine S_aload_0 5 dX4_product_5 ?_
  refine S_getR 6 fsX4_15 rfl dX4_product_6 (fun w2 => ?_)
  refine S_iload_2 9 dX4_product_9 ?_
  refine S_callSN (a' := 0) (b' := 0) (a := 0) (b := 0) 10 (As := [.ref w2, .int p2]) rfl calX8_at stX8_at (List.mem_of_getElem? (i := 11) rfl) rfl rfl rfl rfl rfl dX4_product_10 (CX8_at E w2 p2 h) (fun v3 h4 => kqI ?_)
  refine S_aload_0 13 dX4_product_13 ?_
  refine S_getR 14 fsX4_15 rfl dX4_product_14 (fun w5 => ?_)
  refine S_iload_3 17 dX4_product_17 ?_
  refine S_callSN (a' := 0) (b' := 0) (a := 0) (b := 0) 18 (As := [.ref w5, .int p3]) rfl calX8_at stX8_at (List.mem_of_getElem? (i := 11) rfl) rfl rfl rfl rfl rfl dX4_product_18 (CX8_at E w5 p3 h4) (fun v6 h7 => kqI ?_)
  refine S_callV (a' := 0) (b' := 0) (a := 0) (b := 0) 21 (As := [.int v3, .int v6]) (ci := 2) rfl calX2_product imX2_product seX2_product mkX4_32 rfl rfl rfl rfl rfl (by decide) rfl rfl dX4_product_21 (CX2_product E p1 v3 v6 h7) (fun v8 h9 => kqI ?_)
  refine S_callSN (a' := 0) (b' := 0) (a := 0) (b := 0) 24 (As := [.ref w1, .int v8]) rfl calX8_at stX8_at (List.mem_of_getElem? (i := 11) rfl) rfl rfl rfl rfl rfl dX4_product_24 (CX8_at E w1 v8 h9) (fun v10 h11 => kqI ?_)
  exact S_iret 27 dX4_product_27 rfl
def FX4_period (E : XG) (t : Nat) (p1 : Nat) (p2 : Int32) (h : XH) : XP Int32 := xlp (fun again5 (s5 : Int32 × Int32) h1 => xjn (fun  (h2 : XH) => xv s5.1 h2) fun (j32 : XH → XP Int32) => if (s5.2 : Int32) = 0 then (j32 h1) else (if (8 : Int32) ≤ s5.1 then (j32 h1) else (xg (xk h1 t = 5) <| xb (FX4_product E t p1 s5.2 p2 h1) fun v3 h4 => again5 ((s5.1 + 1), v3) h4))) xfu (1, p2) h
theorem CX4_period (E : XG) (t : Nat) (p1 : Nat) (p2 : Int32) (h : XH) : XN E mX4_period eI 0 0 [.ref t, .ref p1, .int p2] h (FX4_period E t p1 p2 h) := by
  unfold FX4_period
  refine S_enter (L := [some (.ref t), some (.ref p1), some (.int p2), none, none]) (by decide +kernel) rfl rfl rfl ?_
  refine S_ic 0 1 dX4_period_0 (by decide) ?_
  refine S_istore_3 1 dX4_period_1 rfl ?_
  refine S_iload_2 2 dX4_period_2 ?_
  refine S_istore_4 3 dX4_period_3 rfl ?_
  refine S_loop (fun (s5 : Int32 × Int32) => [some (.ref t), some (.ref p1), some (.int p2), some (.int s5.1), some (.int s5.2)]) (fun again5 hg5 s5 h1 => ?_) xfu _ _
  refine S_iload_4 5 dX4_period_5 ?_
  refine S_join (fun jj => ∀  (h2 : XH), XS E mX4_period eI 0 0 32 [none, none, none, some (.int s5.1), none] [] h2 (jj  h2)) (fun  h2 => ?_) (fun j32 hj32 => ?_)
  · skip
    refine S_iload_3 32 dX4_period_32 ?_
    exact S_iret 33 dX4_period_33 rfl
  refine S_ifeq 7 32 dX4_period_7 (by decide) ?_ ?_
  · skip
    exact S_drop [0, 1, 2, 4] rfl (hj32 _)
  · skip
    refine S_iload_3 10 dX4_period_10 ?_
    refine S_bip 11 8 dX4_period_11 (by decide) ?_
    refine S_icmpge 13 32 dX4_period_13 (by decide) ?_ ?_
    · skip
      exact S_drop [0, 1, 2, 4] rfl (hj32 _)
    · skip
      refine S_aload_0 16 dX4_period_16 ?_
      refine S_aload_1 17 dX4_period_17 ?_
      refine S_iload_4 18 dX4_period_18 ?_
      refine S_iload_2 20 dX4_period_20 ?_
      refine S_callV (a' := 0) (b' := 0) (a := 0) (b := 0) 21 (As := [.ref p1, .int s5.2, .int p2]) (ci := 4) rfl calX4_product imX4_product seX4_product mkX4_38 rfl rfl rfl rfl rfl (by decide) rfl rfl dX4_period_21 (CX4_product E t p1 s5.2 p2 h1) (fun v3 h4 => kqI ?_)
      refine S_istore_4 24 dX4_period_24 rfl ?_
      refine S_iinc_3 26 (s5.1 + 1) dX4_period_26 (by rfl) rfl ?_
      refine S_goto 29 5 dX4_period_29 (by decide) ?_
      exact S_drop [] rfl (hg5 _ _)
def FX4_countOrders (E : XG) (t : Nat) (p1 : Nat) (h : XH) : XP Unit := xg (xk h t = 5) <| xnn (xr h t 2) fun w1 => xb (FJ7_fill_53178 E w1 0 h) fun _ h2 => xg (xk h2 t = 5) <| xnn (xr h2 t 3) fun w3 => xb (FJ7_fill_53178 E w3 0 h2) fun _ h4 => xlp (fun again18 (s18 : Int32) h5 => xg (xk h5 p1 = 2) <| xnn (xr h5 p1 1) fun w6 => xg (xk h5 w6 = 3) <| if ((xi h5 w6 3) : Int32) ≤ s18 then (xlp (fun again60 (s60 : Int32) h7 => xg (xk h7 t = 5) <| if ((xi h7 t 4) : Int32) ≤ s60 then (xv () h7) else (xg (xk h7 t = 5) <| xnn (xr h7 t 3) fun w8 => xg (xk h7 p1 = 2) <| xnn (xr h7 p1 2) fun w9 => xg (xk h7 t = 5) <| xb (FX4_period E t w9 s60 h7) fun v10 h11 => xb (FX4_addOne E w8 v10 h11) fun _ h12 => again60 (s60 + 1) h12)) xfu 0 h5) else (xg (xk h5 p1 = 2) <| xb (FX1_boundaryOf E p1 s18 h5) fun v13 h14 => xjn (fun  (h15 : XH) => again18 (s18 + 1) h15) fun (j52 : XH → XP Unit) => if (v13 : Int32) = 0 then (xg (xk h14 t = 5) <| xnn (xr h14 t 2) fun w16 => xg (xk h14 p1 = 2) <| xnn (xr h14 p1 1) fun w17 => xg (xk h14 w17 = 3) <| xb (FX2_period E w17 s18 h14) fun v18 h19 => xb (FX4_addOne E w16 v18 h19) fun _ h20 => j52 h20) else (j52 h14))) xfu 0 h4
theorem CX4_countOrders (E : XG) (t : Nat) (p1 : Nat) (h : XH) : XN E mX4_countOrders eU 0 0 [.ref t, .ref p1] h (FX4_countOrders E t p1 h) := by
  unfold FX4_countOrders
  refine S_enter (L := [some (.ref t), some (.ref p1), none]) (by decide +kernel) rfl rfl rfl ?_
  refine S_aload_0 0 dX4_countOrders_0 ?_
  refine S_getR 1 fsX4_18 rfl dX4_countOrders_1 (fun w1 => ?_)
  refine S_ic 4 0 dX4_countOrders_4 (by decide) ?_
  refine S_callS (a' := 0) (b' := 0) (a := 0) (b := 0) 5 (As := [.ref w1, .int 0]) rfl calJ7_fill_53178 stJ7_fill_53178 mkX4_41 rfl rfl rfl rfl rfl dX4_countOrders_5 (CJ7_fill_53178 E w1 0 h) (fun _ h2 => kqU ?_)
  refine S_aload_0 8 dX4_countOrders_8 ?_
  refine S_getR 9 fsX4_21 rfl dX4_countOrders_9 (fun w3 => ?_)
  refine S_ic 12 0 dX4_countOrders_12 (by decide) ?_
  refine S_callS (a' := 0) (b' := 0) (a := 0) (b := 0) 13 (As := [.ref w3, .int 0]) rfl calJ7_fill_53178 stJ7_fill_53178 mkX4_41 rfl rfl rfl rfl rfl dX4_countOrders_13 (CJ7_fill_53178 E w3 0 h2) (fun _ h4 => kqU ?_)
  refine S_ic 16 0 dX4_countOrders_16 (by decide) ?_
  refine S_istore_2 17 dX4_countOrders_17 rfl ?_
  refine S_loop (fun (s18 : Int32) => [some (.ref t), some (.ref p1), some (.int s18)]) (fun again18 hg18 s18 h5 => ?_) xfu _ _
  refine S_iload_2 18 dX4_countOrders_18 ?_
  refine S_aload_1 19 dX4_countOrders_19 ?_
  refine S_getR 20 fsX4_64 rfl dX4_countOrders_20 (fun w6 => ?_)
  refine S_getI 23 fsX4_53 rfl dX4_countOrders_23 ?_
  refine S_icmpge 26 58 dX4_countOrders_26 (by decide) ?_ ?_
  · skip
    refine S_ic 58 0 dX4_countOrders_58 (by decide) ?_
    refine S_istore_2 59 dX4_countOrders_59 rfl ?_
    refine S_loop (fun (s60 : Int32) => [some (.ref t), some (.ref p1), some (.int s60)]) (fun again60 hg60 s60 h7 => ?_) xfu _ _
    refine S_iload_2 60 dX4_countOrders_60 ?_
    refine S_aload_0 61 dX4_countOrders_61 ?_
    refine S_getI 62 fsX4_24 rfl dX4_countOrders_62 ?_
    refine S_icmpge 65 90 dX4_countOrders_65 (by decide) ?_ ?_
    · skip
      exact S_ret 90 dX4_countOrders_90 rfl
    · skip
      refine S_aload_0 68 dX4_countOrders_68 ?_
      refine S_getR 69 fsX4_21 rfl dX4_countOrders_69 (fun w8 => ?_)
      refine S_aload_0 72 dX4_countOrders_72 ?_
      refine S_aload_1 73 dX4_countOrders_73 ?_
      refine S_getR 74 fsX4_47 rfl dX4_countOrders_74 (fun w9 => ?_)
      refine S_iload_2 77 dX4_countOrders_77 ?_
      refine S_callV (a' := 0) (b' := 0) (a := 0) (b := 0) 78 (As := [.ref w9, .int s60]) (ci := 4) rfl calX4_period imX4_period seX4_period mkX4_76 rfl rfl rfl rfl rfl (by decide) rfl rfl dX4_countOrders_78 (CX4_period E t w9 s60 h7) (fun v10 h11 => kqI ?_)
      refine S_callS (a' := 0) (b' := 0) (a := 0) (b := 0) 81 (As := [.ref w8, .int v10]) rfl calX4_addOne stX4_addOne mkX4_73 rfl rfl rfl rfl rfl dX4_countOrders_81 (CX4_addOne E w8 v10 h11) (fun _ h12 => kqU ?_)
      refine S_iinc_2 84 (s60 + 1) dX4_countOrders_84 (by rfl) rfl ?_
      refine S_goto 87 60 dX4_countOrders_87 (by decide) ?_
      exact S_drop [] rfl (hg60 _ _)
  · skip
    refine S_aload_1 29 dX4_countOrders_29 ?_
    refine S_iload_2 30 dX4_countOrders_30 ?_
    refine S_callV (a' := 0) (b' := 0) (a := 0) (b := 0) 31 (As := [.int s18]) (ci := 1) rfl calX1_boundaryOf imX1_boundaryOf seX1_boundaryOf mkX4_67 rfl rfl rfl rfl rfl (by decide) rfl rfl dX4_countOrders_31 (CX1_boundaryOf E p1 s18 h5) (fun v13 h14 => kqI ?_)
    refine S_join (fun jj => ∀  (h15 : XH), XS E mX4_countOrders eU 0 0 52 [some (.ref t), some (.ref p1), some (.int s18)] [] h15 (jj  h15)) (fun  h15 => ?_) (fun j52 hj52 => ?_)
    · skip
      refine S_iinc_2 52 (s18 + 1) dX4_countOrders_52 (by rfl) rfl ?_
      refine S_goto 55 18 dX4_countOrders_55 (by decide) ?_
      exact S_drop [] rfl (hg18 _ _)
    refine S_ifne 34 52 dX4_countOrders_34 (by decide) ?_ ?_
    · skip
      exact S_drop [] rfl (hj52 _)
    · skip
      refine S_aload_0 37 dX4_countOrders_37 ?_
      refine S_getR 38 fsX4_18 rfl dX4_countOrders_38 (fun w16 => ?_)
      refine S_aload_1 41 dX4_countOrders_41 ?_
      refine S_getR 42 fsX4_64 rfl dX4_countOrders_42 (fun w17 => ?_)
      refine S_iload_2 45 dX4_countOrders_45 ?_
      refine S_callV (a' := 0) (b' := 0) (a := 0) (b := 0) 46 (As := [.int s18]) (ci := 2) rfl calX2_period imX2_period seX2_period mkX4_70 rfl rfl rfl rfl rfl (by decide) rfl rfl dX4_countOrders_46 (CX2_period E w17 s18 h14) (fun v18 h19 => kqI ?_)
      refine S_callS (a' := 0) (b' := 0) (a := 0) (b := 0) 49 (As := [.ref w16, .int v18]) rfl calX4_addOne stX4_addOne mkX4_73 rfl rfl rfl rfl rfl dX4_countOrders_49 (CX4_addOne E w16 v18 h19) (fun _ h20 => kqU ?_)
      exact S_drop [] rfl (hj52 _)
def FX1_freshPair (E : XG) (t : Nat) (h : XH) : XP Nat := xg (xk h t = 2) <| xnn (xr h t 5) fun w1 => xg (xk h w1 = 5) <| xb (FX4_sortClasses E w1 t h) fun _ h2 => xg (xk h2 t = 2) <| xnn (xr h2 t 5) fun w3 => xg (xk h2 w3 = 5) <| xb (FX4_countOrders E w3 t h2) fun _ h4 => xg (xk h4 t = 2) <| xnn (xr h4 t 5) fun w5 => xv w5 h4
theorem CX1_freshPair (E : XG) (t : Nat) (h : XH) : XN E mX1_freshPair eR 0 0 [.ref t] h (FX1_freshPair E t h) := by
  unfold FX1_freshPair
  refine S_enter (L := [some (.ref t)]) (by decide +kernel) rfl rfl rfl ?_
  refine S_aload_0 0 dX1_freshPair_0 ?_
  refine S_getR 1 fsX1_21 rfl dX1_freshPair_1 (fun w1 => ?_)
  refine S_aload_0 4 dX1_freshPair_4 ?_
  refine S_callV (a' := 0) (b' := 0) (a := 0) (b := 0) 5 (As := [.ref t]) (ci := 4) rfl calX4_sortClasses imX4_sortClasses seX4_sortClasses mkX1_96 rfl rfl rfl rfl rfl (by decide) rfl rfl dX1_freshPair_5 (CX4_sortClasses E w1 t h) (fun _ h2 => kqU ?_)
  refine S_aload_0 8 dX1_freshPair_8 ?_
  refine S_getR 9 fsX1_21 rfl dX1_freshPair_9 (fun w3 => ?_)
  refine S_aload_0 12 dX1_freshPair_12 ?_
  refine S_callV (a' := 0) (b' := 0) (a := 0) (b := 0) 13 (As := [.ref t]) (ci := 4) rfl calX4_countOrders imX4_countOrders seX4_countOrders mkX1_100 rfl rfl rfl rfl rfl (by decide) rfl rfl dX1_freshPair_13 (CX4_countOrders E w3 t h2) (fun _ h4 => kqU ?_)
  refine S_aload_0 16 dX1_freshPair_16 ?_
  refine S_getR 17 fsX1_21 rfl dX1_freshPair_17 (fun w5 => ?_)
  exact S_aret 20 dX1_freshPair_20 rfl
def FX1_hasLarge (E : XG) (t : Nat) (p1 : Int32) (h : XH) : XP Int32 := xjn (fun (v1 : Int32) (h2 : XH) => xg ((v1 : Int32) = 0 ∨ (v1 : Int32) = 1) <| xv v1 h2) fun (j28 : Int32 → XH → XP Int32) => xjn (fun  (h3 : XH) => j28 0 h3) fun (j27 : XH → XP Int32) => if (p1 : Int32) < 0 then (j27 h) else (xg (xk h t = 2) <| xnn (xr h t 1) fun w4 => xg (xk h w4 = 3) <| xg (xk h t = 2) <| xnn (xr h t 2) fun w5 => xg (xk h w5 = 3) <| if (((xi h w4 3) * (xi h w5 3)) : Int32) ≤ p1 then (j27 h) else (j28 1 h))
theorem CX1_hasLarge (E : XG) (t : Nat) (p1 : Int32) (h : XH) : XN E mX1_hasLarge eI 0 0 [.ref t, .int p1] h (FX1_hasLarge E t p1 h) := by
  unfold FX1_hasLarge
  refine S_enter (L := [some (.ref t), some (.int p1)]) (by decide +kernel) rfl rfl rfl ?_
  refine S_iload_1 0 dX1_hasLarge_0 ?_
  refine S_join (fun jj => ∀ (v1 : Int32) (h2 : XH), XS E mX1_hasLarge eI 0 0 28 [none, none] [.int v1] h2 (jj v1 h2)) (fun v1 h2 => ?_) (fun j28 hj28 => ?_)
  · skip
    exact S_zret 28 dX1_hasLarge_28 rfl
  refine S_join (fun jj => ∀  (h3 : XH), XS E mX1_hasLarge eI 0 0 27 [none, none] [] h3 (jj  h3)) (fun  h3 => ?_) (fun j27 hj27 => ?_)
  · skip
    refine S_ic 27 0 dX1_hasLarge_27 (by decide) ?_
    exact S_drop [] rfl (hj28 _ _)
  refine S_iflt 1 27 dX1_hasLarge_1 (by decide) ?_ ?_
  · skip
    exact S_drop [0, 1] rfl (hj27 _)
  · skip
    refine S_iload_1 4 dX1_hasLarge_4 ?_
    refine S_aload_0 5 dX1_hasLarge_5 ?_
    refine S_getR 6 fsX1_29 rfl dX1_hasLarge_6 (fun w4 => ?_)
    refine S_getI 9 fsX1_56 rfl dX1_hasLarge_9 ?_
    refine S_aload_0 12 dX1_hasLarge_12 ?_
    refine S_getR 13 fsX1_33 rfl dX1_hasLarge_13 (fun w5 => ?_)
    refine S_getI 16 fsX1_56 rfl dX1_hasLarge_16 ?_
    refine S_imul 19 dX1_hasLarge_19 ?_
    refine S_icmpge 20 27 dX1_hasLarge_20 (by decide) ?_ ?_
    · skip
      exact S_drop [0, 1] rfl (hj27 _)
    · skip
      refine S_ic 23 1 dX1_hasLarge_23 (by decide) ?_
      refine S_goto 24 28 dX1_hasLarge_24 (by decide) ?_
      exact S_drop [0, 1] rfl (hj28 _ _)
def FX1_upperPart (E : XG) (t : Nat) (p1 : Int32) (h : XH) : XP Int32 := xg (xk h t = 2) <| xnn (xr h t 2) fun w1 => xg (xk h w1 = 3) <| xjn (fun (v2 : Int32) (h3 : XH) => xv v2 h3) fun (j23 : Int32 → XH → XP Int32) => if ((xi h w1 3) : Int32) ≤ 0 then (j23 0 h) else (xg (xk h t = 2) <| xnn (xr h t 2) fun w4 => xg (xk h w4 = 3) <| xg (((xi h w4 3) : Int32) ≠ 0) <| j23 (p1 / (xi h w4 3)) h)
theorem CX1_upperPart (E : XG) (t : Nat) (p1 : Int32) (h : XH) : XN E mX1_upperPart eI 0 0 [.ref t, .int p1] h (FX1_upperPart E t p1 h) := by
  unfold FX1_upperPart
  refine S_enter (L := [some (.ref t), some (.int p1)]) (by decide +kernel) rfl rfl rfl ?_
  refine S_aload_0 0 dX1_upperPart_0 ?_
  refine S_getR 1 fsX1_33 rfl dX1_upperPart_1 (fun w1 => ?_)
  refine S_getI 4 fsX1_56 rfl dX1_upperPart_4 ?_
  refine S_join (fun jj => ∀ (v2 : Int32) (h3 : XH), XS E mX1_upperPart eI 0 0 23 [none, none] [.int v2] h3 (jj v2 h3)) (fun v2 h3 => ?_) (fun j23 hj23 => ?_)
  · skip
    exact S_iret 23 dX1_upperPart_23 rfl
  refine S_ifle 7 22 dX1_upperPart_7 (by decide) ?_ ?_
  · skip
    refine S_ic 22 0 dX1_upperPart_22 (by decide) ?_
    exact S_drop [0, 1] rfl (hj23 _ _)
  · skip
    refine S_iload_1 10 dX1_upperPart_10 ?_
    refine S_aload_0 11 dX1_upperPart_11 ?_
    refine S_getR 12 fsX1_33 rfl dX1_upperPart_12 (fun w4 => ?_)
    refine S_getI 15 fsX1_56 rfl dX1_upperPart_15 ?_
    refine S_idiv 18 dX1_upperPart_18 ?_
    refine S_goto 19 23 dX1_upperPart_19 (by decide) ?_
    exact S_drop [0, 1] rfl (hj23 _ _)
def FX1_lowerPart (E : XG) (t : Nat) (p1 : Int32) (h : XH) : XP Int32 := xg (xk h t = 2) <| xnn (xr h t 2) fun w1 => xg (xk h w1 = 3) <| xjn (fun (v2 : Int32) (h3 : XH) => xv v2 h3) fun (j23 : Int32 → XH → XP Int32) => if ((xi h w1 3) : Int32) ≤ 0 then (j23 0 h) else (xg (xk h t = 2) <| xnn (xr h t 2) fun w4 => xg (xk h w4 = 3) <| xg (((xi h w4 3) : Int32) ≠ 0) <| j23 (xrem p1 (xi h w4 3)) h)
theorem CX1_lowerPart (E : XG) (t : Nat) (p1 : Int32) (h : XH) : XN E mX1_lowerPart eI 0 0 [.ref t, .int p1] h (FX1_lowerPart E t p1 h) := by
  unfold FX1_lowerPart
  refine S_enter (L := [some (.ref t), some (.int p1)]) (by decide +kernel) rfl rfl rfl ?_
  refine S_aload_0 0 dX1_lowerPart_0 ?_
  refine S_getR 1 fsX1_33 rfl dX1_lowerPart_1 (fun w1 => ?_)
  refine S_getI 4 fsX1_56 rfl dX1_lowerPart_4 ?_
  refine S_join (fun jj => ∀ (v2 : Int32) (h3 : XH), XS E mX1_lowerPart eI 0 0 23 [none, none] [.int v2] h3 (jj v2 h3)) (fun v2 h3 => ?_) (fun j23 hj23 => ?_)
  · skip
    exact S_iret 23 dX1_lowerPart_23 rfl
  refine S_ifle 7 22 dX1_lowerPart_7 (by decide) ?_ ?_
  · skip
    refine S_ic 22 0 dX1_lowerPart_22 (by decide) ?_
    exact S_drop [0, 1] rfl (hj23 _ _)
  · skip
    refine S_iload_1 10 dX1_lowerPart_10 ?_
    refine S_aload_0 11 dX1_lowerPart_11 ?_
    refine S_getR 12 fsX1_33 rfl dX1_lowerPart_12 (fun w4 => ?_)
    refine S_getI 15 fsX1_56 rfl dX1_lowerPart_15 ?_
    refine S_irem 18 dX1_lowerPart_18 ?_
    refine S_goto 19 23 dX1_lowerPart_19 (by decide) ?_
    exact S_drop [0, 1] rfl (hj23 _ _)
def FX1_largeProduct (E : XG) (t : Nat) (p1 : Int32) (p2 : Int32) (h : XH) : XP Int32 := xg (xk h t = 2) <| xb (FX1_lowerPart E t p1 h) fun v1 h2 => xg (xk h2 t = 2) <| xnn (xr h2 t 1) fun w3 => xg (xk h2 t = 2) <| xb (FX1_upperPart E t p1 h2) fun v4 h5 => xg (xk h5 t = 2) <| xb (FX1_upperPart E t p2 h5) fun v6 h7 => xg (xk h7 t = 2) <| xb (FX1_actionOf E t v1 v6 h7) fun v8 h9 => xg (xk h9 w3 = 3) <| xb (FX2_product E w3 v4 v8 h9) fun v10 h11 => xg (xk h11 t = 2) <| xnn (xr h11 t 2) fun w12 => xg (xk h11 w12 = 3) <| xg (xk h11 t = 2) <| xnn (xr h11 t 2) fun w13 => xg (xk h11 t = 2) <| xb (FX1_lowerPart E t p2 h11) fun v14 h15 => xg (xk h15 w13 = 3) <| xb (FX2_product E w13 v1 v14 h15) fun v16 h17 => xv ((v10 * (xi h11 w12 3)) + v16) h17
theorem CX1_largeProduct (E : XG) (t : Nat) (p1 : Int32) (p2 : Int32) (h : XH) : XN E mX1_largeProduct eI 0 0 [.ref t, .int p1, .int p2] h (FX1_largeProduct E t p1 p2 h) := by
  unfold FX1_largeProduct
  refine S_enter (L := [some (.ref t), some (.int p1), some (.int p2), none, none]) (by decide +kernel) rfl rfl rfl ?_
  refine S_aload_0 0 dX1_largeProduct_0 ?_
  refine S_iload_1 1 dX1_largeProduct_1 ?_
  refine S_callV (a' := 0) (b' := 0) (a := 0) (b := 0) 2 (As := [.int p1]) (ci := 1) rfl calX1_lowerPart imX1_lowerPart seX1_lowerPart mkX1_103 rfl rfl rfl rfl rfl (by decide) rfl rfl dX1_largeProduct_2 (CX1_lowerPart E t p1 h) (fun v1 h2 => kqI ?_)
  refine S_istore_3 5 dX1_largeProduct_5 rfl ?_
  refine S_aload_0 6 dX1_largeProduct_6 ?_
  refine S_getR 7 fsX1_29 rfl dX1_largeProduct_7 (fun w3 => ?_)
  refine S_aload_0 10 dX1_largeProduct_10 ?_
  refine S_iload_1 11 dX1_largeProduct_11 ?_
  refine S_callV (a' := 0) (b' := 0) (a := 0) (b := 0) 12 (As := [.int p1]) (ci := 1) rfl calX1_upperPart imX1_upperPart seX1_upperPart mkX1_106 rfl rfl rfl rfl rfl (by decide) rfl rfl dX1_largeProduct_12 (CX1_upperPart E t p1 h2) (fun v4 h5 => kqI ?_)
  refine S_aload_0 15 dX1_largeProduct_15 ?_
  refine S_iload_3 16 dX1_largeProduct_16 ?_
  refine S_aload_0 17 dX1_largeProduct_17 ?_
  refine S_iload_2 18 dX1_largeProduct_18 ?_
  refine S_callV (a' := 0) (b' := 0) (a := 0) (b := 0) 19 (As := [.int p2]) (ci := 1) rfl calX1_upperPart imX1_upperPart seX1_upperPart mkX1_106 rfl rfl rfl rfl rfl (by decide) rfl rfl dX1_largeProduct_19 (CX1_upperPart E t p2 h5) (fun v6 h7 => kqI ?_)
  refine S_callV (a' := 0) (b' := 0) (a := 0) (b := 0) 22 (As := [.int v1, .int v6]) (ci := 1) rfl calX1_actionOf imX1_actionOf seX1_actionOf mkX1_49 rfl rfl rfl rfl rfl (by decide) rfl rfl dX1_largeProduct_22 (CX1_actionOf E t v1 v6 h7) (fun v8 h9 => kqI ?_)
  refine S_callV (a' := 0) (b' := 0) (a := 0) (b := 0) 25 (As := [.int v4, .int v8]) (ci := 2) rfl calX2_product imX2_product seX2_product mkX1_85 rfl rfl rfl rfl rfl (by decide) rfl rfl dX1_largeProduct_25 (CX2_product E w3 v4 v8 h9) (fun v10 h11 => kqI ?_)
  refine S_istore_4 28 dX1_largeProduct_28 rfl ?_
  refine S_iload_4 30 dX1_largeProduct_30 ?_
  refine S_aload_0 32 dX1_largeProduct_32 ?_
  refine S_getR 33 fsX1_33 rfl dX1_largeProduct_33 (fun w12 => ?_)
  refine S_getI 36 fsX1_56 rfl dX1_largeProduct_36 ?_
  refine S_imul 39 dX1_largeProduct_39 ?_
  refine S_aload_0 40 dX1_largeProduct_40 ?_
  refine S_getR 41 fsX1_33 rfl dX1_largeProduct_41 (fun w13 => ?_)
  refine S_iload_3 44 dX1_largeProduct_44 ?_
  refine S_aload_0 45 dX1_largeProduct_45 ?_
  refine S_iload_2 46 dX1_largeProduct_46 ?_
  refine S_callV (a' := 0) (b' := 0) (a := 0) (b := 0) 47 (As := [.int p2]) (ci := 1) rfl calX1_lowerPart imX1_lowerPart seX1_lowerPart mkX1_103 rfl rfl rfl rfl rfl (by decide) rfl rfl dX1_largeProduct_47 (CX1_lowerPart E t p2 h11) (fun v14 h15 => kqI ?_)
  refine S_callV (a' := 0) (b' := 0) (a := 0) (b := 0) 50 (As := [.int v1, .int v14]) (ci := 2) rfl calX2_product imX2_product seX2_product mkX1_85 rfl rfl rfl rfl rfl (by decide) rfl rfl dX1_largeProduct_50 (CX2_product E w13 v1 v14 h15) (fun v16 h17 => kqI ?_)
  refine S_iadd 53 dX1_largeProduct_53 ?_
  exact S_iret 54 dX1_largeProduct_54 rfl
def FX1_largePeriod (E : XG) (t : Nat) (p1 : Int32) (h : XH) : XP Int32 := xlp (fun again4 (s4 : Int32 × Int32) h1 => xjn (fun  (h2 : XH) => xv s4.1 h2) fun (j27 : XH → XP Int32) => if (s4.2 : Int32) = 0 then (j27 h1) else (if (64 : Int32) ≤ s4.1 then (j27 h1) else (xg (xk h1 t = 2) <| xb (FX1_largeProduct E t s4.2 p1 h1) fun v3 h4 => again4 ((s4.1 + 1), v3) h4))) xfu (1, p1) h
theorem CX1_largePeriod (E : XG) (t : Nat) (p1 : Int32) (h : XH) : XN E mX1_largePeriod eI 0 0 [.ref t, .int p1] h (FX1_largePeriod E t p1 h) := by
  unfold FX1_largePeriod
  refine S_enter (L := [some (.ref t), some (.int p1), none, none]) (by decide +kernel) rfl rfl rfl ?_
  refine S_ic 0 1 dX1_largePeriod_0 (by decide) ?_
  refine S_istore_2 1 dX1_largePeriod_1 rfl ?_
  refine S_iload_1 2 dX1_largePeriod_2 ?_
  refine S_istore_3 3 dX1_largePeriod_3 rfl ?_
  refine S_loop (fun (s4 : Int32 × Int32) => [some (.ref t), some (.int p1), some (.int s4.1), some (.int s4.2)]) (fun again4 hg4 s4 h1 => ?_) xfu _ _
  refine S_iload_3 4 dX1_largePeriod_4 ?_
  refine S_join (fun jj => ∀  (h2 : XH), XS E mX1_largePeriod eI 0 0 27 [none, none, some (.int s4.1), none] [] h2 (jj  h2)) (fun  h2 => ?_) (fun j27 hj27 => ?_)
  · skip
    refine S_iload_2 27 dX1_largePeriod_27 ?_
    exact S_iret 28 dX1_largePeriod_28 rfl
  refine S_ifeq 5 27 dX1_largePeriod_5 (by decide) ?_ ?_
  · skip
    exact S_drop [0, 1, 3] rfl (hj27 _)
  · skip
    refine S_iload_2 8 dX1_largePeriod_8 ?_
    refine S_bip 9 64 dX1_largePeriod_9 (by decide) ?_
    refine S_icmpge 11 27 dX1_largePeriod_11 (by decide) ?_ ?_
    · skip
      exact S_drop [0, 1, 3] rfl (hj27 _)
    · skip
      refine S_aload_0 14 dX1_largePeriod_14 ?_
      refine S_iload_3 15 dX1_largePeriod_15 ?_
      refine S_iload_1 16 dX1_largePeriod_16 ?_
      refine S_callV (a' := 0) (b' := 0) (a := 0) (b := 0) 17 (As := [.int s4.2, .int p1]) (ci := 1) rfl calX1_largeProduct imX1_largeProduct seX1_largeProduct mkX1_109 rfl rfl rfl rfl rfl (by decide) rfl rfl dX1_largePeriod_17 (CX1_largeProduct E t s4.2 p1 h1) (fun v3 h4 => kqI ?_)
      refine S_istore_3 20 dX1_largePeriod_20 rfl ?_
      refine S_iinc_2 21 (s4.1 + 1) dX1_largePeriod_21 (by rfl) rfl ?_
      refine S_goto 24 4 dX1_largePeriod_24 (by decide) ?_
      exact S_drop [] rfl (hg4 _ _)
def FX1_targetOf (E : XG) (t : Nat) (p1 : Int32) (p2 : Int32) (h : XH) : XP Int32 := xg (xk h t = 2) <| xnn (xr h t 2) fun w1 => xg (xk h t = 2) <| xb (FX1_boundaryOf E t p1 h) fun v2 h3 => xg (xk h3 w1 = 3) <| xb (FX2_product E w1 v2 p2 h3) fun v4 h5 => xv v4 h5
theorem CX1_targetOf (E : XG) (t : Nat) (p1 : Int32) (p2 : Int32) (h : XH) : XN E mX1_targetOf eI 0 0 [.ref t, .int p1, .int p2] h (FX1_targetOf E t p1 p2 h) := by
  unfold FX1_targetOf
  refine S_enter (L := [some (.ref t), some (.int p1), some (.int p2)]) (by decide +kernel) rfl rfl rfl ?_
  refine S_aload_0 0 dX1_targetOf_0 ?_
  refine S_getR 1 fsX1_33 rfl dX1_targetOf_1 (fun w1 => ?_)
  refine S_aload_0 4 dX1_targetOf_4 ?_
  refine S_iload_1 5 dX1_targetOf_5 ?_
  refine S_callV (a' := 0) (b' := 0) (a := 0) (b := 0) 6 (As := [.int p1]) (ci := 1) rfl calX1_boundaryOf imX1_boundaryOf seX1_boundaryOf mkX1_88 rfl rfl rfl rfl rfl (by decide) rfl rfl dX1_targetOf_6 (CX1_boundaryOf E t p1 h) (fun v2 h3 => kqI ?_)
  refine S_iload_2 9 dX1_targetOf_9 ?_
  refine S_callV (a' := 0) (b' := 0) (a := 0) (b := 0) 10 (As := [.int v2, .int p2]) (ci := 2) rfl calX2_product imX2_product seX2_product mkX1_85 rfl rfl rfl rfl rfl (by decide) rfl rfl dX1_targetOf_10 (CX2_product E w1 v2 p2 h3) (fun v4 h5 => kqI ?_)
  exact S_iret 13 dX1_targetOf_13 rfl
def FX1_countBetween (E : XG) (t : Nat) (p1 : Int32) (p2 : Int32) (h : XH) : XP Int32 := xlp (fun again5 (s5 : Int32 × Int32) h1 => xg (xk h1 t = 2) <| xnn (xr h1 t 1) fun w2 => xg (xk h1 w2 = 3) <| if ((xi h1 w2 3) : Int32) ≤ s5.2 then (xv s5.1 h1) else (xg (xk h1 t = 2) <| xb (FX1_targetOf E t s5.2 p1 h1) fun v3 h4 => xjn (fun (v5 : Int32) (h6 : XH) => xlt (s5.1 + v5) fun v7 => again5 (v7, (s5.2 + 1)) h6) fun (j34 : Int32 → XH → XP Int32) => if (v3 : Int32) = p2 then (j34 1 h4) else (j34 0 h4))) xfu (0, 0) h
theorem CX1_countBetween (E : XG) (t : Nat) (p1 : Int32) (p2 : Int32) (h : XH) : XN E mX1_countBetween eI 0 0 [.ref t, .int p1, .int p2] h (FX1_countBetween E t p1 p2 h) := by
  unfold FX1_countBetween
  refine S_enter (L := [some (.ref t), some (.int p1), some (.int p2), none, none]) (by decide +kernel) rfl rfl rfl ?_
  refine S_ic 0 0 dX1_countBetween_0 (by decide) ?_
  refine S_istore_3 1 dX1_countBetween_1 rfl ?_
  refine S_ic 2 0 dX1_countBetween_2 (by decide) ?_
  refine S_istore_4 3 dX1_countBetween_3 rfl ?_
  refine S_loop (fun (s5 : Int32 × Int32) => [some (.ref t), some (.int p1), some (.int p2), some (.int s5.1), some (.int s5.2)]) (fun again5 hg5 s5 h1 => ?_) xfu _ _
  refine S_iload_4 5 dX1_countBetween_5 ?_
  refine S_aload_0 7 dX1_countBetween_7 ?_
  refine S_getR 8 fsX1_29 rfl dX1_countBetween_8 (fun w2 => ?_)
  refine S_getI 11 fsX1_56 rfl dX1_countBetween_11 ?_
  refine S_icmpge 14 42 dX1_countBetween_14 (by decide) ?_ ?_
  · skip
    refine S_iload_3 42 dX1_countBetween_42 ?_
    exact S_iret 43 dX1_countBetween_43 rfl
  · skip
    refine S_iload_3 17 dX1_countBetween_17 ?_
    refine S_aload_0 18 dX1_countBetween_18 ?_
    refine S_iload_4 19 dX1_countBetween_19 ?_
    refine S_iload_1 21 dX1_countBetween_21 ?_
    refine S_callV (a' := 0) (b' := 0) (a := 0) (b := 0) 22 (As := [.int s5.2, .int p1]) (ci := 1) rfl calX1_targetOf imX1_targetOf seX1_targetOf mkX1_112 rfl rfl rfl rfl rfl (by decide) rfl rfl dX1_countBetween_22 (CX1_targetOf E t s5.2 p1 h1) (fun v3 h4 => kqI ?_)
    refine S_iload_2 25 dX1_countBetween_25 ?_
    refine S_join (fun jj => ∀ (v5 : Int32) (h6 : XH), XS E mX1_countBetween eI 0 0 34 [some (.ref t), some (.int p1), some (.int p2), none, some (.int s5.2)] [.int v5, .int s5.1] h6 (jj v5 h6)) (fun v5 h6 => ?_) (fun j34 hj34 => ?_)
    · skip
      refine S_iadd 34 dX1_countBetween_34 ?_
      refine S_gen (fun v7 => ?_)
      refine S_istore_3 35 dX1_countBetween_35 rfl ?_
      refine S_iinc_4 36 (s5.2 + 1) dX1_countBetween_36 (by rfl) rfl ?_
      refine S_goto 39 5 dX1_countBetween_39 (by decide) ?_
      exact S_drop [] rfl (hg5 _ _)
    refine S_icmpne 26 33 dX1_countBetween_26 (by decide) ?_ ?_
    · skip
      refine S_ic 33 0 dX1_countBetween_33 (by decide) ?_
      exact S_drop [3] rfl (hj34 _ _)
    · skip
      refine S_ic 29 1 dX1_countBetween_29 (by decide) ?_
      refine S_goto 30 34 dX1_countBetween_30 (by decide) ?_
      exact S_drop [3] rfl (hj34 _ _)
def FX2_init (E : XG) (t : Nat) (p1 : Int32) (h : XH) : XP Unit := xg (xk h t ≠ 0) <| xal h 12 64 fun w1 h2 => xg (xk h2 t = 3) <| xlt (yr h2 t 1 (some w1)) fun h3 => xg (xk h3 t ≠ 0) <| xal h3 12 8 fun w4 h5 => xg (xk h5 t = 3) <| xlt (yr h5 t 2 (some w4)) fun h6 => xg (xk h6 t = 3) <| xlt (yi h6 t 3 1) fun h7 => xg (xk h7 t = 3) <| xlt (yi h7 t 0 p1) fun h8 => xv () h8
theorem CX2_init (E : XG) (t : Nat) (p1 : Int32) (h : XH) : XN E mX2_init eU 2 72 [.ref t, .int p1] h (FX2_init E t p1 h) := by
  unfold FX2_init
  refine S_enter (L := [some (.ref t), some (.int p1)]) (by decide +kernel) rfl rfl rfl ?_
  refine S_aload_0 0 dX2_init_0 ?_
  refine S_objinit 1 rfl oiX2_3 oiI oiC (by decide) (by decide) (by exact Nat.le_of_ble_eq_true rfl) dX2_init_1 ?_
  refine S_aload_0 4 dX2_init_4 ?_
  refine S_bip 5 64 dX2_init_5 (by decide) ?_
  refine S_new_int (a := 1) (b := 8) 7 t 64 (by decide) (by decide) (by decide) ar12 dX2_init_7 (fun w1 h2 => ?_)
  refine S_putR 9 frX2_9 rfl rfl (fun _ => rfl) dX2_init_9 (fun h3 => ?_)
  refine S_aload_0 12 dX2_init_12 ?_
  refine S_bip 13 8 dX2_init_13 (by decide) ?_
  refine S_new_int (a := 0) (b := 0) 15 t 8 (by decide) (by decide) (by decide) ar12 dX2_init_15 (fun w4 h5 => ?_)
  refine S_putR 17 frX2_15 rfl rfl (fun _ => rfl) dX2_init_17 (fun h6 => ?_)
  refine S_aload_0 20 dX2_init_20 ?_
  refine S_ic 21 1 dX2_init_21 (by decide) ?_
  refine S_putI 22 frX2_18 rfl (fun q => by cases q) dX2_init_22 (fun h7 => ?_)
  refine S_aload_0 25 dX2_init_25 ?_
  refine S_iload_1 26 dX2_init_26 ?_
  refine S_putI 27 frX2_22 rfl (fun _ => rfl) dX2_init_27 (fun h8 => ?_)
  exact S_ret 30 dX2_init_30 rfl
def FX2_has (E : XG) (t : Nat) (p1 : Int32) (h : XH) : XP Int32 := xjn (fun (v1 : Int32) (h2 : XH) => xg ((v1 : Int32) = 0 ∨ (v1 : Int32) = 1) <| xv v1 h2) fun (j17 : Int32 → XH → XP Int32) => xjn (fun  (h3 : XH) => j17 0 h3) fun (j16 : XH → XP Int32) => if (p1 : Int32) < 0 then (j16 h) else (xg (xk h t = 3) <| if ((xi h t 3) : Int32) ≤ p1 then (j16 h) else (j17 1 h))
theorem CX2_has (E : XG) (t : Nat) (p1 : Int32) (h : XH) : XN E mX2_has eI 0 0 [.ref t, .int p1] h (FX2_has E t p1 h) := by
  unfold FX2_has
  refine S_enter (L := [some (.ref t), some (.int p1)]) (by decide +kernel) rfl rfl rfl ?_
  refine S_iload_1 0 dX2_has_0 ?_
  refine S_join (fun jj => ∀ (v1 : Int32) (h2 : XH), XS E mX2_has eI 0 0 17 [none, none] [.int v1] h2 (jj v1 h2)) (fun v1 h2 => ?_) (fun j17 hj17 => ?_)
  · skip
    exact S_zret 17 dX2_has_17 rfl
  refine S_join (fun jj => ∀  (h3 : XH), XS E mX2_has eI 0 0 16 [none, none] [] h3 (jj  h3)) (fun  h3 => ?_) (fun j16 hj16 => ?_)
  · skip
    refine S_ic 16 0 dX2_has_16 (by decide) ?_
    exact S_drop [] rfl (hj17 _ _)
  refine S_iflt 1 16 dX2_has_1 (by decide) ?_ ?_
  · skip
    exact S_drop [0, 1] rfl (hj16 _)
  · skip
    refine S_iload_1 4 dX2_has_4 ?_
    refine S_aload_0 5 dX2_has_5 ?_
    refine S_getI 6 fsX2_18 rfl dX2_has_6 ?_
    refine S_icmpge 9 16 dX2_has_9 (by decide) ?_ ?_
    · skip
      exact S_drop [0, 1] rfl (hj16 _)
    · skip
      refine S_ic 12 1 dX2_has_12 (by decide) ?_
      refine S_goto 13 17 dX2_has_13 (by decide) ?_
      exact S_drop [0, 1] rfl (hj17 _ _)
def FX2_hasAll (E : XG) (t : Nat) (p1 : Int32) (h : XH) : XP Int32 := xg (xk h t = 3) <| xjn (fun (v1 : Int32) (h2 : XH) => xg ((v1 : Int32) = 0 ∨ (v1 : Int32) = 1) <| xv v1 h2) fun (j20 : Int32 → XH → XP Int32) => if ((p1 &&& (((1 <<< ((xi h t 3) &&& 31)) - 1) ^^^ (-1))) : Int32) = 0 then (j20 1 h) else (j20 0 h)
theorem CX2_hasAll (E : XG) (t : Nat) (p1 : Int32) (h : XH) : XN E mX2_hasAll eI 0 0 [.ref t, .int p1] h (FX2_hasAll E t p1 h) := by
  unfold FX2_hasAll
  refine S_enter (L := [some (.ref t), some (.int p1)]) (by decide +kernel) rfl rfl rfl ?_
  refine S_iload_1 0 dX2_hasAll_0 ?_
  refine S_ic 1 1 dX2_hasAll_1 (by decide) ?_
  refine S_aload_0 2 dX2_hasAll_2 ?_
  refine S_getI 3 fsX2_18 rfl dX2_hasAll_3 ?_
  refine S_ishl 6 dX2_hasAll_6 ?_
  refine S_ic 7 1 dX2_hasAll_7 (by decide) ?_
  refine S_isub 8 dX2_hasAll_8 ?_
  refine S_ic 9 (-1) dX2_hasAll_9 (by decide) ?_
  refine S_ixor 10 dX2_hasAll_10 ?_
  refine S_iand 11 dX2_hasAll_11 ?_
  refine S_join (fun jj => ∀ (v1 : Int32) (h2 : XH), XS E mX2_hasAll eI 0 0 20 [none, none] [.int v1] h2 (jj v1 h2)) (fun v1 h2 => ?_) (fun j20 hj20 => ?_)
  · skip
    exact S_zret 20 dX2_hasAll_20 rfl
  refine S_ifne 12 19 dX2_hasAll_12 (by decide) ?_ ?_
  · skip
    refine S_ic 19 0 dX2_hasAll_19 (by decide) ?_
    exact S_drop [0, 1] rfl (hj20 _ _)
  · skip
    refine S_ic 15 1 dX2_hasAll_15 (by decide) ?_
    refine S_goto 16 20 dX2_hasAll_16 (by decide) ?_
    exact S_drop [0, 1] rfl (hj20 _ _)
def FX2_setProduct (E : XG) (t : Nat) (p1 : Int32) (p2 : Int32) (p3 : Int32) (h : XH) : XP Unit := xlt ((p1 * 8) + p2) fun v1 => xjn (fun  (h2 : XH) => xv () h2) fun (j31 : XH → XP Unit) => if (v1 : Int32) < 0 then (j31 h) else (xg (xk h t = 3) <| xnn (xr h t 1) fun w3 => xg (xk h w3 = 12) <| if ((Int32.ofNat (xn h w3)) : Int32) ≤ v1 then (j31 h) else (xg (xk h t = 3) <| xnn (xr h t 1) fun w4 => xg (xk h w4 = 12 ∧ xin v1 (xn h w4)) <| xlt (yi h w4 (v1 : Int32).toNatClampNeg p3) fun h5 => j31 h5))
theorem CX2_setProduct (E : XG) (t : Nat) (p1 : Int32) (p2 : Int32) (p3 : Int32) (h : XH) : XN E mX2_setProduct eU 0 0 [.ref t, .int p1, .int p2, .int p3] h (FX2_setProduct E t p1 p2 p3 h) := by
  unfold FX2_setProduct
  refine S_enter (L := [some (.ref t), some (.int p1), some (.int p2), some (.int p3), none]) (by decide +kernel) rfl rfl rfl ?_
  refine S_iload_1 0 dX2_setProduct_0 ?_
  refine S_bip 1 8 dX2_setProduct_1 (by decide) ?_
  refine S_imul 3 dX2_setProduct_3 ?_
  refine S_iload_2 4 dX2_setProduct_4 ?_
  refine S_iadd 5 dX2_setProduct_5 ?_
  refine S_gen (fun v1 => ?_)
  refine S_istore_4 6 dX2_setProduct_6 rfl ?_
  refine S_iload_4 8 dX2_setProduct_8 ?_
  refine S_join (fun jj => ∀  (h2 : XH), XS E mX2_setProduct eU 0 0 31 [none, none, none, none, none] [] h2 (jj  h2)) (fun  h2 => ?_) (fun j31 hj31 => ?_)
  · skip
    exact S_ret 31 dX2_setProduct_31 rfl
  refine S_iflt 10 31 dX2_setProduct_10 (by decide) ?_ ?_
  · skip
    exact S_drop [0, 1, 2, 3, 4] rfl (hj31 _)
  · skip
    refine S_iload_4 13 dX2_setProduct_13 ?_
    refine S_aload_0 15 dX2_setProduct_15 ?_
    refine S_getR 16 fsX2_9 rfl dX2_setProduct_16 (fun w3 => ?_)
    refine S_alen 19 12 1 (by decide) rfl dX2_setProduct_19 ?_
    refine S_icmpge 20 31 dX2_setProduct_20 (by decide) ?_ ?_
    · skip
      exact S_drop [0, 1, 2, 3, 4] rfl (hj31 _)
    · skip
      refine S_aload_0 23 dX2_setProduct_23 ?_
      refine S_getR 24 fsX2_9 rfl dX2_setProduct_24 (fun w4 => ?_)
      refine S_iload_4 27 dX2_setProduct_27 ?_
      refine S_iload_3 29 dX2_setProduct_29 ?_
      refine S_iast 30 dX2_setProduct_30 (fun h5 => ?_)
      exact S_drop [0, 1, 2, 3, 4] rfl (hj31 _)
def FX2_becomeCyclic (E : XG) (t : Nat) (p1 : Int32) (h : XH) : XP Unit := xg (xk h t = 3) <| xlt (yi h t 3 p1) fun h1 => xlp (fun again7 (s7 : Int32) h2 => if (p1 : Int32) ≤ s7 then (xv () h2) else (xlp (fun again14 (s14 : Int32) h3 => if (p1 : Int32) ≤ s14 then (again7 (s7 + 1) h3) else (xb (FJ9_floorMod_7cf53 E (s7 + s14) p1 h3) fun v4 h5 => xg (xk h5 t = 3) <| xb (FX2_setProduct E t s7 s14 v4 h5) fun _ h6 => again14 (s14 + 1) h6)) xfu 0 h2)) xfu 0 h1
theorem CX2_becomeCyclic (E : XG) (t : Nat) (p1 : Int32) (h : XH) : XN E mX2_becomeCyclic eU 0 0 [.ref t, .int p1] h (FX2_becomeCyclic E t p1 h) := by
  unfold FX2_becomeCyclic
  refine S_enter (L := [some (.ref t), some (.int p1), none, none]) (by decide +kernel) rfl rfl rfl ?_
  refine S_aload_0 0 dX2_becomeCyclic_0 ?_
  refine S_iload_1 1 dX2_becomeCyclic_1 ?_
  refine S_putI 2 frX2_18 rfl (fun q => by cases q) dX2_becomeCyclic_2 (fun h1 => ?_)
  refine S_ic 5 0 dX2_becomeCyclic_5 (by decide) ?_
  refine S_istore_2 6 dX2_becomeCyclic_6 rfl ?_
  refine S_loop (fun (s7 : Int32) => [some (.ref t), some (.int p1), some (.int s7), none]) (fun again7 hg7 s7 h2 => ?_) xfu _ _
  refine S_iload_2 7 dX2_becomeCyclic_7 ?_
  refine S_iload_1 8 dX2_becomeCyclic_8 ?_
  refine S_icmpge 9 44 dX2_becomeCyclic_9 (by decide) ?_ ?_
  · skip
    exact S_ret 44 dX2_becomeCyclic_44 rfl
  · skip
    refine S_ic 12 0 dX2_becomeCyclic_12 (by decide) ?_
    refine S_istore_3 13 dX2_becomeCyclic_13 rfl ?_
    refine S_loop (fun (s14 : Int32) => [some (.ref t), some (.int p1), some (.int s7), some (.int s14)]) (fun again14 hg14 s14 h3 => ?_) xfu _ _
    refine S_iload_3 14 dX2_becomeCyclic_14 ?_
    refine S_iload_1 15 dX2_becomeCyclic_15 ?_
    refine S_icmpge 16 38 dX2_becomeCyclic_16 (by decide) ?_ ?_
    · skip
      refine S_iinc_2 38 (s7 + 1) dX2_becomeCyclic_38 (by rfl) rfl ?_
      refine S_goto 41 7 dX2_becomeCyclic_41 (by decide) ?_
      exact S_drop [3] rfl (hg7 _ _)
    · skip
      refine S_aload_0 19 dX2_becomeCyclic_19 ?_
      refine S_iload_2 20 dX2_becomeCyclic_20 ?_
      refine S_iload_3 21 dX2_becomeCyclic_21 ?_
      refine S_iload_2 22 dX2_becomeCyclic_22 ?_
      refine S_iload_3 23 dX2_becomeCyclic_23 ?_
      refine S_iadd 24 dX2_becomeCyclic_24 ?_
      refine S_iload_1 25 dX2_becomeCyclic_25 ?_
      refine S_callS (a' := 0) (b' := 0) (a := 0) (b := 0) 26 (As := [.int (s7 + s14), .int p1]) rfl calJ9_floorMod_7cf53 stJ9_floorMod_7cf53 mkX2_37 rfl rfl rfl rfl rfl dX2_becomeCyclic_26 (CJ9_floorMod_7cf53 E (s7 + s14) p1 h3) (fun v4 h5 => kqI ?_)
      refine S_callV (a' := 0) (b' := 0) (a := 0) (b := 0) 29 (As := [.int s7, .int s14, .int v4]) (ci := 2) rfl calX2_setProduct imX2_setProduct seX2_setProduct mkX2_42 rfl rfl rfl rfl rfl (by decide) rfl rfl dX2_becomeCyclic_29 (CX2_setProduct E t s7 s14 v4 h5) (fun _ h6 => kqU ?_)
      refine S_iinc_3 32 (s14 + 1) dX2_becomeCyclic_32 (by rfl) rfl ?_
      refine S_goto 35 14 dX2_becomeCyclic_35 (by decide) ?_
      exact S_drop [] rfl (hg14 _ _)
def FX2_becomeDihedral (E : XG) (t : Nat) (p1 : Int32) (h : XH) : XP Unit := xg (xk h t = 3) <| xlt (yi h t 3 (2 * p1)) fun h1 => xlp (fun again9 (s9 : Int32) h2 => if (p1 : Int32) ≤ s9 then (xv () h2) else (xlp (fun again16 (s16 : Int32) h3 => if (p1 : Int32) ≤ s16 then (again9 (s9 + 1) h3) else (xb (FJ9_floorMod_7cf53 E (s9 + s16) p1 h3) fun v4 h5 => xb (FJ9_floorMod_7cf53 E (s9 - s16) p1 h5) fun v6 h7 => xg (xk h7 t = 3) <| xb (FX2_setProduct E t s9 s16 v4 h7) fun _ h8 => xg (xk h8 t = 3) <| xb (FX2_setProduct E t s9 (p1 + s16) (p1 + v4) h8) fun _ h9 => xg (xk h9 t = 3) <| xb (FX2_setProduct E t (p1 + s9) s16 (p1 + v6) h9) fun _ h10 => xg (xk h10 t = 3) <| xb (FX2_setProduct E t (p1 + s9) (p1 + s16) v6 h10) fun _ h11 => again16 (s16 + 1) h11)) xfu 0 h2)) xfu 0 h1
theorem CX2_becomeDihedral (E : XG) (t : Nat) (p1 : Int32) (h : XH) : XN E mX2_becomeDihedral eU 0 0 [.ref t, .int p1] h (FX2_becomeDihedral E t p1 h) := by
  unfold FX2_becomeDihedral
  refine S_enter (L := [some (.ref t), some (.int p1), none, none, none, none]) (by decide +kernel) rfl rfl rfl ?_
  refine S_aload_0 0 dX2_becomeDihedral_0 ?_
  refine S_ic 1 2 dX2_becomeDihedral_1 (by decide) ?_
  refine S_iload_1 2 dX2_becomeDihedral_2 ?_
  refine S_imul 3 dX2_becomeDihedral_3 ?_
  refine S_putI 4 frX2_18 rfl (fun q => by cases q) dX2_becomeDihedral_4 (fun h1 => ?_)
  refine S_ic 7 0 dX2_becomeDihedral_7 (by decide) ?_
  refine S_istore_2 8 dX2_becomeDihedral_8 rfl ?_
  refine S_loop (fun (s9 : Int32) => [some (.ref t), some (.int p1), some (.int s9), none, none, none]) (fun again9 hg9 s9 h2 => ?_) xfu _ _
  refine S_iload_2 9 dX2_becomeDihedral_9 ?_
  refine S_iload_1 10 dX2_becomeDihedral_10 ?_
  refine S_icmpge 11 95 dX2_becomeDihedral_11 (by decide) ?_ ?_
  · skip
    exact S_ret 95 dX2_becomeDihedral_95 rfl
  · skip
    refine S_ic 14 0 dX2_becomeDihedral_14 (by decide) ?_
    refine S_istore_3 15 dX2_becomeDihedral_15 rfl ?_
    refine S_loop (fun (s16 : Int32) => [some (.ref t), some (.int p1), some (.int s9), some (.int s16), none, none]) (fun again16 hg16 s16 h3 => ?_) xfu _ _
    refine S_iload_3 16 dX2_becomeDihedral_16 ?_
    refine S_iload_1 17 dX2_becomeDihedral_17 ?_
    refine S_icmpge 18 89 dX2_becomeDihedral_18 (by decide) ?_ ?_
    · skip
      refine S_iinc_2 89 (s9 + 1) dX2_becomeDihedral_89 (by rfl) rfl ?_
      refine S_goto 92 9 dX2_becomeDihedral_92 (by decide) ?_
      exact S_drop [3] rfl (hg9 _ _)
    · skip
      refine S_iload_2 21 dX2_becomeDihedral_21 ?_
      refine S_iload_3 22 dX2_becomeDihedral_22 ?_
      refine S_iadd 23 dX2_becomeDihedral_23 ?_
      refine S_iload_1 24 dX2_becomeDihedral_24 ?_
      refine S_callS (a' := 0) (b' := 0) (a := 0) (b := 0) 25 (As := [.int (s9 + s16), .int p1]) rfl calJ9_floorMod_7cf53 stJ9_floorMod_7cf53 mkX2_37 rfl rfl rfl rfl rfl dX2_becomeDihedral_25 (CJ9_floorMod_7cf53 E (s9 + s16) p1 h3) (fun v4 h5 => kqI ?_)
      refine S_istore_4 28 dX2_becomeDihedral_28 rfl ?_
      refine S_iload_2 30 dX2_becomeDihedral_30 ?_
      refine S_iload_3 31 dX2_becomeDihedral_31 ?_
      refine S_isub 32 dX2_becomeDihedral_32 ?_
      refine S_iload_1 33 dX2_becomeDihedral_33 ?_
      refine S_callS (a' := 0) (b' := 0) (a := 0) (b := 0) 34 (As := [.int (s9 - s16), .int p1]) rfl calJ9_floorMod_7cf53 stJ9_floorMod_7cf53 mkX2_37 rfl rfl rfl rfl rfl dX2_becomeDihedral_34 (CJ9_floorMod_7cf53 E (s9 - s16) p1 h5) (fun v6 h7 => kqI ?_)
      refine S_istore_5 37 dX2_becomeDihedral_37 rfl ?_
      refine S_aload_0 39 dX2_becomeDihedral_39 ?_
      refine S_iload_2 40 dX2_becomeDihedral_40 ?_
      refine S_iload_3 41 dX2_becomeDihedral_41 ?_
      refine S_iload_4 42 dX2_becomeDihedral_42 ?_
      refine S_callV (a' := 0) (b' := 0) (a := 0) (b := 0) 44 (As := [.int s9, .int s16, .int v4]) (ci := 2) rfl calX2_setProduct imX2_setProduct seX2_setProduct mkX2_42 rfl rfl rfl rfl rfl (by decide) rfl rfl dX2_becomeDihedral_44 (CX2_setProduct E t s9 s16 v4 h7) (fun _ h8 => kqU ?_)
      refine S_aload_0 47 dX2_becomeDihedral_47 ?_
      refine S_iload_2 48 dX2_becomeDihedral_48 ?_
      refine S_iload_1 49 dX2_becomeDihedral_49 ?_
      refine S_iload_3 50 dX2_becomeDihedral_50 ?_
      refine S_iadd 51 dX2_becomeDihedral_51 ?_
      refine S_iload_1 52 dX2_becomeDihedral_52 ?_
      refine S_iload_4 53 dX2_becomeDihedral_53 ?_
      refine S_iadd 55 dX2_becomeDihedral_55 ?_
      refine S_callV (a' := 0) (b' := 0) (a := 0) (b := 0) 56 (As := [.int s9, .int (p1 + s16), .int (p1 + v4)]) (ci := 2) rfl calX2_setProduct imX2_setProduct seX2_setProduct mkX2_42 rfl rfl rfl rfl rfl (by decide) rfl rfl dX2_becomeDihedral_56 (CX2_setProduct E t s9 (p1 + s16) (p1 + v4) h8) (fun _ h9 => kqU ?_)
      refine S_aload_0 59 dX2_becomeDihedral_59 ?_
      refine S_iload_1 60 dX2_becomeDihedral_60 ?_
      refine S_iload_2 61 dX2_becomeDihedral_61 ?_
      refine S_iadd 62 dX2_becomeDihedral_62 ?_
      refine S_iload_3 63 dX2_becomeDihedral_63 ?_
      refine S_iload_1 64 dX2_becomeDihedral_64 ?_
      refine S_iload_5 65 dX2_becomeDihedral_65 ?_
      refine S_iadd 67 dX2_becomeDihedral_67 ?_
      refine S_callV (a' := 0) (b' := 0) (a := 0) (b := 0) 68 (As := [.int (p1 + s9), .int s16, .int (p1 + v6)]) (ci := 2) rfl calX2_setProduct imX2_setProduct seX2_setProduct mkX2_42 rfl rfl rfl rfl rfl (by decide) rfl rfl dX2_becomeDihedral_68 (CX2_setProduct E t (p1 + s9) s16 (p1 + v6) h9) (fun _ h10 => kqU ?_)
      refine S_aload_0 71 dX2_becomeDihedral_71 ?_
      refine S_iload_1 72 dX2_becomeDihedral_72 ?_
      refine S_iload_2 73 dX2_becomeDihedral_73 ?_
      refine S_iadd 74 dX2_becomeDihedral_74 ?_
      refine S_iload_1 75 dX2_becomeDihedral_75 ?_
      refine S_iload_3 76 dX2_becomeDihedral_76 ?_
      refine S_iadd 77 dX2_becomeDihedral_77 ?_
      refine S_iload_5 78 dX2_becomeDihedral_78 ?_
      refine S_callV (a' := 0) (b' := 0) (a := 0) (b := 0) 80 (As := [.int (p1 + s9), .int (p1 + s16), .int v6]) (ci := 2) rfl calX2_setProduct imX2_setProduct seX2_setProduct mkX2_42 rfl rfl rfl rfl rfl (by decide) rfl rfl dX2_becomeDihedral_80 (CX2_setProduct E t (p1 + s9) (p1 + s16) v6 h10) (fun _ h11 => kqU ?_)
      refine S_iinc_3 83 (s16 + 1) dX2_becomeDihedral_83 (by rfl) rfl ?_
      refine S_goto 86 16 dX2_becomeDihedral_86 (by decide) ?_
      exact S_drop [4, 5] rfl (hg16 _ _)
def FX2_productOfUnits (E : XG) (p1 : Int32) (p2 : Int32) (h : XH) : XP Int32 := xjn (fun  (h1 : XH) => xv (p1 + p2) h1) fun (j8 : XH → XP Int32) => if (p1 : Int32) = 0 then (j8 h) else (if (p2 : Int32) = 0 then (j8 h) else (if (p1 : Int32) = p2 then (xv 4 h) else (xlt ((6 - p1) - p2) fun v2 => xjn (fun (v3 : Int32) (h4 : XH) => xjn (fun (v5 : Int32) (h6 : XH) => xv v5 h6) fun (j73 : Int32 → XH → XP Int32) => if (v3 : Int32) = 0 then (j73 (4 + v2) h4) else (j73 v2 h4)) fun (j61 : Int32 → XH → XP Int32) => xjn (fun  (h7 : XH) => j61 1 h7) fun (j56 : XH → XP Int32) => xjn (fun  (h8 : XH) => xjn (fun  (h9 : XH) => xjn (fun  (h10 : XH) => j61 0 h10) fun (j60 : XH → XP Int32) => if (p1 : Int32) = 3 then (if (p2 : Int32) = 1 then (j56 h9) else (j60 h9)) else (j60 h9)) fun (j46 : XH → XP Int32) => if (p1 : Int32) = 2 then (if (p2 : Int32) = 3 then (j56 h8) else (j46 h8)) else (j46 h8)) fun (j36 : XH → XP Int32) => if (p1 : Int32) = 1 then (if (p2 : Int32) = 2 then (j56 h) else (j36 h)) else (j36 h))))
theorem CX2_productOfUnits (E : XG) (p1 : Int32) (p2 : Int32) (h : XH) : XN E mX2_productOfUnits eI 0 0 [.int p1, .int p2] h (FX2_productOfUnits E p1 p2 h) := by
  unfold FX2_productOfUnits
  refine S_enter (L := [some (.int p1), some (.int p2), none, none]) (by decide +kernel) rfl rfl rfl ?_
  refine S_iload_0 0 dX2_productOfUnits_0 ?_
  refine S_join (fun jj => ∀  (h1 : XH), XS E mX2_productOfUnits eI 0 0 8 [some (.int p1), some (.int p2), none, none] [] h1 (jj  h1)) (fun  h1 => ?_) (fun j8 hj8 => ?_)
  · skip
    refine S_iload_0 8 dX2_productOfUnits_8 ?_
    refine S_iload_1 9 dX2_productOfUnits_9 ?_
    refine S_iadd 10 dX2_productOfUnits_10 ?_
    exact S_iret 11 dX2_productOfUnits_11 rfl
  refine S_ifeq 1 8 dX2_productOfUnits_1 (by decide) ?_ ?_
  · skip
    exact S_drop [] rfl (hj8 _)
  · skip
    refine S_iload_1 4 dX2_productOfUnits_4 ?_
    refine S_ifne 5 12 dX2_productOfUnits_5 (by decide) ?_ ?_
    · skip
      refine S_iload_0 12 dX2_productOfUnits_12 ?_
      refine S_iload_1 13 dX2_productOfUnits_13 ?_
      refine S_icmpne 14 19 dX2_productOfUnits_14 (by decide) ?_ ?_
      · skip
        refine S_bip 19 6 dX2_productOfUnits_19 (by decide) ?_
        refine S_iload_0 21 dX2_productOfUnits_21 ?_
        refine S_isub 22 dX2_productOfUnits_22 ?_
        refine S_iload_1 23 dX2_productOfUnits_23 ?_
        refine S_isub 24 dX2_productOfUnits_24 ?_
        refine S_gen (fun v2 => ?_)
        refine S_istore_2 25 dX2_productOfUnits_25 rfl ?_
        refine S_iload_0 26 dX2_productOfUnits_26 ?_
        refine S_ic 27 1 dX2_productOfUnits_27 (by decide) ?_
        refine S_join (fun jj => ∀ (v3 : Int32) (h4 : XH), XS E mX2_productOfUnits eI 0 0 61 [none, none, some (.int v2), none] [.int v3] h4 (jj v3 h4)) (fun v3 h4 => ?_) (fun j61 hj61 => ?_)
        · skip
          refine S_istore_3 61 dX2_productOfUnits_61 rfl ?_
          refine S_iload_3 62 dX2_productOfUnits_62 ?_
          refine S_join (fun jj => ∀ (v5 : Int32) (h6 : XH), XS E mX2_productOfUnits eI 0 0 73 [none, none, none, none] [.int v5] h6 (jj v5 h6)) (fun v5 h6 => ?_) (fun j73 hj73 => ?_)
          · skip
            exact S_iret 73 dX2_productOfUnits_73 rfl
          refine S_ifeq 63 70 dX2_productOfUnits_63 (by decide) ?_ ?_
          · skip
            refine S_ic 70 4 dX2_productOfUnits_70 (by decide) ?_
            refine S_iload_2 71 dX2_productOfUnits_71 ?_
            refine S_iadd 72 dX2_productOfUnits_72 ?_
            exact S_drop [2, 3] rfl (hj73 _ _)
          · skip
            refine S_iload_2 66 dX2_productOfUnits_66 ?_
            refine S_goto 67 73 dX2_productOfUnits_67 (by decide) ?_
            exact S_drop [2, 3] rfl (hj73 _ _)
        refine S_join (fun jj => ∀  (h7 : XH), XS E mX2_productOfUnits eI 0 0 56 [none, none, some (.int v2), none] [] h7 (jj  h7)) (fun  h7 => ?_) (fun j56 hj56 => ?_)
        · skip
          refine S_ic 56 1 dX2_productOfUnits_56 (by decide) ?_
          refine S_goto 57 61 dX2_productOfUnits_57 (by decide) ?_
          exact S_drop [] rfl (hj61 _ _)
        refine S_join (fun jj => ∀  (h8 : XH), XS E mX2_productOfUnits eI 0 0 36 [some (.int p1), some (.int p2), some (.int v2), none] [] h8 (jj  h8)) (fun  h8 => ?_) (fun j36 hj36 => ?_)
        · skip
          refine S_iload_0 36 dX2_productOfUnits_36 ?_
          refine S_ic 37 2 dX2_productOfUnits_37 (by decide) ?_
          refine S_join (fun jj => ∀  (h9 : XH), XS E mX2_productOfUnits eI 0 0 46 [some (.int p1), some (.int p2), some (.int v2), none] [] h9 (jj  h9)) (fun  h9 => ?_) (fun j46 hj46 => ?_)
          · skip
            refine S_iload_0 46 dX2_productOfUnits_46 ?_
            refine S_ic 47 3 dX2_productOfUnits_47 (by decide) ?_
            refine S_join (fun jj => ∀  (h10 : XH), XS E mX2_productOfUnits eI 0 0 60 [none, none, some (.int v2), none] [] h10 (jj  h10)) (fun  h10 => ?_) (fun j60 hj60 => ?_)
            · skip
              refine S_ic 60 0 dX2_productOfUnits_60 (by decide) ?_
              exact S_drop [] rfl (hj61 _ _)
            refine S_icmpne 48 60 dX2_productOfUnits_48 (by decide) ?_ ?_
            · skip
              exact S_drop [0, 1] rfl (hj60 _)
            · skip
              refine S_iload_1 51 dX2_productOfUnits_51 ?_
              refine S_ic 52 1 dX2_productOfUnits_52 (by decide) ?_
              refine S_icmpne 53 60 dX2_productOfUnits_53 (by decide) ?_ ?_
              · skip
                exact S_drop [0, 1] rfl (hj60 _)
              · skip
                exact S_drop [0, 1] rfl (hj56 _)
          refine S_icmpne 38 46 dX2_productOfUnits_38 (by decide) ?_ ?_
          · skip
            exact S_drop [] rfl (hj46 _)
          · skip
            refine S_iload_1 41 dX2_productOfUnits_41 ?_
            refine S_ic 42 3 dX2_productOfUnits_42 (by decide) ?_
            refine S_icmpeq 43 56 dX2_productOfUnits_43 (by decide) ?_ ?_
            · skip
              exact S_drop [0, 1] rfl (hj56 _)
            · skip
              exact S_drop [] rfl (hj46 _)
        refine S_icmpne 28 36 dX2_productOfUnits_28 (by decide) ?_ ?_
        · skip
          exact S_drop [] rfl (hj36 _)
        · skip
          refine S_iload_1 31 dX2_productOfUnits_31 ?_
          refine S_ic 32 2 dX2_productOfUnits_32 (by decide) ?_
          refine S_icmpeq 33 56 dX2_productOfUnits_33 (by decide) ?_ ?_
          · skip
            exact S_drop [0, 1] rfl (hj56 _)
          · skip
            exact S_drop [] rfl (hj36 _)
      · skip
        refine S_ic 17 4 dX2_productOfUnits_17 (by decide) ?_
        exact S_iret 18 dX2_productOfUnits_18 rfl
    · skip
      exact S_drop [] rfl (hj8 _)
