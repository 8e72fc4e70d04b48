/-! Methods as functions, 1. -/
set_option linter.unusedVariables false
set_option maxRecDepth 10000
def FX0_joinsAlikePairs (E : XG) (t : Nat) (h : XH) : XP Int32 := xg (xk h t = 1) <| xb (FX0_firstReason E t  h) fun v1 h2 => if (v1 : Int32) = 0 then (xg (xk h2 t = 1) <| xnn (xr h2 t 0) fun w3 => xg (xk h2 w3 = 2) <| xb (FX1_kernelSet E w3  h2) fun v4 h5 => xg (xk h5 t = 1) <| xnn (xr h5 t 1) fun w6 => xg (xk h5 w6 = 2) <| xb (FX1_kernelSet E w6  h5) fun v7 h8 => xb (FJ6_bitCount_0f7a4 E v4 h8) fun v9 h10 => xb (FJ6_bitCount_0f7a4 E v7 h10) fun v11 h12 => xjn (fun (v13 : Int32) (h14 : XH) => xg ((v13 : Int32) = 0 ∨ (v13 : Int32) = 1) <| xv v13 h14) fun (j56 : Int32 → XH → XP Int32) => xjn (fun  (h15 : XH) => j56 0 h15) fun (j55 : XH → XP Int32) => if (v9 : Int32) = v11 then (xg (xk h12 t = 1) <| xb (FX0_partsKernel E t v4 h12) fun v16 h17 => if (v16 : Int32) = 0 then (j55 h17) else (xg (xk h17 t = 1) <| xb (FX0_matchesClasses E t  h17) fun v18 h19 => if (v18 : Int32) = 0 then (j55 h19) else (j56 1 h19))) else (j55 h12)) else (xg ((0 : Int32) = 0 ∨ (0 : Int32) = 1) <| xv 0 h2)
theorem CX0_joinsAlikePairs (E : XG) (t : Nat) (h : XH) : XN E mX0_joinsAlikePairs eI 0 0 [.ref t] h (FX0_joinsAlikePairs E t h) := by
  unfold FX0_joinsAlikePairs
  refine S_enter (L := [some (.ref t), none, none]) (by decide +kernel) rfl rfl rfl ?_
  refine S_aload_0 0 dX0_joinsAlikePairs_0 ?_
  refine S_callV (a' := 0) (b' := 0) (a := 0) (b := 0) 1 (As := []) (ci := 0) rfl calX0_firstReason imX0_firstReason seX0_firstReason mkX0_75 rfl rfl rfl rfl rfl (by decide) rfl rfl dX0_joinsAlikePairs_1 (CX0_firstReason E t  h) (fun v1 h2 => kqI ?_)
  refine S_ifeq 4 9 dX0_joinsAlikePairs_4 (by decide) ?_ ?_
  · skip
    refine S_aload_0 9 dX0_joinsAlikePairs_9 ?_
    refine S_getR 10 fsX0_18 rfl dX0_joinsAlikePairs_10 (fun w3 => ?_)
    refine S_callV (a' := 0) (b' := 0) (a := 0) (b := 0) 13 (As := []) (ci := 1) rfl calX1_kernelSet imX1_kernelSet seX1_kernelSet mkX0_79 rfl rfl rfl rfl rfl (by decide) rfl rfl dX0_joinsAlikePairs_13 (CX1_kernelSet E w3  h2) (fun v4 h5 => kqI ?_)
    refine S_istore_1 16 dX0_joinsAlikePairs_16 rfl ?_
    refine S_aload_0 17 dX0_joinsAlikePairs_17 ?_
    refine S_getR 18 fsX0_22 rfl dX0_joinsAlikePairs_18 (fun w6 => ?_)
    refine S_callV (a' := 0) (b' := 0) (a := 0) (b := 0) 21 (As := []) (ci := 1) rfl calX1_kernelSet imX1_kernelSet seX1_kernelSet mkX0_79 rfl rfl rfl rfl rfl (by decide) rfl rfl dX0_joinsAlikePairs_21 (CX1_kernelSet E w6  h5) (fun v7 h8 => kqI ?_)
    refine S_istore_2 24 dX0_joinsAlikePairs_24 rfl ?_
    refine S_iload_1 25 dX0_joinsAlikePairs_25 ?_
    refine S_callS (a' := 0) (b' := 0) (a := 0) (b := 0) 26 (As := [.int v4]) rfl calJ6_bitCount_0f7a4 stJ6_bitCount_0f7a4 mkX0_82 rfl rfl rfl rfl rfl dX0_joinsAlikePairs_26 (CJ6_bitCount_0f7a4 E v4 h8) (fun v9 h10 => kqI ?_)
    refine S_iload_2 29 dX0_joinsAlikePairs_29 ?_
    refine S_callS (a' := 0) (b' := 0) (a := 0) (b := 0) 30 (As := [.int v7]) rfl calJ6_bitCount_0f7a4 stJ6_bitCount_0f7a4 mkX0_82 rfl rfl rfl rfl rfl dX0_joinsAlikePairs_30 (CJ6_bitCount_0f7a4 E v7 h10) (fun v11 h12 => kqI ?_)
    refine S_join (fun jj => ∀ (v13 : Int32) (h14 : XH), XS E mX0_joinsAlikePairs eI 0 0 56 [none, none, none] [.int v13] h14 (jj v13 h14)) (fun v13 h14 => ?_) (fun j56 hj56 => ?_)
    · skip
      exact S_zret 56 dX0_joinsAlikePairs_56 rfl
    refine S_join (fun jj => ∀  (h15 : XH), XS E mX0_joinsAlikePairs eI 0 0 55 [none, none, none] [] h15 (jj  h15)) (fun  h15 => ?_) (fun j55 hj55 => ?_)
    · skip
      refine S_ic 55 0 dX0_joinsAlikePairs_55 (by decide) ?_
      exact S_drop [] rfl (hj56 _ _)
    refine S_icmpne 33 55 dX0_joinsAlikePairs_33 (by decide) ?_ ?_
    · skip
      exact S_drop [0, 1, 2] rfl (hj55 _)
    · skip
      refine S_aload_0 36 dX0_joinsAlikePairs_36 ?_
      refine S_iload_1 37 dX0_joinsAlikePairs_37 ?_
      refine S_callV (a' := 0) (b' := 0) (a := 0) (b := 0) 38 (As := [.int v4]) (ci := 0) rfl calX0_partsKernel imX0_partsKernel seX0_partsKernel mkX0_87 rfl rfl rfl rfl rfl (by decide) rfl rfl dX0_joinsAlikePairs_38 (CX0_partsKernel E t v4 h12) (fun v16 h17 => kqI ?_)
      refine S_ifeq 41 55 dX0_joinsAlikePairs_41 (by decide) ?_ ?_
      · skip
        exact S_drop [0, 1, 2] rfl (hj55 _)
      · skip
        refine S_aload_0 44 dX0_joinsAlikePairs_44 ?_
        refine S_callV (a' := 0) (b' := 0) (a := 0) (b := 0) 45 (As := []) (ci := 0) rfl calX0_matchesClasses imX0_matchesClasses seX0_matchesClasses mkX0_91 rfl rfl rfl rfl rfl (by decide) rfl rfl dX0_joinsAlikePairs_45 (CX0_matchesClasses E t  h17) (fun v18 h19 => kqI ?_)
        refine S_ifeq 48 55 dX0_joinsAlikePairs_48 (by decide) ?_ ?_
        · skip
          exact S_drop [0, 1, 2] rfl (hj55 _)
        · skip
          refine S_ic 51 1 dX0_joinsAlikePairs_51 (by decide) ?_
          refine S_goto 52 56 dX0_joinsAlikePairs_52 (by decide) ?_
          exact S_drop [0, 1, 2] rfl (hj56 _ _)
  · skip
    refine S_ic 7 0 dX0_joinsAlikePairs_7 (by decide) ?_
    exact S_zret 8 dX0_joinsAlikePairs_8 rfl
def FX4_init (E : XG) (t : Nat) (h : XH) : XP Unit := xg (xk h t ≠ 0) <| xal h 12 8 fun w1 h2 => xg (xk h2 t = 5) <| xlt (yr h2 t 0 (some w1)) fun h3 => xg (xk h3 t ≠ 0) <| xal h3 12 8 fun w4 h5 => xg (xk h5 t = 5) <| xlt (yr h5 t 1 (some w4)) fun h6 => xg (xk h6 t ≠ 0) <| xal h6 12 9 fun w7 h8 => xg (xk h8 t = 5) <| xlt (yr h8 t 2 (some w7)) fun h9 => xg (xk h9 t ≠ 0) <| xal h9 12 9 fun w10 h11 => xg (xk h11 t = 5) <| xlt (yr h11 t 3 (some w10)) fun h12 => xv () h12
theorem CX4_init (E : XG) (t : Nat) (h : XH) : XN E mX4_init eU 4 34 [.ref t] h (FX4_init E t h) := by
  unfold FX4_init
  refine S_enter (L := [some (.ref t)]) (by decide +kernel) rfl rfl rfl ?_
  refine S_aload_0 0 dX4_init_0 ?_
  refine S_objinit 1 rfl oiX4_3 oiI oiC (by decide) (by decide) (by exact Nat.le_of_ble_eq_true rfl) dX4_init_1 ?_
  refine S_aload_0 4 dX4_init_4 ?_
  refine S_bip 5 8 dX4_init_5 (by decide) ?_
  refine S_new_int (a := 3) (b := 26) 7 t 8 (by decide) (by decide) (by decide) ar12 dX4_init_7 (fun w1 h2 => ?_)
  refine S_putR 9 frX4_9 rfl rfl (fun _ => rfl) dX4_init_9 (fun h3 => ?_)
  refine S_aload_0 12 dX4_init_12 ?_
  refine S_bip 13 8 dX4_init_13 (by decide) ?_
  refine S_new_int (a := 2) (b := 18) 15 t 8 (by decide) (by decide) (by decide) ar12 dX4_init_15 (fun w4 h5 => ?_)
  refine S_putR 17 frX4_15 rfl rfl (fun _ => rfl) dX4_init_17 (fun h6 => ?_)
  refine S_aload_0 20 dX4_init_20 ?_
  refine S_bip 21 9 dX4_init_21 (by decide) ?_
  refine S_new_int (a := 1) (b := 9) 23 t 9 (by decide) (by decide) (by decide) ar12 dX4_init_23 (fun w7 h8 => ?_)
  refine S_putR 25 frX4_18 rfl rfl (fun _ => rfl) dX4_init_25 (fun h9 => ?_)
  refine S_aload_0 28 dX4_init_28 ?_
  refine S_bip 29 9 dX4_init_29 (by decide) ?_
  refine S_new_int (a := 0) (b := 0) 31 t 9 (by decide) (by decide) (by decide) ar12 dX4_init_31 (fun w10 h11 => ?_)
  refine S_putR 33 frX4_21 rfl rfl (fun _ => rfl) dX4_init_33 (fun h12 => ?_)
  exact S_ret 36 dX4_init_36 rfl
def FX1_init (E : XG) (t : Nat) (p1 : Int32) (p2 : Nat) (h : XH) : XP Unit := xg (xk h t ≠ 0) <| xal h 12 8 fun w1 h2 => xg (xk h2 t = 2) <| xlt (yr h2 t 3 (some w1)) fun h3 => xg (xk h3 t ≠ 0) <| xal h3 12 64 fun w4 h5 => xg (xk h5 t = 2) <| xlt (yr h5 t 4 (some w4)) fun h6 => xg (xk h6 t ≠ 0) <| xal h6 5 0 fun w7 h8 => xb (FX4_init E w7  h8) fun _ h9 => xg (xk h9 t = 2) <| xlt (yr h9 t 5 (some w7)) fun h10 => xg (xk h10 t = 2) <| xlt (yi h10 t 0 p1) fun h11 => xg (xk h11 t = 2) <| xlt (yr h11 t 1 (some p2)) fun h12 => xg (xk h12 t = 2) <| xlt (yr h12 t 2 (some p2)) fun h13 => xv () h13
theorem CX1_init (E : XG) (t : Nat) (p1 : Int32) (p2 : Nat) (h : XH) : XN E mX1_init eU 7 111 [.ref t, .int p1, .ref p2] h (FX1_init E t p1 p2 h) := by
  unfold FX1_init
  refine S_enter (L := [some (.ref t), some (.int p1), some (.ref p2)]) (by decide +kernel) rfl rfl rfl ?_
  refine S_aload_0 0 dX1_init_0 ?_
  refine S_objinit 1 rfl oiX1_3 oiI oiC (by decide) (by decide) (by exact Nat.le_of_ble_eq_true rfl) dX1_init_1 ?_
  refine S_aload_0 4 dX1_init_4 ?_
  refine S_bip 5 8 dX1_init_5 (by decide) ?_
  refine S_new_int (a := 6) (b := 103) 7 t 8 (by decide) (by decide) (by decide) ar12 dX1_init_7 (fun w1 h2 => ?_)
  refine S_putR 9 frX1_9 rfl rfl (fun _ => rfl) dX1_init_9 (fun h3 => ?_)
  refine S_aload_0 12 dX1_init_12 ?_
  refine S_bip 13 64 dX1_init_13 (by decide) ?_
  refine S_new_int (a := 5) (b := 39) 15 t 64 (by decide) (by decide) (by decide) ar12 dX1_init_15 (fun w4 h5 => ?_)
  refine S_putR 17 frX1_15 rfl rfl (fun _ => rfl) dX1_init_17 (fun h6 => ?_)
  refine S_aload_0 20 dX1_init_20 ?_
  refine S_new (a := 4) (b := 34) 21 t (ci := 4) (N := 5) xok4 rfl nwX1_18 inst4 ini4 dv4 dX1_init_21 (fun w7 h8 => ?_)
  refine S_dup 24 dX1_init_24 rfl ?_
  refine S_callIN (a' := 4) (b' := 34) (a := 0) (b := 0) 25 (As := []) rfl calX4_init rfl rfl imX4_init (List.mem_of_getElem? (i := 2) rfl) rfl rfl rfl rfl rfl dX1_init_25 (CX4_init E w7  h8) (fun _ h9 => kqU ?_)
  refine S_putR 28 frX1_21 rfl rfl (fun _ => rfl) dX1_init_28 (fun h10 => ?_)
  refine S_aload_0 31 dX1_init_31 ?_
  refine S_iload_1 32 dX1_init_32 ?_
  refine S_putI 33 frX1_25 rfl (fun _ => rfl) dX1_init_33 (fun h11 => ?_)
  refine S_aload_0 36 dX1_init_36 ?_
  refine S_aload_2 37 dX1_init_37 ?_
  refine S_putR 38 frX1_29 rfl rfl (fun q => by cases q) dX1_init_38 (fun h12 => ?_)
  refine S_aload_0 41 dX1_init_41 ?_
  refine S_aload_2 42 dX1_init_42 ?_
  refine S_putR 43 frX1_33 rfl rfl (fun q => by cases q) dX1_init_43 (fun h13 => ?_)
  exact S_ret 46 dX1_init_46 rfl
def FJ9_floorMod_7cf53 (E : XG) (p1 : Int32) (p2 : Int32) (h : XH) : XP Int32 := xg ((p2 : Int32) ≠ 0) <| xlt (xrem p1 p2) fun v1 => xjn (fun  (h2 : XH) => xv v1 h2) fun (j18 : XH → XP Int32) => if (0 : Int32) ≤ (p1 ^^^ p2) then (j18 h) else (if (v1 : Int32) = 0 then (j18 h) else (xv (v1 + p2) h))
theorem CJ9_floorMod_7cf53 (E : XG) (p1 : Int32) (p2 : Int32) (h : XH) : XN E mJ9_floorMod_7cf53 eI 0 0 [.int p1, .int p2] h (FJ9_floorMod_7cf53 E p1 p2 h) := by
  unfold FJ9_floorMod_7cf53
  refine S_enterF (L := [some (.int p1), some (.int p2), none]) (by decide +kernel) rfl rfl rfl ?_
  refine S_iload_0 0 dJ9_floorMod_7cf53_0 ?_
  refine S_iload_1 1 dJ9_floorMod_7cf53_1 ?_
  refine S_irem 2 dJ9_floorMod_7cf53_2 ?_
  refine S_gen (fun v1 => ?_)
  refine S_istore_2 3 dJ9_floorMod_7cf53_3 rfl ?_
  refine S_iload_0 4 dJ9_floorMod_7cf53_4 ?_
  refine S_iload_1 5 dJ9_floorMod_7cf53_5 ?_
  refine S_ixor 6 dJ9_floorMod_7cf53_6 ?_
  refine S_join (fun jj => ∀  (h2 : XH), XS E mJ9_floorMod_7cf53 eI 0 0 18 [none, none, some (.int v1)] [] h2 (jj  h2)) (fun  h2 => ?_) (fun j18 hj18 => ?_)
  · skip
    refine S_iload_2 18 dJ9_floorMod_7cf53_18 ?_
    exact S_iret 19 dJ9_floorMod_7cf53_19 rfl
  refine S_ifge 7 18 dJ9_floorMod_7cf53_7 (by decide) ?_ ?_
  · skip
    exact S_drop [0, 1] rfl (hj18 _)
  · skip
    refine S_iload_2 10 dJ9_floorMod_7cf53_10 ?_
    refine S_ifeq 11 18 dJ9_floorMod_7cf53_11 (by decide) ?_ ?_
    · skip
      exact S_drop [0, 1] rfl (hj18 _)
    · skip
      refine S_iload_2 14 dJ9_floorMod_7cf53_14 ?_
      refine S_iload_1 15 dJ9_floorMod_7cf53_15 ?_
      refine S_iadd 16 dJ9_floorMod_7cf53_16 ?_
      exact S_iret 17 dJ9_floorMod_7cf53_17 rfl
def FX1_start (E : XG) (t : Nat) (p1 : Nat) (p2 : Nat) (h : XH) : XP Unit := xg (xk h t = 2) <| xlt (yr h t 1 (some p1)) fun h1 => xg (xk h1 t = 2) <| xlt (yr h1 t 2 (some p2)) fun h2 => xg (xk h2 t = 2) <| xlt (yi h2 t 6 0) fun h3 => xlp (fun again17 (s17 : Int32) h4 => xg (xk h4 t = 2) <| xnn (xr h4 t 4) fun w5 => xg (xk h4 w5 = 12) <| if ((Int32.ofNat (xn h4 w5)) : Int32) ≤ s17 then (xv () h4) else (xg (xk h4 t = 2) <| xnn (xr h4 t 4) fun w6 => xb (FJ9_floorMod_7cf53 E s17 8 h4) fun v7 h8 => xg (xk h8 w6 = 12 ∧ xin s17 (xn h8 w6)) <| xlt (yi h8 w6 (s17 : Int32).toNatClampNeg v7) fun h9 => again17 (s17 + 1) h9)) xfu 0 h3
theorem CX1_start (E : XG) (t : Nat) (p1 : Nat) (p2 : Nat) (h : XH) : XN E mX1_start eU 0 0 [.ref t, .ref p1, .ref p2] h (FX1_start E t p1 p2 h) := by
  unfold FX1_start
  refine S_enter (L := [some (.ref t), some (.ref p1), some (.ref p2), none]) (by decide +kernel) rfl rfl rfl ?_
  refine S_aload_0 0 dX1_start_0 ?_
  refine S_aload_1 1 dX1_start_1 ?_
  refine S_putR 2 frX1_29 rfl rfl (fun q => by cases q) dX1_start_2 (fun h1 => ?_)
  refine S_aload_0 5 dX1_start_5 ?_
  refine S_aload_2 6 dX1_start_6 ?_
  refine S_putR 7 frX1_33 rfl rfl (fun q => by cases q) dX1_start_7 (fun h2 => ?_)
  refine S_aload_0 10 dX1_start_10 ?_
  refine S_ic 11 0 dX1_start_11 (by decide) ?_
  refine S_putI 12 frX1_36 rfl (fun q => by cases q) dX1_start_12 (fun h3 => ?_)
  refine S_ic 15 0 dX1_start_15 (by decide) ?_
  refine S_istore_3 16 dX1_start_16 rfl ?_
  refine S_drop [1, 2] rfl ?_
  refine S_loop (fun (s17 : Int32) => [some (.ref t), none, none, some (.int s17)]) (fun again17 hg17 s17 h4 => ?_) xfu _ _
  refine S_iload_3 17 dX1_start_17 ?_
  refine S_aload_0 18 dX1_start_18 ?_
  refine S_getR 19 fsX1_15 rfl dX1_start_19 (fun w5 => ?_)
  refine S_alen 22 12 1 (by decide) rfl dX1_start_22 ?_
  refine S_icmpge 23 44 dX1_start_23 (by decide) ?_ ?_
  · skip
    exact S_ret 44 dX1_start_44 rfl
  · skip
    refine S_aload_0 26 dX1_start_26 ?_
    refine S_getR 27 fsX1_15 rfl dX1_start_27 (fun w6 => ?_)
    refine S_iload_3 30 dX1_start_30 ?_
    refine S_iload_3 31 dX1_start_31 ?_
    refine S_bip 32 8 dX1_start_32 (by decide) ?_
    refine S_callS (a' := 0) (b' := 0) (a := 0) (b := 0) 34 (As := [.int s17, .int 8]) rfl calJ9_floorMod_7cf53 stJ9_floorMod_7cf53 mkX1_39 rfl rfl rfl rfl rfl dX1_start_34 (CJ9_floorMod_7cf53 E s17 8 h4) (fun v7 h8 => kqI ?_)
    refine S_iast 37 dX1_start_37 (fun h9 => ?_)
    refine S_iinc_3 38 (s17 + 1) dX1_start_38 (by rfl) rfl ?_
    refine S_goto 41 17 dX1_start_41 (by decide) ?_
    exact S_drop [] rfl (hg17 _ _)
def FX1_replaceAction (E : XG) (t : Nat) (p1 : Int32) (p2 : Int32) (p3 : Int32) (h : XH) : XP Int32 := xg (xk h t = 2) <| xb (FX1_actionOf E t p1 p2 h) fun v1 h2 => xg (xk h2 t = 2) <| xnn (xr h2 t 4) fun w3 => xb (FX8_put E w3 ((p1 * 8) + p2) p3 h2) fun _ h4 => xjn (fun (v5 : Int32) (h6 : XH) => xv v5 h6) fun (j33 : Int32 → XH → XP Int32) => if (v1 : Int32) = p3 then (j33 0 h4) else (j33 1 h4)
theorem CX1_replaceAction (E : XG) (t : Nat) (p1 : Int32) (p2 : Int32) (p3 : Int32) (h : XH) : XN E mX1_replaceAction eI 0 0 [.ref t, .int p1, .int p2, .int p3] h (FX1_replaceAction E t p1 p2 p3 h) := by
  unfold FX1_replaceAction
  refine S_enter (L := [some (.ref t), some (.int p1), some (.int p2), some (.int p3), none]) (by decide +kernel) rfl rfl rfl ?_
  refine S_aload_0 0 dX1_replaceAction_0 ?_
  refine S_iload_1 1 dX1_replaceAction_1 ?_
  refine S_iload_2 2 dX1_replaceAction_2 ?_
  refine S_callV (a' := 0) (b' := 0) (a := 0) (b := 0) 3 (As := [.int p1, .int p2]) (ci := 1) rfl calX1_actionOf imX1_actionOf seX1_actionOf mkX1_49 rfl rfl rfl rfl rfl (by decide) rfl rfl dX1_replaceAction_3 (CX1_actionOf E t p1 p2 h) (fun v1 h2 => kqI ?_)
  refine S_istore_4 6 dX1_replaceAction_6 rfl ?_
  refine S_aload_0 8 dX1_replaceAction_8 ?_
  refine S_getR 9 fsX1_15 rfl dX1_replaceAction_9 (fun w3 => ?_)
  refine S_iload_1 12 dX1_replaceAction_12 ?_
  refine S_bip 13 8 dX1_replaceAction_13 (by decide) ?_
  refine S_imul 15 dX1_replaceAction_15 ?_
  refine S_iload_2 16 dX1_replaceAction_16 ?_
  refine S_iadd 17 dX1_replaceAction_17 ?_
  refine S_iload_3 18 dX1_replaceAction_18 ?_
  refine S_callSN (a' := 0) (b' := 0) (a := 0) (b := 0) 19 (As := [.ref w3, .int ((p1 * 8) + p2), .int p3]) rfl calX8_put stX8_put (List.mem_of_getElem? (i := 4) rfl) rfl rfl rfl rfl rfl dX1_replaceAction_19 (CX8_put E w3 ((p1 * 8) + p2) p3 h2) (fun _ h4 => kqU ?_)
  refine S_iload_4 22 dX1_replaceAction_22 ?_
  refine S_iload_3 24 dX1_replaceAction_24 ?_
  refine S_join (fun jj => ∀ (v5 : Int32) (h6 : XH), XS E mX1_replaceAction eI 0 0 33 [none, none, none, none, none] [.int v5] h6 (jj v5 h6)) (fun v5 h6 => ?_) (fun j33 hj33 => ?_)
  · skip
    exact S_iret 33 dX1_replaceAction_33 rfl
  refine S_icmpne 25 32 dX1_replaceAction_25 (by decide) ?_ ?_
  · skip
    refine S_ic 32 1 dX1_replaceAction_32 (by decide) ?_
    exact S_drop [0, 1, 2, 3, 4] rfl (hj33 _ _)
  · skip
    refine S_ic 28 0 dX1_replaceAction_28 (by decide) ?_
    refine S_goto 29 33 dX1_replaceAction_29 (by decide) ?_
    exact S_drop [0, 1, 2, 3, 4] rfl (hj33 _ _)
def FX1_becomeRestful (E : XG) (t : Nat) (h : XH) : XP Int32 := xlp (fun again4 (s4 : Int32 × Int32) h1 => xg (xk h1 t = 2) <| xnn (xr h1 t 2) fun w2 => xg (xk h1 w2 = 3) <| if ((xi h1 w2 3) : Int32) ≤ s4.2 then (xv s4.1 h1) else (xlp (fun again17 (s17 : Int32 × Int32) h3 => xg (xk h3 t = 2) <| xnn (xr h3 t 1) fun w4 => xg (xk h3 w4 = 3) <| if ((xi h3 w4 3) : Int32) ≤ s17.2 then (again4 (s17.1, (s4.2 + 1)) h3) else (xg (xk h3 t = 2) <| xb (FX1_replaceAction E t s4.2 s17.2 s17.2 h3) fun v5 h6 => xlt (s17.1 + v5) fun v7 => again17 (v7, (s17.2 + 1)) h6)) xfu (s4.1, 0) h1)) xfu (0, 0) h
theorem CX1_becomeRestful (E : XG) (t : Nat) (h : XH) : XN E mX1_becomeRestful eI 0 0 [.ref t] h (FX1_becomeRestful E t h) := by
  unfold FX1_becomeRestful
  refine S_enter (L := [some (.ref t), none, none, none]) (by decide +kernel) rfl rfl rfl ?_
  refine S_ic 0 0 dX1_becomeRestful_0 (by decide) ?_
  refine S_istore_1 1 dX1_becomeRestful_1 rfl ?_
  refine S_ic 2 0 dX1_becomeRestful_2 (by decide) ?_
  refine S_istore_2 3 dX1_becomeRestful_3 rfl ?_
  refine S_loop (fun (s4 : Int32 × Int32) => [some (.ref t), some (.int s4.1), some (.int s4.2), none]) (fun again4 hg4 s4 h1 => ?_) xfu _ _
  refine S_iload_2 4 dX1_becomeRestful_4 ?_
  refine S_aload_0 5 dX1_becomeRestful_5 ?_
  refine S_getR 6 fsX1_33 rfl dX1_becomeRestful_6 (fun w2 => ?_)
  refine S_getI 9 fsX1_56 rfl dX1_becomeRestful_9 ?_
  refine S_icmpge 12 50 dX1_becomeRestful_12 (by decide) ?_ ?_
  · skip
    refine S_iload_1 50 dX1_becomeRestful_50 ?_
    exact S_iret 51 dX1_becomeRestful_51 rfl
  · skip
    refine S_ic 15 0 dX1_becomeRestful_15 (by decide) ?_
    refine S_istore_3 16 dX1_becomeRestful_16 rfl ?_
    refine S_loop (fun (s17 : Int32 × Int32) => [some (.ref t), some (.int s17.1), some (.int s4.2), some (.int s17.2)]) (fun again17 hg17 s17 h3 => ?_) xfu _ _
    refine S_iload_3 17 dX1_becomeRestful_17 ?_
    refine S_aload_0 18 dX1_becomeRestful_18 ?_
    refine S_getR 19 fsX1_29 rfl dX1_becomeRestful_19 (fun w4 => ?_)
    refine S_getI 22 fsX1_56 rfl dX1_becomeRestful_22 ?_
    refine S_icmpge 25 44 dX1_becomeRestful_25 (by decide) ?_ ?_
    · skip
      refine S_iinc_2 44 (s4.2 + 1) dX1_becomeRestful_44 (by rfl) rfl ?_
      refine S_goto 47 4 dX1_becomeRestful_47 (by decide) ?_
      exact S_drop [3] rfl (hg4 _ _)
    · skip
      refine S_iload_1 28 dX1_becomeRestful_28 ?_
      refine S_aload_0 29 dX1_becomeRestful_29 ?_
      refine S_iload_2 30 dX1_becomeRestful_30 ?_
      refine S_iload_3 31 dX1_becomeRestful_31 ?_
      refine S_iload_3 32 dX1_becomeRestful_32 ?_
      refine S_callV (a' := 0) (b' := 0) (a := 0) (b := 0) 33 (As := [.int s4.2, .int s17.2, .int s17.2]) (ci := 1) rfl calX1_replaceAction imX1_replaceAction seX1_replaceAction mkX1_61 rfl rfl rfl rfl rfl (by decide) rfl rfl dX1_becomeRestful_33 (CX1_replaceAction E t s4.2 s17.2 s17.2 h3) (fun v5 h6 => kqI ?_)
      refine S_iadd 36 dX1_becomeRestful_36 ?_
      refine S_gen (fun v7 => ?_)
      refine S_istore_1 37 dX1_becomeRestful_37 rfl ?_
      refine S_iinc_3 38 (s17.2 + 1) dX1_becomeRestful_38 (by rfl) rfl ?_
      refine S_goto 41 17 dX1_becomeRestful_41 (by decide) ?_
      exact S_drop [] rfl (hg17 _ _)
def FX2_opposite (E : XG) (t : Nat) (p1 : Int32) (h : XH) : XP Int32 := xg (xk h t = 3) <| xnn (xr h t 2) fun w1 => xb (FX8_at E w1 p1 h) fun v2 h3 => xv v2 h3
theorem CX2_opposite (E : XG) (t : Nat) (p1 : Int32) (h : XH) : XN E mX2_opposite eI 0 0 [.ref t, .int p1] h (FX2_opposite E t p1 h) := by
  unfold FX2_opposite
  refine S_enter (L := [some (.ref t), some (.int p1)]) (by decide +kernel) rfl rfl rfl ?_
  refine S_aload_0 0 dX2_opposite_0 ?_
  refine S_getR 1 fsX2_15 rfl dX2_opposite_1 (fun w1 => ?_)
  refine S_iload_1 4 dX2_opposite_4 ?_
  refine S_callSN (a' := 0) (b' := 0) (a := 0) (b := 0) 5 (As := [.ref w1, .int p1]) rfl calX8_at stX8_at (List.mem_of_getElem? (i := 6) rfl) rfl rfl rfl rfl rfl dX2_opposite_5 (CX8_at E w1 p1 h) (fun v2 h3 => kqI ?_)
  exact S_iret 8 dX2_opposite_8 rfl
def FX2_conjugateBy (E : XG) (t : Nat) (p1 : Int32) (p2 : Int32) (h : XH) : XP Int32 := xg (xk h t = 3) <| xb (FX2_product E t p1 p2 h) fun v1 h2 => xg (xk h2 t = 3) <| xb (FX2_opposite E t p1 h2) fun v3 h4 => xg (xk h4 t = 3) <| xb (FX2_product E t v1 v3 h4) fun v5 h6 => xv v5 h6
theorem CX2_conjugateBy (E : XG) (t : Nat) (p1 : Int32) (p2 : Int32) (h : XH) : XN E mX2_conjugateBy eI 0 0 [.ref t, .int p1, .int p2] h (FX2_conjugateBy E t p1 p2 h) := by
  unfold FX2_conjugateBy
  refine S_enter (L := [some (.ref t), some (.int p1), some (.int p2)]) (by decide +kernel) rfl rfl rfl ?_
  refine S_aload_0 0 dX2_conjugateBy_0 ?_
  refine S_aload_0 1 dX2_conjugateBy_1 ?_
  refine S_iload_1 2 dX2_conjugateBy_2 ?_
  refine S_iload_2 3 dX2_conjugateBy_3 ?_
  refine S_callV (a' := 0) (b' := 0) (a := 0) (b := 0) 4 (As := [.int p1, .int p2]) (ci := 2) rfl calX2_product imX2_product seX2_product mkX2_29 rfl rfl rfl rfl rfl (by decide) rfl rfl dX2_conjugateBy_4 (CX2_product E t p1 p2 h) (fun v1 h2 => kqI ?_)
  refine S_aload_0 7 dX2_conjugateBy_7 ?_
  refine S_iload_1 8 dX2_conjugateBy_8 ?_
  refine S_callV (a' := 0) (b' := 0) (a := 0) (b := 0) 9 (As := [.int p1]) (ci := 2) rfl calX2_opposite imX2_opposite seX2_opposite mkX2_33 rfl rfl rfl rfl rfl (by decide) rfl rfl dX2_conjugateBy_9 (CX2_opposite E t p1 h2) (fun v3 h4 => kqI ?_)
  refine S_callV (a' := 0) (b' := 0) (a := 0) (b := 0) 12 (As := [.int v1, .int v3]) (ci := 2) rfl calX2_product imX2_product seX2_product mkX2_29 rfl rfl rfl rfl rfl (by decide) rfl rfl dX2_conjugateBy_12 (CX2_product E t v1 v3 h4) (fun v5 h6 => kqI ?_)
  exact S_iret 15 dX2_conjugateBy_15 rfl
def FX1_becomeConjugation (E : XG) (t : Nat) (h : XH) : XP Int32 := xlp (fun again4 (s4 : Int32 × Int32) h1 => xg (xk h1 t = 2) <| xnn (xr h1 t 2) fun w2 => xg (xk h1 w2 = 3) <| if ((xi h1 w2 3) : Int32) ≤ s4.2 then (xv s4.1 h1) else (xlp (fun again17 (s17 : Int32 × Int32) h3 => xg (xk h3 t = 2) <| xnn (xr h3 t 1) fun w4 => xg (xk h3 w4 = 3) <| if ((xi h3 w4 3) : Int32) ≤ s17.2 then (again4 (s17.1, (s4.2 + 1)) h3) else (xg (xk h3 t = 2) <| xnn (xr h3 t 1) fun w5 => xg (xk h3 w5 = 3) <| xb (FX2_conjugateBy E w5 s4.2 s17.2 h3) fun v6 h7 => xg (xk h7 t = 2) <| xb (FX1_replaceAction E t s4.2 s17.2 v6 h7) fun v8 h9 => xlt (s17.1 + v8) fun v10 => again17 (v10, (s17.2 + 1)) h9)) xfu (s4.1, 0) h1)) xfu (0, 0) h
theorem CX1_becomeConjugation (E : XG) (t : Nat) (h : XH) : XN E mX1_becomeConjugation eI 0 0 [.ref t] h (FX1_becomeConjugation E t h) := by
  unfold FX1_becomeConjugation
  refine S_enter (L := [some (.ref t), none, none, none]) (by decide +kernel) rfl rfl rfl ?_
  refine S_ic 0 0 dX1_becomeConjugation_0 (by decide) ?_
  refine S_istore_1 1 dX1_becomeConjugation_1 rfl ?_
  refine S_ic 2 0 dX1_becomeConjugation_2 (by decide) ?_
  refine S_istore_2 3 dX1_becomeConjugation_3 rfl ?_
  refine S_loop (fun (s4 : Int32 × Int32) => [some (.ref t), some (.int s4.1), some (.int s4.2), none]) (fun again4 hg4 s4 h1 => ?_) xfu _ _
  refine S_iload_2 4 dX1_becomeConjugation_4 ?_
  refine S_aload_0 5 dX1_becomeConjugation_5 ?_
  refine S_getR 6 fsX1_33 rfl dX1_becomeConjugation_6 (fun w2 => ?_)
  refine S_getI 9 fsX1_56 rfl dX1_becomeConjugation_9 ?_
  refine S_icmpge 12 58 dX1_becomeConjugation_12 (by decide) ?_ ?_
  · skip
    refine S_iload_1 58 dX1_becomeConjugation_58 ?_
    exact S_iret 59 dX1_becomeConjugation_59 rfl
  · skip
    refine S_ic 15 0 dX1_becomeConjugation_15 (by decide) ?_
    refine S_istore_3 16 dX1_becomeConjugation_16 rfl ?_
    refine S_loop (fun (s17 : Int32 × Int32) => [some (.ref t), some (.int s17.1), some (.int s4.2), some (.int s17.2)]) (fun again17 hg17 s17 h3 => ?_) xfu _ _
    refine S_iload_3 17 dX1_becomeConjugation_17 ?_
    refine S_aload_0 18 dX1_becomeConjugation_18 ?_
    refine S_getR 19 fsX1_29 rfl dX1_becomeConjugation_19 (fun w4 => ?_)
    refine S_getI 22 fsX1_56 rfl dX1_becomeConjugation_22 ?_
    refine S_icmpge 25 52 dX1_becomeConjugation_25 (by decide) ?_ ?_
    · skip
      refine S_iinc_2 52 (s4.2 + 1) dX1_becomeConjugation_52 (by rfl) rfl ?_
      refine S_goto 55 4 dX1_becomeConjugation_55 (by decide) ?_
      exact S_drop [3] rfl (hg4 _ _)
    · skip
      refine S_iload_1 28 dX1_becomeConjugation_28 ?_
      refine S_aload_0 29 dX1_becomeConjugation_29 ?_
      refine S_iload_2 30 dX1_becomeConjugation_30 ?_
      refine S_iload_3 31 dX1_becomeConjugation_31 ?_
      refine S_aload_0 32 dX1_becomeConjugation_32 ?_
      refine S_getR 33 fsX1_29 rfl dX1_becomeConjugation_33 (fun w5 => ?_)
      refine S_iload_2 36 dX1_becomeConjugation_36 ?_
      refine S_iload_3 37 dX1_becomeConjugation_37 ?_
      refine S_callV (a' := 0) (b' := 0) (a := 0) (b := 0) 38 (As := [.int s4.2, .int s17.2]) (ci := 2) rfl calX2_conjugateBy imX2_conjugateBy seX2_conjugateBy mkX1_65 rfl rfl rfl rfl rfl (by decide) rfl rfl dX1_becomeConjugation_38 (CX2_conjugateBy E w5 s4.2 s17.2 h3) (fun v6 h7 => kqI ?_)
      refine S_callV (a' := 0) (b' := 0) (a := 0) (b := 0) 41 (As := [.int s4.2, .int s17.2, .int v6]) (ci := 1) rfl calX1_replaceAction imX1_replaceAction seX1_replaceAction mkX1_61 rfl rfl rfl rfl rfl (by decide) rfl rfl dX1_becomeConjugation_41 (CX1_replaceAction E t s4.2 s17.2 v6 h7) (fun v8 h9 => kqI ?_)
      refine S_iadd 44 dX1_becomeConjugation_44 ?_
      refine S_gen (fun v10 => ?_)
      refine S_istore_1 45 dX1_becomeConjugation_45 rfl ?_
      refine S_iinc_3 46 (s17.2 + 1) dX1_becomeConjugation_46 (by rfl) rfl ?_
      refine S_goto 49 17 dX1_becomeConjugation_49 (by decide) ?_
      exact S_drop [] rfl (hg17 _ _)
def FX1_boundaryKeepsProducts (E : XG) (t : Nat) (h : XH) : XP Int32 := xlp (fun again2 (s2 : Int32) h1 => xg (xk h1 t = 2) <| xnn (xr h1 t 1) fun w2 => xg (xk h1 w2 = 3) <| if ((xi h1 w2 3) : Int32) ≤ s2 then (xg ((1 : Int32) = 0 ∨ (1 : Int32) = 1) <| xv 1 h1) else (xlp (fun again15 (s15 : Int32) h3 => xg (xk h3 t = 2) <| xnn (xr h3 t 1) fun w4 => xg (xk h3 w4 = 3) <| if ((xi h3 w4 3) : Int32) ≤ s15 then (again2 (s2 + 1) h3) else (xg (xk h3 t = 2) <| xnn (xr h3 t 1) fun w5 => xg (xk h3 w5 = 3) <| xb (FX2_product E w5 s2 s15 h3) fun v6 h7 => xg (xk h7 t = 2) <| xb (FX1_boundaryOf E t v6 h7) fun v8 h9 => xg (xk h9 t = 2) <| xnn (xr h9 t 2) fun w10 => xg (xk h9 t = 2) <| xb (FX1_boundaryOf E t s2 h9) fun v11 h12 => xg (xk h12 t = 2) <| xb (FX1_boundaryOf E t s15 h12) fun v13 h14 => xg (xk h14 w10 = 3) <| xb (FX2_product E w10 v11 v13 h14) fun v15 h16 => if (v8 : Int32) = v15 then (again15 (s15 + 1) h16) else (xg ((0 : Int32) = 0 ∨ (0 : Int32) = 1) <| xv 0 h16))) xfu 0 h1)) xfu 0 h
theorem CX1_boundaryKeepsProducts (E : XG) (t : Nat) (h : XH) : XN E mX1_boundaryKeepsProducts eI 0 0 [.ref t] h (FX1_boundaryKeepsProducts E t h) := by
  unfold FX1_boundaryKeepsProducts
  refine S_enter (L := [some (.ref t), none, none]) (by decide +kernel) rfl rfl rfl ?_
  refine S_ic 0 0 dX1_boundaryKeepsProducts_0 (by decide) ?_
  refine S_istore_1 1 dX1_boundaryKeepsProducts_1 rfl ?_
  refine S_loop (fun (s2 : Int32) => [some (.ref t), some (.int s2), none]) (fun again2 hg2 s2 h1 => ?_) xfu _ _
  refine S_iload_1 2 dX1_boundaryKeepsProducts_2 ?_
  refine S_aload_0 3 dX1_boundaryKeepsProducts_3 ?_
  refine S_getR 4 fsX1_29 rfl dX1_boundaryKeepsProducts_4 (fun w2 => ?_)
  refine S_getI 7 fsX1_56 rfl dX1_boundaryKeepsProducts_7 ?_
  refine S_icmpge 10 73 dX1_boundaryKeepsProducts_10 (by decide) ?_ ?_
  · skip
    refine S_ic 73 1 dX1_boundaryKeepsProducts_73 (by decide) ?_
    exact S_zret 74 dX1_boundaryKeepsProducts_74 rfl
  · skip
    refine S_ic 13 0 dX1_boundaryKeepsProducts_13 (by decide) ?_
    refine S_istore_2 14 dX1_boundaryKeepsProducts_14 rfl ?_
    refine S_loop (fun (s15 : Int32) => [some (.ref t), some (.int s2), some (.int s15)]) (fun again15 hg15 s15 h3 => ?_) xfu _ _
    refine S_iload_2 15 dX1_boundaryKeepsProducts_15 ?_
    refine S_aload_0 16 dX1_boundaryKeepsProducts_16 ?_
    refine S_getR 17 fsX1_29 rfl dX1_boundaryKeepsProducts_17 (fun w4 => ?_)
    refine S_getI 20 fsX1_56 rfl dX1_boundaryKeepsProducts_20 ?_
    refine S_icmpge 23 67 dX1_boundaryKeepsProducts_23 (by decide) ?_ ?_
    · skip
      refine S_iinc_1 67 (s2 + 1) dX1_boundaryKeepsProducts_67 (by rfl) rfl ?_
      refine S_goto 70 2 dX1_boundaryKeepsProducts_70 (by decide) ?_
      exact S_drop [2] rfl (hg2 _ _)
    · skip
      refine S_aload_0 26 dX1_boundaryKeepsProducts_26 ?_
      refine S_aload_0 27 dX1_boundaryKeepsProducts_27 ?_
      refine S_getR 28 fsX1_29 rfl dX1_boundaryKeepsProducts_28 (fun w5 => ?_)
      refine S_iload_1 31 dX1_boundaryKeepsProducts_31 ?_
      refine S_iload_2 32 dX1_boundaryKeepsProducts_32 ?_
      refine S_callV (a' := 0) (b' := 0) (a := 0) (b := 0) 33 (As := [.int s2, .int s15]) (ci := 2) rfl calX2_product imX2_product seX2_product mkX1_85 rfl rfl rfl rfl rfl (by decide) rfl rfl dX1_boundaryKeepsProducts_33 (CX2_product E w5 s2 s15 h3) (fun v6 h7 => kqI ?_)
      refine S_callV (a' := 0) (b' := 0) (a := 0) (b := 0) 36 (As := [.int v6]) (ci := 1) rfl calX1_boundaryOf imX1_boundaryOf seX1_boundaryOf mkX1_88 rfl rfl rfl rfl rfl (by decide) rfl rfl dX1_boundaryKeepsProducts_36 (CX1_boundaryOf E t v6 h7) (fun v8 h9 => kqI ?_)
      refine S_aload_0 39 dX1_boundaryKeepsProducts_39 ?_
      refine S_getR 40 fsX1_33 rfl dX1_boundaryKeepsProducts_40 (fun w10 => ?_)
      refine S_aload_0 43 dX1_boundaryKeepsProducts_43 ?_
      refine S_iload_1 44 dX1_boundaryKeepsProducts_44 ?_
      refine S_callV (a' := 0) (b' := 0) (a := 0) (b := 0) 45 (As := [.int s2]) (ci := 1) rfl calX1_boundaryOf imX1_boundaryOf seX1_boundaryOf mkX1_88 rfl rfl rfl rfl rfl (by decide) rfl rfl dX1_boundaryKeepsProducts_45 (CX1_boundaryOf E t s2 h9) (fun v11 h12 => kqI ?_)
      refine S_aload_0 48 dX1_boundaryKeepsProducts_48 ?_
      refine S_iload_2 49 dX1_boundaryKeepsProducts_49 ?_
      refine S_callV (a' := 0) (b' := 0) (a := 0) (b := 0) 50 (As := [.int s15]) (ci := 1) rfl calX1_boundaryOf imX1_boundaryOf seX1_boundaryOf mkX1_88 rfl rfl rfl rfl rfl (by decide) rfl rfl dX1_boundaryKeepsProducts_50 (CX1_boundaryOf E t s15 h12) (fun v13 h14 => kqI ?_)
      refine S_callV (a' := 0) (b' := 0) (a := 0) (b := 0) 53 (As := [.int v11, .int v13]) (ci := 2) rfl calX2_product imX2_product seX2_product mkX1_85 rfl rfl rfl rfl rfl (by decide) rfl rfl dX1_boundaryKeepsProducts_53 (CX2_product E w10 v11 v13 h14) (fun v15 h16 => kqI ?_)
      refine S_icmpeq 56 61 dX1_boundaryKeepsProducts_56 (by decide) ?_ ?_
      · skip
        refine S_iinc_2 61 (s15 + 1) dX1_boundaryKeepsProducts_61 (by rfl) rfl ?_
        refine S_goto 64 15 dX1_boundaryKeepsProducts_64 (by decide) ?_
        exact S_drop [] rfl (hg15 _ _)
      · skip
        refine S_ic 59 0 dX1_boundaryKeepsProducts_59 (by decide) ?_
        exact S_zret 60 dX1_boundaryKeepsProducts_60 rfl
def FX1_isAutomorphism (E : XG) (t : Nat) (p1 : Int32) (h : XH) : XP Int32 := xlp (fun again4 (s4 : Int32 × Int32) h1 => xg (xk h1 t = 2) <| xnn (xr h1 t 1) fun w2 => xg (xk h1 w2 = 3) <| if ((xi h1 w2 3) : Int32) ≤ s4.2 then (xlp (fun again49 (s49 : Int32) h3 => xg (xk h3 t = 2) <| xnn (xr h3 t 1) fun w4 => xg (xk h3 w4 = 3) <| if ((xi h3 w4 3) : Int32) ≤ s49 then (xg ((1 : Int32) = 0 ∨ (1 : Int32) = 1) <| xv 1 h3) else (xlp (fun again63 (s63 : Int32) h5 => xg (xk h5 t = 2) <| xnn (xr h5 t 1) fun w6 => xg (xk h5 w6 = 3) <| if ((xi h5 w6 3) : Int32) ≤ s63 then (again49 (s49 + 1) h5) else (xg (xk h5 t = 2) <| xnn (xr h5 t 1) fun w7 => xg (xk h5 w7 = 3) <| xb (FX2_product E w7 s49 s63 h5) fun v8 h9 => xg (xk h9 t = 2) <| xb (FX1_actionOf E t p1 v8 h9) fun v10 h11 => xg (xk h11 t = 2) <| xnn (xr h11 t 1) fun w12 => xg (xk h11 t = 2) <| xb (FX1_actionOf E t p1 s49 h11) fun v13 h14 => xg (xk h14 t = 2) <| xb (FX1_actionOf E t p1 s63 h14) fun v15 h16 => xg (xk h16 w12 = 3) <| xb (FX2_product E w12 v13 v15 h16) fun v17 h18 => if (v10 : Int32) = v17 then (again63 (s63 + 1) h18) else (xg ((0 : Int32) = 0 ∨ (0 : Int32) = 1) <| xv 0 h18))) xfu 0 h3)) xfu 0 h1) else (xg (xk h1 t = 2) <| xb (FX1_actionOf E t p1 s4.2 h1) fun v19 h20 => xb (FX8_isIn E s4.1 v19 h20) fun v21 h22 => if (v21 : Int32) = 0 then (xg (xk h22 t = 2) <| xb (FX1_actionOf E t p1 s4.2 h22) fun v23 h24 => xlt (s4.1 ||| (1 <<< (v23 &&& 31))) fun v25 => again4 (v25, (s4.2 + 1)) h24) else (xg ((0 : Int32) = 0 ∨ (0 : Int32) = 1) <| xv 0 h22))) xfu (0, 0) h
theorem CX1_isAutomorphism (E : XG) (t : Nat) (p1 : Int32) (h : XH) : XN E mX1_isAutomorphism eI 0 0 [.ref t, .int p1] h (FX1_isAutomorphism E t p1 h) := by
  unfold FX1_isAutomorphism
  refine S_enter (L := [some (.ref t), some (.int p1), none, none, none]) (by decide +kernel) rfl rfl rfl ?_
  refine S_ic 0 0 dX1_isAutomorphism_0 (by decide) ?_
  refine S_istore_2 1 dX1_isAutomorphism_1 rfl ?_
  refine S_ic 2 0 dX1_isAutomorphism_2 (by decide) ?_
  refine S_istore_3 3 dX1_isAutomorphism_3 rfl ?_
  refine S_loop (fun (s4 : Int32 × Int32) => [some (.ref t), some (.int p1), some (.int s4.1), some (.int s4.2), none]) (fun again4 hg4 s4 h1 => ?_) xfu _ _
  refine S_iload_3 4 dX1_isAutomorphism_4 ?_
  refine S_aload_0 5 dX1_isAutomorphism_5 ?_
  refine S_getR 6 fsX1_29 rfl dX1_isAutomorphism_6 (fun w2 => ?_)
  refine S_getI 9 fsX1_56 rfl dX1_isAutomorphism_9 ?_
  refine S_icmpge 12 47 dX1_isAutomorphism_12 (by decide) ?_ ?_
  · skip
    refine S_ic 47 0 dX1_isAutomorphism_47 (by decide) ?_
    refine S_istore_3 48 dX1_isAutomorphism_48 rfl ?_
    refine S_drop [2] rfl ?_
    refine S_loop (fun (s49 : Int32) => [some (.ref t), some (.int p1), none, some (.int s49), none]) (fun again49 hg49 s49 h3 => ?_) xfu _ _
    refine S_iload_3 49 dX1_isAutomorphism_49 ?_
    refine S_aload_0 50 dX1_isAutomorphism_50 ?_
    refine S_getR 51 fsX1_29 rfl dX1_isAutomorphism_51 (fun w4 => ?_)
    refine S_getI 54 fsX1_56 rfl dX1_isAutomorphism_54 ?_
    refine S_icmpge 57 127 dX1_isAutomorphism_57 (by decide) ?_ ?_
    · skip
      refine S_ic 127 1 dX1_isAutomorphism_127 (by decide) ?_
      exact S_zret 128 dX1_isAutomorphism_128 rfl
    · skip
      refine S_ic 60 0 dX1_isAutomorphism_60 (by decide) ?_
      refine S_istore_4 61 dX1_isAutomorphism_61 rfl ?_
      refine S_loop (fun (s63 : Int32) => [some (.ref t), some (.int p1), none, some (.int s49), some (.int s63)]) (fun again63 hg63 s63 h5 => ?_) xfu _ _
      refine S_iload_4 63 dX1_isAutomorphism_63 ?_
      refine S_aload_0 65 dX1_isAutomorphism_65 ?_
      refine S_getR 66 fsX1_29 rfl dX1_isAutomorphism_66 (fun w6 => ?_)
      refine S_getI 69 fsX1_56 rfl dX1_isAutomorphism_69 ?_
      refine S_icmpge 72 121 dX1_isAutomorphism_72 (by decide) ?_ ?_
      · skip
        refine S_iinc_3 121 (s49 + 1) dX1_isAutomorphism_121 (by rfl) rfl ?_
        refine S_goto 124 49 dX1_isAutomorphism_124 (by decide) ?_
        exact S_drop [4] rfl (hg49 _ _)
      · skip
        refine S_aload_0 75 dX1_isAutomorphism_75 ?_
        refine S_iload_1 76 dX1_isAutomorphism_76 ?_
        refine S_aload_0 77 dX1_isAutomorphism_77 ?_
        refine S_getR 78 fsX1_29 rfl dX1_isAutomorphism_78 (fun w7 => ?_)
        refine S_iload_3 81 dX1_isAutomorphism_81 ?_
        refine S_iload_4 82 dX1_isAutomorphism_82 ?_
        refine S_callV (a' := 0) (b' := 0) (a := 0) (b := 0) 84 (As := [.int s49, .int s63]) (ci := 2) rfl calX2_product imX2_product seX2_product mkX1_85 rfl rfl rfl rfl rfl (by decide) rfl rfl dX1_isAutomorphism_84 (CX2_product E w7 s49 s63 h5) (fun v8 h9 => kqI ?_)
        refine S_callV (a' := 0) (b' := 0) (a := 0) (b := 0) 87 (As := [.int p1, .int v8]) (ci := 1) rfl calX1_actionOf imX1_actionOf seX1_actionOf mkX1_49 rfl rfl rfl rfl rfl (by decide) rfl rfl dX1_isAutomorphism_87 (CX1_actionOf E t p1 v8 h9) (fun v10 h11 => kqI ?_)
        refine S_aload_0 90 dX1_isAutomorphism_90 ?_
        refine S_getR 91 fsX1_29 rfl dX1_isAutomorphism_91 (fun w12 => ?_)
        refine S_aload_0 94 dX1_isAutomorphism_94 ?_
        refine S_iload_1 95 dX1_isAutomorphism_95 ?_
        refine S_iload_3 96 dX1_isAutomorphism_96 ?_
        refine S_callV (a' := 0) (b' := 0) (a := 0) (b := 0) 97 (As := [.int p1, .int s49]) (ci := 1) rfl calX1_actionOf imX1_actionOf seX1_actionOf mkX1_49 rfl rfl rfl rfl rfl (by decide) rfl rfl dX1_isAutomorphism_97 (CX1_actionOf E t p1 s49 h11) (fun v13 h14 => kqI ?_)
        refine S_aload_0 100 dX1_isAutomorphism_100 ?_
        refine S_iload_1 101 dX1_isAutomorphism_101 ?_
        refine S_iload_4 102 dX1_isAutomorphism_102 ?_
        refine S_callV (a' := 0) (b' := 0) (a := 0) (b := 0) 104 (As := [.int p1, .int s63]) (ci := 1) rfl calX1_actionOf imX1_actionOf seX1_actionOf mkX1_49 rfl rfl rfl rfl rfl (by decide) rfl rfl dX1_isAutomorphism_104 (CX1_actionOf E t p1 s63 h14) (fun v15 h16 => kqI ?_)
        refine S_callV (a' := 0) (b' := 0) (a := 0) (b := 0) 107 (As := [.int v13, .int v15]) (ci := 2) rfl calX2_product imX2_product seX2_product mkX1_85 rfl rfl rfl rfl rfl (by decide) rfl rfl dX1_isAutomorphism_107 (CX2_product E w12 v13 v15 h16) (fun v17 h18 => kqI ?_)
        refine S_icmpeq 110 115 dX1_isAutomorphism_110 (by decide) ?_ ?_
        · skip
          refine S_iinc_4 115 (s63 + 1) dX1_isAutomorphism_115 (by rfl) rfl ?_
          refine S_goto 118 63 dX1_isAutomorphism_118 (by decide) ?_
          exact S_drop [] rfl (hg63 _ _)
        · skip
          refine S_ic 113 0 dX1_isAutomorphism_113 (by decide) ?_
          exact S_zret 114 dX1_isAutomorphism_114 rfl
  · skip
    refine S_iload_2 15 dX1_isAutomorphism_15 ?_
    refine S_aload_0 16 dX1_isAutomorphism_16 ?_
    refine S_iload_1 17 dX1_isAutomorphism_17 ?_
    refine S_iload_3 18 dX1_isAutomorphism_18 ?_
    refine S_callV (a' := 0) (b' := 0) (a := 0) (b := 0) 19 (As := [.int p1, .int s4.2]) (ci := 1) rfl calX1_actionOf imX1_actionOf seX1_actionOf mkX1_49 rfl rfl rfl rfl rfl (by decide) rfl rfl dX1_isAutomorphism_19 (CX1_actionOf E t p1 s4.2 h1) (fun v19 h20 => kqI ?_)
    refine S_callSN (a' := 0) (b' := 0) (a := 0) (b := 0) 22 (As := [.int s4.1, .int v19]) rfl calX8_isIn stX8_isIn (List.mem_of_getElem? (i := 5) rfl) rfl rfl rfl rfl rfl dX1_isAutomorphism_22 (CX8_isIn E s4.1 v19 h20) (fun v21 h22 => kqI ?_)
    refine S_ifeq 25 30 dX1_isAutomorphism_25 (by decide) ?_ ?_
    · skip
      refine S_iload_2 30 dX1_isAutomorphism_30 ?_
      refine S_ic 31 1 dX1_isAutomorphism_31 (by decide) ?_
      refine S_aload_0 32 dX1_isAutomorphism_32 ?_
      refine S_iload_1 33 dX1_isAutomorphism_33 ?_
      refine S_iload_3 34 dX1_isAutomorphism_34 ?_
      refine S_callV (a' := 0) (b' := 0) (a := 0) (b := 0) 35 (As := [.int p1, .int s4.2]) (ci := 1) rfl calX1_actionOf imX1_actionOf seX1_actionOf mkX1_49 rfl rfl rfl rfl rfl (by decide) rfl rfl dX1_isAutomorphism_35 (CX1_actionOf E t p1 s4.2 h22) (fun v23 h24 => kqI ?_)
      refine S_ishl 38 dX1_isAutomorphism_38 ?_
      refine S_ior 39 dX1_isAutomorphism_39 ?_
      refine S_gen (fun v25 => ?_)
      refine S_istore_2 40 dX1_isAutomorphism_40 rfl ?_
      refine S_iinc_3 41 (s4.2 + 1) dX1_isAutomorphism_41 (by rfl) rfl ?_
      refine S_goto 44 4 dX1_isAutomorphism_44 (by decide) ?_
      exact S_drop [] rfl (hg4 _ _)
    · skip
      refine S_ic 28 0 dX1_isAutomorphism_28 (by decide) ?_
      exact S_zret 29 dX1_isAutomorphism_29 rfl
def FX1_actionKeepsProducts (E : XG) (t : Nat) (h : XH) : XP Int32 := xlp (fun again2 (s2 : Int32) h1 => xg (xk h1 t = 2) <| xnn (xr h1 t 1) fun w2 => xg (xk h1 w2 = 3) <| if ((xi h1 w2 3) : Int32) ≤ s2 then (xlp (fun again33 (s33 : Int32) h3 => xg (xk h3 t = 2) <| xnn (xr h3 t 2) fun w4 => xg (xk h3 w4 = 3) <| if ((xi h3 w4 3) : Int32) ≤ s33 then (xg ((1 : Int32) = 0 ∨ (1 : Int32) = 1) <| xv 1 h3) else (xlp (fun again46 (s46 : Int32) h5 => xg (xk h5 t = 2) <| xnn (xr h5 t 2) fun w6 => xg (xk h5 w6 = 3) <| if ((xi h5 w6 3) : Int32) ≤ s46 then (again33 (s33 + 1) h5) else (xlp (fun again59 (s59 : Int32) h7 => xg (xk h7 t = 2) <| xnn (xr h7 t 1) fun w8 => xg (xk h7 w8 = 3) <| if ((xi h7 w8 3) : Int32) ≤ s59 then (again46 (s46 + 1) h7) else (xg (xk h7 t = 2) <| xnn (xr h7 t 2) fun w9 => xg (xk h7 w9 = 3) <| xb (FX2_product E w9 s33 s46 h7) fun v10 h11 => xg (xk h11 t = 2) <| xb (FX1_actionOf E t v10 s59 h11) fun v12 h13 => xg (xk h13 t = 2) <| xb (FX1_actionOf E t s46 s59 h13) fun v14 h15 => xg (xk h15 t = 2) <| xb (FX1_actionOf E t s33 v14 h15) fun v16 h17 => if (v12 : Int32) = v16 then (again59 (s59 + 1) h17) else (xg ((0 : Int32) = 0 ∨ (0 : Int32) = 1) <| xv 0 h17))) xfu 0 h5)) xfu 0 h3)) xfu 0 h1) else (xg (xk h1 t = 2) <| xb (FX1_actionOf E t 0 s2 h1) fun v18 h19 => if (v18 : Int32) = s2 then (again2 (s2 + 1) h19) else (xg ((0 : Int32) = 0 ∨ (0 : Int32) = 1) <| xv 0 h19))) xfu 0 h
theorem CX1_actionKeepsProducts (E : XG) (t : Nat) (h : XH) : XN E mX1_actionKeepsProducts eI 0 0 [.ref t] h (FX1_actionKeepsProducts E t h) := by
  unfold FX1_actionKeepsProducts
  refine S_enter (L := [some (.ref t), none, none, none]) (by decide +kernel) rfl rfl rfl ?_
  refine S_ic 0 0 dX1_actionKeepsProducts_0 (by decide) ?_
  refine S_istore_1 1 dX1_actionKeepsProducts_1 rfl ?_
  refine S_loop (fun (s2 : Int32) => [some (.ref t), some (.int s2), none, none]) (fun again2 hg2 s2 h1 => ?_) xfu _ _
  refine S_iload_1 2 dX1_actionKeepsProducts_2 ?_
  refine S_aload_0 3 dX1_actionKeepsProducts_3 ?_
  refine S_getR 4 fsX1_29 rfl dX1_actionKeepsProducts_4 (fun w2 => ?_)
  refine S_getI 7 fsX1_56 rfl dX1_actionKeepsProducts_7 ?_
  refine S_icmpge 10 31 dX1_actionKeepsProducts_10 (by decide) ?_ ?_
  · skip
    refine S_ic 31 0 dX1_actionKeepsProducts_31 (by decide) ?_
    refine S_istore_1 32 dX1_actionKeepsProducts_32 rfl ?_
    refine S_loop (fun (s33 : Int32) => [some (.ref t), some (.int s33), none, none]) (fun again33 hg33 s33 h3 => ?_) xfu _ _
    refine S_iload_1 33 dX1_actionKeepsProducts_33 ?_
    refine S_aload_0 34 dX1_actionKeepsProducts_34 ?_
    refine S_getR 35 fsX1_33 rfl dX1_actionKeepsProducts_35 (fun w4 => ?_)
    refine S_getI 38 fsX1_56 rfl dX1_actionKeepsProducts_38 ?_
    refine S_icmpge 41 118 dX1_actionKeepsProducts_41 (by decide) ?_ ?_
    · skip
      refine S_ic 118 1 dX1_actionKeepsProducts_118 (by decide) ?_
      exact S_zret 119 dX1_actionKeepsProducts_119 rfl
    · skip
      refine S_ic 44 0 dX1_actionKeepsProducts_44 (by decide) ?_
      refine S_istore_2 45 dX1_actionKeepsProducts_45 rfl ?_
      refine S_loop (fun (s46 : Int32) => [some (.ref t), some (.int s33), some (.int s46), none]) (fun again46 hg46 s46 h5 => ?_) xfu _ _
      refine S_iload_2 46 dX1_actionKeepsProducts_46 ?_
      refine S_aload_0 47 dX1_actionKeepsProducts_47 ?_
      refine S_getR 48 fsX1_33 rfl dX1_actionKeepsProducts_48 (fun w6 => ?_)
      refine S_getI 51 fsX1_56 rfl dX1_actionKeepsProducts_51 ?_
      refine S_icmpge 54 112 dX1_actionKeepsProducts_54 (by decide) ?_ ?_
      · skip
        refine S_iinc_1 112 (s33 + 1) dX1_actionKeepsProducts_112 (by rfl) rfl ?_
        refine S_goto 115 33 dX1_actionKeepsProducts_115 (by decide) ?_
        exact S_drop [2] rfl (hg33 _ _)
      · skip
        refine S_ic 57 0 dX1_actionKeepsProducts_57 (by decide) ?_
        refine S_istore_3 58 dX1_actionKeepsProducts_58 rfl ?_
        refine S_loop (fun (s59 : Int32) => [some (.ref t), some (.int s33), some (.int s46), some (.int s59)]) (fun again59 hg59 s59 h7 => ?_) xfu _ _
        refine S_iload_3 59 dX1_actionKeepsProducts_59 ?_
        refine S_aload_0 60 dX1_actionKeepsProducts_60 ?_
        refine S_getR 61 fsX1_29 rfl dX1_actionKeepsProducts_61 (fun w8 => ?_)
        refine S_getI 64 fsX1_56 rfl dX1_actionKeepsProducts_64 ?_
        refine S_icmpge 67 106 dX1_actionKeepsProducts_67 (by decide) ?_ ?_
        · skip
          refine S_iinc_2 106 (s46 + 1) dX1_actionKeepsProducts_106 (by rfl) rfl ?_
          refine S_goto 109 46 dX1_actionKeepsProducts_109 (by decide) ?_
          exact S_drop [3] rfl (hg46 _ _)
        · skip
          refine S_aload_0 70 dX1_actionKeepsProducts_70 ?_
          refine S_aload_0 71 dX1_actionKeepsProducts_71 ?_
          refine S_getR 72 fsX1_33 rfl dX1_actionKeepsProducts_72 (fun w9 => ?_)
          refine S_iload_1 75 dX1_actionKeepsProducts_75 ?_
          refine S_iload_2 76 dX1_actionKeepsProducts_76 ?_
          refine S_callV (a' := 0) (b' := 0) (a := 0) (b := 0) 77 (As := [.int s33, .int s46]) (ci := 2) rfl calX2_product imX2_product seX2_product mkX1_85 rfl rfl rfl rfl rfl (by decide) rfl rfl dX1_actionKeepsProducts_77 (CX2_product E w9 s33 s46 h7) (fun v10 h11 => kqI ?_)
          refine S_iload_3 80 dX1_actionKeepsProducts_80 ?_
          refine S_callV (a' := 0) (b' := 0) (a := 0) (b := 0) 81 (As := [.int v10, .int s59]) (ci := 1) rfl calX1_actionOf imX1_actionOf seX1_actionOf mkX1_49 rfl rfl rfl rfl rfl (by decide) rfl rfl dX1_actionKeepsProducts_81 (CX1_actionOf E t v10 s59 h11) (fun v12 h13 => kqI ?_)
          refine S_aload_0 84 dX1_actionKeepsProducts_84 ?_
          refine S_iload_1 85 dX1_actionKeepsProducts_85 ?_
          refine S_aload_0 86 dX1_actionKeepsProducts_86 ?_
          refine S_iload_2 87 dX1_actionKeepsProducts_87 ?_
          refine S_iload_3 88 dX1_actionKeepsProducts_88 ?_
          refine S_callV (a' := 0) (b' := 0) (a := 0) (b := 0) 89 (As := [.int s46, .int s59]) (ci := 1) rfl calX1_actionOf imX1_actionOf seX1_actionOf mkX1_49 rfl rfl rfl rfl rfl (by decide) rfl rfl dX1_actionKeepsProducts_89 (CX1_actionOf E t s46 s59 h13) (fun v14 h15 => kqI ?_)
          refine S_callV (a' := 0) (b' := 0) (a := 0) (b := 0) 92 (As := [.int s33, .int v14]) (ci := 1) rfl calX1_actionOf imX1_actionOf seX1_actionOf mkX1_49 rfl rfl rfl rfl rfl (by decide) rfl rfl dX1_actionKeepsProducts_92 (CX1_actionOf E t s33 v14 h15) (fun v16 h17 => kqI ?_)
          refine S_icmpeq 95 100 dX1_actionKeepsProducts_95 (by decide) ?_ ?_
          · skip
            refine S_iinc_3 100 (s59 + 1) dX1_actionKeepsProducts_100 (by rfl) rfl ?_
            refine S_goto 103 59 dX1_actionKeepsProducts_103 (by decide) ?_
            exact S_drop [] rfl (hg59 _ _)
          · skip
            refine S_ic 98 0 dX1_actionKeepsProducts_98 (by decide) ?_
            exact S_zret 99 dX1_actionKeepsProducts_99 rfl
  · skip
    refine S_aload_0 13 dX1_actionKeepsProducts_13 ?_
    refine S_ic 14 0 dX1_actionKeepsProducts_14 (by decide) ?_
    refine S_iload_1 15 dX1_actionKeepsProducts_15 ?_
    refine S_callV (a' := 0) (b' := 0) (a := 0) (b := 0) 16 (As := [.int 0, .int s2]) (ci := 1) rfl calX1_actionOf imX1_actionOf seX1_actionOf mkX1_49 rfl rfl rfl rfl rfl (by decide) rfl rfl dX1_actionKeepsProducts_16 (CX1_actionOf E t 0 s2 h1) (fun v18 h19 => kqI ?_)
    refine S_iload_1 19 dX1_actionKeepsProducts_19 ?_
    refine S_icmpeq 20 25 dX1_actionKeepsProducts_20 (by decide) ?_ ?_
    · skip
      refine S_iinc_1 25 (s2 + 1) dX1_actionKeepsProducts_25 (by rfl) rfl ?_
      refine S_goto 28 2 dX1_actionKeepsProducts_28 (by decide) ?_
      exact S_drop [] rfl (hg2 _ _)
    · skip
      refine S_ic 23 0 dX1_actionKeepsProducts_23 (by decide) ?_
      exact S_zret 24 dX1_actionKeepsProducts_24 rfl
def FX1_boundaryFollowsAction (E : XG) (t : Nat) (h : XH) : XP Int32 := xlp (fun again2 (s2 : Int32) h1 => xg (xk h1 t = 2) <| xnn (xr h1 t 2) fun w2 => xg (xk h1 w2 = 3) <| if ((xi h1 w2 3) : Int32) ≤ s2 then (xg ((1 : Int32) = 0 ∨ (1 : Int32) = 1) <| xv 1 h1) else (xlp (fun again15 (s15 : Int32) h3 => xg (xk h3 t = 2) <| xnn (xr h3 t 1) fun w4 => xg (xk h3 w4 = 3) <| if ((xi h3 w4 3) : Int32) ≤ s15 then (again2 (s2 + 1) h3) else (xg (xk h3 t = 2) <| xb (FX1_actionOf E t s2 s15 h3) fun v5 h6 => xg (xk h6 t = 2) <| xb (FX1_boundaryOf E t v5 h6) fun v7 h8 => xg (xk h8 t = 2) <| xnn (xr h8 t 2) fun w9 => xg (xk h8 t = 2) <| xb (FX1_boundaryOf E t s15 h8) fun v10 h11 => xg (xk h11 w9 = 3) <| xb (FX2_conjugateBy E w9 s2 v10 h11) fun v12 h13 => if (v7 : Int32) = v12 then (again15 (s15 + 1) h13) else (xg ((0 : Int32) = 0 ∨ (0 : Int32) = 1) <| xv 0 h13))) xfu 0 h1)) xfu 0 h
theorem CX1_boundaryFollowsAction (E : XG) (t : Nat) (h : XH) : XN E mX1_boundaryFollowsAction eI 0 0 [.ref t] h (FX1_boundaryFollowsAction E t h) := by
  unfold FX1_boundaryFollowsAction
  refine S_enter (L := [some (.ref t), none, none]) (by decide +kernel) rfl rfl rfl ?_
  refine S_ic 0 0 dX1_boundaryFollowsAction_0 (by decide) ?_
  refine S_istore_1 1 dX1_boundaryFollowsAction_1 rfl ?_
  refine S_loop (fun (s2 : Int32) => [some (.ref t), some (.int s2), none]) (fun again2 hg2 s2 h1 => ?_) xfu _ _
  refine S_iload_1 2 dX1_boundaryFollowsAction_2 ?_
  refine S_aload_0 3 dX1_boundaryFollowsAction_3 ?_
  refine S_getR 4 fsX1_33 rfl dX1_boundaryFollowsAction_4 (fun w2 => ?_)
  refine S_getI 7 fsX1_56 rfl dX1_boundaryFollowsAction_7 ?_
  refine S_icmpge 10 66 dX1_boundaryFollowsAction_10 (by decide) ?_ ?_
  · skip
    refine S_ic 66 1 dX1_boundaryFollowsAction_66 (by decide) ?_
    exact S_zret 67 dX1_boundaryFollowsAction_67 rfl
  · skip
    refine S_ic 13 0 dX1_boundaryFollowsAction_13 (by decide) ?_
    refine S_istore_2 14 dX1_boundaryFollowsAction_14 rfl ?_
    refine S_loop (fun (s15 : Int32) => [some (.ref t), some (.int s2), some (.int s15)]) (fun again15 hg15 s15 h3 => ?_) xfu _ _
    refine S_iload_2 15 dX1_boundaryFollowsAction_15 ?_
    refine S_aload_0 16 dX1_boundaryFollowsAction_16 ?_
    refine S_getR 17 fsX1_29 rfl dX1_boundaryFollowsAction_17 (fun w4 => ?_)
    refine S_getI 20 fsX1_56 rfl dX1_boundaryFollowsAction_20 ?_
    refine S_icmpge 23 60 dX1_boundaryFollowsAction_23 (by decide) ?_ ?_
    · skip
      refine S_iinc_1 60 (s2 + 1) dX1_boundaryFollowsAction_60 (by rfl) rfl ?_
      refine S_goto 63 2 dX1_boundaryFollowsAction_63 (by decide) ?_
      exact S_drop [2] rfl (hg2 _ _)
    · skip
      refine S_aload_0 26 dX1_boundaryFollowsAction_26 ?_
      refine S_aload_0 27 dX1_boundaryFollowsAction_27 ?_
      refine S_iload_1 28 dX1_boundaryFollowsAction_28 ?_
      refine S_iload_2 29 dX1_boundaryFollowsAction_29 ?_
      refine S_callV (a' := 0) (b' := 0) (a := 0) (b := 0) 30 (As := [.int s2, .int s15]) (ci := 1) rfl calX1_actionOf imX1_actionOf seX1_actionOf mkX1_49 rfl rfl rfl rfl rfl (by decide) rfl rfl dX1_boundaryFollowsAction_30 (CX1_actionOf E t s2 s15 h3) (fun v5 h6 => kqI ?_)
      refine S_callV (a' := 0) (b' := 0) (a := 0) (b := 0) 33 (As := [.int v5]) (ci := 1) rfl calX1_boundaryOf imX1_boundaryOf seX1_boundaryOf mkX1_88 rfl rfl rfl rfl rfl (by decide) rfl rfl dX1_boundaryFollowsAction_33 (CX1_boundaryOf E t v5 h6) (fun v7 h8 => kqI ?_)
      refine S_aload_0 36 dX1_boundaryFollowsAction_36 ?_
      refine S_getR 37 fsX1_33 rfl dX1_boundaryFollowsAction_37 (fun w9 => ?_)
      refine S_iload_1 40 dX1_boundaryFollowsAction_40 ?_
      refine S_aload_0 41 dX1_boundaryFollowsAction_41 ?_
      refine S_iload_2 42 dX1_boundaryFollowsAction_42 ?_
      refine S_callV (a' := 0) (b' := 0) (a := 0) (b := 0) 43 (As := [.int s15]) (ci := 1) rfl calX1_boundaryOf imX1_boundaryOf seX1_boundaryOf mkX1_88 rfl rfl rfl rfl rfl (by decide) rfl rfl dX1_boundaryFollowsAction_43 (CX1_boundaryOf E t s15 h8) (fun v10 h11 => kqI ?_)
      refine S_callV (a' := 0) (b' := 0) (a := 0) (b := 0) 46 (As := [.int s2, .int v10]) (ci := 2) rfl calX2_conjugateBy imX2_conjugateBy seX2_conjugateBy mkX1_65 rfl rfl rfl rfl rfl (by decide) rfl rfl dX1_boundaryFollowsAction_46 (CX2_conjugateBy E w9 s2 v10 h11) (fun v12 h13 => kqI ?_)
      refine S_icmpeq 49 54 dX1_boundaryFollowsAction_49 (by decide) ?_ ?_
      · skip
        refine S_iinc_2 54 (s15 + 1) dX1_boundaryFollowsAction_54 (by rfl) rfl ?_
        refine S_goto 57 15 dX1_boundaryFollowsAction_57 (by decide) ?_
        exact S_drop [] rfl (hg15 _ _)
      · skip
        refine S_ic 52 0 dX1_boundaryFollowsAction_52 (by decide) ?_
        exact S_zret 53 dX1_boundaryFollowsAction_53 rfl
def FX1_boundaryActsAsConjugation (E : XG) (t : Nat) (h : XH) : XP Int32 := xlp (fun again2 (s2 : Int32) h1 => xg (xk h1 t = 2) <| xnn (xr h1 t 1) fun w2 => xg (xk h1 w2 = 3) <| if ((xi h1 w2 3) : Int32) ≤ s2 then (xg ((1 : Int32) = 0 ∨ (1 : Int32) = 1) <| xv 1 h1) else (xlp (fun again15 (s15 : Int32) h3 => xg (xk h3 t = 2) <| xnn (xr h3 t 1) fun w4 => xg (xk h3 w4 = 3) <| if ((xi h3 w4 3) : Int32) ≤ s15 then (again2 (s2 + 1) h3) else (xg (xk h3 t = 2) <| xb (FX1_boundaryOf E t s2 h3) fun v5 h6 => xg (xk h6 t = 2) <| xb (FX1_actionOf E t v5 s15 h6) fun v7 h8 => xg (xk h8 t = 2) <| xnn (xr h8 t 1) fun w9 => xg (xk h8 w9 = 3) <| xb (FX2_conjugateBy E w9 s2 s15 h8) fun v10 h11 => if (v7 : Int32) = v10 then (again15 (s15 + 1) h11) else (xg ((0 : Int32) = 0 ∨ (0 : Int32) = 1) <| xv 0 h11))) xfu 0 h1)) xfu 0 h
theorem CX1_boundaryActsAsConjugation (E : XG) (t : Nat) (h : XH) : XN E mX1_boundaryActsAsConjugation eI 0 0 [.ref t] h (FX1_boundaryActsAsConjugation E t h) := by
  unfold FX1_boundaryActsAsConjugation
  refine S_enter (L := [some (.ref t), none, none]) (by decide +kernel) rfl rfl rfl ?_
  refine S_ic 0 0 dX1_boundaryActsAsConjugation_0 (by decide) ?_
  refine S_istore_1 1 dX1_boundaryActsAsConjugation_1 rfl ?_
  refine S_loop (fun (s2 : Int32) => [some (.ref t), some (.int s2), none]) (fun again2 hg2 s2 h1 => ?_) xfu _ _
  refine S_iload_1 2 dX1_boundaryActsAsConjugation_2 ?_
  refine S_aload_0 3 dX1_boundaryActsAsConjugation_3 ?_
  refine S_getR 4 fsX1_29 rfl dX1_boundaryActsAsConjugation_4 (fun w2 => ?_)
  refine S_getI 7 fsX1_56 rfl dX1_boundaryActsAsConjugation_7 ?_
  refine S_icmpge 10 62 dX1_boundaryActsAsConjugation_10 (by decide) ?_ ?_
  · skip
    refine S_ic 62 1 dX1_boundaryActsAsConjugation_62 (by decide) ?_
    exact S_zret 63 dX1_boundaryActsAsConjugation_63 rfl
  · skip
    refine S_ic 13 0 dX1_boundaryActsAsConjugation_13 (by decide) ?_
    refine S_istore_2 14 dX1_boundaryActsAsConjugation_14 rfl ?_
    refine S_loop (fun (s15 : Int32) => [some (.ref t), some (.int s2), some (.int s15)]) (fun again15 hg15 s15 h3 => ?_) xfu _ _
    refine S_iload_2 15 dX1_boundaryActsAsConjugation_15 ?_
    refine S_aload_0 16 dX1_boundaryActsAsConjugation_16 ?_
    refine S_getR 17 fsX1_29 rfl dX1_boundaryActsAsConjugation_17 (fun w4 => ?_)
    refine S_getI 20 fsX1_56 rfl dX1_boundaryActsAsConjugation_20 ?_
    refine S_icmpge 23 56 dX1_boundaryActsAsConjugation_23 (by decide) ?_ ?_
    · skip
      refine S_iinc_1 56 (s2 + 1) dX1_boundaryActsAsConjugation_56 (by rfl) rfl ?_
      refine S_goto 59 2 dX1_boundaryActsAsConjugation_59 (by decide) ?_
      exact S_drop [2] rfl (hg2 _ _)
    · skip
      refine S_aload_0 26 dX1_boundaryActsAsConjugation_26 ?_
      refine S_aload_0 27 dX1_boundaryActsAsConjugation_27 ?_
      refine S_iload_1 28 dX1_boundaryActsAsConjugation_28 ?_
      refine S_callV (a' := 0) (b' := 0) (a := 0) (b := 0) 29 (As := [.int s2]) (ci := 1) rfl calX1_boundaryOf imX1_boundaryOf seX1_boundaryOf mkX1_88 rfl rfl rfl rfl rfl (by decide) rfl rfl dX1_boundaryActsAsConjugation_29 (CX1_boundaryOf E t s2 h3) (fun v5 h6 => kqI ?_)
      refine S_iload_2 32 dX1_boundaryActsAsConjugation_32 ?_
      refine S_callV (a' := 0) (b' := 0) (a := 0) (b := 0) 33 (As := [.int v5, .int s15]) (ci := 1) rfl calX1_actionOf imX1_actionOf seX1_actionOf mkX1_49 rfl rfl rfl rfl rfl (by decide) rfl rfl dX1_boundaryActsAsConjugation_33 (CX1_actionOf E t v5 s15 h6) (fun v7 h8 => kqI ?_)
      refine S_aload_0 36 dX1_boundaryActsAsConjugation_36 ?_
      refine S_getR 37 fsX1_29 rfl dX1_boundaryActsAsConjugation_37 (fun w9 => ?_)
      refine S_iload_1 40 dX1_boundaryActsAsConjugation_40 ?_
      refine S_iload_2 41 dX1_boundaryActsAsConjugation_41 ?_
      refine S_callV (a' := 0) (b' := 0) (a := 0) (b := 0) 42 (As := [.int s2, .int s15]) (ci := 2) rfl calX2_conjugateBy imX2_conjugateBy seX2_conjugateBy mkX1_65 rfl rfl rfl rfl rfl (by decide) rfl rfl dX1_boundaryActsAsConjugation_42 (CX2_conjugateBy E w9 s2 s15 h8) (fun v10 h11 => kqI ?_)
      refine S_icmpeq 45 50 dX1_boundaryActsAsConjugation_45 (by decide) ?_ ?_
      · skip
        refine S_iinc_2 50 (s15 + 1) dX1_boundaryActsAsConjugation_50 (by rfl) rfl ?_
        refine S_goto 53 15 dX1_boundaryActsAsConjugation_53 (by decide) ?_
        exact S_drop [] rfl (hg15 _ _)
      · skip
        refine S_ic 48 0 dX1_boundaryActsAsConjugation_48 (by decide) ?_
        exact S_zret 49 dX1_boundaryActsAsConjugation_49 rfl
def FX1_firstReason (E : XG) (t : Nat) (h : XH) : XP Int32 := xg (xk h t = 2) <| xb (FX1_boundaryKeepsProducts E t  h) fun v1 h2 => if (v1 : Int32) = 0 then (xv 1 h2) else (xlp (fun again11 (s11 : Int32) h3 => xg (xk h3 t = 2) <| xnn (xr h3 t 2) fun w4 => xg (xk h3 w4 = 3) <| if ((xi h3 w4 3) : Int32) ≤ s11 then (xg (xk h3 t = 2) <| xb (FX1_actionKeepsProducts E t  h3) fun v5 h6 => if (v5 : Int32) = 0 then (xv 3 h6) else (xg (xk h6 t = 2) <| xb (FX1_boundaryFollowsAction E t  h6) fun v7 h8 => if (v7 : Int32) = 0 then (xv 4 h8) else (xg (xk h8 t = 2) <| xb (FX1_boundaryActsAsConjugation E t  h8) fun v9 h10 => xjn (fun (v11 : Int32) (h12 : XH) => xv v11 h12) fun (j68 : Int32 → XH → XP Int32) => if (v9 : Int32) = 0 then (j68 5 h10) else (j68 0 h10)))) else (xg (xk h3 t = 2) <| xb (FX1_isAutomorphism E t s11 h3) fun v13 h14 => if (v13 : Int32) = 0 then (xv 2 h14) else (again11 (s11 + 1) h14))) xfu 0 h2)
theorem CX1_firstReason (E : XG) (t : Nat) (h : XH) : XN E mX1_firstReason eI 0 0 [.ref t] h (FX1_firstReason E t h) := by
  unfold FX1_firstReason
  refine S_enter (L := [some (.ref t), none]) (by decide +kernel) rfl rfl rfl ?_
  refine S_aload_0 0 dX1_firstReason_0 ?_
  refine S_callV (a' := 0) (b' := 0) (a := 0) (b := 0) 1 (As := []) (ci := 1) rfl calX1_boundaryKeepsProducts imX1_boundaryKeepsProducts seX1_boundaryKeepsProducts mkX1_68 rfl rfl rfl rfl rfl (by decide) rfl rfl dX1_firstReason_1 (CX1_boundaryKeepsProducts E t  h) (fun v1 h2 => kqI ?_)
  refine S_ifne 4 9 dX1_firstReason_4 (by decide) ?_ ?_
  · skip
    refine S_ic 9 0 dX1_firstReason_9 (by decide) ?_
    refine S_istore_1 10 dX1_firstReason_10 rfl ?_
    refine S_loop (fun (s11 : Int32) => [some (.ref t), some (.int s11)]) (fun again11 hg11 s11 h3 => ?_) xfu _ _
    refine S_iload_1 11 dX1_firstReason_11 ?_
    refine S_aload_0 12 dX1_firstReason_12 ?_
    refine S_getR 13 fsX1_33 rfl dX1_firstReason_13 (fun w4 => ?_)
    refine S_getI 16 fsX1_56 rfl dX1_firstReason_16 ?_
    refine S_icmpge 19 38 dX1_firstReason_19 (by decide) ?_ ?_
    · skip
      refine S_aload_0 38 dX1_firstReason_38 ?_
      refine S_callV (a' := 0) (b' := 0) (a := 0) (b := 0) 39 (As := []) (ci := 1) rfl calX1_actionKeepsProducts imX1_actionKeepsProducts seX1_actionKeepsProducts mkX1_76 rfl rfl rfl rfl rfl (by decide) rfl rfl dX1_firstReason_39 (CX1_actionKeepsProducts E t  h3) (fun v5 h6 => kqI ?_)
      refine S_ifne 42 47 dX1_firstReason_42 (by decide) ?_ ?_
      · skip
        refine S_aload_0 47 dX1_firstReason_47 ?_
        refine S_callV (a' := 0) (b' := 0) (a := 0) (b := 0) 48 (As := []) (ci := 1) rfl calX1_boundaryFollowsAction imX1_boundaryFollowsAction seX1_boundaryFollowsAction mkX1_79 rfl rfl rfl rfl rfl (by decide) rfl rfl dX1_firstReason_48 (CX1_boundaryFollowsAction E t  h6) (fun v7 h8 => kqI ?_)
        refine S_ifne 51 56 dX1_firstReason_51 (by decide) ?_ ?_
        · skip
          refine S_aload_0 56 dX1_firstReason_56 ?_
          refine S_callV (a' := 0) (b' := 0) (a := 0) (b := 0) 57 (As := []) (ci := 1) rfl calX1_boundaryActsAsConjugation imX1_boundaryActsAsConjugation seX1_boundaryActsAsConjugation mkX1_82 rfl rfl rfl rfl rfl (by decide) rfl rfl dX1_firstReason_57 (CX1_boundaryActsAsConjugation E t  h8) (fun v9 h10 => kqI ?_)
          refine S_join (fun jj => ∀ (v11 : Int32) (h12 : XH), XS E mX1_firstReason eI 0 0 68 [none, none] [.int v11] h12 (jj v11 h12)) (fun v11 h12 => ?_) (fun j68 hj68 => ?_)
          · skip
            exact S_iret 68 dX1_firstReason_68 rfl
          refine S_ifeq 60 67 dX1_firstReason_60 (by decide) ?_ ?_
          · skip
            refine S_ic 67 5 dX1_firstReason_67 (by decide) ?_
            exact S_drop [0, 1] rfl (hj68 _ _)
          · skip
            refine S_ic 63 0 dX1_firstReason_63 (by decide) ?_
            refine S_goto 64 68 dX1_firstReason_64 (by decide) ?_
            exact S_drop [0, 1] rfl (hj68 _ _)
        · skip
          refine S_ic 54 4 dX1_firstReason_54 (by decide) ?_
          exact S_iret 55 dX1_firstReason_55 rfl
      · skip
        refine S_ic 45 3 dX1_firstReason_45 (by decide) ?_
        exact S_iret 46 dX1_firstReason_46 rfl
    · skip
      refine S_aload_0 22 dX1_firstReason_22 ?_
      refine S_iload_1 23 dX1_firstReason_23 ?_
      refine S_callV (a' := 0) (b' := 0) (a := 0) (b := 0) 24 (As := [.int s11]) (ci := 1) rfl calX1_isAutomorphism imX1_isAutomorphism seX1_isAutomorphism mkX1_72 rfl rfl rfl rfl rfl (by decide) rfl rfl dX1_firstReason_24 (CX1_isAutomorphism E t s11 h3) (fun v13 h14 => kqI ?_)
      refine S_ifne 27 32 dX1_firstReason_27 (by decide) ?_ ?_
      · skip
        refine S_iinc_1 32 (s11 + 1) dX1_firstReason_32 (by rfl) rfl ?_
        refine S_goto 35 11 dX1_firstReason_35 (by decide) ?_
        exact S_drop [] rfl (hg11 _ _)
      · skip
        refine S_ic 30 2 dX1_firstReason_30 (by decide) ?_
        exact S_iret 31 dX1_firstReason_31 rfl
  · skip
    refine S_ic 7 1 dX1_firstReason_7 (by decide) ?_
    exact S_iret 8 dX1_firstReason_8 rfl
