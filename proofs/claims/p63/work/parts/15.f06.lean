/-! Methods as functions, 6. -/
set_option linter.unusedVariables false
set_option maxRecDepth 10000
def FX7_clear (E : XG) (t : Nat) (h : XH) : XP Unit := xg (xk h t = 8) <| xnn (xr h t 0) fun w1 => xg (xk h w1 = 4) <| xlt (yi h w1 2 0) fun h2 => xg (xk h2 t = 8) <| xnn (xr h2 t 1) fun w3 => xg (xk h2 w3 = 4) <| xlt (yi h2 w3 2 0) fun h4 => xg (xk h4 t = 8) <| xnn (xr h4 t 2) fun w5 => xg (xk h4 w5 = 4) <| xlt (yi h4 w5 2 0) fun h6 => xg (xk h6 t = 8) <| xnn (xr h6 t 6) fun w7 => xb (FJ7_fill_53178 E w7 0 h6) fun _ h8 => xv () h8
theorem CX7_clear (E : XG) (t : Nat) (h : XH) : XN E mX7_clear eU 0 0 [.ref t] h (FX7_clear E t h) := by
  unfold FX7_clear
  refine S_enter (L := [some (.ref t)]) (by decide +kernel) rfl rfl rfl ?_
  refine S_aload_0 0 dX7_clear_0 ?_
  refine S_getR 1 fsX7_14 rfl dX7_clear_1 (fun w1 => ?_)
  refine S_ic 4 0 dX7_clear_4 (by decide) ?_
  refine S_putI 5 frX7_55 rfl (fun q => by cases q) dX7_clear_5 (fun h2 => ?_)
  refine S_aload_0 8 dX7_clear_8 ?_
  refine S_getR 9 fsX7_20 rfl dX7_clear_9 (fun w3 => ?_)
  refine S_ic 12 0 dX7_clear_12 (by decide) ?_
  refine S_putI 13 frX7_55 rfl (fun q => by cases q) dX7_clear_13 (fun h4 => ?_)
  refine S_aload_0 16 dX7_clear_16 ?_
  refine S_getR 17 fsX7_23 rfl dX7_clear_17 (fun w5 => ?_)
  refine S_ic 20 0 dX7_clear_20 (by decide) ?_
  refine S_putI 21 frX7_55 rfl (fun q => by cases q) dX7_clear_21 (fun h6 => ?_)
  refine S_aload_0 24 dX7_clear_24 ?_
  refine S_getR 25 fsX7_44 rfl dX7_clear_25 (fun w7 => ?_)
  refine S_ic 28 0 dX7_clear_28 (by decide) ?_
  refine S_callS (a' := 0) (b' := 0) (a := 0) (b := 0) 29 (As := [.ref w7, .int 0]) rfl calJ7_fill_53178 stJ7_fill_53178 mkX7_59 rfl rfl rfl rfl rfl dX7_clear_29 (CJ7_fill_53178 E w7 0 h6) (fun _ h8 => kqU ?_)
  exact S_ret 32 dX7_clear_32 rfl
def FX7_namesOf (E : XG) (t : Nat) (p1 : Int32) (h : XH) : XP Nat := if (p1 : Int32) = 0 then (xg (xk h t = 8) <| xnn (xr h t 0) fun w5 => xv w5 h) else (xjn (fun (v1 : Nat) (h2 : XH) => xv v1 h2) fun (j25 : Nat → XH → XP Nat) => if (p1 : Int32) = 1 then (xg (xk h t = 8) <| xnn (xr h t 1) fun w4 => j25 w4 h) else (xg (xk h t = 8) <| xnn (xr h t 2) fun w3 => j25 w3 h))
theorem CX7_namesOf (E : XG) (t : Nat) (p1 : Int32) (h : XH) : XN E mX7_namesOf eR 0 0 [.ref t, .int p1] h (FX7_namesOf E t p1 h) := by
  unfold FX7_namesOf
  refine S_enter (L := [some (.ref t), some (.int p1)]) (by decide +kernel) rfl rfl rfl ?_
  refine S_iload_1 0 dX7_namesOf_0 ?_
  refine S_ifne 1 9 dX7_namesOf_1 (by decide) ?_ ?_
  · skip
    refine S_iload_1 9 dX7_namesOf_9 ?_
    refine S_ic 10 1 dX7_namesOf_10 (by decide) ?_
    refine S_join (fun jj => ∀ (v1 : Nat) (h2 : XH), XS E mX7_namesOf eR 0 0 25 [none, none] [.ref v1] h2 (jj v1 h2)) (fun v1 h2 => ?_) (fun j25 hj25 => ?_)
    · skip
      exact S_aret 25 dX7_namesOf_25 rfl
    refine S_icmpne 11 21 dX7_namesOf_11 (by decide) ?_ ?_
    · skip
      refine S_aload_0 21 dX7_namesOf_21 ?_
      refine S_getR 22 fsX7_23 rfl dX7_namesOf_22 (fun w3 => ?_)
      exact S_drop [0, 1] rfl (hj25 _ _)
    · skip
      refine S_aload_0 14 dX7_namesOf_14 ?_
      refine S_getR 15 fsX7_20 rfl dX7_namesOf_15 (fun w4 => ?_)
      refine S_goto 18 25 dX7_namesOf_18 (by decide) ?_
      exact S_drop [0, 1] rfl (hj25 _ _)
  · skip
    refine S_aload_0 4 dX7_namesOf_4 ?_
    refine S_getR 5 fsX7_14 rfl dX7_namesOf_5 (fun w5 => ?_)
    exact S_aret 8 dX7_namesOf_8 rfl
def FX7_settle (E : XG) (t : Nat) (h : XH) : XP Unit := xlp (fun again2 (s2 : Int32) h1 => xg (xk h1 t = 8) <| xnn (xr h1 t 0) fun w2 => xg (xk h1 w2 = 4) <| xjn (fun  (h3 : XH) => xlp (fun again39 (s39 : Int32) h4 => xg (xk h4 t = 8) <| xnn (xr h4 t 1) fun w5 => xg (xk h4 w5 = 4) <| xjn (fun  (h6 : XH) => xv () h6) fun (j83 : XH → XP Unit) => if ((xi h4 w5 2) : Int32) ≤ s39 then (j83 h4) else (xg (xk h4 t = 8) <| xnn (xr h4 t 4) fun w7 => xg (xk h4 w7 = 16) <| if ((Int32.ofNat (xn h4 w7)) : Int32) ≤ s39 then (j83 h4) else (xg (xk h4 t = 8) <| xnn (xr h4 t 4) fun w8 => xg (xk h4 w8 = 16 ∧ xin s39 (xn h4 w8)) <| xnn (xr h4 w8 (s39 : Int32).toNatClampNeg) fun w9 => xg (xk h4 t = 8) <| xnn (xr h4 t 4) fun w10 => xg (xk h4 w10 = 16 ∧ xin s39 (xn h4 w10)) <| xnn (xr h4 w10 (s39 : Int32).toNatClampNeg) fun w11 => xg (xk h4 w11 = 2) <| xb (FX1_firstReason E w11  h4) fun v12 h13 => xg (xk h13 w9 = 2) <| xlt (yi h13 w9 7 v12) fun h14 => again39 (s39 + 1) h14))) xfu 0 h3) fun (j37 : XH → XP Unit) => if ((xi h1 w2 2) : Int32) ≤ s2 then (j37 h1) else (xg (xk h1 t = 8) <| xnn (xr h1 t 3) fun w15 => xg (xk h1 w15 = 17) <| if ((Int32.ofNat (xn h1 w15)) : Int32) ≤ s2 then (j37 h1) else (xg (xk h1 t = 8) <| xnn (xr h1 t 3) fun w16 => xg (xk h1 w16 = 17 ∧ xin s2 (xn h1 w16)) <| xnn (xr h1 w16 (s2 : Int32).toNatClampNeg) fun w17 => xg (xk h1 w17 = 3) <| xb (FX2_findOpposites E w17  h1) fun _ h18 => again2 (s2 + 1) h18))) xfu 0 h
theorem CX7_settle (E : XG) (t : Nat) (h : XH) : XN E mX7_settle eU 0 0 [.ref t] h (FX7_settle E t h) := by
  unfold FX7_settle
  refine S_enter (L := [some (.ref t), none]) (by decide +kernel) rfl rfl rfl ?_
  refine S_ic 0 0 dX7_settle_0 (by decide) ?_
  refine S_istore_1 1 dX7_settle_1 rfl ?_
  refine S_loop (fun (s2 : Int32) => [some (.ref t), some (.int s2)]) (fun again2 hg2 s2 h1 => ?_) xfu _ _
  refine S_iload_1 2 dX7_settle_2 ?_
  refine S_aload_0 3 dX7_settle_3 ?_
  refine S_getR 4 fsX7_14 rfl dX7_settle_4 (fun w2 => ?_)
  refine S_getI 7 fsX7_55 rfl dX7_settle_7 ?_
  refine S_join (fun jj => ∀  (h3 : XH), XS E mX7_settle eU 0 0 37 [some (.ref t), none] [] h3 (jj  h3)) (fun  h3 => ?_) (fun j37 hj37 => ?_)
  · skip
    refine S_ic 37 0 dX7_settle_37 (by decide) ?_
    refine S_istore_1 38 dX7_settle_38 rfl ?_
    refine S_loop (fun (s39 : Int32) => [some (.ref t), some (.int s39)]) (fun again39 hg39 s39 h4 => ?_) xfu _ _
    refine S_iload_1 39 dX7_settle_39 ?_
    refine S_aload_0 40 dX7_settle_40 ?_
    refine S_getR 41 fsX7_20 rfl dX7_settle_41 (fun w5 => ?_)
    refine S_getI 44 fsX7_55 rfl dX7_settle_44 ?_
    refine S_join (fun jj => ∀  (h6 : XH), XS E mX7_settle eU 0 0 83 [none, none] [] h6 (jj  h6)) (fun  h6 => ?_) (fun j83 hj83 => ?_)
    · skip
      exact S_ret 83 dX7_settle_83 rfl
    refine S_icmpge 47 83 dX7_settle_47 (by decide) ?_ ?_
    · skip
      exact S_drop [0, 1] rfl (hj83 _)
    · skip
      refine S_iload_1 50 dX7_settle_50 ?_
      refine S_aload_0 51 dX7_settle_51 ?_
      refine S_getR 52 fsX7_34 rfl dX7_settle_52 (fun w7 => ?_)
      refine S_alen 55 16 5 (by decide) rfl dX7_settle_55 ?_
      refine S_icmpge 56 83 dX7_settle_56 (by decide) ?_ ?_
      · skip
        exact S_drop [0, 1] rfl (hj83 _)
      · skip
        refine S_aload_0 59 dX7_settle_59 ?_
        refine S_getR 60 fsX7_34 rfl dX7_settle_60 (fun w8 => ?_)
        refine S_iload_1 63 dX7_settle_63 ?_
        refine S_aald 64 16 5 (by decide) rfl rfl dX7_settle_64 (fun w9 => ?_)
        refine S_aload_0 65 dX7_settle_65 ?_
        refine S_getR 66 fsX7_34 rfl dX7_settle_66 (fun w10 => ?_)
        refine S_iload_1 69 dX7_settle_69 ?_
        refine S_aald 70 16 5 (by decide) rfl rfl dX7_settle_70 (fun w11 => ?_)
        refine S_callV (a' := 0) (b' := 0) (a := 0) (b := 0) 71 (As := []) (ci := 1) rfl calX1_firstReason imX1_firstReason seX1_firstReason mkX7_68 rfl rfl rfl rfl rfl (by decide) rfl rfl dX7_settle_71 (CX1_firstReason E w11  h4) (fun v12 h13 => kqI ?_)
        refine S_putI 74 frX7_72 rfl (fun q => by cases q) dX7_settle_74 (fun h14 => ?_)
        refine S_iinc_1 77 (s39 + 1) dX7_settle_77 (by rfl) rfl ?_
        refine S_goto 80 39 dX7_settle_80 (by decide) ?_
        exact S_drop [] rfl (hg39 _ _)
  refine S_icmpge 10 37 dX7_settle_10 (by decide) ?_ ?_
  · skip
    exact S_drop [1] rfl (hj37 _)
  · skip
    refine S_iload_1 13 dX7_settle_13 ?_
    refine S_aload_0 14 dX7_settle_14 ?_
    refine S_getR 15 fsX7_28 rfl dX7_settle_15 (fun w15 => ?_)
    refine S_alen 18 17 6 (by decide) rfl dX7_settle_18 ?_
    refine S_icmpge 19 37 dX7_settle_19 (by decide) ?_ ?_
    · skip
      exact S_drop [1] rfl (hj37 _)
    · skip
      refine S_aload_0 22 dX7_settle_22 ?_
      refine S_getR 23 fsX7_28 rfl dX7_settle_23 (fun w16 => ?_)
      refine S_iload_1 26 dX7_settle_26 ?_
      refine S_aald 27 17 6 (by decide) rfl rfl dX7_settle_27 (fun w17 => ?_)
      refine S_callV (a' := 0) (b' := 0) (a := 0) (b := 0) 28 (As := []) (ci := 2) rfl calX2_findOpposites imX2_findOpposites seX2_findOpposites mkX7_65 rfl rfl rfl rfl rfl (by decide) rfl rfl dX7_settle_28 (CX2_findOpposites E w17  h1) (fun _ h18 => kqU ?_)
      refine S_iinc_1 31 (s2 + 1) dX7_settle_31 (by rfl) rfl ?_
      refine S_goto 34 2 dX7_settle_34 (by decide) ?_
      exact S_drop [] rfl (hg2 _ _)
def FX7_addToAccount (E : XG) (t : Nat) (p1 : Int32) (h : XH) : XP Unit := xg (xk h t = 8) <| xnn (xr h t 6) fun w1 => xg (xk h t = 8) <| xnn (xr h t 6) fun w2 => xb (FX8_at E w2 p1 h) fun v3 h4 => xb (FX8_put E w1 p1 (v3 + 1) h4) fun _ h5 => xv () h5
theorem CX7_addToAccount (E : XG) (t : Nat) (p1 : Int32) (h : XH) : XN E mX7_addToAccount eU 0 0 [.ref t, .int p1] h (FX7_addToAccount E t p1 h) := by
  unfold FX7_addToAccount
  refine S_enter (L := [some (.ref t), some (.int p1)]) (by decide +kernel) rfl rfl rfl ?_
  refine S_aload_0 0 dX7_addToAccount_0 ?_
  refine S_getR 1 fsX7_44 rfl dX7_addToAccount_1 (fun w1 => ?_)
  refine S_iload_1 4 dX7_addToAccount_4 ?_
  refine S_aload_0 5 dX7_addToAccount_5 ?_
  refine S_getR 6 fsX7_44 rfl dX7_addToAccount_6 (fun w2 => ?_)
  refine S_iload_1 9 dX7_addToAccount_9 ?_
  refine S_callSN (a' := 0) (b' := 0) (a := 0) (b := 0) 10 (As := [.ref w2, .int p1]) rfl calX8_at stX8_at (List.mem_of_getElem? (i := 17) rfl) rfl rfl rfl rfl rfl dX7_addToAccount_10 (CX8_at E w2 p1 h) (fun v3 h4 => kqI ?_)
  refine S_ic 13 1 dX7_addToAccount_13 (by decide) ?_
  refine S_iadd 14 dX7_addToAccount_14 ?_
  refine S_callSN (a' := 0) (b' := 0) (a := 0) (b := 0) 15 (As := [.ref w1, .int p1, .int (v3 + 1)]) rfl calX8_put stX8_put (List.mem_of_getElem? (i := 18) rfl) rfl rfl rfl rfl rfl dX7_addToAccount_15 (CX8_put E w1 p1 (v3 + 1) h4) (fun _ h5 => kqU ?_)
  exact S_ret 18 dX7_addToAccount_18 rfl
def FX7_judgeAgain (E : XG) (t : Nat) (p1 : Nat) (h : XH) : XP Unit := xg (xk h p1 = 2) <| xlt (xi h p1 7) fun v1 => xg (xk h p1 = 2) <| xb (FX1_firstReason E p1  h) fun v2 h3 => xg (xk h3 p1 = 2) <| xlt (yi h3 p1 7 v2) fun h4 => xjn (fun  (h5 : XH) => xjn (fun  (h6 : XH) => xv () h6) fun (j45 : XH → XP Unit) => if (v1 : Int32) = 0 then (j45 h5) else (xg (xk h5 p1 = 2) <| if ((xi h5 p1 7) : Int32) = 0 then (xg (xk h5 t = 8) <| xb (FX7_addToAccount E t 2 h5) fun _ h7 => j45 h7) else (j45 h5))) fun (j29 : XH → XP Unit) => if (v1 : Int32) = 0 then (xg (xk h4 p1 = 2) <| if ((xi h4 p1 7) : Int32) = 0 then (j29 h4) else (xg (xk h4 t = 8) <| xb (FX7_addToAccount E t 1 h4) fun _ h8 => j29 h8)) else (j29 h4)
theorem CX7_judgeAgain (E : XG) (t : Nat) (p1 : Nat) (h : XH) : XN E mX7_judgeAgain eU 0 0 [.ref t, .ref p1] h (FX7_judgeAgain E t p1 h) := by
  unfold FX7_judgeAgain
  refine S_enter (L := [some (.ref t), some (.ref p1), none]) (by decide +kernel) rfl rfl rfl ?_
  refine S_aload_1 0 dX7_judgeAgain_0 ?_
  refine S_getI 1 fsX7_72 rfl dX7_judgeAgain_1 ?_
  refine S_gen (fun v1 => ?_)
  refine S_istore_2 4 dX7_judgeAgain_4 rfl ?_
  refine S_aload_1 5 dX7_judgeAgain_5 ?_
  refine S_aload_1 6 dX7_judgeAgain_6 ?_
  refine S_callV (a' := 0) (b' := 0) (a := 0) (b := 0) 7 (As := []) (ci := 1) rfl calX1_firstReason imX1_firstReason seX1_firstReason mkX7_68 rfl rfl rfl rfl rfl (by decide) rfl rfl dX7_judgeAgain_7 (CX1_firstReason E p1  h) (fun v2 h3 => kqI ?_)
  refine S_putI 10 frX7_72 rfl (fun q => by cases q) dX7_judgeAgain_10 (fun h4 => ?_)
  refine S_iload_2 13 dX7_judgeAgain_13 ?_
  refine S_join (fun jj => ∀  (h5 : XH), XS E mX7_judgeAgain eU 0 0 29 [some (.ref t), some (.ref p1), some (.int v1)] [] h5 (jj  h5)) (fun  h5 => ?_) (fun j29 hj29 => ?_)
  · skip
    refine S_iload_2 29 dX7_judgeAgain_29 ?_
    refine S_join (fun jj => ∀  (h6 : XH), XS E mX7_judgeAgain eU 0 0 45 [none, none, none] [] h6 (jj  h6)) (fun  h6 => ?_) (fun j45 hj45 => ?_)
    · skip
      exact S_ret 45 dX7_judgeAgain_45 rfl
    refine S_ifeq 30 45 dX7_judgeAgain_30 (by decide) ?_ ?_
    · skip
      exact S_drop [0, 1, 2] rfl (hj45 _)
    · skip
      refine S_aload_1 33 dX7_judgeAgain_33 ?_
      refine S_getI 34 fsX7_72 rfl dX7_judgeAgain_34 ?_
      refine S_ifne 37 45 dX7_judgeAgain_37 (by decide) ?_ ?_
      · skip
        exact S_drop [0, 1, 2] rfl (hj45 _)
      · skip
        refine S_aload_0 40 dX7_judgeAgain_40 ?_
        refine S_ic 41 2 dX7_judgeAgain_41 (by decide) ?_
        refine S_callV (a' := 0) (b' := 0) (a := 0) (b := 0) 42 (As := [.int 2]) (ci := 7) rfl calX7_addToAccount imX7_addToAccount seX7_addToAccount mkX7_83 rfl rfl rfl rfl rfl (by decide) rfl rfl dX7_judgeAgain_42 (CX7_addToAccount E t 2 h5) (fun _ h7 => kqU ?_)
        exact S_drop [0, 1, 2] rfl (hj45 _)
  refine S_ifne 14 29 dX7_judgeAgain_14 (by decide) ?_ ?_
  · skip
    exact S_drop [] rfl (hj29 _)
  · skip
    refine S_aload_1 17 dX7_judgeAgain_17 ?_
    refine S_getI 18 fsX7_72 rfl dX7_judgeAgain_18 ?_
    refine S_ifeq 21 29 dX7_judgeAgain_21 (by decide) ?_ ?_
    · skip
      exact S_drop [] rfl (hj29 _)
    · skip
      refine S_aload_0 24 dX7_judgeAgain_24 ?_
      refine S_ic 25 1 dX7_judgeAgain_25 (by decide) ?_
      refine S_callV (a' := 0) (b' := 0) (a := 0) (b := 0) 26 (As := [.int 1]) (ci := 7) rfl calX7_addToAccount imX7_addToAccount seX7_addToAccount mkX7_83 rfl rfl rfl rfl rfl (by decide) rfl rfl dX7_judgeAgain_26 (CX7_addToAccount E t 1 h4) (fun _ h8 => kqU ?_)
      exact S_drop [] rfl (hj29 _)
def FX7_lawfulModules (E : XG) (t : Nat) (h : XH) : XP Int32 := xlp (fun again4 (s4 : Int32 × Int32) h1 => xg (xk h1 t = 8) <| xnn (xr h1 t 1) fun w2 => xg (xk h1 w2 = 4) <| xjn (fun  (h3 : XH) => xv s4.1 h3) fun (j52 : XH → XP Int32) => if ((xi h1 w2 2) : Int32) ≤ s4.2 then (j52 h1) else (xg (xk h1 t = 8) <| xnn (xr h1 t 4) fun w4 => xg (xk h1 w4 = 16) <| if ((Int32.ofNat (xn h1 w4)) : Int32) ≤ s4.2 then (j52 h1) else (xg (xk h1 t = 8) <| xnn (xr h1 t 4) fun w5 => xg (xk h1 w5 = 16 ∧ xin s4.2 (xn h1 w5)) <| xnn (xr h1 w5 (s4.2 : Int32).toNatClampNeg) fun w6 => xg (xk h1 w6 = 2) <| xjn (fun (v7 : Int32) (h8 : XH) => xlt (s4.1 ||| v7) fun v9 => again4 (v9, (s4.2 + 1)) h8) fun (j44 : Int32 → XH → XP Int32) => if ((xi h1 w6 7) : Int32) = 0 then (j44 (1 <<< (s4.2 &&& 31)) h1) else (j44 0 h1)))) xfu (0, 0) h
theorem CX7_lawfulModules (E : XG) (t : Nat) (h : XH) : XN E mX7_lawfulModules eI 0 0 [.ref t] h (FX7_lawfulModules E t h) := by
  unfold FX7_lawfulModules
  refine S_enter (L := [some (.ref t), none, none]) (by decide +kernel) rfl rfl rfl ?_
  refine S_ic 0 0 dX7_lawfulModules_0 (by decide) ?_
  refine S_istore_1 1 dX7_lawfulModules_1 rfl ?_
  refine S_ic 2 0 dX7_lawfulModules_2 (by decide) ?_
  refine S_istore_2 3 dX7_lawfulModules_3 rfl ?_
  refine S_loop (fun (s4 : Int32 × Int32) => [some (.ref t), some (.int s4.1), some (.int s4.2)]) (fun again4 hg4 s4 h1 => ?_) xfu _ _
  refine S_iload_2 4 dX7_lawfulModules_4 ?_
  refine S_aload_0 5 dX7_lawfulModules_5 ?_
  refine S_getR 6 fsX7_20 rfl dX7_lawfulModules_6 (fun w2 => ?_)
  refine S_getI 9 fsX7_55 rfl dX7_lawfulModules_9 ?_
  refine S_join (fun jj => ∀  (h3 : XH), XS E mX7_lawfulModules eI 0 0 52 [none, some (.int s4.1), none] [] h3 (jj  h3)) (fun  h3 => ?_) (fun j52 hj52 => ?_)
  · skip
    refine S_iload_1 52 dX7_lawfulModules_52 ?_
    exact S_iret 53 dX7_lawfulModules_53 rfl
  refine S_icmpge 12 52 dX7_lawfulModules_12 (by decide) ?_ ?_
  · skip
    exact S_drop [0, 2] rfl (hj52 _)
  · skip
    refine S_iload_2 15 dX7_lawfulModules_15 ?_
    refine S_aload_0 16 dX7_lawfulModules_16 ?_
    refine S_getR 17 fsX7_34 rfl dX7_lawfulModules_17 (fun w4 => ?_)
    refine S_alen 20 16 5 (by decide) rfl dX7_lawfulModules_20 ?_
    refine S_icmpge 21 52 dX7_lawfulModules_21 (by decide) ?_ ?_
    · skip
      exact S_drop [0, 2] rfl (hj52 _)
    · skip
      refine S_iload_1 24 dX7_lawfulModules_24 ?_
      refine S_aload_0 25 dX7_lawfulModules_25 ?_
      refine S_getR 26 fsX7_34 rfl dX7_lawfulModules_26 (fun w5 => ?_)
      refine S_iload_2 29 dX7_lawfulModules_29 ?_
      refine S_aald 30 16 5 (by decide) rfl rfl dX7_lawfulModules_30 (fun w6 => ?_)
      refine S_getI 31 fsX7_72 rfl dX7_lawfulModules_31 ?_
      refine S_join (fun jj => ∀ (v7 : Int32) (h8 : XH), XS E mX7_lawfulModules eI 0 0 44 [some (.ref t), none, some (.int s4.2)] [.int v7, .int s4.1] h8 (jj v7 h8)) (fun v7 h8 => ?_) (fun j44 hj44 => ?_)
      · skip
        refine S_ior 44 dX7_lawfulModules_44 ?_
        refine S_gen (fun v9 => ?_)
        refine S_istore_1 45 dX7_lawfulModules_45 rfl ?_
        refine S_iinc_2 46 (s4.2 + 1) dX7_lawfulModules_46 (by rfl) rfl ?_
        refine S_goto 49 4 dX7_lawfulModules_49 (by decide) ?_
        exact S_drop [] rfl (hg4 _ _)
      refine S_ifne 34 43 dX7_lawfulModules_34 (by decide) ?_ ?_
      · skip
        refine S_ic 43 0 dX7_lawfulModules_43 (by decide) ?_
        exact S_drop [1] rfl (hj44 _ _)
      · skip
        refine S_ic 37 1 dX7_lawfulModules_37 (by decide) ?_
        refine S_iload_2 38 dX7_lawfulModules_38 ?_
        refine S_ishl 39 dX7_lawfulModules_39 ?_
        refine S_goto 40 44 dX7_lawfulModules_40 (by decide) ?_
        exact S_drop [1] rfl (hj44 _ _)
def FX7_firstLike (E : XG) (t : Nat) (p1 : Nat) (h : XH) : XP Int32 := xg (xk h p1 = 2) <| xb (FX1_freshPair E p1  h) fun v1 h2 => xlp (fun again7 (s7 : Int32) h3 => xg (xk h3 p1 = 2) <| xjn (fun  (h4 : XH) => xg (xk h4 p1 = 2) <| xv (xi h4 p1 0) h4) fun (j60 : XH → XP Int32) => if ((xi h3 p1 0) : Int32) ≤ s7 then (j60 h3) else (xg (xk h3 t = 8) <| xnn (xr h3 t 4) fun w5 => xg (xk h3 w5 = 16) <| if ((Int32.ofNat (xn h3 w5)) : Int32) ≤ s7 then (j60 h3) else (xg (xk h3 t = 8) <| xnn (xr h3 t 4) fun w6 => xg (xk h3 w6 = 16 ∧ xin s7 (xn h3 w6)) <| xnn (xr h3 w6 (s7 : Int32).toNatClampNeg) fun w7 => xg (xk h3 w7 = 2) <| xjn (fun  (h8 : XH) => again7 (s7 + 1) h8) fun (j54 : XH → XP Int32) => if ((xi h3 w7 7) : Int32) = 0 then (xg (xk h3 t = 8) <| xnn (xr h3 t 4) fun w9 => xg (xk h3 w9 = 16 ∧ xin s7 (xn h3 w9)) <| xnn (xr h3 w9 (s7 : Int32).toNatClampNeg) fun w10 => xg (xk h3 w10 = 2) <| xb (FX1_freshPair E w10  h3) fun v11 h12 => xg (xk h12 v11 = 5) <| xb (FX4_matches E v11 v1 h12) fun v13 h14 => if (v13 : Int32) = 0 then (j54 h14) else (xv s7 h14)) else (j54 h3)))) xfu 0 h2
theorem CX7_firstLike (E : XG) (t : Nat) (p1 : Nat) (h : XH) : XN E mX7_firstLike eI 0 0 [.ref t, .ref p1] h (FX7_firstLike E t p1 h) := by
  unfold FX7_firstLike
  refine S_enter (L := [some (.ref t), some (.ref p1), none, none]) (by decide +kernel) rfl rfl rfl ?_
  refine S_aload_1 0 dX7_firstLike_0 ?_
  refine S_callV (a' := 0) (b' := 0) (a := 0) (b := 0) 1 (As := []) (ci := 1) rfl calX1_freshPair imX1_freshPair seX1_freshPair mkX7_86 rfl rfl rfl rfl rfl (by decide) rfl rfl dX7_firstLike_1 (CX1_freshPair E p1  h) (fun v1 h2 => kqR ?_)
  refine S_astore_2 4 dX7_firstLike_4 rfl ?_
  refine S_ic 5 0 dX7_firstLike_5 (by decide) ?_
  refine S_istore_3 6 dX7_firstLike_6 rfl ?_
  refine S_loop (fun (s7 : Int32) => [some (.ref t), some (.ref p1), some (.ref v1), some (.int s7)]) (fun again7 hg7 s7 h3 => ?_) xfu _ _
  refine S_iload_3 7 dX7_firstLike_7 ?_
  refine S_aload_1 8 dX7_firstLike_8 ?_
  refine S_getI 9 fsX7_90 rfl dX7_firstLike_9 ?_
  refine S_join (fun jj => ∀  (h4 : XH), XS E mX7_firstLike eI 0 0 60 [none, some (.ref p1), none, none] [] h4 (jj  h4)) (fun  h4 => ?_) (fun j60 hj60 => ?_)
  · skip
    refine S_aload_1 60 dX7_firstLike_60 ?_
    refine S_getI 61 fsX7_90 rfl dX7_firstLike_61 ?_
    exact S_iret 64 dX7_firstLike_64 rfl
  refine S_icmpge 12 60 dX7_firstLike_12 (by decide) ?_ ?_
  · skip
    exact S_drop [0, 2, 3] rfl (hj60 _)
  · skip
    refine S_iload_3 15 dX7_firstLike_15 ?_
    refine S_aload_0 16 dX7_firstLike_16 ?_
    refine S_getR 17 fsX7_34 rfl dX7_firstLike_17 (fun w5 => ?_)
    refine S_alen 20 16 5 (by decide) rfl dX7_firstLike_20 ?_
    refine S_icmpge 21 60 dX7_firstLike_21 (by decide) ?_ ?_
    · skip
      exact S_drop [0, 2, 3] rfl (hj60 _)
    · skip
      refine S_aload_0 24 dX7_firstLike_24 ?_
      refine S_getR 25 fsX7_34 rfl dX7_firstLike_25 (fun w6 => ?_)
      refine S_iload_3 28 dX7_firstLike_28 ?_
      refine S_aald 29 16 5 (by decide) rfl rfl dX7_firstLike_29 (fun w7 => ?_)
      refine S_getI 30 fsX7_72 rfl dX7_firstLike_30 ?_
      refine S_join (fun jj => ∀  (h8 : XH), XS E mX7_firstLike eI 0 0 54 [some (.ref t), some (.ref p1), some (.ref v1), some (.int s7)] [] h8 (jj  h8)) (fun  h8 => ?_) (fun j54 hj54 => ?_)
      · skip
        refine S_iinc_3 54 (s7 + 1) dX7_firstLike_54 (by rfl) rfl ?_
        refine S_goto 57 7 dX7_firstLike_57 (by decide) ?_
        exact S_drop [] rfl (hg7 _ _)
      refine S_ifne 33 54 dX7_firstLike_33 (by decide) ?_ ?_
      · skip
        exact S_drop [] rfl (hj54 _)
      · skip
        refine S_aload_0 36 dX7_firstLike_36 ?_
        refine S_getR 37 fsX7_34 rfl dX7_firstLike_37 (fun w9 => ?_)
        refine S_iload_3 40 dX7_firstLike_40 ?_
        refine S_aald 41 16 5 (by decide) rfl rfl dX7_firstLike_41 (fun w10 => ?_)
        refine S_callV (a' := 0) (b' := 0) (a := 0) (b := 0) 42 (As := []) (ci := 1) rfl calX1_freshPair imX1_freshPair seX1_freshPair mkX7_86 rfl rfl rfl rfl rfl (by decide) rfl rfl dX7_firstLike_42 (CX1_freshPair E w10  h3) (fun v11 h12 => kqR ?_)
        refine S_aload_2 45 dX7_firstLike_45 ?_
        refine S_callV (a' := 0) (b' := 0) (a := 0) (b := 0) 46 (As := [.ref v1]) (ci := 4) rfl calX4_matches imX4_matches seX4_matches mkX7_93 rfl rfl rfl rfl rfl (by decide) rfl rfl dX7_firstLike_46 (CX4_matches E v11 v1 h12) (fun v13 h14 => kqI ?_)
        refine S_ifeq 49 54 dX7_firstLike_49 (by decide) ?_ ?_
        · skip
          exact S_drop [] rfl (hj54 _)
        · skip
          refine S_iload_3 52 dX7_firstLike_52 ?_
          exact S_iret 53 dX7_firstLike_53 rfl
def FX7_equivalenceSet (E : XG) (t : Nat) (h : XH) : XP Int32 := xlp (fun again4 (s4 : Int32 × Int32) h1 => xg (xk h1 t = 8) <| xnn (xr h1 t 2) fun w2 => xg (xk h1 w2 = 4) <| xjn (fun  (h3 : XH) => xv s4.1 h3) fun (j52 : XH → XP Int32) => if ((xi h1 w2 2) : Int32) ≤ s4.2 then (j52 h1) else (xg (xk h1 t = 8) <| xnn (xr h1 t 5) fun w4 => xg (xk h1 w4 = 15) <| if ((Int32.ofNat (xn h1 w4)) : Int32) ≤ s4.2 then (j52 h1) else (xg (xk h1 t = 8) <| xnn (xr h1 t 5) fun w5 => xg (xk h1 w5 = 15 ∧ xin s4.2 (xn h1 w5)) <| xnn (xr h1 w5 (s4.2 : Int32).toNatClampNeg) fun w6 => xg (xk h1 w6 = 1) <| xb (FX0_joinsAlikePairs E w6  h1) fun v7 h8 => xjn (fun (v9 : Int32) (h10 : XH) => xlt (s4.1 ||| v9) fun v11 => again4 (v11, (s4.2 + 1)) h10) fun (j44 : Int32 → XH → XP Int32) => if (v7 : Int32) = 0 then (j44 0 h8) else (j44 (1 <<< (s4.2 &&& 31)) h8)))) xfu (0, 0) h
theorem CX7_equivalenceSet (E : XG) (t : Nat) (h : XH) : XN E mX7_equivalenceSet eI 0 0 [.ref t] h (FX7_equivalenceSet E t h) := by
  unfold FX7_equivalenceSet
  refine S_enter (L := [some (.ref t), none, none]) (by decide +kernel) rfl rfl rfl ?_
  refine S_ic 0 0 dX7_equivalenceSet_0 (by decide) ?_
  refine S_istore_1 1 dX7_equivalenceSet_1 rfl ?_
  refine S_ic 2 0 dX7_equivalenceSet_2 (by decide) ?_
  refine S_istore_2 3 dX7_equivalenceSet_3 rfl ?_
  refine S_loop (fun (s4 : Int32 × Int32) => [some (.ref t), some (.int s4.1), some (.int s4.2)]) (fun again4 hg4 s4 h1 => ?_) xfu _ _
  refine S_iload_2 4 dX7_equivalenceSet_4 ?_
  refine S_aload_0 5 dX7_equivalenceSet_5 ?_
  refine S_getR 6 fsX7_23 rfl dX7_equivalenceSet_6 (fun w2 => ?_)
  refine S_getI 9 fsX7_55 rfl dX7_equivalenceSet_9 ?_
  refine S_join (fun jj => ∀  (h3 : XH), XS E mX7_equivalenceSet eI 0 0 52 [none, some (.int s4.1), none] [] h3 (jj  h3)) (fun  h3 => ?_) (fun j52 hj52 => ?_)
  · skip
    refine S_iload_1 52 dX7_equivalenceSet_52 ?_
    exact S_iret 53 dX7_equivalenceSet_53 rfl
  refine S_icmpge 12 52 dX7_equivalenceSet_12 (by decide) ?_ ?_
  · skip
    exact S_drop [0, 2] rfl (hj52 _)
  · skip
    refine S_iload_2 15 dX7_equivalenceSet_15 ?_
    refine S_aload_0 16 dX7_equivalenceSet_16 ?_
    refine S_getR 17 fsX7_40 rfl dX7_equivalenceSet_17 (fun w4 => ?_)
    refine S_alen 20 15 4 (by decide) rfl dX7_equivalenceSet_20 ?_
    refine S_icmpge 21 52 dX7_equivalenceSet_21 (by decide) ?_ ?_
    · skip
      exact S_drop [0, 2] rfl (hj52 _)
    · skip
      refine S_iload_1 24 dX7_equivalenceSet_24 ?_
      refine S_aload_0 25 dX7_equivalenceSet_25 ?_
      refine S_getR 26 fsX7_40 rfl dX7_equivalenceSet_26 (fun w5 => ?_)
      refine S_iload_2 29 dX7_equivalenceSet_29 ?_
      refine S_aald 30 15 4 (by decide) rfl rfl dX7_equivalenceSet_30 (fun w6 => ?_)
      refine S_callV (a' := 0) (b' := 0) (a := 0) (b := 0) 31 (As := []) (ci := 0) rfl calX0_joinsAlikePairs imX0_joinsAlikePairs seX0_joinsAlikePairs mkX7_99 rfl rfl rfl rfl rfl (by decide) rfl rfl dX7_equivalenceSet_31 (CX0_joinsAlikePairs E w6  h1) (fun v7 h8 => kqI ?_)
      refine S_join (fun jj => ∀ (v9 : Int32) (h10 : XH), XS E mX7_equivalenceSet eI 0 0 44 [some (.ref t), none, some (.int s4.2)] [.int v9, .int s4.1] h10 (jj v9 h10)) (fun v9 h10 => ?_) (fun j44 hj44 => ?_)
      · skip
        refine S_ior 44 dX7_equivalenceSet_44 ?_
        refine S_gen (fun v11 => ?_)
        refine S_istore_1 45 dX7_equivalenceSet_45 rfl ?_
        refine S_iinc_2 46 (s4.2 + 1) dX7_equivalenceSet_46 (by rfl) rfl ?_
        refine S_goto 49 4 dX7_equivalenceSet_49 (by decide) ?_
        exact S_drop [] rfl (hg4 _ _)
      refine S_ifeq 34 43 dX7_equivalenceSet_34 (by decide) ?_ ?_
      · skip
        refine S_ic 43 0 dX7_equivalenceSet_43 (by decide) ?_
        exact S_drop [1] rfl (hj44 _ _)
      · skip
        refine S_ic 37 1 dX7_equivalenceSet_37 (by decide) ?_
        refine S_iload_2 38 dX7_equivalenceSet_38 ?_
        refine S_ishl 39 dX7_equivalenceSet_39 ?_
        refine S_goto 40 44 dX7_equivalenceSet_40 (by decide) ?_
        exact S_drop [1] rfl (hj44 _ _)
def FX7_oneStepFrom (E : XG) (t : Nat) (p1 : Int32) (p2 : Int32) (h : XH) : XP Int32 := xlp (fun again5 (s5 : Int32 × Int32) h1 => xg (xk h1 t = 8) <| xnn (xr h1 t 2) fun w2 => xg (xk h1 w2 = 4) <| xjn (fun  (h3 : XH) => xv s5.1 h3) fun (j102 : XH → XP Int32) => if ((xi h1 w2 2) : Int32) ≤ s5.2 then (j102 h1) else (xg (xk h1 t = 8) <| xnn (xr h1 t 5) fun w4 => xg (xk h1 w4 = 15) <| if ((Int32.ofNat (xn h1 w4)) : Int32) ≤ s5.2 then (j102 h1) else (xg (xk h1 t = 8) <| xnn (xr h1 t 5) fun w5 => xg (xk h1 w5 = 15 ∧ xin s5.2 (xn h1 w5)) <| xnn (xr h1 w5 (s5.2 : Int32).toNatClampNeg) fun w6 => xg (xk h1 w6 = 1) <| xnn (xr h1 w6 0) fun w7 => xg (xk h1 w7 = 2) <| xlt (xi h1 w7 0) fun v8 => xg (xk h1 t = 8) <| xnn (xr h1 t 5) fun w9 => xg (xk h1 w9 = 15 ∧ xin s5.2 (xn h1 w9)) <| xnn (xr h1 w9 (s5.2 : Int32).toNatClampNeg) fun w10 => xg (xk h1 w10 = 1) <| xnn (xr h1 w10 1) fun w11 => xg (xk h1 w11 = 2) <| xlt (xi h1 w11 0) fun v12 => xb (FX8_isIn E p2 s5.2 h1) fun v13 h14 => xjn (fun (v15 : Int32) (h16 : XH) => again5 (v15, (s5.2 + 1)) h16) fun (j96 : Int32 → XH → XP Int32) => if (v13 : Int32) = 0 then (j96 s5.1 h14) else (xb (FX8_isIn E p1 v8 h14) fun v17 h18 => xjn (fun  (h19 : XH) => xlt (s5.1 ||| ((1 <<< (v8 &&& 31)) ||| (1 <<< (v12 &&& 31)))) fun v20 => j96 v20 h19) fun (j84 : XH → XP Int32) => if (v17 : Int32) = 0 then (xb (FX8_isIn E p1 v12 h18) fun v21 h22 => if (v21 : Int32) = 0 then (j96 s5.1 h22) else (j84 h22)) else (j84 h18))))) xfu (p1, 0) h
theorem CX7_oneStepFrom (E : XG) (t : Nat) (p1 : Int32) (p2 : Int32) (h : XH) : XN E mX7_oneStepFrom eI 0 0 [.ref t, .int p1, .int p2] h (FX7_oneStepFrom E t p1 p2 h) := by
  unfold FX7_oneStepFrom
  refine S_enter (L := [some (.ref t), some (.int p1), some (.int p2), none, none, none, none]) (by decide +kernel) rfl rfl rfl ?_
  refine S_iload_1 0 dX7_oneStepFrom_0 ?_
  refine S_istore_3 1 dX7_oneStepFrom_1 rfl ?_
  refine S_ic 2 0 dX7_oneStepFrom_2 (by decide) ?_
  refine S_istore_4 3 dX7_oneStepFrom_3 rfl ?_
  refine S_loop (fun (s5 : Int32 × Int32) => [some (.ref t), some (.int p1), some (.int p2), some (.int s5.1), some (.int s5.2), none, none]) (fun again5 hg5 s5 h1 => ?_) xfu _ _
  refine S_iload_4 5 dX7_oneStepFrom_5 ?_
  refine S_aload_0 7 dX7_oneStepFrom_7 ?_
  refine S_getR 8 fsX7_23 rfl dX7_oneStepFrom_8 (fun w2 => ?_)
  refine S_getI 11 fsX7_55 rfl dX7_oneStepFrom_11 ?_
  refine S_join (fun jj => ∀  (h3 : XH), XS E mX7_oneStepFrom eI 0 0 102 [none, none, none, some (.int s5.1), none, none, none] [] h3 (jj  h3)) (fun  h3 => ?_) (fun j102 hj102 => ?_)
  · skip
    refine S_iload_3 102 dX7_oneStepFrom_102 ?_
    exact S_iret 103 dX7_oneStepFrom_103 rfl
  refine S_icmpge 14 102 dX7_oneStepFrom_14 (by decide) ?_ ?_
  · skip
    exact S_drop [0, 1, 2, 4] rfl (hj102 _)
  · skip
    refine S_iload_4 17 dX7_oneStepFrom_17 ?_
    refine S_aload_0 19 dX7_oneStepFrom_19 ?_
    refine S_getR 20 fsX7_40 rfl dX7_oneStepFrom_20 (fun w4 => ?_)
    refine S_alen 23 15 4 (by decide) rfl dX7_oneStepFrom_23 ?_
    refine S_icmpge 24 102 dX7_oneStepFrom_24 (by decide) ?_ ?_
    · skip
      exact S_drop [0, 1, 2, 4] rfl (hj102 _)
    · skip
      refine S_aload_0 27 dX7_oneStepFrom_27 ?_
      refine S_getR 28 fsX7_40 rfl dX7_oneStepFrom_28 (fun w5 => ?_)
      refine S_iload_4 31 dX7_oneStepFrom_31 ?_
      refine S_aald 33 15 4 (by decide) rfl rfl dX7_oneStepFrom_33 (fun w6 => ?_)
      refine S_getR 34 fsX7_103 rfl dX7_oneStepFrom_34 (fun w7 => ?_)
      refine S_getI 37 fsX7_90 rfl dX7_oneStepFrom_37 ?_
      refine S_gen (fun v8 => ?_)
      refine S_istore_5 40 dX7_oneStepFrom_40 rfl ?_
      refine S_aload_0 42 dX7_oneStepFrom_42 ?_
      refine S_getR 43 fsX7_40 rfl dX7_oneStepFrom_43 (fun w9 => ?_)
      refine S_iload_4 46 dX7_oneStepFrom_46 ?_
      refine S_aald 48 15 4 (by decide) rfl rfl dX7_oneStepFrom_48 (fun w10 => ?_)
      refine S_getR 49 fsX7_107 rfl dX7_oneStepFrom_49 (fun w11 => ?_)
      refine S_getI 52 fsX7_90 rfl dX7_oneStepFrom_52 ?_
      refine S_gen (fun v12 => ?_)
      refine S_istore_6 55 dX7_oneStepFrom_55 rfl ?_
      refine S_iload_2 57 dX7_oneStepFrom_57 ?_
      refine S_iload_4 58 dX7_oneStepFrom_58 ?_
      refine S_callSN (a' := 0) (b' := 0) (a := 0) (b := 0) 60 (As := [.int p2, .int s5.2]) rfl calX8_isIn stX8_isIn (List.mem_of_getElem? (i := 19) rfl) rfl rfl rfl rfl rfl dX7_oneStepFrom_60 (CX8_isIn E p2 s5.2 h1) (fun v13 h14 => kqI ?_)
      refine S_join (fun jj => ∀ (v15 : Int32) (h16 : XH), XS E mX7_oneStepFrom eI 0 0 96 [some (.ref t), some (.int p1), some (.int p2), some (.int v15), some (.int s5.2), none, none] [] h16 (jj v15 h16)) (fun v15 h16 => ?_) (fun j96 hj96 => ?_)
      · skip
        refine S_iinc_4 96 (s5.2 + 1) dX7_oneStepFrom_96 (by rfl) rfl ?_
        refine S_goto 99 5 dX7_oneStepFrom_99 (by decide) ?_
        exact S_drop [] rfl (hg5 _ _)
      refine S_ifeq 63 96 dX7_oneStepFrom_63 (by decide) ?_ ?_
      · skip
        exact S_drop [5, 6] rfl (hj96 _ _)
      · skip
        refine S_iload_1 66 dX7_oneStepFrom_66 ?_
        refine S_iload_5 67 dX7_oneStepFrom_67 ?_
        refine S_callSN (a' := 0) (b' := 0) (a := 0) (b := 0) 69 (As := [.int p1, .int v8]) rfl calX8_isIn stX8_isIn (List.mem_of_getElem? (i := 19) rfl) rfl rfl rfl rfl rfl dX7_oneStepFrom_69 (CX8_isIn E p1 v8 h14) (fun v17 h18 => kqI ?_)
        refine S_join (fun jj => ∀  (h19 : XH), XS E mX7_oneStepFrom eI 0 0 84 [some (.ref t), some (.int p1), some (.int p2), some (.int s5.1), some (.int s5.2), some (.int v8), some (.int v12)] [] h19 (jj  h19)) (fun  h19 => ?_) (fun j84 hj84 => ?_)
        · skip
          refine S_iload_3 84 dX7_oneStepFrom_84 ?_
          refine S_ic 85 1 dX7_oneStepFrom_85 (by decide) ?_
          refine S_iload_5 86 dX7_oneStepFrom_86 ?_
          refine S_ishl 88 dX7_oneStepFrom_88 ?_
          refine S_ic 89 1 dX7_oneStepFrom_89 (by decide) ?_
          refine S_iload_6 90 dX7_oneStepFrom_90 ?_
          refine S_ishl 92 dX7_oneStepFrom_92 ?_
          refine S_ior 93 dX7_oneStepFrom_93 ?_
          refine S_ior 94 dX7_oneStepFrom_94 ?_
          refine S_gen (fun v20 => ?_)
          refine S_istore_3 95 dX7_oneStepFrom_95 rfl ?_
          exact S_drop [5, 6] rfl (hj96 _ _)
        refine S_ifne 72 84 dX7_oneStepFrom_72 (by decide) ?_ ?_
        · skip
          exact S_drop [] rfl (hj84 _)
        · skip
          refine S_iload_1 75 dX7_oneStepFrom_75 ?_
          refine S_iload_6 76 dX7_oneStepFrom_76 ?_
          refine S_callSN (a' := 0) (b' := 0) (a := 0) (b := 0) 78 (As := [.int p1, .int v12]) rfl calX8_isIn stX8_isIn (List.mem_of_getElem? (i := 19) rfl) rfl rfl rfl rfl rfl dX7_oneStepFrom_78 (CX8_isIn E p1 v12 h18) (fun v21 h22 => kqI ?_)
          refine S_ifeq 81 96 dX7_oneStepFrom_81 (by decide) ?_ ?_
          · skip
            exact S_drop [5, 6] rfl (hj96 _ _)
          · skip
            exact S_drop [] rfl (hj84 _)
def FX7_stepsBetween (E : XG) (t : Nat) (p1 : Int32) (p2 : Int32) (p3 : Int32) (h : XH) : XP Int32 := xlt (1 <<< (p1 &&& 31)) fun v1 => xlp (fun again8 (s8 : Int32 × Int32) h2 => if (6 : Int32) ≤ s8.2 then (xv (-1) h2) else (xb (FX8_isIn E s8.1 p2 h2) fun v3 h4 => if (v3 : Int32) = 0 then (xg (xk h4 t = 8) <| xb (FX7_oneStepFrom E t s8.1 p3 h4) fun v5 h6 => again8 (v5, (s8.2 + 1)) h6) else (xv s8.2 h4))) xfu (v1, 0) h
theorem CX7_stepsBetween (E : XG) (t : Nat) (p1 : Int32) (p2 : Int32) (p3 : Int32) (h : XH) : XN E mX7_stepsBetween eI 0 0 [.ref t, .int p1, .int p2, .int p3] h (FX7_stepsBetween E t p1 p2 p3 h) := by
  unfold FX7_stepsBetween
  refine S_enter (L := [some (.ref t), some (.int p1), some (.int p2), some (.int p3), none, none]) (by decide +kernel) rfl rfl rfl ?_
  refine S_ic 0 1 dX7_stepsBetween_0 (by decide) ?_
  refine S_iload_1 1 dX7_stepsBetween_1 ?_
  refine S_ishl 2 dX7_stepsBetween_2 ?_
  refine S_gen (fun v1 => ?_)
  refine S_istore_4 3 dX7_stepsBetween_3 rfl ?_
  refine S_ic 5 0 dX7_stepsBetween_5 (by decide) ?_
  refine S_istore_5 6 dX7_stepsBetween_6 rfl ?_
  refine S_drop [1] rfl ?_
  refine S_loop (fun (s8 : Int32 × Int32) => [some (.ref t), none, some (.int p2), some (.int p3), some (.int s8.1), some (.int s8.2)]) (fun again8 hg8 s8 h2 => ?_) xfu _ _
  refine S_iload_5 8 dX7_stepsBetween_8 ?_
  refine S_bip 10 6 dX7_stepsBetween_10 (by decide) ?_
  refine S_icmpge 12 42 dX7_stepsBetween_12 (by decide) ?_ ?_
  · skip
    refine S_ic 42 (-1) dX7_stepsBetween_42 (by decide) ?_
    exact S_iret 43 dX7_stepsBetween_43 rfl
  · skip
    refine S_iload_4 15 dX7_stepsBetween_15 ?_
    refine S_iload_2 17 dX7_stepsBetween_17 ?_
    refine S_callSN (a' := 0) (b' := 0) (a := 0) (b := 0) 18 (As := [.int s8.1, .int p2]) rfl calX8_isIn stX8_isIn (List.mem_of_getElem? (i := 19) rfl) rfl rfl rfl rfl rfl dX7_stepsBetween_18 (CX8_isIn E s8.1 p2 h2) (fun v3 h4 => kqI ?_)
    refine S_ifeq 21 27 dX7_stepsBetween_21 (by decide) ?_ ?_
    · skip
      refine S_aload_0 27 dX7_stepsBetween_27 ?_
      refine S_iload_4 28 dX7_stepsBetween_28 ?_
      refine S_iload_3 30 dX7_stepsBetween_30 ?_
      refine S_callV (a' := 0) (b' := 0) (a := 0) (b := 0) 31 (As := [.int s8.1, .int p3]) (ci := 7) rfl calX7_oneStepFrom imX7_oneStepFrom seX7_oneStepFrom mkX7_114 rfl rfl rfl rfl rfl (by decide) rfl rfl dX7_stepsBetween_31 (CX7_oneStepFrom E t s8.1 p3 h4) (fun v5 h6 => kqI ?_)
      refine S_istore_4 34 dX7_stepsBetween_34 rfl ?_
      refine S_iinc_5 36 (s8.2 + 1) dX7_stepsBetween_36 (by rfl) rfl ?_
      refine S_goto 39 8 dX7_stepsBetween_39 (by decide) ?_
      exact S_drop [] rfl (hg8 _ _)
    · skip
      refine S_iload_5 24 dX7_stepsBetween_24 ?_
      exact S_iret 26 dX7_stepsBetween_26 rfl
def FX7_giveState (E : XG) (t : Nat) (p1 : Nat) (h : XH) : XP Unit := xg (xk h p1 = 12) <| if ((Int32.ofNat (xn h p1)) : Int32) = 569 then (xlp (fun again13 (s13 : Int32 × Int32) h1 => if (6 : Int32) ≤ s13.2 then (xlp (fun again84 (s84 : Int32 × Int32) h2 => if (8 : Int32) ≤ s84.2 then (xg (xk h2 t = 8) <| xnn (xr h2 t 6) fun w3 => xg ((xk h2 w3 = 12 ∧ xk h2 p1 = 12) ∧ ((0 : Int32) ≤ 0 ∧ (0 : Int32) ≤ s84.1 ∧ (0 : Int32) ≤ 3) ∧ (0 : Int32).toNatClampNeg + (3 : Int32).toNatClampNeg ≤ xn h2 w3 ∧ (s84.1 : Int32).toNatClampNeg + (3 : Int32).toNatClampNeg ≤ xn h2 p1) <| xlt (yc h2 p1 (va_cpy (xi h2 w3) (xi h2 p1) (0 : Int32).toNatClampNeg (s84.1 : Int32).toNatClampNeg (3 : Int32).toNatClampNeg)) fun h4 => xv () h4) else (xg (xk h2 t = 8) <| xnn (xr h2 t 5) fun w5 => xg (xk h2 w5 = 15 ∧ xin s84.2 (xn h2 w5)) <| xnn (xr h2 w5 (s84.2 : Int32).toNatClampNeg) fun w6 => xg (xk h2 w6 = 1) <| xnn (xr h2 w6 2) fun w7 => xg ((xk h2 w7 = 12 ∧ xk h2 p1 = 12) ∧ ((0 : Int32) ≤ 0 ∧ (0 : Int32) ≤ s84.1 ∧ (0 : Int32) ≤ 8) ∧ (0 : Int32).toNatClampNeg + (8 : Int32).toNatClampNeg ≤ xn h2 w7 ∧ (s84.1 : Int32).toNatClampNeg + (8 : Int32).toNatClampNeg ≤ xn h2 p1) <| xlt (yc h2 p1 (va_cpy (xi h2 w7) (xi h2 p1) (0 : Int32).toNatClampNeg (s84.1 : Int32).toNatClampNeg (8 : Int32).toNatClampNeg)) fun h8 => xg (xk h8 t = 8) <| xnn (xr h8 t 5) fun w9 => xg (xk h8 w9 = 15 ∧ xin s84.2 (xn h8 w9)) <| xnn (xr h8 w9 (s84.2 : Int32).toNatClampNeg) fun w10 => xg (xk h8 w10 = 1) <| xnn (xr h8 w10 3) fun w11 => xg ((xk h8 w11 = 12 ∧ xk h8 p1 = 12) ∧ ((0 : Int32) ≤ 0 ∧ (0 : Int32) ≤ (s84.1 + 8) ∧ (0 : Int32) ≤ 8) ∧ (0 : Int32).toNatClampNeg + (8 : Int32).toNatClampNeg ≤ xn h8 w11 ∧ ((s84.1 + 8) : Int32).toNatClampNeg + (8 : Int32).toNatClampNeg ≤ xn h8 p1) <| xlt (yc h8 p1 (va_cpy (xi h8 w11) (xi h8 p1) (0 : Int32).toNatClampNeg ((s84.1 + 8) : Int32).toNatClampNeg (8 : Int32).toNatClampNeg)) fun h12 => again84 ((s84.1 + 16), (s84.2 + 1)) h12)) xfu (s13.1, 0) h1) else (xg (xk h1 t = 8) <| xnn (xr h1 t 4) fun w13 => xg (xk h1 w13 = 16 ∧ xin s13.2 (xn h1 w13)) <| xnn (xr h1 w13 (s13.2 : Int32).toNatClampNeg) fun w14 => xg (xk h1 w14 = 2) <| xnn (xr h1 w14 3) fun w15 => xg ((xk h1 w15 = 12 ∧ xk h1 p1 = 12) ∧ ((0 : Int32) ≤ 0 ∧ (0 : Int32) ≤ s13.1 ∧ (0 : Int32) ≤ 8) ∧ (0 : Int32).toNatClampNeg + (8 : Int32).toNatClampNeg ≤ xn h1 w15 ∧ (s13.1 : Int32).toNatClampNeg + (8 : Int32).toNatClampNeg ≤ xn h1 p1) <| xlt (yc h1 p1 (va_cpy (xi h1 w15) (xi h1 p1) (0 : Int32).toNatClampNeg (s13.1 : Int32).toNatClampNeg (8 : Int32).toNatClampNeg)) fun h16 => xg (xk h16 t = 8) <| xnn (xr h16 t 4) fun w17 => xg (xk h16 w17 = 16 ∧ xin s13.2 (xn h16 w17)) <| xnn (xr h16 w17 (s13.2 : Int32).toNatClampNeg) fun w18 => xg (xk h16 w18 = 2) <| xnn (xr h16 w18 4) fun w19 => xg ((xk h16 w19 = 12 ∧ xk h16 p1 = 12) ∧ ((0 : Int32) ≤ 0 ∧ (0 : Int32) ≤ (s13.1 + 8) ∧ (0 : Int32) ≤ 64) ∧ (0 : Int32).toNatClampNeg + (64 : Int32).toNatClampNeg ≤ xn h16 w19 ∧ ((s13.1 + 8) : Int32).toNatClampNeg + (64 : Int32).toNatClampNeg ≤ xn h16 p1) <| xlt (yc h16 p1 (va_cpy (xi h16 w19) (xi h16 p1) (0 : Int32).toNatClampNeg ((s13.1 + 8) : Int32).toNatClampNeg (64 : Int32).toNatClampNeg)) fun h20 => xg (xk h20 t = 8) <| xnn (xr h20 t 4) fun w21 => xg (xk h20 w21 = 16 ∧ xin s13.2 (xn h20 w21)) <| xnn (xr h20 w21 (s13.2 : Int32).toNatClampNeg) fun w22 => xg (xk h20 w22 = 2) <| xg (xk h20 p1 = 12 ∧ xin ((s13.1 + 73) - 1) (xn h20 p1)) <| xlt (yi h20 p1 (((s13.1 + 73) - 1) : Int32).toNatClampNeg (xi h20 w22 7)) fun h23 => again13 ((s13.1 + 73), (s13.2 + 1)) h23)) xfu (0, 0) h) else (xv () h)
theorem CX7_giveState (E : XG) (t : Nat) (p1 : Nat) (h : XH) : XN E mX7_giveState eU 0 0 [.ref t, .ref p1] h (FX7_giveState E t p1 h) := by
  unfold FX7_giveState
  refine S_enter (L := [some (.ref t), some (.ref p1), none, none]) (by decide +kernel) rfl rfl rfl ?_
  refine S_aload_1 0 dX7_giveState_0 ?_
  refine S_alen 1 12 1 (by decide) rfl dX7_giveState_1 ?_
  refine S_sip 2 569 dX7_giveState_2 (by decide) ?_
  refine S_icmpeq 5 9 dX7_giveState_5 (by decide) ?_ ?_
  · skip
    refine S_ic 9 0 dX7_giveState_9 (by decide) ?_
    refine S_istore_2 10 dX7_giveState_10 rfl ?_
    refine S_ic 11 0 dX7_giveState_11 (by decide) ?_
    refine S_istore_3 12 dX7_giveState_12 rfl ?_
    refine S_loop (fun (s13 : Int32 × Int32) => [some (.ref t), some (.ref p1), some (.int s13.1), some (.int s13.2)]) (fun again13 hg13 s13 h1 => ?_) xfu _ _
    refine S_iload_3 13 dX7_giveState_13 ?_
    refine S_bip 14 6 dX7_giveState_14 (by decide) ?_
    refine S_icmpge 16 82 dX7_giveState_16 (by decide) ?_ ?_
    · skip
      refine S_ic 82 0 dX7_giveState_82 (by decide) ?_
      refine S_istore_3 83 dX7_giveState_83 rfl ?_
      refine S_loop (fun (s84 : Int32 × Int32) => [some (.ref t), some (.ref p1), some (.int s84.1), some (.int s84.2)]) (fun again84 hg84 s84 h2 => ?_) xfu _ _
      refine S_iload_3 84 dX7_giveState_84 ?_
      refine S_bip 85 8 dX7_giveState_85 (by decide) ?_
      refine S_icmpge 87 136 dX7_giveState_87 (by decide) ?_ ?_
      · skip
        refine S_aload_0 136 dX7_giveState_136 ?_
        refine S_getR 137 fsX7_44 rfl dX7_giveState_137 (fun w3 => ?_)
        refine S_ic 140 0 dX7_giveState_140 (by decide) ?_
        refine S_aload_1 141 dX7_giveState_141 ?_
        refine S_iload_2 142 dX7_giveState_142 ?_
        refine S_ic 143 3 dX7_giveState_143 (by decide) ?_
        refine S_copy (M := mX7_giveState) (own := RX7) 144 rfl acX7_121 acN acS acI (by decide) (by exact Nat.le_of_ble_eq_true rfl) dX7_giveState_144 (fun h4 => ?_)
        exact S_ret 147 dX7_giveState_147 rfl
      · skip
        refine S_aload_0 90 dX7_giveState_90 ?_
        refine S_getR 91 fsX7_40 rfl dX7_giveState_91 (fun w5 => ?_)
        refine S_iload_3 94 dX7_giveState_94 ?_
        refine S_aald 95 15 4 (by decide) rfl rfl dX7_giveState_95 (fun w6 => ?_)
        refine S_getR 96 fsX7_130 rfl dX7_giveState_96 (fun w7 => ?_)
        refine S_ic 99 0 dX7_giveState_99 (by decide) ?_
        refine S_aload_1 100 dX7_giveState_100 ?_
        refine S_iload_2 101 dX7_giveState_101 ?_
        refine S_bip 102 8 dX7_giveState_102 (by decide) ?_
        refine S_copy (M := mX7_giveState) (own := RX7) 104 rfl acX7_121 acN acS acI (by decide) (by exact Nat.le_of_ble_eq_true rfl) dX7_giveState_104 (fun h8 => ?_)
        refine S_aload_0 107 dX7_giveState_107 ?_
        refine S_getR 108 fsX7_40 rfl dX7_giveState_108 (fun w9 => ?_)
        refine S_iload_3 111 dX7_giveState_111 ?_
        refine S_aald 112 15 4 (by decide) rfl rfl dX7_giveState_112 (fun w10 => ?_)
        refine S_getR 113 fsX7_133 rfl dX7_giveState_113 (fun w11 => ?_)
        refine S_ic 116 0 dX7_giveState_116 (by decide) ?_
        refine S_aload_1 117 dX7_giveState_117 ?_
        refine S_iload_2 118 dX7_giveState_118 ?_
        refine S_bip 119 8 dX7_giveState_119 (by decide) ?_
        refine S_iadd 121 dX7_giveState_121 ?_
        refine S_bip 122 8 dX7_giveState_122 (by decide) ?_
        refine S_copy (M := mX7_giveState) (own := RX7) 124 rfl acX7_121 acN acS acI (by decide) (by exact Nat.le_of_ble_eq_true rfl) dX7_giveState_124 (fun h12 => ?_)
        refine S_iinc_2 127 (s84.1 + 16) dX7_giveState_127 (by rfl) rfl ?_
        refine S_iinc_3 130 (s84.2 + 1) dX7_giveState_130 (by rfl) rfl ?_
        refine S_goto 133 84 dX7_giveState_133 (by decide) ?_
        exact S_drop [] rfl (hg84 _ _)
    · skip
      refine S_aload_0 19 dX7_giveState_19 ?_
      refine S_getR 20 fsX7_34 rfl dX7_giveState_20 (fun w13 => ?_)
      refine S_iload_3 23 dX7_giveState_23 ?_
      refine S_aald 24 16 5 (by decide) rfl rfl dX7_giveState_24 (fun w14 => ?_)
      refine S_getR 25 fsX7_118 rfl dX7_giveState_25 (fun w15 => ?_)
      refine S_ic 28 0 dX7_giveState_28 (by decide) ?_
      refine S_aload_1 29 dX7_giveState_29 ?_
      refine S_iload_2 30 dX7_giveState_30 ?_
      refine S_bip 31 8 dX7_giveState_31 (by decide) ?_
      refine S_copy (M := mX7_giveState) (own := RX7) 33 rfl acX7_121 acN acS acI (by decide) (by exact Nat.le_of_ble_eq_true rfl) dX7_giveState_33 (fun h16 => ?_)
      refine S_aload_0 36 dX7_giveState_36 ?_
      refine S_getR 37 fsX7_34 rfl dX7_giveState_37 (fun w17 => ?_)
      refine S_iload_3 40 dX7_giveState_40 ?_
      refine S_aald 41 16 5 (by decide) rfl rfl dX7_giveState_41 (fun w18 => ?_)
      refine S_getR 42 fsX7_127 rfl dX7_giveState_42 (fun w19 => ?_)
      refine S_ic 45 0 dX7_giveState_45 (by decide) ?_
      refine S_aload_1 46 dX7_giveState_46 ?_
      refine S_iload_2 47 dX7_giveState_47 ?_
      refine S_bip 48 8 dX7_giveState_48 (by decide) ?_
      refine S_iadd 50 dX7_giveState_50 ?_
      refine S_bip 51 64 dX7_giveState_51 (by decide) ?_
      refine S_copy (M := mX7_giveState) (own := RX7) 53 rfl acX7_121 acN acS acI (by decide) (by exact Nat.le_of_ble_eq_true rfl) dX7_giveState_53 (fun h20 => ?_)
      refine S_aload_1 56 dX7_giveState_56 ?_
      refine S_iload_2 57 dX7_giveState_57 ?_
      refine S_bip 58 73 dX7_giveState_58 (by decide) ?_
      refine S_iadd 60 dX7_giveState_60 ?_
      refine S_ic 61 1 dX7_giveState_61 (by decide) ?_
      refine S_isub 62 dX7_giveState_62 ?_
      refine S_aload_0 63 dX7_giveState_63 ?_
      refine S_getR 64 fsX7_34 rfl dX7_giveState_64 (fun w21 => ?_)
      refine S_iload_3 67 dX7_giveState_67 ?_
      refine S_aald 68 16 5 (by decide) rfl rfl dX7_giveState_68 (fun w22 => ?_)
      refine S_getI 69 fsX7_72 rfl dX7_giveState_69 ?_
      refine S_iast 72 dX7_giveState_72 (fun h23 => ?_)
      refine S_iinc_2 73 (s13.1 + 73) dX7_giveState_73 (by rfl) rfl ?_
      refine S_iinc_3 76 (s13.2 + 1) dX7_giveState_76 (by rfl) rfl ?_
      refine S_goto 79 13 dX7_giveState_79 (by decide) ?_
      exact S_drop [] rfl (hg13 _ _)
  · skip
    exact S_ret 8 dX7_giveState_8 rfl
def FX7_takeState (E : XG) (t : Nat) (p1 : Nat) (h : XH) : XP Unit := xg (xk h p1 = 12) <| if ((Int32.ofNat (xn h p1)) : Int32) = 569 then (xlp (fun again13 (s13 : Int32 × Int32) h1 => if (6 : Int32) ≤ s13.2 then (xlp (fun again84 (s84 : Int32 × Int32) h2 => if (8 : Int32) ≤ s84.2 then (xg (xk h2 t = 8) <| xnn (xr h2 t 6) fun w3 => xg ((xk h2 p1 = 12 ∧ xk h2 w3 = 12) ∧ ((0 : Int32) ≤ s84.1 ∧ (0 : Int32) ≤ 0 ∧ (0 : Int32) ≤ 3) ∧ (s84.1 : Int32).toNatClampNeg + (3 : Int32).toNatClampNeg ≤ xn h2 p1 ∧ (0 : Int32).toNatClampNeg + (3 : Int32).toNatClampNeg ≤ xn h2 w3) <| xlt (yc h2 w3 (va_cpy (xi h2 p1) (xi h2 w3) (s84.1 : Int32).toNatClampNeg (0 : Int32).toNatClampNeg (3 : Int32).toNatClampNeg)) fun h4 => xv () h4) else (xg (xk h2 t = 8) <| xnn (xr h2 t 5) fun w5 => xg (xk h2 w5 = 15 ∧ xin s84.2 (xn h2 w5)) <| xnn (xr h2 w5 (s84.2 : Int32).toNatClampNeg) fun w6 => xg (xk h2 w6 = 1) <| xnn (xr h2 w6 2) fun w7 => xg ((xk h2 p1 = 12 ∧ xk h2 w7 = 12) ∧ ((0 : Int32) ≤ s84.1 ∧ (0 : Int32) ≤ 0 ∧ (0 : Int32) ≤ 8) ∧ (s84.1 : Int32).toNatClampNeg + (8 : Int32).toNatClampNeg ≤ xn h2 p1 ∧ (0 : Int32).toNatClampNeg + (8 : Int32).toNatClampNeg ≤ xn h2 w7) <| xlt (yc h2 w7 (va_cpy (xi h2 p1) (xi h2 w7) (s84.1 : Int32).toNatClampNeg (0 : Int32).toNatClampNeg (8 : Int32).toNatClampNeg)) fun h8 => xg (xk h8 t = 8) <| xnn (xr h8 t 5) fun w9 => xg (xk h8 w9 = 15 ∧ xin s84.2 (xn h8 w9)) <| xnn (xr h8 w9 (s84.2 : Int32).toNatClampNeg) fun w10 => xg (xk h8 w10 = 1) <| xnn (xr h8 w10 3) fun w11 => xg ((xk h8 p1 = 12 ∧ xk h8 w11 = 12) ∧ ((0 : Int32) ≤ (s84.1 + 8) ∧ (0 : Int32) ≤ 0 ∧ (0 : Int32) ≤ 8) ∧ ((s84.1 + 8) : Int32).toNatClampNeg + (8 : Int32).toNatClampNeg ≤ xn h8 p1 ∧ (0 : Int32).toNatClampNeg + (8 : Int32).toNatClampNeg ≤ xn h8 w11) <| xlt (yc h8 w11 (va_cpy (xi h8 p1) (xi h8 w11) ((s84.1 + 8) : Int32).toNatClampNeg (0 : Int32).toNatClampNeg (8 : Int32).toNatClampNeg)) fun h12 => again84 ((s84.1 + 16), (s84.2 + 1)) h12)) xfu (s13.1, 0) h1) else (xg (xk h1 t = 8) <| xnn (xr h1 t 4) fun w13 => xg (xk h1 w13 = 16 ∧ xin s13.2 (xn h1 w13)) <| xnn (xr h1 w13 (s13.2 : Int32).toNatClampNeg) fun w14 => xg (xk h1 w14 = 2) <| xnn (xr h1 w14 3) fun w15 => xg ((xk h1 p1 = 12 ∧ xk h1 w15 = 12) ∧ ((0 : Int32) ≤ s13.1 ∧ (0 : Int32) ≤ 0 ∧ (0 : Int32) ≤ 8) ∧ (s13.1 : Int32).toNatClampNeg + (8 : Int32).toNatClampNeg ≤ xn h1 p1 ∧ (0 : Int32).toNatClampNeg + (8 : Int32).toNatClampNeg ≤ xn h1 w15) <| xlt (yc h1 w15 (va_cpy (xi h1 p1) (xi h1 w15) (s13.1 : Int32).toNatClampNeg (0 : Int32).toNatClampNeg (8 : Int32).toNatClampNeg)) fun h16 => xg (xk h16 t = 8) <| xnn (xr h16 t 4) fun w17 => xg (xk h16 w17 = 16 ∧ xin s13.2 (xn h16 w17)) <| xnn (xr h16 w17 (s13.2 : Int32).toNatClampNeg) fun w18 => xg (xk h16 w18 = 2) <| xnn (xr h16 w18 4) fun w19 => xg ((xk h16 p1 = 12 ∧ xk h16 w19 = 12) ∧ ((0 : Int32) ≤ (s13.1 + 8) ∧ (0 : Int32) ≤ 0 ∧ (0 : Int32) ≤ 64) ∧ ((s13.1 + 8) : Int32).toNatClampNeg + (64 : Int32).toNatClampNeg ≤ xn h16 p1 ∧ (0 : Int32).toNatClampNeg + (64 : Int32).toNatClampNeg ≤ xn h16 w19) <| xlt (yc h16 w19 (va_cpy (xi h16 p1) (xi h16 w19) ((s13.1 + 8) : Int32).toNatClampNeg (0 : Int32).toNatClampNeg (64 : Int32).toNatClampNeg)) fun h20 => xg (xk h20 t = 8) <| xnn (xr h20 t 4) fun w21 => xg (xk h20 w21 = 16 ∧ xin s13.2 (xn h20 w21)) <| xnn (xr h20 w21 (s13.2 : Int32).toNatClampNeg) fun w22 => xg (xk h20 p1 = 12 ∧ xin ((s13.1 + 73) - 1) (xn h20 p1)) <| xg (xk h20 w22 = 2) <| xlt (yi h20 w22 7 (xi h20 p1 (((s13.1 + 73) - 1) : Int32).toNatClampNeg)) fun h23 => again13 ((s13.1 + 73), (s13.2 + 1)) h23)) xfu (0, 0) h) else (xv () h)
theorem CX7_takeState (E : XG) (t : Nat) (p1 : Nat) (h : XH) : XN E mX7_takeState eU 0 0 [.ref t, .ref p1] h (FX7_takeState E t p1 h) := by
  unfold FX7_takeState
  refine S_enter (L := [some (.ref t), some (.ref p1), none, none]) (by decide +kernel) rfl rfl rfl ?_
  refine S_aload_1 0 dX7_takeState_0 ?_
  refine S_alen 1 12 1 (by decide) rfl dX7_takeState_1 ?_
  refine S_sip 2 569 dX7_takeState_2 (by decide) ?_
  refine S_icmpeq 5 9 dX7_takeState_5 (by decide) ?_ ?_
  · skip
    refine S_ic 9 0 dX7_takeState_9 (by decide) ?_
    refine S_istore_2 10 dX7_takeState_10 rfl ?_
    refine S_ic 11 0 dX7_takeState_11 (by decide) ?_
    refine S_istore_3 12 dX7_takeState_12 rfl ?_
    refine S_loop (fun (s13 : Int32 × Int32) => [some (.ref t), some (.ref p1), some (.int s13.1), some (.int s13.2)]) (fun again13 hg13 s13 h1 => ?_) xfu _ _
    refine S_iload_3 13 dX7_takeState_13 ?_
    refine S_bip 14 6 dX7_takeState_14 (by decide) ?_
    refine S_icmpge 16 82 dX7_takeState_16 (by decide) ?_ ?_
    · skip
      refine S_ic 82 0 dX7_takeState_82 (by decide) ?_
      refine S_istore_3 83 dX7_takeState_83 rfl ?_
      refine S_loop (fun (s84 : Int32 × Int32) => [some (.ref t), some (.ref p1), some (.int s84.1), some (.int s84.2)]) (fun again84 hg84 s84 h2 => ?_) xfu _ _
      refine S_iload_3 84 dX7_takeState_84 ?_
      refine S_bip 85 8 dX7_takeState_85 (by decide) ?_
      refine S_icmpge 87 136 dX7_takeState_87 (by decide) ?_ ?_
      · skip
        refine S_aload_1 136 dX7_takeState_136 ?_
        refine S_iload_2 137 dX7_takeState_137 ?_
        refine S_aload_0 138 dX7_takeState_138 ?_
        refine S_getR 139 fsX7_44 rfl dX7_takeState_139 (fun w3 => ?_)
        refine S_ic 142 0 dX7_takeState_142 (by decide) ?_
        refine S_ic 143 3 dX7_takeState_143 (by decide) ?_
        refine S_copy (M := mX7_takeState) (own := RX7) 144 rfl acX7_121 acN acS acI (by decide) (by exact Nat.le_of_ble_eq_true rfl) dX7_takeState_144 (fun h4 => ?_)
        exact S_ret 147 dX7_takeState_147 rfl
      · skip
        refine S_aload_1 90 dX7_takeState_90 ?_
        refine S_iload_2 91 dX7_takeState_91 ?_
        refine S_aload_0 92 dX7_takeState_92 ?_
        refine S_getR 93 fsX7_40 rfl dX7_takeState_93 (fun w5 => ?_)
        refine S_iload_3 96 dX7_takeState_96 ?_
        refine S_aald 97 15 4 (by decide) rfl rfl dX7_takeState_97 (fun w6 => ?_)
        refine S_getR 98 fsX7_130 rfl dX7_takeState_98 (fun w7 => ?_)
        refine S_ic 101 0 dX7_takeState_101 (by decide) ?_
        refine S_bip 102 8 dX7_takeState_102 (by decide) ?_
        refine S_copy (M := mX7_takeState) (own := RX7) 104 rfl acX7_121 acN acS acI (by decide) (by exact Nat.le_of_ble_eq_true rfl) dX7_takeState_104 (fun h8 => ?_)
        refine S_aload_1 107 dX7_takeState_107 ?_
        refine S_iload_2 108 dX7_takeState_108 ?_
        refine S_bip 109 8 dX7_takeState_109 (by decide) ?_
        refine S_iadd 111 dX7_takeState_111 ?_
        refine S_aload_0 112 dX7_takeState_112 ?_
        refine S_getR 113 fsX7_40 rfl dX7_takeState_113 (fun w9 => ?_)
        refine S_iload_3 116 dX7_takeState_116 ?_
        refine S_aald 117 15 4 (by decide) rfl rfl dX7_takeState_117 (fun w10 => ?_)
        refine S_getR 118 fsX7_133 rfl dX7_takeState_118 (fun w11 => ?_)
        refine S_ic 121 0 dX7_takeState_121 (by decide) ?_
        refine S_bip 122 8 dX7_takeState_122 (by decide) ?_
        refine S_copy (M := mX7_takeState) (own := RX7) 124 rfl acX7_121 acN acS acI (by decide) (by exact Nat.le_of_ble_eq_true rfl) dX7_takeState_124 (fun h12 => ?_)
        refine S_iinc_2 127 (s84.1 + 16) dX7_takeState_127 (by rfl) rfl ?_
        refine S_iinc_3 130 (s84.2 + 1) dX7_takeState_130 (by rfl) rfl ?_
        refine S_goto 133 84 dX7_takeState_133 (by decide) ?_
        exact S_drop [] rfl (hg84 _ _)
    · skip
      refine S_aload_1 19 dX7_takeState_19 ?_
      refine S_iload_2 20 dX7_takeState_20 ?_
      refine S_aload_0 21 dX7_takeState_21 ?_
      refine S_getR 22 fsX7_34 rfl dX7_takeState_22 (fun w13 => ?_)
      refine S_iload_3 25 dX7_takeState_25 ?_
      refine S_aald 26 16 5 (by decide) rfl rfl dX7_takeState_26 (fun w14 => ?_)
      refine S_getR 27 fsX7_118 rfl dX7_takeState_27 (fun w15 => ?_)
      refine S_ic 30 0 dX7_takeState_30 (by decide) ?_
      refine S_bip 31 8 dX7_takeState_31 (by decide) ?_
      refine S_copy (M := mX7_takeState) (own := RX7) 33 rfl acX7_121 acN acS acI (by decide) (by exact Nat.le_of_ble_eq_true rfl) dX7_takeState_33 (fun h16 => ?_)
      refine S_aload_1 36 dX7_takeState_36 ?_
      refine S_iload_2 37 dX7_takeState_37 ?_
      refine S_bip 38 8 dX7_takeState_38 (by decide) ?_
      refine S_iadd 40 dX7_takeState_40 ?_
      refine S_aload_0 41 dX7_takeState_41 ?_
      refine S_getR 42 fsX7_34 rfl dX7_takeState_42 (fun w17 => ?_)
      refine S_iload_3 45 dX7_takeState_45 ?_
      refine S_aald 46 16 5 (by decide) rfl rfl dX7_takeState_46 (fun w18 => ?_)
      refine S_getR 47 fsX7_127 rfl dX7_takeState_47 (fun w19 => ?_)
      refine S_ic 50 0 dX7_takeState_50 (by decide) ?_
      refine S_bip 51 64 dX7_takeState_51 (by decide) ?_
      refine S_copy (M := mX7_takeState) (own := RX7) 53 rfl acX7_121 acN acS acI (by decide) (by exact Nat.le_of_ble_eq_true rfl) dX7_takeState_53 (fun h20 => ?_)
      refine S_aload_0 56 dX7_takeState_56 ?_
      refine S_getR 57 fsX7_34 rfl dX7_takeState_57 (fun w21 => ?_)
      refine S_iload_3 60 dX7_takeState_60 ?_
      refine S_aald 61 16 5 (by decide) rfl rfl dX7_takeState_61 (fun w22 => ?_)
      refine S_aload_1 62 dX7_takeState_62 ?_
      refine S_iload_2 63 dX7_takeState_63 ?_
      refine S_bip 64 73 dX7_takeState_64 (by decide) ?_
      refine S_iadd 66 dX7_takeState_66 ?_
      refine S_ic 67 1 dX7_takeState_67 (by decide) ?_
      refine S_isub 68 dX7_takeState_68 ?_
      refine S_iald 69 dX7_takeState_69 ?_
      refine S_putI 70 frX7_72 rfl (fun q => by cases q) dX7_takeState_70 (fun h23 => ?_)
      refine S_iinc_2 73 (s13.1 + 73) dX7_takeState_73 (by rfl) rfl ?_
      refine S_iinc_3 76 (s13.2 + 1) dX7_takeState_76 (by rfl) rfl ?_
      refine S_goto 79 13 dX7_takeState_79 (by decide) ?_
      exact S_drop [] rfl (hg13 _ _)
  · skip
    exact S_ret 8 dX7_takeState_8 rfl
def FX8_init (E : XG) (t : Nat) (h : XH) : XP Unit := xg (xk h t ≠ 0) <| xal h 11 900 fun w1 h2 => xg (xk h2 t = 9) <| xlt (yr h2 t 0 (some w1)) fun h3 => xg (xk h3 t = 9) <| xlt (yi h3 t 3 (-1)) fun h4 => xg (xk h4 t ≠ 0) <| xal h4 8 0 fun w5 h6 => xb (FX7_init E w5  h6) fun _ h7 => xg (xk h7 t = 9) <| xlt (yr h7 t 5 (some w5)) fun h8 => xg (xk h8 t ≠ 0) <| xal h8 8 0 fun w9 h10 => xb (FX7_init E w9  h10) fun _ h11 => xg (xk h11 t = 9) <| xlt (yr h11 t 6 (some w9)) fun h12 => xg (xk h12 t ≠ 0) <| xmg h12 8 569 fun w13 h14 => xg (xk h14 t = 9) <| xlt (yr h14 t 7 (some w13)) fun h15 => xg (xk h15 t ≠ 0) <| xmg h15 2 569 fun w16 h17 => xg (xk h17 t = 9) <| xlt (yr h17 t 10 (some w16)) fun h18 => xg (xk h18 t ≠ 0) <| xal h18 11 71 fun w19 h20 => xg (xk h20 t = 9) <| xlt (yr h20 t 12 (some w19)) fun h21 => xv () h21
theorem CX8_init (E : XG) (t : Nat) (h : XH) : XN E mX8_init eU 210 3805 [.ref t] h (FX8_init E t h) := by
  unfold FX8_init
  refine S_enter (L := [some (.ref t)]) (by decide +kernel) rfl rfl rfl ?_
  refine S_aload_0 0 dX8_init_0 ?_
  refine S_objinit 1 rfl oiX8_3 oiI oiC (by decide) (by decide) (by exact Nat.le_of_ble_eq_true rfl) dX8_init_1 ?_
  refine S_aload_0 4 dX8_init_4 ?_
  refine S_sip 5 900 dX8_init_5 (by decide) ?_
  refine S_new_byte (a := 209) (b := 2905) 8 t 900 (by decide) (by decide) (by decide) ar11 dX8_init_8 (fun w1 h2 => ?_)
  refine S_putR 10 frX8_9 rfl rfl (fun _ => rfl) dX8_init_10 (fun h3 => ?_)
  refine S_aload_0 13 dX8_init_13 ?_
  refine S_ic 14 (-1) dX8_init_14 (by decide) ?_
  refine S_putI 15 frX8_13 rfl (fun q => by cases q) dX8_init_15 (fun h4 => ?_)
  refine S_aload_0 18 dX8_init_18 ?_
  refine S_new (a := 208) (b := 2898) 19 t (ci := 7) (N := 7) xok7 rfl nwX8_17 inst7 ini7 dv7 dX8_init_19 (fun w5 h6 => ?_)
  refine S_dup 22 dX8_init_22 rfl ?_
  refine S_callI (a' := 103) (b' := 1410) (a := 105) (b := 1488) 23 (As := []) rfl calX7_init rfl rfl imX7_init mkX8_19 rfl rfl rfl rfl rfl dX8_init_23 (CX7_init E w5  h6) (fun _ h7 => kqU ?_)
  refine S_putR 26 frX8_20 rfl rfl (fun q => by cases q) dX8_init_26 (fun h8 => ?_)
  refine S_aload_0 29 dX8_init_29 ?_
  refine S_new (a := 104) (b := 1481) 30 t (ci := 7) (N := 7) xok7 rfl nwX8_17 inst7 ini7 dv7 dX8_init_30 (fun w9 h10 => ?_)
  refine S_dup 33 dX8_init_33 rfl ?_
  refine S_callI (a' := 103) (b' := 1410) (a := 1) (b := 71) 34 (As := []) rfl calX7_init rfl rfl imX7_init mkX8_19 rfl rfl rfl rfl rfl dX8_init_34 (CX7_init E w9  h10) (fun _ h11 => kqU ?_)
  refine S_putR 37 frX8_24 rfl rfl (fun q => by cases q) dX8_init_37 (fun h12 => ?_)
  refine S_aload_0 40 dX8_init_40 ?_
  refine S_bip 41 8 dX8_init_41 (by decide) ?_
  refine S_sip 43 569 dX8_init_43 (by decide) ?_
  refine S_any (S_multi (a := 0) (b := 0) 46 t 8 569 rfl cbX8_27 ai12 (by decide) (by decide) (by decide) (by decide) (by decide) (by decide) dX8_init_46 (fun w13 h14 => S_any (a' := 1) (b' := 71) ?_))
  refine S_putR 50 frX8_29 rfl rfl (fun _ => rfl) dX8_init_50 (fun h15 => ?_)
  refine S_aload_0 53 dX8_init_53 ?_
  refine S_ic 54 2 dX8_init_54 (by decide) ?_
  refine S_sip 55 569 dX8_init_55 (by decide) ?_
  refine S_any (S_multi (a := 0) (b := 0) 58 t 2 569 rfl cbX8_27 ai12 (by decide) (by decide) (by decide) (by decide) (by decide) (by decide) dX8_init_58 (fun w16 h17 => S_any (a' := 1) (b' := 71) ?_))
  refine S_putR 62 frX8_32 rfl rfl (fun _ => rfl) dX8_init_62 (fun h18 => ?_)
  refine S_aload_0 65 dX8_init_65 ?_
  refine S_bip 66 71 dX8_init_66 (by decide) ?_
  refine S_new_byte (a := 0) (b := 0) 68 t 71 (by decide) (by decide) (by decide) ar11 dX8_init_68 (fun w19 h20 => ?_)
  refine S_putR 70 frX8_35 rfl rfl (fun _ => rfl) dX8_init_70 (fun h21 => ?_)
  exact S_ret 73 dX8_init_73 rfl
def FX8_appendWord (E : XG) (t : Nat) (p1 : Int32) (h : XH) : XP Unit := xlp (fun again3 (s3 : Int32) h1 => xjn (fun  (h2 : XH) => xv () h2) fun (j48 : XH → XP Unit) => if (s3 : Int32) < 0 then (j48 h1) else (xg (xk h1 t = 9) <| xg (xk h1 t = 9) <| xnn (xr h1 t 0) fun w3 => xg (xk h1 w3 = 11) <| if ((Int32.ofNat (xn h1 w3)) : Int32) ≤ (xi h1 t 1) then (j48 h1) else (xg (xk h1 t = 9) <| xnn (xr h1 t 0) fun w4 => xg (xk h1 t = 9) <| xg (xk h1 w4 = 11 ∧ xin (xi h1 t 1) (xn h1 w4)) <| xlt (yi h1 w4 ((xi h1 t 1) : Int32).toNatClampNeg (vp_nar .byte (Int8.toInt32 (Int32.toInt8 (p1 >>> (s3 &&& 31)))))) fun h5 => xg (xk h5 t = 9) <| xg (xk h5 t = 9) <| xlt (yi h5 t 1 ((xi h5 t 1) + 1)) fun h6 => again3 (s3 + (-8)) h6))) xfu 24 h
theorem CX8_appendWord (E : XG) (t : Nat) (p1 : Int32) (h : XH) : XN E mX8_appendWord eU 0 0 [.ref t, .int p1] h (FX8_appendWord E t p1 h) := by
  unfold FX8_appendWord
  refine S_enter (L := [some (.ref t), some (.int p1), none]) (by decide +kernel) rfl rfl rfl ?_
  refine S_bip 0 24 dX8_appendWord_0 (by decide) ?_
  refine S_istore_2 2 dX8_appendWord_2 rfl ?_
  refine S_loop (fun (s3 : Int32) => [some (.ref t), some (.int p1), some (.int s3)]) (fun again3 hg3 s3 h1 => ?_) xfu _ _
  refine S_iload_2 3 dX8_appendWord_3 ?_
  refine S_join (fun jj => ∀  (h2 : XH), XS E mX8_appendWord eU 0 0 48 [none, none, none] [] h2 (jj  h2)) (fun  h2 => ?_) (fun j48 hj48 => ?_)
  · skip
    exact S_ret 48 dX8_appendWord_48 rfl
  refine S_iflt 4 48 dX8_appendWord_4 (by decide) ?_ ?_
  · skip
    exact S_drop [0, 1, 2] rfl (hj48 _)
  · skip
    refine S_aload_0 7 dX8_appendWord_7 ?_
    refine S_getI 8 fsX8_38 rfl dX8_appendWord_8 ?_
    refine S_aload_0 11 dX8_appendWord_11 ?_
    refine S_getR 12 fsX8_9 rfl dX8_appendWord_12 (fun w3 => ?_)
    refine S_alen 15 11 0 (by decide) rfl dX8_appendWord_15 ?_
    refine S_icmpge 16 48 dX8_appendWord_16 (by decide) ?_ ?_
    · skip
      exact S_drop [0, 1, 2] rfl (hj48 _)
    · skip
      refine S_aload_0 19 dX8_appendWord_19 ?_
      refine S_getR 20 fsX8_9 rfl dX8_appendWord_20 (fun w4 => ?_)
      refine S_aload_0 23 dX8_appendWord_23 ?_
      refine S_getI 24 fsX8_38 rfl dX8_appendWord_24 ?_
      refine S_iload_1 27 dX8_appendWord_27 ?_
      refine S_iload_2 28 dX8_appendWord_28 ?_
      refine S_ishr 29 dX8_appendWord_29 ?_
      refine S_i2b 30 dX8_appendWord_30 ?_
      refine S_bast 31 dX8_appendWord_31 (fun h5 => ?_)
      refine S_aload_0 32 dX8_appendWord_32 ?_
      refine S_dup 33 dX8_appendWord_33 rfl ?_
      refine S_getI 34 fsX8_38 rfl dX8_appendWord_34 ?_
      refine S_ic 37 1 dX8_appendWord_37 (by decide) ?_
      refine S_iadd 38 dX8_appendWord_38 ?_
      refine S_putI 39 frX8_38 rfl (fun q => by cases q) dX8_appendWord_39 (fun h6 => ?_)
      refine S_iinc_2 42 (s3 + (-8)) dX8_appendWord_42 (by rfl) rfl ?_
      refine S_goto 45 3 dX8_appendWord_45 (by decide) ?_
      exact S_drop [] rfl (hg3 _ _)
