/-! Methods as functions, 9. -/
set_option linter.unusedVariables false
set_option maxRecDepth 10000
def FX8_writeTable (E : XG) (t : Nat) (p1 : Int32) (h : XH) : XP Int32 := xg (xk h t = 9) <| xb (FX8_groupAt E t p1 h) fun v1 h2 => xg (xk h2 t = 9) <| xlt (yi h2 t 13 0) fun h3 => xlp (fun again13 (s13 : Int32) h4 => xg (xk h4 v1 = 3) <| if ((xi h4 v1 3) : Int32) ≤ s13 then (xg (xk h4 t = 9) <| xv (xi h4 t 13) h4) else (xjn (fun  (h5 : XH) => xlp (fun again34 (s34 : Int32) h6 => xg (xk h6 v1 = 3) <| if ((xi h6 v1 3) : Int32) ≤ s34 then (again13 (s13 + 1) h6) else (xg (xk h6 v1 = 3) <| xb (FX2_product E v1 s13 s34 h6) fun v7 h8 => xg (xk h8 t = 9) <| xb (FX8_write E t (48 + v7) h8) fun _ h9 => again34 (s34 + 1) h9)) xfu 0 h5) fun (j31 : XH → XP Int32) => if (s13 : Int32) ≤ 0 then (j31 h4) else (xg (xk h4 t = 9) <| xb (FX8_write E t 47 h4) fun _ h10 => j31 h10))) xfu 0 h3
theorem CX8_writeTable (E : XG) (t : Nat) (p1 : Int32) (h : XH) : XN E mX8_writeTable eI 0 0 [.ref t, .int p1] h (FX8_writeTable E t p1 h) := by
  unfold FX8_writeTable
  refine S_enter (L := [some (.ref t), some (.int p1), none, none, none]) (by decide +kernel) rfl rfl rfl ?_
  refine S_aload_0 0 dX8_writeTable_0 ?_
  refine S_iload_1 1 dX8_writeTable_1 ?_
  refine S_callV (a' := 0) (b' := 0) (a := 0) (b := 0) 2 (As := [.int p1]) (ci := 8) rfl calX8_groupAt imX8_groupAt seX8_groupAt mkX8_119 rfl rfl rfl rfl rfl (by decide) rfl rfl dX8_writeTable_2 (CX8_groupAt E t p1 h) (fun v1 h2 => kqR ?_)
  refine S_astore_2 5 dX8_writeTable_5 rfl ?_
  refine S_aload_0 6 dX8_writeTable_6 ?_
  refine S_ic 7 0 dX8_writeTable_7 (by decide) ?_
  refine S_putI 8 frX8_299 rfl (fun q => by cases q) dX8_writeTable_8 (fun h3 => ?_)
  refine S_ic 11 0 dX8_writeTable_11 (by decide) ?_
  refine S_istore_3 12 dX8_writeTable_12 rfl ?_
  refine S_drop [1] rfl ?_
  refine S_loop (fun (s13 : Int32) => [some (.ref t), none, some (.ref v1), some (.int s13), none]) (fun again13 hg13 s13 h4 => ?_) xfu _ _
  refine S_iload_3 13 dX8_writeTable_13 ?_
  refine S_aload_2 14 dX8_writeTable_14 ?_
  refine S_getI 15 fsX8_123 rfl dX8_writeTable_15 ?_
  refine S_icmpge 18 69 dX8_writeTable_18 (by decide) ?_ ?_
  · skip
    refine S_aload_0 69 dX8_writeTable_69 ?_
    refine S_getI 70 fsX8_299 rfl dX8_writeTable_70 ?_
    exact S_iret 73 dX8_writeTable_73 rfl
  · skip
    refine S_iload_3 21 dX8_writeTable_21 ?_
    refine S_join (fun jj => ∀  (h5 : XH), XS E mX8_writeTable eI 0 0 31 [some (.ref t), none, some (.ref v1), some (.int s13), none] [] h5 (jj  h5)) (fun  h5 => ?_) (fun j31 hj31 => ?_)
    · skip
      refine S_ic 31 0 dX8_writeTable_31 (by decide) ?_
      refine S_istore_4 32 dX8_writeTable_32 rfl ?_
      refine S_loop (fun (s34 : Int32) => [some (.ref t), none, some (.ref v1), some (.int s13), some (.int s34)]) (fun again34 hg34 s34 h6 => ?_) xfu _ _
      refine S_iload_4 34 dX8_writeTable_34 ?_
      refine S_aload_2 36 dX8_writeTable_36 ?_
      refine S_getI 37 fsX8_123 rfl dX8_writeTable_37 ?_
      refine S_icmpge 40 63 dX8_writeTable_40 (by decide) ?_ ?_
      · skip
        refine S_iinc_3 63 (s13 + 1) dX8_writeTable_63 (by rfl) rfl ?_
        refine S_goto 66 13 dX8_writeTable_66 (by decide) ?_
        exact S_drop [4] rfl (hg13 _ _)
      · skip
        refine S_aload_0 43 dX8_writeTable_43 ?_
        refine S_bip 44 48 dX8_writeTable_44 (by decide) ?_
        refine S_aload_2 46 dX8_writeTable_46 ?_
        refine S_iload_3 47 dX8_writeTable_47 ?_
        refine S_iload_4 48 dX8_writeTable_48 ?_
        refine S_callV (a' := 0) (b' := 0) (a := 0) (b := 0) 50 (As := [.int s13, .int s34]) (ci := 2) rfl calX2_product imX2_product seX2_product mkX8_129 rfl rfl rfl rfl rfl (by decide) rfl rfl dX8_writeTable_50 (CX2_product E v1 s13 s34 h6) (fun v7 h8 => kqI ?_)
        refine S_iadd 53 dX8_writeTable_53 ?_
        refine S_callV (a' := 0) (b' := 0) (a := 0) (b := 0) 54 (As := [.int (48 + v7)]) (ci := 8) rfl calX8_write imX8_write seX8_write mkX8_302 rfl rfl rfl rfl rfl (by decide) rfl rfl dX8_writeTable_54 (CX8_write E t (48 + v7) h8) (fun _ h9 => kqU ?_)
        refine S_iinc_4 57 (s34 + 1) dX8_writeTable_57 (by rfl) rfl ?_
        refine S_goto 60 34 dX8_writeTable_60 (by decide) ?_
        exact S_drop [] rfl (hg34 _ _)
    refine S_ifle 22 31 dX8_writeTable_22 (by decide) ?_ ?_
    · skip
      exact S_drop [] rfl (hj31 _)
    · skip
      refine S_aload_0 25 dX8_writeTable_25 ?_
      refine S_bip 26 47 dX8_writeTable_26 (by decide) ?_
      refine S_callV (a' := 0) (b' := 0) (a := 0) (b := 0) 28 (As := [.int 47]) (ci := 8) rfl calX8_write imX8_write seX8_write mkX8_302 rfl rfl rfl rfl rfl (by decide) rfl rfl dX8_writeTable_28 (CX8_write E t 47 h4) (fun _ h10 => kqU ?_)
      exact S_drop [] rfl (hj31 _)
def FX8_textByte (E : XG) (t : Nat) (p1 : Int32) (h : XH) : XP Int32 := xjn (fun (v1 : Int32) (h2 : XH) => xb (FX8_demandThere E v1 h2) fun _ h3 => xg (xk h3 t = 9) <| xnn (xr h3 t 12) fun w4 => xg (xk h3 w4 = 11 ∧ xin p1 (xn h3 w4)) <| xv (xi h3 w4 (p1 : Int32).toNatClampNeg) h3) fun (j26 : Int32 → XH → XP Int32) => xjn (fun  (h5 : XH) => j26 0 h5) fun (j25 : XH → XP Int32) => if (p1 : Int32) < 0 then (j25 h) else (xg (xk h t = 9) <| if ((xi h t 13) : Int32) ≤ p1 then (j25 h) else (xg (xk h t = 9) <| xnn (xr h t 12) fun w6 => xg (xk h w6 = 11) <| if ((Int32.ofNat (xn h w6)) : Int32) ≤ p1 then (j25 h) else (j26 1 h)))
theorem CX8_textByte (E : XG) (t : Nat) (p1 : Int32) (h : XH) : XN E mX8_textByte eI 0 0 [.ref t, .int p1] h (FX8_textByte E t p1 h) := by
  unfold FX8_textByte
  refine S_enter (L := [some (.ref t), some (.int p1)]) (by decide +kernel) rfl rfl rfl ?_
  refine S_iload_1 0 dX8_textByte_0 ?_
  refine S_join (fun jj => ∀ (v1 : Int32) (h2 : XH), XS E mX8_textByte eI 0 0 26 [some (.ref t), some (.int p1)] [.int v1] h2 (jj v1 h2)) (fun v1 h2 => ?_) (fun j26 hj26 => ?_)
  · skip
    refine S_callS (a' := 0) (b' := 0) (a := 0) (b := 0) 26 (As := [.int v1]) rfl calX8_demandThere stX8_demandThere mkX8_45 rfl rfl rfl rfl rfl dX8_textByte_26 (CX8_demandThere E v1 h2) (fun _ h3 => kqU ?_)
    refine S_aload_0 29 dX8_textByte_29 ?_
    refine S_getR 30 fsX8_35 rfl dX8_textByte_30 (fun w4 => ?_)
    refine S_iload_1 33 dX8_textByte_33 ?_
    refine S_bald 34 dX8_textByte_34 ?_
    exact S_iret 35 dX8_textByte_35 rfl
  refine S_join (fun jj => ∀  (h5 : XH), XS E mX8_textByte eI 0 0 25 [some (.ref t), some (.int p1)] [] h5 (jj  h5)) (fun  h5 => ?_) (fun j25 hj25 => ?_)
  · skip
    refine S_ic 25 0 dX8_textByte_25 (by decide) ?_
    exact S_drop [] rfl (hj26 _ _)
  refine S_iflt 1 25 dX8_textByte_1 (by decide) ?_ ?_
  · skip
    exact S_drop [] rfl (hj25 _)
  · skip
    refine S_iload_1 4 dX8_textByte_4 ?_
    refine S_aload_0 5 dX8_textByte_5 ?_
    refine S_getI 6 fsX8_299 rfl dX8_textByte_6 ?_
    refine S_icmpge 9 25 dX8_textByte_9 (by decide) ?_ ?_
    · skip
      exact S_drop [] rfl (hj25 _)
    · skip
      refine S_iload_1 12 dX8_textByte_12 ?_
      refine S_aload_0 13 dX8_textByte_13 ?_
      refine S_getR 14 fsX8_35 rfl dX8_textByte_14 (fun w6 => ?_)
      refine S_alen 17 11 0 (by decide) rfl dX8_textByte_17 ?_
      refine S_icmpge 18 25 dX8_textByte_18 (by decide) ?_ ?_
      · skip
        exact S_drop [] rfl (hj25 _)
      · skip
        refine S_ic 21 1 dX8_textByte_21 (by decide) ?_
        refine S_goto 22 26 dX8_textByte_22 (by decide) ?_
        exact S_drop [] rfl (hj26 _ _)
def FX8_undoPlace (E : XG) (t : Nat) (p1 : Int32) (h : XH) : XP Int32 := xg (xk h t = 9) <| xb (FJ9_floorMod_7cf53 E ((xi h t 8) + p1) 8 h) fun v1 h2 => xv v1 h2
theorem CX8_undoPlace (E : XG) (t : Nat) (p1 : Int32) (h : XH) : XN E mX8_undoPlace eI 0 0 [.ref t, .int p1] h (FX8_undoPlace E t p1 h) := by
  unfold FX8_undoPlace
  refine S_enter (L := [some (.ref t), some (.int p1)]) (by decide +kernel) rfl rfl rfl ?_
  refine S_aload_0 0 dX8_undoPlace_0 ?_
  refine S_getI 1 fsX8_391 rfl dX8_undoPlace_1 ?_
  refine S_iload_1 4 dX8_undoPlace_4 ?_
  refine S_iadd 5 dX8_undoPlace_5 ?_
  refine S_bip 6 8 dX8_undoPlace_6 (by decide) ?_
  refine S_callS (a' := 0) (b' := 0) (a := 0) (b := 0) 8 (As := [.int ((xi h t 8) + p1), .int 8]) rfl calJ9_floorMod_7cf53 stJ9_floorMod_7cf53 mkX8_397 rfl rfl rfl rfl rfl dX8_undoPlace_8 (CJ9_floorMod_7cf53 E ((xi h t 8) + p1) 8 h) (fun v1 h2 => kqI ?_)
  exact S_iret 11 dX8_undoPlace_11 rfl
def FX8_beginChange (E : XG) (t : Nat) (h : XH) : XP Unit := xg (xk h t = 9) <| xjn (fun  (h1 : XH) => xg (xk h1 t = 9) <| xnn (xr h1 t 5) fun w2 => xg (xk h1 t = 9) <| xnn (xr h1 t 7) fun w3 => xg (xk h1 t = 9) <| xg (xk h1 t = 9) <| xb (FX8_undoPlace E t (xi h1 t 9) h1) fun v4 h5 => xg (xk h5 w3 = 18 ∧ xin v4 (xn h5 w3)) <| xnn (xr h5 w3 (v4 : Int32).toNatClampNeg) fun w6 => xg (xk h5 w2 = 8) <| xb (FX7_giveState E w2 w6 h5) fun _ h7 => xg (xk h7 t = 9) <| xg (xk h7 t = 9) <| xlt (yi h7 t 9 ((xi h7 t 9) + 1)) fun h8 => xg (xk h8 t = 9) <| xnn (xr h8 t 5) fun w9 => xg (xk h8 w9 = 8) <| xb (FX7_addToAccount E w9 0 h8) fun _ h10 => xv () h10) fun (j28 : XH → XP Unit) => if ((xi h t 9) : Int32) = 8 then (xg (xk h t = 9) <| xb (FX8_undoPlace E t 1 h) fun v11 h12 => xg (xk h12 t = 9) <| xlt (yi h12 t 8 v11) fun h13 => xg (xk h13 t = 9) <| xg (xk h13 t = 9) <| xlt (yi h13 t 9 ((xi h13 t 9) - 1)) fun h14 => j28 h14) else (j28 h)
theorem CX8_beginChange (E : XG) (t : Nat) (h : XH) : XN E mX8_beginChange eU 0 0 [.ref t] h (FX8_beginChange E t h) := by
  unfold FX8_beginChange
  refine S_enter (L := [some (.ref t)]) (by decide +kernel) rfl rfl rfl ?_
  refine S_aload_0 0 dX8_beginChange_0 ?_
  refine S_getI 1 fsX8_334 rfl dX8_beginChange_1 ?_
  refine S_bip 4 8 dX8_beginChange_4 (by decide) ?_
  refine S_join (fun jj => ∀  (h1 : XH), XS E mX8_beginChange eU 0 0 28 [some (.ref t)] [] h1 (jj  h1)) (fun  h1 => ?_) (fun j28 hj28 => ?_)
  · skip
    refine S_aload_0 28 dX8_beginChange_28 ?_
    refine S_getR 29 fsX8_20 rfl dX8_beginChange_29 (fun w2 => ?_)
    refine S_aload_0 32 dX8_beginChange_32 ?_
    refine S_getR 33 fsX8_29 rfl dX8_beginChange_33 (fun w3 => ?_)
    refine S_aload_0 36 dX8_beginChange_36 ?_
    refine S_aload_0 37 dX8_beginChange_37 ?_
    refine S_getI 38 fsX8_334 rfl dX8_beginChange_38 ?_
    refine S_callV (a' := 0) (b' := 0) (a := 0) (b := 0) 41 (As := [.int (xi h1 t 9)]) (ci := 8) rfl calX8_undoPlace imX8_undoPlace seX8_undoPlace mkX8_344 rfl rfl rfl rfl rfl (by decide) rfl rfl dX8_beginChange_41 (CX8_undoPlace E t (xi h1 t 9) h1) (fun v4 h5 => kqI ?_)
    refine S_aald 44 18 7 (by decide) rfl rfl dX8_beginChange_44 (fun w6 => ?_)
    refine S_callV (a' := 0) (b' := 0) (a := 0) (b := 0) 45 (As := [.ref w6]) (ci := 7) rfl calX7_giveState imX7_giveState seX7_giveState mkX8_351 rfl rfl rfl rfl rfl (by decide) rfl rfl dX8_beginChange_45 (CX7_giveState E w2 w6 h5) (fun _ h7 => kqU ?_)
    refine S_aload_0 48 dX8_beginChange_48 ?_
    refine S_dup 49 dX8_beginChange_49 rfl ?_
    refine S_getI 50 fsX8_334 rfl dX8_beginChange_50 ?_
    refine S_ic 53 1 dX8_beginChange_53 (by decide) ?_
    refine S_iadd 54 dX8_beginChange_54 ?_
    refine S_putI 55 frX8_334 rfl (fun q => by cases q) dX8_beginChange_55 (fun h8 => ?_)
    refine S_aload_0 58 dX8_beginChange_58 ?_
    refine S_getR 59 fsX8_20 rfl dX8_beginChange_59 (fun w9 => ?_)
    refine S_ic 62 0 dX8_beginChange_62 (by decide) ?_
    refine S_callV (a' := 0) (b' := 0) (a := 0) (b := 0) 63 (As := [.int 0]) (ci := 7) rfl calX7_addToAccount imX7_addToAccount seX7_addToAccount mkX8_394 rfl rfl rfl rfl rfl (by decide) rfl rfl dX8_beginChange_63 (CX7_addToAccount E w9 0 h8) (fun _ h10 => kqU ?_)
    exact S_ret 66 dX8_beginChange_66 rfl
  refine S_icmpne 6 28 dX8_beginChange_6 (by decide) ?_ ?_
  · skip
    exact S_drop [] rfl (hj28 _)
  · skip
    refine S_aload_0 9 dX8_beginChange_9 ?_
    refine S_aload_0 10 dX8_beginChange_10 ?_
    refine S_ic 11 1 dX8_beginChange_11 (by decide) ?_
    refine S_callV (a' := 0) (b' := 0) (a := 0) (b := 0) 12 (As := [.int 1]) (ci := 8) rfl calX8_undoPlace imX8_undoPlace seX8_undoPlace mkX8_344 rfl rfl rfl rfl rfl (by decide) rfl rfl dX8_beginChange_12 (CX8_undoPlace E t 1 h) (fun v11 h12 => kqI ?_)
    refine S_putI 15 frX8_391 rfl (fun q => by cases q) dX8_beginChange_15 (fun h13 => ?_)
    refine S_aload_0 18 dX8_beginChange_18 ?_
    refine S_dup 19 dX8_beginChange_19 rfl ?_
    refine S_getI 20 fsX8_334 rfl dX8_beginChange_20 ?_
    refine S_ic 23 1 dX8_beginChange_23 (by decide) ?_
    refine S_isub 24 dX8_beginChange_24 ?_
    refine S_putI 25 frX8_334 rfl (fun q => by cases q) dX8_beginChange_25 (fun h14 => ?_)
    exact S_drop [] rfl (hj28 _)
def FX8_setBoundary (E : XG) (t : Nat) (p1 : Int32) (p2 : Int32) (p3 : Int32) (h : XH) : XP Int32 := xg (xk h t = 9) <| xb (FX8_moduleAt E t p1 h) fun v1 h2 => xg (xk h2 v1 = 2) <| xnn (xr h2 v1 1) fun w3 => xg (xk h2 w3 = 3) <| xb (FX2_has E w3 p2 h2) fun v4 h5 => xjn (fun (v6 : Int32) (h7 : XH) => xb (FX8_demandThere E v6 h7) fun _ h8 => xg (xk h8 v1 = 2) <| xb (FX1_boundaryOf E v1 p2 h8) fun v9 h10 => xg (xk h10 t = 9) <| xb (FX8_beginChange E t  h10) fun _ h11 => xg (xk h11 v1 = 2) <| xnn (xr h11 v1 3) fun w12 => xb (FX8_put E w12 p2 p3 h11) fun _ h13 => xg (xk h13 t = 9) <| xnn (xr h13 t 5) fun w14 => xg (xk h13 w14 = 8) <| xb (FX7_judgeAgain E w14 v1 h13) fun _ h15 => xv v9 h15) fun (j36 : Int32 → XH → XP Int32) => xjn (fun  (h16 : XH) => j36 0 h16) fun (j35 : XH → XP Int32) => if (v4 : Int32) = 0 then (j35 h5) else (xg (xk h5 v1 = 2) <| xnn (xr h5 v1 2) fun w17 => xg (xk h5 w17 = 3) <| xb (FX2_has E w17 p3 h5) fun v18 h19 => if (v18 : Int32) = 0 then (j35 h19) else (j36 1 h19))
theorem CX8_setBoundary (E : XG) (t : Nat) (p1 : Int32) (p2 : Int32) (p3 : Int32) (h : XH) : XN E mX8_setBoundary eI 0 0 [.ref t, .int p1, .int p2, .int p3] h (FX8_setBoundary E t p1 p2 p3 h) := by
  unfold FX8_setBoundary
  refine S_enter (L := [some (.ref t), some (.int p1), some (.int p2), some (.int p3), none, none]) (by decide +kernel) rfl rfl rfl ?_
  refine S_aload_0 0 dX8_setBoundary_0 ?_
  refine S_iload_1 1 dX8_setBoundary_1 ?_
  refine S_callV (a' := 0) (b' := 0) (a := 0) (b := 0) 2 (As := [.int p1]) (ci := 8) rfl calX8_moduleAt imX8_moduleAt seX8_moduleAt mkX8_154 rfl rfl rfl rfl rfl (by decide) rfl rfl dX8_setBoundary_2 (CX8_moduleAt E t p1 h) (fun v1 h2 => kqR ?_)
  refine S_astore_4 5 dX8_setBoundary_5 rfl ?_
  refine S_aload_4 7 dX8_setBoundary_7 ?_
  refine S_getR 9 fsX8_167 rfl dX8_setBoundary_9 (fun w3 => ?_)
  refine S_iload_2 12 dX8_setBoundary_12 ?_
  refine S_callV (a' := 0) (b' := 0) (a := 0) (b := 0) 13 (As := [.int p2]) (ci := 2) rfl calX2_has imX2_has seX2_has mkX8_128 rfl rfl rfl rfl rfl (by decide) rfl rfl dX8_setBoundary_13 (CX2_has E w3 p2 h2) (fun v4 h5 => kqI ?_)
  refine S_join (fun jj => ∀ (v6 : Int32) (h7 : XH), XS E mX8_setBoundary eI 0 0 36 [some (.ref t), none, some (.int p2), some (.int p3), some (.ref v1), none] [.int v6] h7 (jj v6 h7)) (fun v6 h7 => ?_) (fun j36 hj36 => ?_)
  · skip
    refine S_callS (a' := 0) (b' := 0) (a := 0) (b := 0) 36 (As := [.int v6]) rfl calX8_demandThere stX8_demandThere mkX8_45 rfl rfl rfl rfl rfl dX8_setBoundary_36 (CX8_demandThere E v6 h7) (fun _ h8 => kqU ?_)
    refine S_aload_4 39 dX8_setBoundary_39 ?_
    refine S_iload_2 41 dX8_setBoundary_41 ?_
    refine S_callV (a' := 0) (b' := 0) (a := 0) (b := 0) 42 (As := [.int p2]) (ci := 1) rfl calX1_boundaryOf imX1_boundaryOf seX1_boundaryOf mkX8_170 rfl rfl rfl rfl rfl (by decide) rfl rfl dX8_setBoundary_42 (CX1_boundaryOf E v1 p2 h8) (fun v9 h10 => kqI ?_)
    refine S_istore_5 45 dX8_setBoundary_45 rfl ?_
    refine S_aload_0 47 dX8_setBoundary_47 ?_
    refine S_callV (a' := 0) (b' := 0) (a := 0) (b := 0) 48 (As := []) (ci := 8) rfl calX8_beginChange imX8_beginChange seX8_beginChange mkX8_305 rfl rfl rfl rfl rfl (by decide) rfl rfl dX8_setBoundary_48 (CX8_beginChange E t  h10) (fun _ h11 => kqU ?_)
    refine S_aload_4 51 dX8_setBoundary_51 ?_
    refine S_getR 53 fsX8_308 rfl dX8_setBoundary_53 (fun w12 => ?_)
    refine S_iload_2 56 dX8_setBoundary_56 ?_
    refine S_iload_3 57 dX8_setBoundary_57 ?_
    refine S_callS (a' := 0) (b' := 0) (a := 0) (b := 0) 58 (As := [.ref w12, .int p2, .int p3]) rfl calX8_put stX8_put mkX8_311 rfl rfl rfl rfl rfl dX8_setBoundary_58 (CX8_put E w12 p2 p3 h11) (fun _ h13 => kqU ?_)
    refine S_aload_0 61 dX8_setBoundary_61 ?_
    refine S_getR 62 fsX8_20 rfl dX8_setBoundary_62 (fun w14 => ?_)
    refine S_aload_4 65 dX8_setBoundary_65 ?_
    refine S_callV (a' := 0) (b' := 0) (a := 0) (b := 0) 67 (As := [.ref v1]) (ci := 7) rfl calX7_judgeAgain imX7_judgeAgain seX7_judgeAgain mkX8_315 rfl rfl rfl rfl rfl (by decide) rfl rfl dX8_setBoundary_67 (CX7_judgeAgain E w14 v1 h13) (fun _ h15 => kqU ?_)
    refine S_iload_5 70 dX8_setBoundary_70 ?_
    exact S_iret 72 dX8_setBoundary_72 rfl
  refine S_join (fun jj => ∀  (h16 : XH), XS E mX8_setBoundary eI 0 0 35 [some (.ref t), none, some (.int p2), some (.int p3), some (.ref v1), none] [] h16 (jj  h16)) (fun  h16 => ?_) (fun j35 hj35 => ?_)
  · skip
    refine S_ic 35 0 dX8_setBoundary_35 (by decide) ?_
    exact S_drop [] rfl (hj36 _ _)
  refine S_ifeq 16 35 dX8_setBoundary_16 (by decide) ?_ ?_
  · skip
    exact S_drop [1] rfl (hj35 _)
  · skip
    refine S_aload_4 19 dX8_setBoundary_19 ?_
    refine S_getR 21 fsX8_158 rfl dX8_setBoundary_21 (fun w17 => ?_)
    refine S_iload_3 24 dX8_setBoundary_24 ?_
    refine S_callV (a' := 0) (b' := 0) (a := 0) (b := 0) 25 (As := [.int p3]) (ci := 2) rfl calX2_has imX2_has seX2_has mkX8_128 rfl rfl rfl rfl rfl (by decide) rfl rfl dX8_setBoundary_25 (CX2_has E w17 p3 h5) (fun v18 h19 => kqI ?_)
    refine S_ifeq 28 35 dX8_setBoundary_28 (by decide) ?_ ?_
    · skip
      exact S_drop [1] rfl (hj35 _)
    · skip
      refine S_ic 31 1 dX8_setBoundary_31 (by decide) ?_
      refine S_goto 32 36 dX8_setBoundary_32 (by decide) ?_
      exact S_drop [1] rfl (hj36 _ _)
def FX8_setAct (E : XG) (t : Nat) (p1 : Int32) (p2 : Int32) (p3 : Int32) (p4 : Int32) (h : XH) : XP Int32 := xg (xk h t = 9) <| xb (FX8_moduleAt E t p1 h) fun v1 h2 => xg (xk h2 v1 = 2) <| xnn (xr h2 v1 2) fun w3 => xg (xk h2 w3 = 3) <| xb (FX2_has E w3 p2 h2) fun v4 h5 => xjn (fun (v6 : Int32) (h7 : XH) => xb (FX8_demandThere E v6 h7) fun _ h8 => xg (xk h8 v1 = 2) <| xb (FX1_actionOf E v1 p2 p3 h8) fun v9 h10 => xg (xk h10 t = 9) <| xb (FX8_beginChange E t  h10) fun _ h11 => xg (xk h11 v1 = 2) <| xnn (xr h11 v1 4) fun w12 => xb (FX8_put E w12 ((p2 * 8) + p3) p4 h11) fun _ h13 => xg (xk h13 t = 9) <| xnn (xr h13 t 5) fun w14 => xg (xk h13 w14 = 8) <| xb (FX7_judgeAgain E w14 v1 h13) fun _ h15 => xv v9 h15) fun (j49 : Int32 → XH → XP Int32) => xjn (fun  (h16 : XH) => j49 0 h16) fun (j48 : XH → XP Int32) => if (v4 : Int32) = 0 then (j48 h5) else (xg (xk h5 v1 = 2) <| xnn (xr h5 v1 1) fun w17 => xg (xk h5 w17 = 3) <| xb (FX2_has E w17 p3 h5) fun v18 h19 => if (v18 : Int32) = 0 then (j48 h19) else (xg (xk h19 v1 = 2) <| xnn (xr h19 v1 1) fun w20 => xg (xk h19 w20 = 3) <| xb (FX2_has E w20 p4 h19) fun v21 h22 => if (v21 : Int32) = 0 then (j48 h22) else (j49 1 h22)))
theorem CX8_setAct (E : XG) (t : Nat) (p1 : Int32) (p2 : Int32) (p3 : Int32) (p4 : Int32) (h : XH) : XN E mX8_setAct eI 0 0 [.ref t, .int p1, .int p2, .int p3, .int p4] h (FX8_setAct E t p1 p2 p3 p4 h) := by
  unfold FX8_setAct
  refine S_enter (L := [some (.ref t), some (.int p1), some (.int p2), some (.int p3), some (.int p4), none, none]) (by decide +kernel) rfl rfl rfl ?_
  refine S_aload_0 0 dX8_setAct_0 ?_
  refine S_iload_1 1 dX8_setAct_1 ?_
  refine S_callV (a' := 0) (b' := 0) (a := 0) (b := 0) 2 (As := [.int p1]) (ci := 8) rfl calX8_moduleAt imX8_moduleAt seX8_moduleAt mkX8_154 rfl rfl rfl rfl rfl (by decide) rfl rfl dX8_setAct_2 (CX8_moduleAt E t p1 h) (fun v1 h2 => kqR ?_)
  refine S_astore_5 5 dX8_setAct_5 rfl ?_
  refine S_aload_5 7 dX8_setAct_7 ?_
  refine S_getR 9 fsX8_158 rfl dX8_setAct_9 (fun w3 => ?_)
  refine S_iload_2 12 dX8_setAct_12 ?_
  refine S_callV (a' := 0) (b' := 0) (a := 0) (b := 0) 13 (As := [.int p2]) (ci := 2) rfl calX2_has imX2_has seX2_has mkX8_128 rfl rfl rfl rfl rfl (by decide) rfl rfl dX8_setAct_13 (CX2_has E w3 p2 h2) (fun v4 h5 => kqI ?_)
  refine S_join (fun jj => ∀ (v6 : Int32) (h7 : XH), XS E mX8_setAct eI 0 0 49 [some (.ref t), none, some (.int p2), some (.int p3), some (.int p4), some (.ref v1), none] [.int v6] h7 (jj v6 h7)) (fun v6 h7 => ?_) (fun j49 hj49 => ?_)
  · skip
    refine S_callS (a' := 0) (b' := 0) (a := 0) (b := 0) 49 (As := [.int v6]) rfl calX8_demandThere stX8_demandThere mkX8_45 rfl rfl rfl rfl rfl dX8_setAct_49 (CX8_demandThere E v6 h7) (fun _ h8 => kqU ?_)
    refine S_aload_5 52 dX8_setAct_52 ?_
    refine S_iload_2 54 dX8_setAct_54 ?_
    refine S_iload_3 55 dX8_setAct_55 ?_
    refine S_callV (a' := 0) (b' := 0) (a := 0) (b := 0) 56 (As := [.int p2, .int p3]) (ci := 1) rfl calX1_actionOf imX1_actionOf seX1_actionOf mkX8_173 rfl rfl rfl rfl rfl (by decide) rfl rfl dX8_setAct_56 (CX1_actionOf E v1 p2 p3 h8) (fun v9 h10 => kqI ?_)
    refine S_istore_6 59 dX8_setAct_59 rfl ?_
    refine S_aload_0 61 dX8_setAct_61 ?_
    refine S_callV (a' := 0) (b' := 0) (a := 0) (b := 0) 62 (As := []) (ci := 8) rfl calX8_beginChange imX8_beginChange seX8_beginChange mkX8_305 rfl rfl rfl rfl rfl (by decide) rfl rfl dX8_setAct_62 (CX8_beginChange E t  h10) (fun _ h11 => kqU ?_)
    refine S_aload_5 65 dX8_setAct_65 ?_
    refine S_getR 67 fsX8_319 rfl dX8_setAct_67 (fun w12 => ?_)
    refine S_iload_2 70 dX8_setAct_70 ?_
    refine S_bip 71 8 dX8_setAct_71 (by decide) ?_
    refine S_imul 73 dX8_setAct_73 ?_
    refine S_iload_3 74 dX8_setAct_74 ?_
    refine S_iadd 75 dX8_setAct_75 ?_
    refine S_iload_4 76 dX8_setAct_76 ?_
    refine S_callS (a' := 0) (b' := 0) (a := 0) (b := 0) 78 (As := [.ref w12, .int ((p2 * 8) + p3), .int p4]) rfl calX8_put stX8_put mkX8_311 rfl rfl rfl rfl rfl dX8_setAct_78 (CX8_put E w12 ((p2 * 8) + p3) p4 h11) (fun _ h13 => kqU ?_)
    refine S_aload_0 81 dX8_setAct_81 ?_
    refine S_getR 82 fsX8_20 rfl dX8_setAct_82 (fun w14 => ?_)
    refine S_aload_5 85 dX8_setAct_85 ?_
    refine S_callV (a' := 0) (b' := 0) (a := 0) (b := 0) 87 (As := [.ref v1]) (ci := 7) rfl calX7_judgeAgain imX7_judgeAgain seX7_judgeAgain mkX8_315 rfl rfl rfl rfl rfl (by decide) rfl rfl dX8_setAct_87 (CX7_judgeAgain E w14 v1 h13) (fun _ h15 => kqU ?_)
    refine S_iload_6 90 dX8_setAct_90 ?_
    exact S_iret 92 dX8_setAct_92 rfl
  refine S_join (fun jj => ∀  (h16 : XH), XS E mX8_setAct eI 0 0 48 [some (.ref t), none, some (.int p2), some (.int p3), some (.int p4), some (.ref v1), none] [] h16 (jj  h16)) (fun  h16 => ?_) (fun j48 hj48 => ?_)
  · skip
    refine S_ic 48 0 dX8_setAct_48 (by decide) ?_
    exact S_drop [] rfl (hj49 _ _)
  refine S_ifeq 16 48 dX8_setAct_16 (by decide) ?_ ?_
  · skip
    exact S_drop [1] rfl (hj48 _)
  · skip
    refine S_aload_5 19 dX8_setAct_19 ?_
    refine S_getR 21 fsX8_167 rfl dX8_setAct_21 (fun w17 => ?_)
    refine S_iload_3 24 dX8_setAct_24 ?_
    refine S_callV (a' := 0) (b' := 0) (a := 0) (b := 0) 25 (As := [.int p3]) (ci := 2) rfl calX2_has imX2_has seX2_has mkX8_128 rfl rfl rfl rfl rfl (by decide) rfl rfl dX8_setAct_25 (CX2_has E w17 p3 h5) (fun v18 h19 => kqI ?_)
    refine S_ifeq 28 48 dX8_setAct_28 (by decide) ?_ ?_
    · skip
      exact S_drop [1] rfl (hj48 _)
    · skip
      refine S_aload_5 31 dX8_setAct_31 ?_
      refine S_getR 33 fsX8_167 rfl dX8_setAct_33 (fun w20 => ?_)
      refine S_iload_4 36 dX8_setAct_36 ?_
      refine S_callV (a' := 0) (b' := 0) (a := 0) (b := 0) 38 (As := [.int p4]) (ci := 2) rfl calX2_has imX2_has seX2_has mkX8_128 rfl rfl rfl rfl rfl (by decide) rfl rfl dX8_setAct_38 (CX2_has E w20 p4 h19) (fun v21 h22 => kqI ?_)
      refine S_ifeq 41 48 dX8_setAct_41 (by decide) ?_ ?_
      · skip
        exact S_drop [1] rfl (hj48 _)
      · skip
        refine S_ic 44 1 dX8_setAct_44 (by decide) ?_
        refine S_goto 45 49 dX8_setAct_45 (by decide) ?_
        exact S_drop [1] rfl (hj49 _ _)
def FX8_rest (E : XG) (t : Nat) (p1 : Int32) (h : XH) : XP Int32 := xg (xk h t = 9) <| xb (FX8_moduleAt E t p1 h) fun v1 h2 => xg (xk h2 t = 9) <| xb (FX8_beginChange E t  h2) fun _ h3 => xg (xk h3 v1 = 2) <| xb (FX1_becomeRestful E v1  h3) fun v4 h5 => xg (xk h5 t = 9) <| xnn (xr h5 t 5) fun w6 => xg (xk h5 w6 = 8) <| xb (FX7_judgeAgain E w6 v1 h5) fun _ h7 => xv v4 h7
theorem CX8_rest (E : XG) (t : Nat) (p1 : Int32) (h : XH) : XN E mX8_rest eI 0 0 [.ref t, .int p1] h (FX8_rest E t p1 h) := by
  unfold FX8_rest
  refine S_enter (L := [some (.ref t), some (.int p1), none, none]) (by decide +kernel) rfl rfl rfl ?_
  refine S_aload_0 0 dX8_rest_0 ?_
  refine S_iload_1 1 dX8_rest_1 ?_
  refine S_callV (a' := 0) (b' := 0) (a := 0) (b := 0) 2 (As := [.int p1]) (ci := 8) rfl calX8_moduleAt imX8_moduleAt seX8_moduleAt mkX8_154 rfl rfl rfl rfl rfl (by decide) rfl rfl dX8_rest_2 (CX8_moduleAt E t p1 h) (fun v1 h2 => kqR ?_)
  refine S_astore_2 5 dX8_rest_5 rfl ?_
  refine S_aload_0 6 dX8_rest_6 ?_
  refine S_callV (a' := 0) (b' := 0) (a := 0) (b := 0) 7 (As := []) (ci := 8) rfl calX8_beginChange imX8_beginChange seX8_beginChange mkX8_305 rfl rfl rfl rfl rfl (by decide) rfl rfl dX8_rest_7 (CX8_beginChange E t  h2) (fun _ h3 => kqU ?_)
  refine S_aload_2 10 dX8_rest_10 ?_
  refine S_callV (a' := 0) (b' := 0) (a := 0) (b := 0) 11 (As := []) (ci := 1) rfl calX1_becomeRestful imX1_becomeRestful seX1_becomeRestful mkX8_322 rfl rfl rfl rfl rfl (by decide) rfl rfl dX8_rest_11 (CX1_becomeRestful E v1  h3) (fun v4 h5 => kqI ?_)
  refine S_istore_3 14 dX8_rest_14 rfl ?_
  refine S_aload_0 15 dX8_rest_15 ?_
  refine S_getR 16 fsX8_20 rfl dX8_rest_16 (fun w6 => ?_)
  refine S_aload_2 19 dX8_rest_19 ?_
  refine S_callV (a' := 0) (b' := 0) (a := 0) (b := 0) 20 (As := [.ref v1]) (ci := 7) rfl calX7_judgeAgain imX7_judgeAgain seX7_judgeAgain mkX8_315 rfl rfl rfl rfl rfl (by decide) rfl rfl dX8_rest_20 (CX7_judgeAgain E w6 v1 h5) (fun _ h7 => kqU ?_)
  refine S_iload_3 23 dX8_rest_23 ?_
  exact S_iret 24 dX8_rest_24 rfl
def FX8_conjugate (E : XG) (t : Nat) (p1 : Int32) (h : XH) : XP Int32 := xg (xk h t = 9) <| xb (FX8_moduleAt E t p1 h) fun v1 h2 => xg (xk h2 v1 = 2) <| xnn (xr h2 v1 1) fun w3 => xg (xk h2 w3 = 3) <| xg (xk h2 v1 = 2) <| xnn (xr h2 v1 2) fun w4 => xg (xk h2 w4 = 3) <| xjn (fun (v5 : Int32) (h6 : XH) => xb (FX8_demandFit E v5 h6) fun _ h7 => xg (xk h7 t = 9) <| xb (FX8_beginChange E t  h7) fun _ h8 => xg (xk h8 v1 = 2) <| xb (FX1_becomeConjugation E v1  h8) fun v9 h10 => xg (xk h10 t = 9) <| xnn (xr h10 t 5) fun w11 => xg (xk h10 w11 = 8) <| xb (FX7_judgeAgain E w11 v1 h10) fun _ h12 => xv v9 h12) fun (j28 : Int32 → XH → XP Int32) => if ((xi h2 w3 0) : Int32) = (xi h2 w4 0) then (j28 1 h2) else (j28 0 h2)
theorem CX8_conjugate (E : XG) (t : Nat) (p1 : Int32) (h : XH) : XN E mX8_conjugate eI 0 0 [.ref t, .int p1] h (FX8_conjugate E t p1 h) := by
  unfold FX8_conjugate
  refine S_enter (L := [some (.ref t), some (.int p1), none, none]) (by decide +kernel) rfl rfl rfl ?_
  refine S_aload_0 0 dX8_conjugate_0 ?_
  refine S_iload_1 1 dX8_conjugate_1 ?_
  refine S_callV (a' := 0) (b' := 0) (a := 0) (b := 0) 2 (As := [.int p1]) (ci := 8) rfl calX8_moduleAt imX8_moduleAt seX8_moduleAt mkX8_154 rfl rfl rfl rfl rfl (by decide) rfl rfl dX8_conjugate_2 (CX8_moduleAt E t p1 h) (fun v1 h2 => kqR ?_)
  refine S_astore_2 5 dX8_conjugate_5 rfl ?_
  refine S_aload_2 6 dX8_conjugate_6 ?_
  refine S_getR 7 fsX8_167 rfl dX8_conjugate_7 (fun w3 => ?_)
  refine S_getI 10 fsX8_164 rfl dX8_conjugate_10 ?_
  refine S_aload_2 13 dX8_conjugate_13 ?_
  refine S_getR 14 fsX8_158 rfl dX8_conjugate_14 (fun w4 => ?_)
  refine S_getI 17 fsX8_164 rfl dX8_conjugate_17 ?_
  refine S_join (fun jj => ∀ (v5 : Int32) (h6 : XH), XS E mX8_conjugate eI 0 0 28 [some (.ref t), none, some (.ref v1), none] [.int v5] h6 (jj v5 h6)) (fun v5 h6 => ?_) (fun j28 hj28 => ?_)
  · skip
    refine S_callS (a' := 0) (b' := 0) (a := 0) (b := 0) 28 (As := [.int v5]) rfl calX8_demandFit stX8_demandFit mkX8_75 rfl rfl rfl rfl rfl dX8_conjugate_28 (CX8_demandFit E v5 h6) (fun _ h7 => kqU ?_)
    refine S_aload_0 31 dX8_conjugate_31 ?_
    refine S_callV (a' := 0) (b' := 0) (a := 0) (b := 0) 32 (As := []) (ci := 8) rfl calX8_beginChange imX8_beginChange seX8_beginChange mkX8_305 rfl rfl rfl rfl rfl (by decide) rfl rfl dX8_conjugate_32 (CX8_beginChange E t  h7) (fun _ h8 => kqU ?_)
    refine S_aload_2 35 dX8_conjugate_35 ?_
    refine S_callV (a' := 0) (b' := 0) (a := 0) (b := 0) 36 (As := []) (ci := 1) rfl calX1_becomeConjugation imX1_becomeConjugation seX1_becomeConjugation mkX8_325 rfl rfl rfl rfl rfl (by decide) rfl rfl dX8_conjugate_36 (CX1_becomeConjugation E v1  h8) (fun v9 h10 => kqI ?_)
    refine S_istore_3 39 dX8_conjugate_39 rfl ?_
    refine S_aload_0 40 dX8_conjugate_40 ?_
    refine S_getR 41 fsX8_20 rfl dX8_conjugate_41 (fun w11 => ?_)
    refine S_aload_2 44 dX8_conjugate_44 ?_
    refine S_callV (a' := 0) (b' := 0) (a := 0) (b := 0) 45 (As := [.ref v1]) (ci := 7) rfl calX7_judgeAgain imX7_judgeAgain seX7_judgeAgain mkX8_315 rfl rfl rfl rfl rfl (by decide) rfl rfl dX8_conjugate_45 (CX7_judgeAgain E w11 v1 h10) (fun _ h12 => kqU ?_)
    refine S_iload_3 48 dX8_conjugate_48 ?_
    exact S_iret 49 dX8_conjugate_49 rfl
  refine S_icmpne 20 27 dX8_conjugate_20 (by decide) ?_ ?_
  · skip
    refine S_ic 27 0 dX8_conjugate_27 (by decide) ?_
    exact S_drop [1] rfl (hj28 _ _)
  · skip
    refine S_ic 23 1 dX8_conjugate_23 (by decide) ?_
    refine S_goto 24 28 dX8_conjugate_24 (by decide) ?_
    exact S_drop [1] rfl (hj28 _ _)
def FX8_setTop (E : XG) (t : Nat) (p1 : Int32) (p2 : Int32) (p3 : Int32) (h : XH) : XP Int32 := xg (xk h t = 9) <| xb (FX8_arrowAt E t p1 h) fun v1 h2 => xg (xk h2 v1 = 1) <| xnn (xr h2 v1 0) fun w3 => xg (xk h2 w3 = 2) <| xnn (xr h2 w3 1) fun w4 => xg (xk h2 w4 = 3) <| xb (FX2_has E w4 p2 h2) fun v5 h6 => xjn (fun (v7 : Int32) (h8 : XH) => xb (FX8_demandThere E v7 h8) fun _ h9 => xg (xk h9 v1 = 1) <| xb (FX0_topOf E v1 p2 h9) fun v10 h11 => xg (xk h11 t = 9) <| xb (FX8_beginChange E t  h11) fun _ h12 => xg (xk h12 v1 = 1) <| xnn (xr h12 v1 2) fun w13 => xb (FX8_put E w13 p2 p3 h12) fun _ h14 => xv v10 h14) fun (j42 : Int32 → XH → XP Int32) => xjn (fun  (h15 : XH) => j42 0 h15) fun (j41 : XH → XP Int32) => if (v5 : Int32) = 0 then (j41 h6) else (xg (xk h6 v1 = 1) <| xnn (xr h6 v1 1) fun w16 => xg (xk h6 w16 = 2) <| xnn (xr h6 w16 1) fun w17 => xg (xk h6 w17 = 3) <| xb (FX2_has E w17 p3 h6) fun v18 h19 => if (v18 : Int32) = 0 then (j41 h19) else (j42 1 h19))
theorem CX8_setTop (E : XG) (t : Nat) (p1 : Int32) (p2 : Int32) (p3 : Int32) (h : XH) : XN E mX8_setTop eI 0 0 [.ref t, .int p1, .int p2, .int p3] h (FX8_setTop E t p1 p2 p3 h) := by
  unfold FX8_setTop
  refine S_enter (L := [some (.ref t), some (.int p1), some (.int p2), some (.int p3), none, none]) (by decide +kernel) rfl rfl rfl ?_
  refine S_aload_0 0 dX8_setTop_0 ?_
  refine S_iload_1 1 dX8_setTop_1 ?_
  refine S_callV (a' := 0) (b' := 0) (a := 0) (b := 0) 2 (As := [.int p1]) (ci := 8) rfl calX8_arrowAt imX8_arrowAt seX8_arrowAt mkX8_260 rfl rfl rfl rfl rfl (by decide) rfl rfl dX8_setTop_2 (CX8_arrowAt E t p1 h) (fun v1 h2 => kqR ?_)
  refine S_astore_4 5 dX8_setTop_5 rfl ?_
  refine S_aload_4 7 dX8_setTop_7 ?_
  refine S_getR 9 fsX8_271 rfl dX8_setTop_9 (fun w3 => ?_)
  refine S_getR 12 fsX8_167 rfl dX8_setTop_12 (fun w4 => ?_)
  refine S_iload_2 15 dX8_setTop_15 ?_
  refine S_callV (a' := 0) (b' := 0) (a := 0) (b := 0) 16 (As := [.int p2]) (ci := 2) rfl calX2_has imX2_has seX2_has mkX8_128 rfl rfl rfl rfl rfl (by decide) rfl rfl dX8_setTop_16 (CX2_has E w4 p2 h2) (fun v5 h6 => kqI ?_)
  refine S_join (fun jj => ∀ (v7 : Int32) (h8 : XH), XS E mX8_setTop eI 0 0 42 [some (.ref t), none, some (.int p2), some (.int p3), some (.ref v1), none] [.int v7] h8 (jj v7 h8)) (fun v7 h8 => ?_) (fun j42 hj42 => ?_)
  · skip
    refine S_callS (a' := 0) (b' := 0) (a := 0) (b := 0) 42 (As := [.int v7]) rfl calX8_demandThere stX8_demandThere mkX8_45 rfl rfl rfl rfl rfl dX8_setTop_42 (CX8_demandThere E v7 h8) (fun _ h9 => kqU ?_)
    refine S_aload_4 45 dX8_setTop_45 ?_
    refine S_iload_2 47 dX8_setTop_47 ?_
    refine S_callV (a' := 0) (b' := 0) (a := 0) (b := 0) 48 (As := [.int p2]) (ci := 0) rfl calX0_topOf imX0_topOf seX0_topOf mkX8_274 rfl rfl rfl rfl rfl (by decide) rfl rfl dX8_setTop_48 (CX0_topOf E v1 p2 h9) (fun v10 h11 => kqI ?_)
    refine S_istore_5 51 dX8_setTop_51 rfl ?_
    refine S_aload_0 53 dX8_setTop_53 ?_
    refine S_callV (a' := 0) (b' := 0) (a := 0) (b := 0) 54 (As := []) (ci := 8) rfl calX8_beginChange imX8_beginChange seX8_beginChange mkX8_305 rfl rfl rfl rfl rfl (by decide) rfl rfl dX8_setTop_54 (CX8_beginChange E t  h11) (fun _ h12 => kqU ?_)
    refine S_aload_4 57 dX8_setTop_57 ?_
    refine S_getR 59 fsX8_328 rfl dX8_setTop_59 (fun w13 => ?_)
    refine S_iload_2 62 dX8_setTop_62 ?_
    refine S_iload_3 63 dX8_setTop_63 ?_
    refine S_callS (a' := 0) (b' := 0) (a := 0) (b := 0) 64 (As := [.ref w13, .int p2, .int p3]) rfl calX8_put stX8_put mkX8_311 rfl rfl rfl rfl rfl dX8_setTop_64 (CX8_put E w13 p2 p3 h12) (fun _ h14 => kqU ?_)
    refine S_iload_5 67 dX8_setTop_67 ?_
    exact S_iret 69 dX8_setTop_69 rfl
  refine S_join (fun jj => ∀  (h15 : XH), XS E mX8_setTop eI 0 0 41 [some (.ref t), none, some (.int p2), some (.int p3), some (.ref v1), none] [] h15 (jj  h15)) (fun  h15 => ?_) (fun j41 hj41 => ?_)
  · skip
    refine S_ic 41 0 dX8_setTop_41 (by decide) ?_
    exact S_drop [] rfl (hj42 _ _)
  refine S_ifeq 19 41 dX8_setTop_19 (by decide) ?_ ?_
  · skip
    exact S_drop [1] rfl (hj41 _)
  · skip
    refine S_aload_4 22 dX8_setTop_22 ?_
    refine S_getR 24 fsX8_264 rfl dX8_setTop_24 (fun w16 => ?_)
    refine S_getR 27 fsX8_167 rfl dX8_setTop_27 (fun w17 => ?_)
    refine S_iload_3 30 dX8_setTop_30 ?_
    refine S_callV (a' := 0) (b' := 0) (a := 0) (b := 0) 31 (As := [.int p3]) (ci := 2) rfl calX2_has imX2_has seX2_has mkX8_128 rfl rfl rfl rfl rfl (by decide) rfl rfl dX8_setTop_31 (CX2_has E w17 p3 h6) (fun v18 h19 => kqI ?_)
    refine S_ifeq 34 41 dX8_setTop_34 (by decide) ?_ ?_
    · skip
      exact S_drop [1] rfl (hj41 _)
    · skip
      refine S_ic 37 1 dX8_setTop_37 (by decide) ?_
      refine S_goto 38 42 dX8_setTop_38 (by decide) ?_
      exact S_drop [1] rfl (hj42 _ _)
def FX8_setBottom (E : XG) (t : Nat) (p1 : Int32) (p2 : Int32) (p3 : Int32) (h : XH) : XP Int32 := xg (xk h t = 9) <| xb (FX8_arrowAt E t p1 h) fun v1 h2 => xg (xk h2 v1 = 1) <| xnn (xr h2 v1 0) fun w3 => xg (xk h2 w3 = 2) <| xnn (xr h2 w3 2) fun w4 => xg (xk h2 w4 = 3) <| xb (FX2_has E w4 p2 h2) fun v5 h6 => xjn (fun (v7 : Int32) (h8 : XH) => xb (FX8_demandThere E v7 h8) fun _ h9 => xg (xk h9 v1 = 1) <| xb (FX0_bottomOf E v1 p2 h9) fun v10 h11 => xg (xk h11 t = 9) <| xb (FX8_beginChange E t  h11) fun _ h12 => xg (xk h12 v1 = 1) <| xnn (xr h12 v1 3) fun w13 => xb (FX8_put E w13 p2 p3 h12) fun _ h14 => xv v10 h14) fun (j42 : Int32 → XH → XP Int32) => xjn (fun  (h15 : XH) => j42 0 h15) fun (j41 : XH → XP Int32) => if (v5 : Int32) = 0 then (j41 h6) else (xg (xk h6 v1 = 1) <| xnn (xr h6 v1 1) fun w16 => xg (xk h6 w16 = 2) <| xnn (xr h6 w16 2) fun w17 => xg (xk h6 w17 = 3) <| xb (FX2_has E w17 p3 h6) fun v18 h19 => if (v18 : Int32) = 0 then (j41 h19) else (j42 1 h19))
theorem CX8_setBottom (E : XG) (t : Nat) (p1 : Int32) (p2 : Int32) (p3 : Int32) (h : XH) : XN E mX8_setBottom eI 0 0 [.ref t, .int p1, .int p2, .int p3] h (FX8_setBottom E t p1 p2 p3 h) := by
  unfold FX8_setBottom
  refine S_enter (L := [some (.ref t), some (.int p1), some (.int p2), some (.int p3), none, none]) (by decide +kernel) rfl rfl rfl ?_
  refine S_aload_0 0 dX8_setBottom_0 ?_
  refine S_iload_1 1 dX8_setBottom_1 ?_
  refine S_callV (a' := 0) (b' := 0) (a := 0) (b := 0) 2 (As := [.int p1]) (ci := 8) rfl calX8_arrowAt imX8_arrowAt seX8_arrowAt mkX8_260 rfl rfl rfl rfl rfl (by decide) rfl rfl dX8_setBottom_2 (CX8_arrowAt E t p1 h) (fun v1 h2 => kqR ?_)
  refine S_astore_4 5 dX8_setBottom_5 rfl ?_
  refine S_aload_4 7 dX8_setBottom_7 ?_
  refine S_getR 9 fsX8_271 rfl dX8_setBottom_9 (fun w3 => ?_)
  refine S_getR 12 fsX8_158 rfl dX8_setBottom_12 (fun w4 => ?_)
  refine S_iload_2 15 dX8_setBottom_15 ?_
  refine S_callV (a' := 0) (b' := 0) (a := 0) (b := 0) 16 (As := [.int p2]) (ci := 2) rfl calX2_has imX2_has seX2_has mkX8_128 rfl rfl rfl rfl rfl (by decide) rfl rfl dX8_setBottom_16 (CX2_has E w4 p2 h2) (fun v5 h6 => kqI ?_)
  refine S_join (fun jj => ∀ (v7 : Int32) (h8 : XH), XS E mX8_setBottom eI 0 0 42 [some (.ref t), none, some (.int p2), some (.int p3), some (.ref v1), none] [.int v7] h8 (jj v7 h8)) (fun v7 h8 => ?_) (fun j42 hj42 => ?_)
  · skip
    refine S_callS (a' := 0) (b' := 0) (a := 0) (b := 0) 42 (As := [.int v7]) rfl calX8_demandThere stX8_demandThere mkX8_45 rfl rfl rfl rfl rfl dX8_setBottom_42 (CX8_demandThere E v7 h8) (fun _ h9 => kqU ?_)
    refine S_aload_4 45 dX8_setBottom_45 ?_
    refine S_iload_2 47 dX8_setBottom_47 ?_
    refine S_callV (a' := 0) (b' := 0) (a := 0) (b := 0) 48 (As := [.int p2]) (ci := 0) rfl calX0_bottomOf imX0_bottomOf seX0_bottomOf mkX8_277 rfl rfl rfl rfl rfl (by decide) rfl rfl dX8_setBottom_48 (CX0_bottomOf E v1 p2 h9) (fun v10 h11 => kqI ?_)
    refine S_istore_5 51 dX8_setBottom_51 rfl ?_
    refine S_aload_0 53 dX8_setBottom_53 ?_
    refine S_callV (a' := 0) (b' := 0) (a := 0) (b := 0) 54 (As := []) (ci := 8) rfl calX8_beginChange imX8_beginChange seX8_beginChange mkX8_305 rfl rfl rfl rfl rfl (by decide) rfl rfl dX8_setBottom_54 (CX8_beginChange E t  h11) (fun _ h12 => kqU ?_)
    refine S_aload_4 57 dX8_setBottom_57 ?_
    refine S_getR 59 fsX8_331 rfl dX8_setBottom_59 (fun w13 => ?_)
    refine S_iload_2 62 dX8_setBottom_62 ?_
    refine S_iload_3 63 dX8_setBottom_63 ?_
    refine S_callS (a' := 0) (b' := 0) (a := 0) (b := 0) 64 (As := [.ref w13, .int p2, .int p3]) rfl calX8_put stX8_put mkX8_311 rfl rfl rfl rfl rfl dX8_setBottom_64 (CX8_put E w13 p2 p3 h12) (fun _ h14 => kqU ?_)
    refine S_iload_5 67 dX8_setBottom_67 ?_
    exact S_iret 69 dX8_setBottom_69 rfl
  refine S_join (fun jj => ∀  (h15 : XH), XS E mX8_setBottom eI 0 0 41 [some (.ref t), none, some (.int p2), some (.int p3), some (.ref v1), none] [] h15 (jj  h15)) (fun  h15 => ?_) (fun j41 hj41 => ?_)
  · skip
    refine S_ic 41 0 dX8_setBottom_41 (by decide) ?_
    exact S_drop [] rfl (hj42 _ _)
  refine S_ifeq 19 41 dX8_setBottom_19 (by decide) ?_ ?_
  · skip
    exact S_drop [1] rfl (hj41 _)
  · skip
    refine S_aload_4 22 dX8_setBottom_22 ?_
    refine S_getR 24 fsX8_264 rfl dX8_setBottom_24 (fun w16 => ?_)
    refine S_getR 27 fsX8_158 rfl dX8_setBottom_27 (fun w17 => ?_)
    refine S_iload_3 30 dX8_setBottom_30 ?_
    refine S_callV (a' := 0) (b' := 0) (a := 0) (b := 0) 31 (As := [.int p3]) (ci := 2) rfl calX2_has imX2_has seX2_has mkX8_128 rfl rfl rfl rfl rfl (by decide) rfl rfl dX8_setBottom_31 (CX2_has E w17 p3 h6) (fun v18 h19 => kqI ?_)
    refine S_ifeq 34 41 dX8_setBottom_34 (by decide) ?_ ?_
    · skip
      exact S_drop [1] rfl (hj41 _)
    · skip
      refine S_ic 37 1 dX8_setBottom_37 (by decide) ?_
      refine S_goto 38 42 dX8_setBottom_38 (by decide) ?_
      exact S_drop [1] rfl (hj42 _ _)
def FX8_undo (E : XG) (t : Nat) (h : XH) : XP Int32 := xg (xk h t = 9) <| if (0 : Int32) < (xi h t 9) then (xg (xk h t = 9) <| xg (xk h t = 9) <| xlt (yi h t 9 ((xi h t 9) - 1)) fun h1 => xg (xk h1 t = 9) <| xnn (xr h1 t 5) fun w2 => xg (xk h1 t = 9) <| xnn (xr h1 t 7) fun w3 => xg (xk h1 t = 9) <| xg (xk h1 t = 9) <| xb (FX8_undoPlace E t (xi h1 t 9) h1) fun v4 h5 => xg (xk h5 w3 = 18 ∧ xin v4 (xn h5 w3)) <| xnn (xr h5 w3 (v4 : Int32).toNatClampNeg) fun w6 => xg (xk h5 w2 = 8) <| xb (FX7_takeState E w2 w6 h5) fun _ h7 => xg (xk h7 t = 9) <| xv (xi h7 t 9) h7) else (xx 0 h)
theorem CX8_undo (E : XG) (t : Nat) (h : XH) : XN E mX8_undo eI 0 0 [.ref t] h (FX8_undo E t h) := by
  unfold FX8_undo
  refine S_enter (L := [some (.ref t)]) (by decide +kernel) rfl rfl rfl ?_
  refine S_aload_0 0 dX8_undo_0 ?_
  refine S_getI 1 fsX8_334 rfl dX8_undo_1 ?_
  refine S_ifgt 4 18 dX8_undo_4 (by decide) ?_ ?_
  · skip
    refine S_aload_0 18 dX8_undo_18 ?_
    refine S_dup 19 dX8_undo_19 rfl ?_
    refine S_getI 20 fsX8_334 rfl dX8_undo_20 ?_
    refine S_ic 23 1 dX8_undo_23 (by decide) ?_
    refine S_isub 24 dX8_undo_24 ?_
    refine S_putI 25 frX8_334 rfl (fun q => by cases q) dX8_undo_25 (fun h1 => ?_)
    refine S_aload_0 28 dX8_undo_28 ?_
    refine S_getR 29 fsX8_20 rfl dX8_undo_29 (fun w2 => ?_)
    refine S_aload_0 32 dX8_undo_32 ?_
    refine S_getR 33 fsX8_29 rfl dX8_undo_33 (fun w3 => ?_)
    refine S_aload_0 36 dX8_undo_36 ?_
    refine S_aload_0 37 dX8_undo_37 ?_
    refine S_getI 38 fsX8_334 rfl dX8_undo_38 ?_
    refine S_callV (a' := 0) (b' := 0) (a := 0) (b := 0) 41 (As := [.int (xi h1 t 9)]) (ci := 8) rfl calX8_undoPlace imX8_undoPlace seX8_undoPlace mkX8_344 rfl rfl rfl rfl rfl (by decide) rfl rfl dX8_undo_41 (CX8_undoPlace E t (xi h1 t 9) h1) (fun v4 h5 => kqI ?_)
    refine S_aald 44 18 7 (by decide) rfl rfl dX8_undo_44 (fun w6 => ?_)
    refine S_callV (a' := 0) (b' := 0) (a := 0) (b := 0) 45 (As := [.ref w6]) (ci := 7) rfl calX7_takeState imX7_takeState seX7_takeState mkX8_347 rfl rfl rfl rfl rfl (by decide) rfl rfl dX8_undo_45 (CX7_takeState E w2 w6 h5) (fun _ h7 => kqU ?_)
    refine S_aload_0 48 dX8_undo_48 ?_
    refine S_getI 49 fsX8_334 rfl dX8_undo_49 ?_
    exact S_iret 52 dX8_undo_52 rfl
  · skip
    exact S_throw 7 12 0 th0_339 rfl (by decide) rfl rfl rfl (by decide) rfl (by decide +kernel) (by decide +kernel) dX8_undo_7 dX8_undo_10 dX8_undo_11 dX8_undo_14 dX8_undo_17
def FX8_undoable (E : XG) (t : Nat) (h : XH) : XP Int32 := xg (xk h t = 9) <| xv (xi h t 9) h
theorem CX8_undoable (E : XG) (t : Nat) (h : XH) : XN E mX8_undoable eI 0 0 [.ref t] h (FX8_undoable E t h) := by
  unfold FX8_undoable
  refine S_enter (L := [some (.ref t)]) (by decide +kernel) rfl rfl rfl ?_
  refine S_aload_0 0 dX8_undoable_0 ?_
  refine S_getI 1 fsX8_334 rfl dX8_undoable_1 ?_
  exact S_iret 4 dX8_undoable_4 rfl
def FX8_save (E : XG) (t : Nat) (p1 : Int32) (h : XH) : XP Int32 := xg (xk h t = 9) <| xb (FX8_demandText E t  h) fun _ h1 => xjn (fun (v2 : Int32) (h3 : XH) => xb (FX8_demandThere E v2 h3) fun _ h4 => xg (xk h4 t = 9) <| xnn (xr h4 t 5) fun w5 => xg (xk h4 t = 9) <| xnn (xr h4 t 10) fun w6 => xg (xk h4 w6 = 18 ∧ xin p1 (xn h4 w6)) <| xnn (xr h4 w6 (p1 : Int32).toNatClampNeg) fun w7 => xg (xk h4 w5 = 8) <| xb (FX7_giveState E w5 w7 h4) fun _ h8 => xg (xk h8 t = 9) <| xg (xk h8 t = 9) <| xlt (yi h8 t 11 ((xi h8 t 11) ||| (1 <<< (p1 &&& 31)))) fun h9 => xg (xk h9 t = 9) <| xnn (xr h9 t 5) fun w10 => xg (xk h9 w10 = 8) <| xb (FX7_lawfulModules E w10  h9) fun v11 h12 => xb (FJ6_bitCount_0f7a4 E v11 h12) fun v13 h14 => xv v13 h14) fun (j18 : Int32 → XH → XP Int32) => xjn (fun  (h15 : XH) => j18 0 h15) fun (j17 : XH → XP Int32) => if (p1 : Int32) < 0 then (j17 h1) else (if (2 : Int32) ≤ p1 then (j17 h1) else (j18 1 h1))
theorem CX8_save (E : XG) (t : Nat) (p1 : Int32) (h : XH) : XN E mX8_save eI 0 0 [.ref t, .int p1] h (FX8_save E t p1 h) := by
  unfold FX8_save
  refine S_enter (L := [some (.ref t), some (.int p1)]) (by decide +kernel) rfl rfl rfl ?_
  refine S_aload_0 0 dX8_save_0 ?_
  refine S_callV (a' := 0) (b' := 0) (a := 0) (b := 0) 1 (As := []) (ci := 8) rfl calX8_demandText imX8_demandText seX8_demandText mkX8_100 rfl rfl rfl rfl rfl (by decide) rfl rfl dX8_save_1 (CX8_demandText E t  h) (fun _ h1 => kqU ?_)
  refine S_iload_1 4 dX8_save_4 ?_
  refine S_join (fun jj => ∀ (v2 : Int32) (h3 : XH), XS E mX8_save eI 0 0 18 [some (.ref t), some (.int p1)] [.int v2] h3 (jj v2 h3)) (fun v2 h3 => ?_) (fun j18 hj18 => ?_)
  · skip
    refine S_callS (a' := 0) (b' := 0) (a := 0) (b := 0) 18 (As := [.int v2]) rfl calX8_demandThere stX8_demandThere mkX8_45 rfl rfl rfl rfl rfl dX8_save_18 (CX8_demandThere E v2 h3) (fun _ h4 => kqU ?_)
    refine S_aload_0 21 dX8_save_21 ?_
    refine S_getR 22 fsX8_20 rfl dX8_save_22 (fun w5 => ?_)
    refine S_aload_0 25 dX8_save_25 ?_
    refine S_getR 26 fsX8_32 rfl dX8_save_26 (fun w6 => ?_)
    refine S_iload_1 29 dX8_save_29 ?_
    refine S_aald 30 18 7 (by decide) rfl rfl dX8_save_30 (fun w7 => ?_)
    refine S_callV (a' := 0) (b' := 0) (a := 0) (b := 0) 31 (As := [.ref w7]) (ci := 7) rfl calX7_giveState imX7_giveState seX7_giveState mkX8_351 rfl rfl rfl rfl rfl (by decide) rfl rfl dX8_save_31 (CX7_giveState E w5 w7 h4) (fun _ h8 => kqU ?_)
    refine S_aload_0 34 dX8_save_34 ?_
    refine S_dup 35 dX8_save_35 rfl ?_
    refine S_getI 36 fsX8_88 rfl dX8_save_36 ?_
    refine S_ic 39 1 dX8_save_39 (by decide) ?_
    refine S_iload_1 40 dX8_save_40 ?_
    refine S_ishl 41 dX8_save_41 ?_
    refine S_ior 42 dX8_save_42 ?_
    refine S_putI 43 frX8_88 rfl (fun q => by cases q) dX8_save_43 (fun h9 => ?_)
    refine S_aload_0 46 dX8_save_46 ?_
    refine S_getR 47 fsX8_20 rfl dX8_save_47 (fun w10 => ?_)
    refine S_callV (a' := 0) (b' := 0) (a := 0) (b := 0) 50 (As := []) (ci := 7) rfl calX7_lawfulModules imX7_lawfulModules seX7_lawfulModules mkX8_179 rfl rfl rfl rfl rfl (by decide) rfl rfl dX8_save_50 (CX7_lawfulModules E w10  h9) (fun v11 h12 => kqI ?_)
    refine S_callS (a' := 0) (b' := 0) (a := 0) (b := 0) 53 (As := [.int v11]) rfl calJ6_bitCount_0f7a4 stJ6_bitCount_0f7a4 mkX8_354 rfl rfl rfl rfl rfl dX8_save_53 (CJ6_bitCount_0f7a4 E v11 h12) (fun v13 h14 => kqI ?_)
    exact S_iret 56 dX8_save_56 rfl
  refine S_join (fun jj => ∀  (h15 : XH), XS E mX8_save eI 0 0 17 [some (.ref t), some (.int p1)] [] h15 (jj  h15)) (fun  h15 => ?_) (fun j17 hj17 => ?_)
  · skip
    refine S_ic 17 0 dX8_save_17 (by decide) ?_
    exact S_drop [] rfl (hj18 _ _)
  refine S_iflt 5 17 dX8_save_5 (by decide) ?_ ?_
  · skip
    exact S_drop [] rfl (hj17 _)
  · skip
    refine S_iload_1 8 dX8_save_8 ?_
    refine S_ic 9 2 dX8_save_9 (by decide) ?_
    refine S_icmpge 10 17 dX8_save_10 (by decide) ?_ ?_
    · skip
      exact S_drop [] rfl (hj17 _)
    · skip
      refine S_ic 13 1 dX8_save_13 (by decide) ?_
      refine S_goto 14 18 dX8_save_14 (by decide) ?_
      exact S_drop [] rfl (hj18 _ _)
def FX8_restore (E : XG) (t : Nat) (p1 : Int32) (h : XH) : XP Int32 := xjn (fun (v1 : Int32) (h2 : XH) => xb (FX8_demandThere E v1 h2) fun _ h3 => xg (xk h3 t = 9) <| xb (FX8_isIn E (xi h3 t 11) p1 h3) fun v4 h5 => if (v4 : Int32) = 0 then (xx 0 h5) else (xg (xk h5 t = 9) <| xnn (xr h5 t 5) fun w6 => xg (xk h5 t = 9) <| xnn (xr h5 t 10) fun w7 => xg (xk h5 w7 = 18 ∧ xin p1 (xn h5 w7)) <| xnn (xr h5 w7 (p1 : Int32).toNatClampNeg) fun w8 => xg (xk h5 w6 = 8) <| xb (FX7_takeState E w6 w8 h5) fun _ h9 => xg (xk h9 t = 9) <| xb (FX8_forgetChanges E t  h9) fun _ h10 => xg (xk h10 t = 9) <| xnn (xr h10 t 5) fun w11 => xg (xk h10 w11 = 8) <| xb (FX7_lawfulModules E w11  h10) fun v12 h13 => xb (FJ6_bitCount_0f7a4 E v12 h13) fun v14 h15 => xv v14 h15)) fun (j14 : Int32 → XH → XP Int32) => xjn (fun  (h16 : XH) => j14 0 h16) fun (j13 : XH → XP Int32) => if (p1 : Int32) < 0 then (j13 h) else (if (2 : Int32) ≤ p1 then (j13 h) else (j14 1 h))
theorem CX8_restore (E : XG) (t : Nat) (p1 : Int32) (h : XH) : XN E mX8_restore eI 0 0 [.ref t, .int p1] h (FX8_restore E t p1 h) := by
  unfold FX8_restore
  refine S_enter (L := [some (.ref t), some (.int p1)]) (by decide +kernel) rfl rfl rfl ?_
  refine S_iload_1 0 dX8_restore_0 ?_
  refine S_join (fun jj => ∀ (v1 : Int32) (h2 : XH), XS E mX8_restore eI 0 0 14 [some (.ref t), some (.int p1)] [.int v1] h2 (jj v1 h2)) (fun v1 h2 => ?_) (fun j14 hj14 => ?_)
  · skip
    refine S_callS (a' := 0) (b' := 0) (a := 0) (b := 0) 14 (As := [.int v1]) rfl calX8_demandThere stX8_demandThere mkX8_45 rfl rfl rfl rfl rfl dX8_restore_14 (CX8_demandThere E v1 h2) (fun _ h3 => kqU ?_)
    refine S_aload_0 17 dX8_restore_17 ?_
    refine S_getI 18 fsX8_88 rfl dX8_restore_18 ?_
    refine S_iload_1 21 dX8_restore_21 ?_
    refine S_callS (a' := 0) (b' := 0) (a := 0) (b := 0) 22 (As := [.int (xi h3 t 11), .int p1]) rfl calX8_isIn stX8_isIn mkX8_359 rfl rfl rfl rfl rfl dX8_restore_22 (CX8_isIn E (xi h3 t 11) p1 h3) (fun v4 h5 => kqI ?_)
    refine S_ifne 25 39 dX8_restore_25 (by decide) ?_ ?_
    · skip
      refine S_aload_0 39 dX8_restore_39 ?_
      refine S_getR 40 fsX8_20 rfl dX8_restore_40 (fun w6 => ?_)
      refine S_aload_0 43 dX8_restore_43 ?_
      refine S_getR 44 fsX8_32 rfl dX8_restore_44 (fun w7 => ?_)
      refine S_iload_1 47 dX8_restore_47 ?_
      refine S_aald 48 18 7 (by decide) rfl rfl dX8_restore_48 (fun w8 => ?_)
      refine S_callV (a' := 0) (b' := 0) (a := 0) (b := 0) 49 (As := [.ref w8]) (ci := 7) rfl calX7_takeState imX7_takeState seX7_takeState mkX8_347 rfl rfl rfl rfl rfl (by decide) rfl rfl dX8_restore_49 (CX7_takeState E w6 w8 h5) (fun _ h9 => kqU ?_)
      refine S_aload_0 52 dX8_restore_52 ?_
      refine S_callV (a' := 0) (b' := 0) (a := 0) (b := 0) 53 (As := []) (ci := 8) rfl calX8_forgetChanges imX8_forgetChanges seX8_forgetChanges mkX8_85 rfl rfl rfl rfl rfl (by decide) rfl rfl dX8_restore_53 (CX8_forgetChanges E t  h9) (fun _ h10 => kqU ?_)
      refine S_aload_0 56 dX8_restore_56 ?_
      refine S_getR 57 fsX8_20 rfl dX8_restore_57 (fun w11 => ?_)
      refine S_callV (a' := 0) (b' := 0) (a := 0) (b := 0) 60 (As := []) (ci := 7) rfl calX7_lawfulModules imX7_lawfulModules seX7_lawfulModules mkX8_179 rfl rfl rfl rfl rfl (by decide) rfl rfl dX8_restore_60 (CX7_lawfulModules E w11  h10) (fun v12 h13 => kqI ?_)
      refine S_callS (a' := 0) (b' := 0) (a := 0) (b := 0) 63 (As := [.int v12]) rfl calJ6_bitCount_0f7a4 stJ6_bitCount_0f7a4 mkX8_354 rfl rfl rfl rfl rfl dX8_restore_63 (CJ6_bitCount_0f7a4 E v12 h13) (fun v14 h15 => kqI ?_)
      exact S_iret 66 dX8_restore_66 rfl
    · skip
      exact S_throw 28 13 0 th0_363 rfl (by decide) rfl rfl rfl (by decide) rfl (by decide +kernel) (by decide +kernel) dX8_restore_28 dX8_restore_31 dX8_restore_32 dX8_restore_35 dX8_restore_38
  refine S_join (fun jj => ∀  (h16 : XH), XS E mX8_restore eI 0 0 13 [some (.ref t), some (.int p1)] [] h16 (jj  h16)) (fun  h16 => ?_) (fun j13 hj13 => ?_)
  · skip
    refine S_ic 13 0 dX8_restore_13 (by decide) ?_
    exact S_drop [] rfl (hj14 _ _)
  refine S_iflt 1 13 dX8_restore_1 (by decide) ?_ ?_
  · skip
    exact S_drop [] rfl (hj13 _)
  · skip
    refine S_iload_1 4 dX8_restore_4 ?_
    refine S_ic 5 2 dX8_restore_5 (by decide) ?_
    refine S_icmpge 6 13 dX8_restore_6 (by decide) ?_ ?_
    · skip
      exact S_drop [] rfl (hj13 _)
    · skip
      refine S_ic 9 1 dX8_restore_9 (by decide) ?_
      refine S_goto 10 14 dX8_restore_10 (by decide) ?_
      exact S_drop [] rfl (hj14 _ _)
def FX9_init (E : XG) (t : Nat) (p1 : Int32) (p2 : Int32) (p3 : Int32) (p4 : Int32) (h : XH) : XP Unit := xg (xk h t = 10) <| xlt (yi h t 0 p1) fun h1 => xg (xk h1 t = 10) <| xlt (yi h1 t 1 p2) fun h2 => xg ((0 : Int32) ≤ p3 ∧ (p3 : Int32).toNatClampNeg ≤ 60000000) <| xal h2 12 (p3 : Int32).toNatClampNeg fun w3 h4 => xg (xk h4 t = 10) <| xlt (yr h4 t 2 (some w3)) fun h5 => xg ((0 : Int32) ≤ p4 ∧ (p4 : Int32).toNatClampNeg ≤ 60000000) <| xal h5 12 (p4 : Int32).toNatClampNeg fun w6 h7 => xg (xk h7 t = 10) <| xlt (yr h7 t 3 (some w6)) fun h8 => xv () h8
theorem CX9_init (E : XG) (t : Nat) (p1 : Int32) (p2 : Int32) (p3 : Int32) (p4 : Int32) (h : XH) : XN E mX9_init eU 2 0 [.ref t, .int p1, .int p2, .int p3, .int p4] h (FX9_init E t p1 p2 p3 p4 h) := by
  unfold FX9_init
  refine S_enter (L := [some (.ref t), some (.int p1), some (.int p2), some (.int p3), some (.int p4)]) (by decide +kernel) rfl rfl rfl ?_
  refine S_aload_0 0 dX9_init_0 ?_
  refine S_objinit 1 rfl oiX9_1 oiI oiC (by decide) (by decide) (by exact Nat.le_of_ble_eq_true rfl) dX9_init_1 ?_
  refine S_aload_0 4 dX9_init_4 ?_
  refine S_iload_1 5 dX9_init_5 ?_
  refine S_putI 6 frX9_7 rfl (fun _ => rfl) dX9_init_6 (fun h1 => ?_)
  refine S_aload_0 9 dX9_init_9 ?_
  refine S_iload_2 10 dX9_init_10 ?_
  refine S_putI 11 frX9_13 rfl (fun _ => rfl) dX9_init_11 (fun h2 => ?_)
  refine S_aload_0 14 dX9_init_14 ?_
  refine S_iload_3 15 dX9_init_15 ?_
  refine S_newG_int 16 ar12 dX9_init_16 (fun w3 h4 => ?_)
  refine S_putR 18 frX9_16 rfl rfl (fun _ => rfl) dX9_init_18 (fun h5 => ?_)
  refine S_aload_0 21 dX9_init_21 ?_
  refine S_iload_4 22 dX9_init_22 ?_
  refine S_newG_int 24 ar12 dX9_init_24 (fun w6 h7 => ?_)
  refine S_putR 26 frX9_20 rfl rfl (fun _ => rfl) dX9_init_26 (fun h8 => ?_)
  exact S_ret 29 dX9_init_29 rfl
def FX10_init (E : XG) (t : Nat) (p1 : Nat) (h : XH) : XP Unit := xg (xk h t = 21) <| xlt (yr h t 0 (some p1)) fun h1 => xv () h1
theorem CX10_init (E : XG) (t : Nat) (p1 : Nat) (h : XH) : XN E mX10_init eU 0 0 [.ref t, .ref p1] h (FX10_init E t p1 h) := by
  unfold FX10_init
  refine S_enter (L := [some (.ref t), some (.ref p1)]) (by decide +kernel) rfl rfl rfl ?_
  refine S_aload_0 0 dX10_init_0 ?_
  refine S_objinit 1 rfl oiX10_1 oiI oiC (by decide) (by decide) (by exact Nat.le_of_ble_eq_true rfl) dX10_init_1 ?_
  refine S_aload_0 4 dX10_init_4 ?_
  refine S_aload_1 5 dX10_init_5 ?_
  refine S_putR 6 frX10_7 rfl rfl (fun _ => rfl) dX10_init_6 (fun h1 => ?_)
  exact S_ret 9 dX10_init_9 rfl
def FX10_next (E : XG) (t : Nat) (p1 : Int32) (p2 : Int32) (h : XH) : XP Int32 := xg (xk h t = 21) <| xg (xk h t = 21) <| xnn (xr h t 0) fun w1 => xg (xk h w1 = 27) <| xjn (fun (v2 : Int32) (h3 : XH) => xg (xk h3 t = 21) <| xg (xk h3 t = 21) <| xlt (yi h3 t 1 ((xi h3 t 1) + 1)) fun h4 => xg ((((p2 - p1) + 1) : Int32) ≠ 0) <| xv (p1 + (xrem v2 ((p2 - p1) + 1))) h4) fun (j28 : Int32 → XH → XP Int32) => if ((Int32.ofNat (xn h w1)) : Int32) ≤ (xi h t 1) then (j28 0 h) else (xg (xk h t = 21) <| xnn (xr h t 0) fun w5 => xg (xk h t = 21) <| xg (xk h w5 = 27 ∧ xin (xi h t 1) (xn h w5)) <| j28 ((xi h w5 ((xi h t 1) : Int32).toNatClampNeg) &&& 2147483647) h)
theorem CX10_next (E : XG) (t : Nat) (p1 : Int32) (p2 : Int32) (h : XH) : XN E mX10_next eI 0 0 [.ref t, .int p1, .int p2] h (FX10_next E t p1 p2 h) := by
  unfold FX10_next
  refine S_enter (L := [some (.ref t), some (.int p1), some (.int p2), none]) (by decide +kernel) rfl rfl rfl ?_
  refine S_aload_0 0 dX10_next_0 ?_
  refine S_getI 1 fsX10_13 rfl dX10_next_1 ?_
  refine S_aload_0 4 dX10_next_4 ?_
  refine S_getR 5 fsX10_7 rfl dX10_next_5 (fun w1 => ?_)
  refine S_qlen 8 dX10_next_8 ?_
  refine S_join (fun jj => ∀ (v2 : Int32) (h3 : XH), XS E mX10_next eI 0 0 28 [some (.ref t), some (.int p1), some (.int p2), none] [.int v2] h3 (jj v2 h3)) (fun v2 h3 => ?_) (fun j28 hj28 => ?_)
  · skip
    refine S_istore_3 28 dX10_next_28 rfl ?_
    refine S_aload_0 29 dX10_next_29 ?_
    refine S_dup 30 dX10_next_30 rfl ?_
    refine S_getI 31 fsX10_13 rfl dX10_next_31 ?_
    refine S_ic 34 1 dX10_next_34 (by decide) ?_
    refine S_iadd 35 dX10_next_35 ?_
    refine S_putI 36 frX10_13 rfl (fun q => by cases q) dX10_next_36 (fun h4 => ?_)
    refine S_iload_1 39 dX10_next_39 ?_
    refine S_iload_3 40 dX10_next_40 ?_
    refine S_iload_2 41 dX10_next_41 ?_
    refine S_iload_1 42 dX10_next_42 ?_
    refine S_isub 43 dX10_next_43 ?_
    refine S_ic 44 1 dX10_next_44 (by decide) ?_
    refine S_iadd 45 dX10_next_45 ?_
    refine S_irem 46 dX10_next_46 ?_
    refine S_iadd 47 dX10_next_47 ?_
    exact S_iret 48 dX10_next_48 rfl
  refine S_icmpge 9 27 dX10_next_9 (by decide) ?_ ?_
  · skip
    refine S_ic 27 0 dX10_next_27 (by decide) ?_
    exact S_drop [] rfl (hj28 _ _)
  · skip
    refine S_aload_0 12 dX10_next_12 ?_
    refine S_getR 13 fsX10_7 rfl dX10_next_13 (fun w5 => ?_)
    refine S_aload_0 16 dX10_next_16 ?_
    refine S_getI 17 fsX10_13 rfl dX10_next_17 ?_
    refine S_qald 20 dX10_next_20 ?_
    refine S_ldci 21 (v := 2147483647) rfl ⟨List.mem_of_getElem? (i := 327) (by decide +kernel), rfl⟩ dX10_next_21 ?_
    refine S_iand 23 dX10_next_23 ?_
    refine S_goto 24 28 dX10_next_24 (by decide) ?_
    exact S_drop [] rfl (hj28 _ _)
def FX11_init (E : XG) (t : Nat) (p1 : Int32) (p2 : Int32) (p3 : Nat) (p4 : Nat) (h : XH) : XP Unit := xg (xk h t = 22) <| xlt (yi h t 0 p1) fun h1 => xg (xk h1 t = 22) <| xlt (yi h1 t 1 p2) fun h2 => xg (xk h2 t = 22) <| xlt (yr h2 t 2 (some p3)) fun h3 => xg (xk h3 t = 22) <| xlt (yr h3 t 3 (some p4)) fun h4 => xg (xk h4 p3 = 18) <| xg ((0 : Int32) ≤ (Int32.ofNat (xn h4 p3)) ∧ ((Int32.ofNat (xn h4 p3)) : Int32).toNatClampNeg ≤ 60000000) <| xal h4 12 ((Int32.ofNat (xn h4 p3)) : Int32).toNatClampNeg fun w5 h6 => xg (xk h6 t = 22) <| xlt (yr h6 t 5 (some w5)) fun h7 => xg (xk h7 p4 = 18) <| xg (xk h7 p3 = 18) <| xg (((0 : Int32) ≤ (Int32.ofNat (xn h7 p4)) ∧ (0 : Int32) ≤ (Int32.ofNat (xn h7 p3))) ∧ ((Int32.ofNat (xn h7 p4)) : Int32).toNatClampNeg ≤ 1000 ∧ ((Int32.ofNat (xn h7 p3)) : Int32).toNatClampNeg ≤ 1000) <| xmg h7 ((Int32.ofNat (xn h7 p4)) : Int32).toNatClampNeg ((Int32.ofNat (xn h7 p3)) : Int32).toNatClampNeg fun w8 h9 => xg (xk h9 t = 22) <| xlt (yr h9 t 4 (some w8)) fun h10 => xlp (fun again49 (s49 : Int32) h11 => xg (xk h11 p4 = 18) <| if ((Int32.ofNat (xn h11 p4)) : Int32) ≤ s49 then (xv () h11) else (xlp (fun again60 (s60 : Int32) h12 => xg (xk h12 p3 = 18) <| if ((Int32.ofNat (xn h12 p3)) : Int32) ≤ s60 then (again49 (s49 + 1) h12) else (xg (xk h12 t = 22) <| xnn (xr h12 t 4) fun w13 => xg (xk h12 w13 = 18 ∧ xin s49 (xn h12 w13)) <| xnn (xr h12 w13 (s49 : Int32).toNatClampNeg) fun w14 => xg (xk h12 w14 = 12 ∧ xin s60 (xn h12 w14)) <| xlt (yi h12 w14 (s60 : Int32).toNatClampNeg s60) fun h15 => again60 (s60 + 1) h15)) xfu 0 h11)) xfu 0 h10
theorem CX11_init (E : XG) (t : Nat) (p1 : Int32) (p2 : Int32) (p3 : Nat) (p4 : Nat) (h : XH) : XN E mX11_init eU 1 0 [.ref t, .int p1, .int p2, .ref p3, .ref p4] h (FX11_init E t p1 p2 p3 p4 h) := by
  unfold FX11_init
  refine S_enter (L := [some (.ref t), some (.int p1), some (.int p2), some (.ref p3), some (.ref p4), none, none]) (by decide +kernel) rfl rfl rfl ?_
  refine S_aload_0 0 dX11_init_0 ?_
  refine S_objinit 1 rfl oiX11_1 oiI oiC (by decide) (by decide) (by exact Nat.le_of_ble_eq_true rfl) dX11_init_1 ?_
  refine S_aload_0 4 dX11_init_4 ?_
  refine S_iload_1 5 dX11_init_5 ?_
  refine S_putI 6 frX11_7 rfl (fun _ => rfl) dX11_init_6 (fun h1 => ?_)
  refine S_aload_0 9 dX11_init_9 ?_
  refine S_iload_2 10 dX11_init_10 ?_
  refine S_putI 11 frX11_13 rfl (fun _ => rfl) dX11_init_11 (fun h2 => ?_)
  refine S_aload_0 14 dX11_init_14 ?_
  refine S_aload_3 15 dX11_init_15 ?_
  refine S_putR 16 frX11_16 rfl rfl (fun _ => rfl) dX11_init_16 (fun h3 => ?_)
  refine S_aload_0 19 dX11_init_19 ?_
  refine S_aload_4 20 dX11_init_20 ?_
  refine S_putR 22 frX11_20 rfl rfl (fun _ => rfl) dX11_init_22 (fun h4 => ?_)
  refine S_aload_0 25 dX11_init_25 ?_
  refine S_aload_3 26 dX11_init_26 ?_
  refine S_alen 27 18 7 (by decide) rfl dX11_init_27 ?_
  refine S_newG_int 28 ar12 dX11_init_28 (fun w5 h6 => ?_)
  refine S_putR 30 frX11_23 rfl rfl (fun _ => rfl) dX11_init_30 (fun h7 => ?_)
  refine S_aload_0 33 dX11_init_33 ?_
  refine S_aload_4 34 dX11_init_34 ?_
  refine S_alen 36 18 7 (by decide) rfl dX11_init_36 ?_
  refine S_aload_3 37 dX11_init_37 ?_
  refine S_alen 38 18 7 (by decide) rfl dX11_init_38 ?_
  refine S_multiF 39 rfl cbX11_27 ai12 dX11_init_39 (fun w8 h9 => ?_)
  refine S_putR 43 frX11_28 rfl rfl (fun _ => rfl) dX11_init_43 (fun h10 => ?_)
  refine S_ic 46 0 dX11_init_46 (by decide) ?_
  refine S_istore_5 47 dX11_init_47 rfl ?_
  refine S_drop [1, 2] rfl ?_
  refine S_loop (fun (s49 : Int32) => [some (.ref t), none, none, some (.ref p3), some (.ref p4), some (.int s49), none]) (fun again49 hg49 s49 h11 => ?_) xfu _ _
  refine S_iload_5 49 dX11_init_49 ?_
  refine S_aload_4 51 dX11_init_51 ?_
  refine S_alen 53 18 7 (by decide) rfl dX11_init_53 ?_
  refine S_icmpge 54 91 dX11_init_54 (by decide) ?_ ?_
  · skip
    exact S_ret 91 dX11_init_91 rfl
  · skip
    refine S_ic 57 0 dX11_init_57 (by decide) ?_
    refine S_istore_6 58 dX11_init_58 rfl ?_
    refine S_loop (fun (s60 : Int32) => [some (.ref t), none, none, some (.ref p3), some (.ref p4), some (.int s49), some (.int s60)]) (fun again60 hg60 s60 h12 => ?_) xfu _ _
    refine S_iload_6 60 dX11_init_60 ?_
    refine S_aload_3 62 dX11_init_62 ?_
    refine S_alen 63 18 7 (by decide) rfl dX11_init_63 ?_
    refine S_icmpge 64 85 dX11_init_64 (by decide) ?_ ?_
    · skip
      refine S_iinc_5 85 (s49 + 1) dX11_init_85 (by rfl) rfl ?_
      refine S_goto 88 49 dX11_init_88 (by decide) ?_
      exact S_drop [6] rfl (hg49 _ _)
    · skip
      refine S_aload_0 67 dX11_init_67 ?_
      refine S_getR 68 fsX11_28 rfl dX11_init_68 (fun w13 => ?_)
      refine S_iload_5 71 dX11_init_71 ?_
      refine S_aald 73 18 7 (by decide) rfl rfl dX11_init_73 (fun w14 => ?_)
      refine S_iload_6 74 dX11_init_74 ?_
      refine S_iload_6 76 dX11_init_76 ?_
      refine S_iast 78 dX11_init_78 (fun h15 => ?_)
      refine S_iinc_6 79 (s60 + 1) dX11_init_79 (by rfl) rfl ?_
      refine S_goto 82 60 dX11_init_82 (by decide) ?_
      exact S_drop [] rfl (hg60 _ _)
