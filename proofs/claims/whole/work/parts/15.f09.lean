/-! Methods as functions, 9. -/
set_option linter.unusedVariables false
set_option maxRecDepth 10000
def FX8_writeModule (E : XG) (t : Nat) (p1 : Int32) (h : XH) : XP Int32 := xg (xk h t = 9) <| xb (FX8_moduleAt E t p1 h) fun v1 h2 => xg (xk h2 t = 9) <| xnn (xr h2 t 5) fun w3 => xg (xk h2 w3 = 8) <| xnn (xr h2 w3 1) fun w4 => xg (xk h2 t = 9) <| xlt (yi h2 t 13 0) fun h5 => xlp (fun again22 (s22 : Int32) h6 => xg (xk h6 w4 = 4) <| xb (FX3_lengthOf E w4 p1 h6) fun v7 h8 => if (v7 : Int32) ≤ s22 then (xlp (fun again52 (s52 : Int32) h9 => xg (xk h9 v1 = 2) <| xnn (xr h9 v1 1) fun w10 => xg (xk h9 w10 = 3) <| if ((xi h9 w10 3) : Int32) ≤ s52 then (xg (xk h9 v1 = 2) <| xjn (fun  (h11 : XH) => xg (xk h11 t = 9) <| xv (xi h11 t 13) h11) fun (j123 : XH → XP Int32) => if ((xi h9 v1 7) : Int32) = 0 then (j123 h9) else (xg (xk h9 t = 9) <| xb (FX8_write E t 59 h9) fun _ h12 => xg (xk h12 v1 = 2) <| xg (xk h12 t = 9) <| xb (FX8_write E t (48 + (xi h12 v1 7)) h12) fun _ h13 => j123 h13)) else (xjn (fun (v14 : Int32) (h15 : XH) => xg (xk h15 t = 9) <| xb (FX8_write E t v14 h15) fun _ h16 => xg (xk h16 v1 = 2) <| xb (FX1_boundaryOf E v1 s52 h16) fun v17 h18 => xg (xk h18 t = 9) <| xb (FX8_write E t (48 + v17) h18) fun _ h19 => again52 (s52 + 1) h19) fun (j77 : Int32 → XH → XP Int32) => if (s52 : Int32) = 0 then (j77 58 h9) else (j77 44 h9))) xfu 0 h8) else (xg (xk h8 w4 = 4) <| xb (FX3_letterOf E w4 p1 s22 h8) fun v20 h21 => xg (xk h21 t = 9) <| xb (FX8_write E t v20 h21) fun _ h22 => again22 (s22 + 1) h22)) xfu 0 h5
theorem CX8_writeModule (E : XG) (t : Nat) (p1 : Int32) (h : XH) : XN E mX8_writeModule eI 0 0 [.ref t, .int p1] h (FX8_writeModule E t p1 h) := by
  unfold FX8_writeModule
  refine S_enter (L := [some (.ref t), some (.int p1), none, none, none]) (by decide +kernel) rfl rfl rfl ?_
  refine S_aload_0 0 dX8_writeModule_0 ?_
  refine S_iload_1 1 dX8_writeModule_1 ?_
  refine S_callV (a' := 0) (b' := 0) (a := 0) (b := 0) 2 (As := [.int p1]) (ci := 8) rfl calX8_moduleAt imX8_moduleAt seX8_moduleAt mkX8_154 rfl rfl rfl rfl rfl (by decide) rfl rfl dX8_writeModule_2 (CX8_moduleAt E t p1 h) (fun v1 h2 => kqR ?_)
  refine S_astore_2 5 dX8_writeModule_5 rfl ?_
  refine S_aload_0 6 dX8_writeModule_6 ?_
  refine S_getR 7 fsX8_20 rfl dX8_writeModule_7 (fun w3 => ?_)
  refine S_getR 10 fsX8_91 rfl dX8_writeModule_10 (fun w4 => ?_)
  refine S_astore_3 13 dX8_writeModule_13 rfl ?_
  refine S_aload_0 14 dX8_writeModule_14 ?_
  refine S_ic 15 0 dX8_writeModule_15 (by decide) ?_
  refine S_putI 16 frX8_299 rfl (fun q => by cases q) dX8_writeModule_16 (fun h5 => ?_)
  refine S_ic 19 0 dX8_writeModule_19 (by decide) ?_
  refine S_istore_4 20 dX8_writeModule_20 rfl ?_
  refine S_loop (fun (s22 : Int32) => [some (.ref t), some (.int p1), some (.ref v1), some (.ref w4), some (.int s22)]) (fun again22 hg22 s22 h6 => ?_) xfu _ _
  refine S_iload_4 22 dX8_writeModule_22 ?_
  refine S_aload_3 24 dX8_writeModule_24 ?_
  refine S_iload_1 25 dX8_writeModule_25 ?_
  refine S_callV (a' := 0) (b' := 0) (a := 0) (b := 0) 26 (As := [.int p1]) (ci := 3) rfl calX3_lengthOf imX3_lengthOf seX3_lengthOf mkX8_111 rfl rfl rfl rfl rfl (by decide) rfl rfl dX8_writeModule_26 (CX3_lengthOf E w4 p1 h6) (fun v7 h8 => kqI ?_)
  refine S_icmpge 29 49 dX8_writeModule_29 (by decide) ?_ ?_
  · skip
    refine S_ic 49 0 dX8_writeModule_49 (by decide) ?_
    refine S_istore_4 50 dX8_writeModule_50 rfl ?_
    refine S_drop [1, 3] rfl ?_
    refine S_loop (fun (s52 : Int32) => [some (.ref t), none, some (.ref v1), none, some (.int s52)]) (fun again52 hg52 s52 h9 => ?_) xfu _ _
    refine S_iload_4 52 dX8_writeModule_52 ?_
    refine S_aload_2 54 dX8_writeModule_54 ?_
    refine S_getR 55 fsX8_167 rfl dX8_writeModule_55 (fun w10 => ?_)
    refine S_getI 58 fsX8_123 rfl dX8_writeModule_58 ?_
    refine S_icmpge 61 99 dX8_writeModule_61 (by decide) ?_ ?_
    · skip
      refine S_aload_2 99 dX8_writeModule_99 ?_
      refine S_getI 100 fsX8_176 rfl dX8_writeModule_100 ?_
      refine S_join (fun jj => ∀  (h11 : XH), XS E mX8_writeModule eI 0 0 123 [some (.ref t), none, none, none, none] [] h11 (jj  h11)) (fun  h11 => ?_) (fun j123 hj123 => ?_)
      · skip
        refine S_aload_0 123 dX8_writeModule_123 ?_
        refine S_getI 124 fsX8_299 rfl dX8_writeModule_124 ?_
        exact S_iret 127 dX8_writeModule_127 rfl
      refine S_ifeq 103 123 dX8_writeModule_103 (by decide) ?_ ?_
      · skip
        exact S_drop [2, 4] rfl (hj123 _)
      · skip
        refine S_aload_0 106 dX8_writeModule_106 ?_
        refine S_bip 107 59 dX8_writeModule_107 (by decide) ?_
        refine S_callV (a' := 0) (b' := 0) (a := 0) (b := 0) 109 (As := [.int 59]) (ci := 8) rfl calX8_write imX8_write seX8_write mkX8_302 rfl rfl rfl rfl rfl (by decide) rfl rfl dX8_writeModule_109 (CX8_write E t 59 h9) (fun _ h12 => kqU ?_)
        refine S_aload_0 112 dX8_writeModule_112 ?_
        refine S_bip 113 48 dX8_writeModule_113 (by decide) ?_
        refine S_aload_2 115 dX8_writeModule_115 ?_
        refine S_getI 116 fsX8_176 rfl dX8_writeModule_116 ?_
        refine S_iadd 119 dX8_writeModule_119 ?_
        refine S_callV (a' := 0) (b' := 0) (a := 0) (b := 0) 120 (As := [.int (48 + (xi h12 v1 7))]) (ci := 8) rfl calX8_write imX8_write seX8_write mkX8_302 rfl rfl rfl rfl rfl (by decide) rfl rfl dX8_writeModule_120 (CX8_write E t (48 + (xi h12 v1 7)) h12) (fun _ h13 => kqU ?_)
        exact S_drop [2, 4] rfl (hj123 _)
    · skip
      refine S_aload_0 64 dX8_writeModule_64 ?_
      refine S_iload_4 65 dX8_writeModule_65 ?_
      refine S_join (fun jj => ∀ (v14 : Int32) (h15 : XH), XS E mX8_writeModule eI 0 0 77 [some (.ref t), none, some (.ref v1), none, some (.int s52)] [.int v14, .ref t] h15 (jj v14 h15)) (fun v14 h15 => ?_) (fun j77 hj77 => ?_)
      · skip
        refine S_callV (a' := 0) (b' := 0) (a := 0) (b := 0) 77 (As := [.int v14]) (ci := 8) rfl calX8_write imX8_write seX8_write mkX8_302 rfl rfl rfl rfl rfl (by decide) rfl rfl dX8_writeModule_77 (CX8_write E t v14 h15) (fun _ h16 => kqU ?_)
        refine S_aload_0 80 dX8_writeModule_80 ?_
        refine S_bip 81 48 dX8_writeModule_81 (by decide) ?_
        refine S_aload_2 83 dX8_writeModule_83 ?_
        refine S_iload_4 84 dX8_writeModule_84 ?_
        refine S_callV (a' := 0) (b' := 0) (a := 0) (b := 0) 86 (As := [.int s52]) (ci := 1) rfl calX1_boundaryOf imX1_boundaryOf seX1_boundaryOf mkX8_170 rfl rfl rfl rfl rfl (by decide) rfl rfl dX8_writeModule_86 (CX1_boundaryOf E v1 s52 h16) (fun v17 h18 => kqI ?_)
        refine S_iadd 89 dX8_writeModule_89 ?_
        refine S_callV (a' := 0) (b' := 0) (a := 0) (b := 0) 90 (As := [.int (48 + v17)]) (ci := 8) rfl calX8_write imX8_write seX8_write mkX8_302 rfl rfl rfl rfl rfl (by decide) rfl rfl dX8_writeModule_90 (CX8_write E t (48 + v17) h18) (fun _ h19 => kqU ?_)
        refine S_iinc_4 93 (s52 + 1) dX8_writeModule_93 (by rfl) rfl ?_
        refine S_goto 96 52 dX8_writeModule_96 (by decide) ?_
        exact S_drop [] rfl (hg52 _ _)
      refine S_ifne 67 75 dX8_writeModule_67 (by decide) ?_ ?_
      · skip
        refine S_bip 75 44 dX8_writeModule_75 (by decide) ?_
        exact S_drop [] rfl (hj77 _ _)
      · skip
        refine S_bip 70 58 dX8_writeModule_70 (by decide) ?_
        refine S_goto 72 77 dX8_writeModule_72 (by decide) ?_
        exact S_drop [] rfl (hj77 _ _)
  · skip
    refine S_aload_0 32 dX8_writeModule_32 ?_
    refine S_aload_3 33 dX8_writeModule_33 ?_
    refine S_iload_1 34 dX8_writeModule_34 ?_
    refine S_iload_4 35 dX8_writeModule_35 ?_
    refine S_callV (a' := 0) (b' := 0) (a := 0) (b := 0) 37 (As := [.int p1, .int s22]) (ci := 3) rfl calX3_letterOf imX3_letterOf seX3_letterOf mkX8_115 rfl rfl rfl rfl rfl (by decide) rfl rfl dX8_writeModule_37 (CX3_letterOf E w4 p1 s22 h8) (fun v20 h21 => kqI ?_)
    refine S_callV (a' := 0) (b' := 0) (a := 0) (b := 0) 40 (As := [.int v20]) (ci := 8) rfl calX8_write imX8_write seX8_write mkX8_302 rfl rfl rfl rfl rfl (by decide) rfl rfl dX8_writeModule_40 (CX8_write E t v20 h21) (fun _ h22 => kqU ?_)
    refine S_iinc_4 43 (s22 + 1) dX8_writeModule_43 (by rfl) rfl ?_
    refine S_goto 46 22 dX8_writeModule_46 (by decide) ?_
    exact S_drop [] rfl (hg22 _ _)
def FX8_writeTable (E : XG) (t : Nat) (p1 : Int32) (h : XH) : XP Int32 := xg (xk h t = 9) <| xb (FX8_groupAt E t p1 h) fun v1 h2 => xg (xk h2 t = 9) <| xlt (yi h2 t 13 0) fun h3 => xlp (fun again13 (s13 : Int32) h4 => xg (xk h4 v1 = 3) <| if ((xi h4 v1 3) : Int32) ≤ s13 then (xg (xk h4 t = 9) <| xv (xi h4 t 13) h4) else (xjn (fun  (h5 : XH) => xlp (fun again34 (s34 : Int32) h6 => xg (xk h6 v1 = 3) <| if ((xi h6 v1 3) : Int32) ≤ s34 then (again13 (s13 + 1) h6) else (xg (xk h6 v1 = 3) <| xb (FX2_product E v1 s13 s34 h6) fun v7 h8 => xg (xk h8 t = 9) <| xb (FX8_write E t (48 + v7) h8) fun _ h9 => again34 (s34 + 1) h9)) xfu 0 h5) fun (j31 : XH → XP Int32) => if (s13 : Int32) ≤ 0 then (j31 h4) else (xg (xk h4 t = 9) <| xb (FX8_write E t 47 h4) fun _ h10 => j31 h10))) xfu 0 h3
theorem CX8_writeTable (E : XG) (t : Nat) (p1 : Int32) (h : XH) : XN E mX8_writeTable eI 0 0 [.ref t, .int p1] h (FX8_writeTable E t p1 h) := by
  unfold FX8_writeTable
  refine S_enter (L := [some (.ref t), some (.int p1), none, none, none]) (by decide +kernel) rfl rfl rfl ?_
  refine S_aload_0 0 dX8_writeTable_0 ?_
  refine S_iload_1 1 dX8_writeTable_1 ?_
  refine S_callV (a' := 0) (b' := 0) (a := 0) (b := 0) 2 (As := [.int p1]) (ci := 8) rfl calX8_groupAt imX8_groupAt seX8_groupAt mkX8_119 rfl rfl rfl rfl rfl (by decide) rfl rfl dX8_writeTable_2 (CX8_groupAt E t p1 h) (fun v1 h2 => kqR ?_)
  refine S_astore_2 5 dX8_writeTable_5 rfl ?_
  refine S_aload_0 6 dX8_writeTable_6 ?_
  refine S_ic 7 0 dX8_writeTable_7 (by decide) ?_
  refine S_putI 8 frX8_299 rfl (fun q => by cases q) dX8_writeTable_8 (fun h3 => ?_)
  refine S_ic 11 0 dX8_writeTable_11 (by decide) ?_
  refine S_istore_3 12 dX8_writeTable_12 rfl ?_
  refine S_drop [1] rfl ?_
  refine S_loop (fun (s13 : Int32) => [some (.ref t), none, some (.ref v1), some (.int s13), none]) (fun again13 hg13 s13 h4 => ?_) xfu _ _
  refine S_iload_3 13 dX8_writeTable_13 ?_
  refine S_aload_2 14 dX8_writeTable_14 ?_
  refine S_getI 15 fsX8_123 rfl dX8_writeTable_15 ?_
  refine S_icmpge 18 69 dX8_writeTable_18 (by decide) ?_ ?_
  · skip
    refine S_aload_0 69 dX8_writeTable_69 ?_
    refine S_getI 70 fsX8_299 rfl dX8_writeTable_70 ?_
    exact S_iret 73 dX8_writeTable_73 rfl
  · skip
    refine S_iload_3 21 dX8_writeTable_21 ?_
    refine S_join (fun jj => ∀  (h5 : XH), XS E mX8_writeTable eI 0 0 31 [some (.ref t), none, some (.ref v1), some (.int s13), none] [] h5 (jj  h5)) (fun  h5 => ?_) (fun j31 hj31 => ?_)
    · skip
      refine S_ic 31 0 dX8_writeTable_31 (by decide) ?_
      refine S_istore_4 32 dX8_writeTable_32 rfl ?_
      refine S_loop (fun (s34 : Int32) => [some (.ref t), none, some (.ref v1), some (.int s13), some (.int s34)]) (fun again34 hg34 s34 h6 => ?_) xfu _ _
      refine S_iload_4 34 dX8_writeTable_34 ?_
      refine S_aload_2 36 dX8_writeTable_36 ?_
      refine S_getI 37 fsX8_123 rfl dX8_writeTable_37 ?_
      refine S_icmpge 40 63 dX8_writeTable_40 (by decide) ?_ ?_
      · skip
        refine S_iinc_3 63 (s13 + 1) dX8_writeTable_63 (by rfl) rfl ?_
        refine S_goto 66 13 dX8_writeTable_66 (by decide) ?_
        exact S_drop [4] rfl (hg13 _ _)
      · skip
        refine S_aload_0 43 dX8_writeTable_43 ?_
        refine S_bip 44 48 dX8_writeTable_44 (by decide) ?_
        refine S_aload_2 46 dX8_writeTable_46 ?_
        refine S_iload_3 47 dX8_writeTable_47 ?_
        refine S_iload_4 48 dX8_writeTable_48 ?_
        refine S_callV (a' := 0) (b' := 0) (a := 0) (b := 0) 50 (As := [.int s13, .int s34]) (ci := 2) rfl calX2_product imX2_product seX2_product mkX8_129 rfl rfl rfl rfl rfl (by decide) rfl rfl dX8_writeTable_50 (CX2_product E v1 s13 s34 h6) (fun v7 h8 => kqI ?_)
        refine S_iadd 53 dX8_writeTable_53 ?_
        refine S_callV (a' := 0) (b' := 0) (a := 0) (b := 0) 54 (As := [.int (48 + v7)]) (ci := 8) rfl calX8_write imX8_write seX8_write mkX8_302 rfl rfl rfl rfl rfl (by decide) rfl rfl dX8_writeTable_54 (CX8_write E t (48 + v7) h8) (fun _ h9 => kqU ?_)
        refine S_iinc_4 57 (s34 + 1) dX8_writeTable_57 (by rfl) rfl ?_
        refine S_goto 60 34 dX8_writeTable_60 (by decide) ?_
        exact S_drop [] rfl (hg34 _ _)
    refine S_ifle 22 31 dX8_writeTable_22 (by decide) ?_ ?_
    · skip
      exact S_drop [] rfl (hj31 _)
    · skip
      refine S_aload_0 25 dX8_writeTable_25 ?_
      refine S_bip 26 47 dX8_writeTable_26 (by decide) ?_
      refine S_callV (a' := 0) (b' := 0) (a := 0) (b := 0) 28 (As := [.int 47]) (ci := 8) rfl calX8_write imX8_write seX8_write mkX8_302 rfl rfl rfl rfl rfl (by decide) rfl rfl dX8_writeTable_28 (CX8_write E t 47 h4) (fun _ h10 => kqU ?_)
      exact S_drop [] rfl (hj31 _)
def FX8_textByte (E : XG) (t : Nat) (p1 : Int32) (h : XH) : XP Int32 := xjn (fun (v1 : Int32) (h2 : XH) => xb (FX8_demandThere E v1 h2) fun _ h3 => xg (xk h3 t = 9) <| xnn (xr h3 t 12) fun w4 => xg (xk h3 w4 = 11 ∧ xin p1 (xn h3 w4)) <| xv (xi h3 w4 (p1 : Int32).toNatClampNeg) h3) fun (j26 : Int32 → XH → XP Int32) => xjn (fun  (h5 : XH) => j26 0 h5) fun (j25 : XH → XP Int32) => if (p1 : Int32) < 0 then (j25 h) else (xg (xk h t = 9) <| if ((xi h t 13) : Int32) ≤ p1 then (j25 h) else (xg (xk h t = 9) <| xnn (xr h t 12) fun w6 => xg (xk h w6 = 11) <| if ((Int32.ofNat (xn h w6)) : Int32) ≤ p1 then (j25 h) else (j26 1 h)))
theorem CX8_textByte (E : XG) (t : Nat) (p1 : Int32) (h : XH) : XN E mX8_textByte eI 0 0 [.ref t, .int p1] h (FX8_textByte E t p1 h) := by
  unfold FX8_textByte
  refine S_enter (L := [some (.ref t), some (.int p1)]) (by decide +kernel) rfl rfl rfl ?_
  refine S_iload_1 0 dX8_textByte_0 ?_
  refine S_join (fun jj => ∀ (v1 : Int32) (h2 : XH), XS E mX8_textByte eI 0 0 26 [some (.ref t), some (.int p1)] [.int v1] h2 (jj v1 h2)) (fun v1 h2 => ?_) (fun j26 hj26 => ?_)
  · skip
    refine S_callS (a' := 0) (b' := 0) (a := 0) (b := 0) 26 (As := [.int v1]) rfl calX8_demandThere stX8_demandThere mkX8_45 rfl rfl rfl rfl rfl dX8_textByte_26 (CX8_demandThere E v1 h2) (fun _ h3 => kqU ?_)
    refine S_aload_0 29 dX8_textByte_29 ?_
    refine S_getR 30 fsX8_35 rfl dX8_textByte_30 (fun w4 => ?_)
    refine S_iload_1 33 dX8_textByte_33 ?_
    refine S_bald 34 dX8_textByte_34 ?_
    exact S_iret 35 dX8_textByte_35 rfl
  refine S_join (fun jj => ∀  (h5 : XH), XS E mX8_textByte eI 0 0 25 [some (.ref t), some (.int p1)] [] h5 (jj  h5)) (fun  h5 => ?_) (fun j25 hj25 => ?_)
  · skip
    refine S_ic 25 0 dX8_textByte_25 (by decide) ?_
    exact S_drop [] rfl (hj26 _ _)
  refine S_iflt 1 25 dX8_textByte_1 (by decide) ?_ ?_
  · skip
    exact S_drop [] rfl (hj25 _)
  · skip
    refine S_iload_1 4 dX8_textByte_4 ?_
    refine S_aload_0 5 dX8_textByte_5 ?_
    refine S_getI 6 fsX8_299 rfl dX8_textByte_6 ?_
    refine S_icmpge 9 25 dX8_textByte_9 (by decide) ?_ ?_
    · skip
      exact S_drop [] rfl (hj25 _)
    · skip
      refine S_iload_1 12 dX8_textByte_12 ?_
      refine S_aload_0 13 dX8_textByte_13 ?_
      refine S_getR 14 fsX8_35 rfl dX8_textByte_14 (fun w6 => ?_)
      refine S_alen 17 11 0 (by decide) rfl dX8_textByte_17 ?_
      refine S_icmpge 18 25 dX8_textByte_18 (by decide) ?_ ?_
      · skip
        exact S_drop [] rfl (hj25 _)
      · skip
        refine S_ic 21 1 dX8_textByte_21 (by decide) ?_
        refine S_goto 22 26 dX8_textByte_22 (by decide) ?_
        exact S_drop [] rfl (hj26 _ _)
def FX8_undoPlace (E : XG) (t : Nat) (p1 : Int32) (h : XH) : XP Int32 := xg (xk h t = 9) <| xb (FJ9_floorMod_7cf53 E ((xi h t 8) + p1) 8 h) fun v1 h2 => xv v1 h2
theorem CX8_undoPlace (E : XG) (t : Nat) (p1 : Int32) (h : XH) : XN E mX8_undoPlace eI 0 0 [.ref t, .int p1] h (FX8_undoPlace E t p1 h) := by
  unfold FX8_undoPlace
  refine S_enter (L := [some (.ref t), some (.int p1)]) (by decide +kernel) rfl rfl rfl ?_
  refine S_aload_0 0 dX8_undoPlace_0 ?_
  refine S_getI 1 fsX8_391 rfl dX8_undoPlace_1 ?_
  refine S_iload_1 4 dX8_undoPlace_4 ?_
  refine S_iadd 5 dX8_undoPlace_5 ?_
  refine S_bip 6 8 dX8_undoPlace_6 (by decide) ?_
  refine S_callS (a' := 0) (b' := 0) (a := 0) (b := 0) 8 (As := [.int ((xi h t 8) + p1), .int 8]) rfl calJ9_floorMod_7cf53 stJ9_floorMod_7cf53 mkX8_397 rfl rfl rfl rfl rfl dX8_undoPlace_8 (CJ9_floorMod_7cf53 E ((xi h t 8) + p1) 8 h) (fun v1 h2 => kqI ?_)
  exact S_iret 11 dX8_undoPlace_11 rfl
def FX8_beginChange (E : XG) (t : Nat) (h : XH) : XP Unit := xg (xk h t = 9) <| xjn (fun  (h1 : XH) => xg (xk h1 t = 9) <| xnn (xr h1 t 5) fun w2 => xg (xk h1 t = 9) <| xnn (xr h1 t 7) fun w3 => xg (xk h1 t = 9) <| xg (xk h1 t = 9) <| xb (FX8_undoPlace E t (xi h1 t 9) h1) fun v4 h5 => xg (xk h5 w3 = 18 ∧ xin v4 (xn h5 w3)) <| xnn (xr h5 w3 (v4 : Int32).toNatClampNeg) fun w6 => xg (xk h5 w2 = 8) <| xb (FX7_giveState E w2 w6 h5) fun _ h7 => xg (xk h7 t = 9) <| xg (xk h7 t = 9) <| xlt (yi h7 t 9 ((xi h7 t 9) + 1)) fun h8 => xg (xk h8 t = 9) <| xnn (xr h8 t 5) fun w9 => xg (xk h8 w9 = 8) <| xb (FX7_addToAccount E w9 0 h8) fun _ h10 => xv () h10) fun (j28 : XH → XP Unit) => if ((xi h t 9) : Int32) = 8 then (xg (xk h t = 9) <| xb (FX8_undoPlace E t 1 h) fun v11 h12 => xg (xk h12 t = 9) <| xlt (yi h12 t 8 v11) fun h13 => xg (xk h13 t = 9) <| xg (xk h13 t = 9) <| xlt (yi h13 t 9 ((xi h13 t 9) - 1)) fun h14 => j28 h14) else (j28 h)
theorem CX8_beginChange (E : XG) (t : Nat) (h : XH) : XN E mX8_beginChange eU 0 0 [.ref t] h (FX8_beginChange E t h) := by
  unfold FX8_beginChange
  refine S_enter (L := [some (.ref t)]) (by decide +kernel) rfl rfl rfl ?_
  refine S_aload_0 0 dX8_beginChange_0 ?_
  refine S_getI 1 fsX8_334 rfl dX8_beginChange_1 ?_
  refine S_bip 4 8 dX8_beginChange_4 (by decide) ?_
  refine S_join (fun jj => ∀  (h1 : XH), XS E mX8_beginChange eU 0 0 28 [some (.ref t)] [] h1 (jj  h1)) (fun  h1 => ?_) (fun j28 hj28 => ?_)
  · skip
    refine S_aload_0 28 dX8_beginChange_28 ?_
    refine S_getR 29 fsX8_20 rfl dX8_beginChange_29 (fun w2 => ?_)
    refine S_aload_0 32 dX8_beginChange_32 ?_
    refine S_getR 33 fsX8_29 rfl dX8_beginChange_33 (fun w3 => ?_)
    refine S_aload_0 36 dX8_beginChange_36 ?_
    refine S_aload_0 37 dX8_beginChange_37 ?_
    refine S_getI 38 fsX8_334 rfl dX8_beginChange_38 ?_
    refine S_callV (a' := 0) (b' := 0) (a := 0) (b := 0) 41 (As := [.int (xi h1 t 9)]) (ci := 8) rfl calX8_undoPlace imX8_undoPlace seX8_undoPlace mkX8_344 rfl rfl rfl rfl rfl (by decide) rfl rfl dX8_beginChange_41 (CX8_undoPlace E t (xi h1 t 9) h1) (fun v4 h5 => kqI ?_)
    refine S_aald 44 18 7 (by decide) rfl rfl dX8_beginChange_44 (fun w6 => ?_)
    refine S_callV (a' := 0) (b' := 0) (a := 0) (b := 0) 45 (As := [.ref w6]) (ci := 7) rfl calX7_giveState imX7_giveState seX7_giveState mkX8_351 rfl rfl rfl rfl rfl (by decide) rfl rfl dX8_beginChange_45 (CX7_giveState E w2 w6 h5) (fun _ h7 => kqU ?_)
    refine S_aload_0 48 dX8_beginChange_48 ?_
    refine S_dup 49 dX8_beginChange_49 rfl ?_
    refine S_getI 50 fsX8_334 rfl dX8_beginChange_50 ?_
    refine S_ic 53 1 dX8_beginChange_53 (by decide) ?_
    refine S_iadd 54 dX8_beginChange_54 ?_
    refine S_putI 55 frX8_334 rfl (fun q => by cases q) dX8_beginChange_55 (fun h8 => ?_)
    refine S_aload_0 58 dX8_beginChange_58 ?_
    refine S_getR 59 fsX8_20 rfl dX8_beginChange_59 (fun w9 => ?_)
    refine S_ic 62 0 dX8_beginChange_62 (by decide) ?_
    refine S_callV (a' := 0) (b' := 0) (a := 0) (b := 0) 63 (As := [.int 0]) (ci := 7) rfl calX7_addToAccount imX7_addToAccount seX7_addToAccount mkX8_394 rfl rfl rfl rfl rfl (by decide) rfl rfl dX8_beginChange_63 (CX7_addToAccount E w9 0 h8) (fun _ h10 => kqU ?_)
    exact S_ret 66 dX8_beginChange_66 rfl
  refine S_icmpne 6 28 dX8_beginChange_6 (by decide) ?_ ?_
  · skip
    exact S_drop [] rfl (hj28 _)
  · skip
    refine S_aload_0 9 dX8_beginChange_9 ?_
    refine S_aload_0 10 dX8_beginChange_10 ?_
    refine S_ic 11 1 dX8_beginChange_11 (by decide) ?_
    refine S_callV (a' := 0) (b' := 0) (a := 0) (b := 0) 12 (As := [.int 1]) (ci := 8) rfl calX8_undoPlace imX8_undoPlace seX8_undoPlace mkX8_344 rfl rfl rfl rfl rfl (by decide) rfl rfl dX8_beginChange_12 (CX8_undoPlace E t 1 h) (fun v11 h12 => kqI ?_)
    refine S_putI 15 frX8_391 rfl (fun q => by cases q) dX8_beginChange_15 (fun h13 => ?_)
    refine S_aload_0 18 dX8_beginChange_18 ?_
    refine S_dup 19 dX8_beginChange_19 rfl ?_
    refine S_getI 20 fsX8_334 rfl dX8_beginChange_20 ?_
    refine S_ic 23 1 dX8_beginChange_23 (by decide) ?_
    refine S_isub 24 dX8_beginChange_24 ?_
    refine S_putI 25 frX8_334 rfl (fun q => by cases q) dX8_beginChange_25 (fun h14 => ?_)
    exact S_drop [] rfl (hj28 _)
def FX8_setBoundary (E : XG) (t : Nat) (p1 : Int32) (p2 : Int32) (p3 : Int32) (h : XH) : XP Int32 := xg (xk h t = 9) <| xb (FX8_moduleAt E t p1 h) fun v1 h2 => xg (xk h2 v1 = 2) <| xnn (xr h2 v1 1) fun w3 => xg (xk h2 w3 = 3) <| xb (FX2_has E w3 p2 h2) fun v4 h5 => xjn (fun (v6 : Int32) (h7 : XH) => xb (FX8_demandThere E v6 h7) fun _ h8 => xg (xk h8 v1 = 2) <| xb (FX1_boundaryOf E v1 p2 h8) fun v9 h10 => xg (xk h10 t = 9) <| xb (FX8_beginChange E t  h10) fun _ h11 => xg (xk h11 v1 = 2) <| xnn (xr h11 v1 3) fun w12 => xb (FX8_put E w12 p2 p3 h11) fun _ h13 => xg (xk h13 t = 9) <| xnn (xr h13 t 5) fun w14 => xg (xk h13 w14 = 8) <| xb (FX7_judgeAgain E w14 v1 h13) fun _ h15 => xv v9 h15) fun (j36 : Int32 → XH → XP Int32) => xjn (fun  (h16 : XH) => j36 0 h16) fun (j35 : XH → XP Int32) => if (v4 : Int32) = 0 then (j35 h5) else (xg (xk h5 v1 = 2) <| xnn (xr h5 v1 2) fun w17 => xg (xk h5 w17 = 3) <| xb (FX2_has E w17 p3 h5) fun v18 h19 => if (v18 : Int32) = 0 then (j35 h19) else (j36 1 h19))
theorem CX8_setBoundary (E : XG) (t : Nat) (p1 : Int32) (p2 : Int32) (p3 : Int32) (h : XH) : XN E mX8_setBoundary eI 0 0 [.ref t, .int p1, .int p2, .int p3] h (FX8_setBoundary E t p1 p2 p3 h) := by
  unfold FX8_setBoundary
  refine S_enter (L := [some (.ref t), some (.int p1), some (.int p2), some (.int p3), none, none]) (by decide +kernel) rfl rfl rfl ?_
  refine S_aload_0 0 dX8_setBoundary_0 ?_
  refine S_iload_1 1 dX8_setBoundary_1 ?_
  refine S_callV (a' := 0) (b' := 0) (a := 0) (b := 0) 2 (As := [.int p1]) (ci := 8) rfl calX8_moduleAt imX8_moduleAt seX8_moduleAt mkX8_154 rfl rfl rfl rfl rfl (by decide) rfl rfl dX8_setBoundary_2 (CX8_moduleAt E t p1 h) (fun v1 h2 => kqR ?_)
  refine S_astore_4 5 dX8_setBoundary_5 rfl ?_
  refine S_aload_4 7 dX8_setBoundary_7 ?_
  refine S_getR 9 fsX8_167 rfl dX8_setBoundary_9 (fun w3 => ?_)
  refine S_iload_2 12 dX8_setBoundary_12 ?_
  refine S_callV (a' := 0) (b' := 0) (a := 0) (b := 0) 13 (As := [.int p2]) (ci := 2) rfl calX2_has imX2_has seX2_has mkX8_128 rfl rfl rfl rfl rfl (by decide) rfl rfl dX8_setBoundary_13 (CX2_has E w3 p2 h2) (fun v4 h5 => kqI ?_)
  refine S_join (fun jj => ∀ (v6 : Int32) (h7 : XH), XS E mX8_setBoundary eI 0 0 36 [some (.ref t), none, some (.int p2), some (.int p3), some (.ref v1), none] [.int v6] h7 (jj v6 h7)) (fun v6 h7 => ?_) (fun j36 hj36 => ?_)
  · skip
    refine S_callS (a' := 0) (b' := 0) (a := 0) (b := 0) 36 (As := [.int v6]) rfl calX8_demandThere stX8_demandThere mkX8_45 rfl rfl rfl rfl rfl dX8_setBoundary_36 (CX8_demandThere E v6 h7) (fun _ h8 => kqU ?_)
    refine S_aload_4 39 dX8_setBoundary_39 ?_
    refine S_iload_2 41 dX8_setBoundary_41 ?_
    refine S_callV (a' := 0) (b' := 0) (a := 0) (b := 0) 42 (As := [.int p2]) (ci := 1) rfl calX1_boundaryOf imX1_boundaryOf seX1_boundaryOf mkX8_170 rfl rfl rfl rfl rfl (by decide) rfl rfl dX8_setBoundary_42 (CX1_boundaryOf E v1 p2 h8) (fun v9 h10 => kqI ?_)
    refine S_istore_5 45 dX8_setBoundary_45 rfl ?_
    refine S_aload_0 47 dX8_setBoundary_47 ?_
    refine S_callV (a' := 0) (b' := 0) (a := 0) (b := 0) 48 (As := []) (ci := 8) rfl calX8_beginChange imX8_beginChange seX8_beginChange mkX8_305 rfl rfl rfl rfl rfl (by decide) rfl rfl dX8_setBoundary_48 (CX8_beginChange E t  h10) (fun _ h11 => kqU ?_)
    refine S_aload_4 51 dX8_setBoundary_51 ?_
    refine S_getR 53 fsX8_308 rfl dX8_setBoundary_53 (fun w12 => ?_)
    refine S_iload_2 56 dX8_setBoundary_56 ?_
    refine S_iload_3 57 dX8_setBoundary_57 ?_
    refine S_callS (a' := 0) (b' := 0) (a := 0) (b := 0) 58 (As := [.ref w12, .int p2, .int p3]) rfl calX8_put stX8_put mkX8_311 rfl rfl rfl rfl rfl dX8_setBoundary_58 (CX8_put E w12 p2 p3 h11) (fun _ h13 => kqU ?_)
    refine S_aload_0 61 dX8_setBoundary_61 ?_
    refine S_getR 62 fsX8_20 rfl dX8_setBoundary_62 (fun w14 => ?_)
    refine S_aload_4 65 dX8_setBoundary_65 ?_
    refine S_callV (a' := 0) (b' := 0) (a := 0) (b := 0) 67 (As := [.ref v1]) (ci := 7) rfl calX7_judgeAgain imX7_judgeAgain seX7_judgeAgain mkX8_315 rfl rfl rfl rfl rfl (by decide) rfl rfl dX8_setBoundary_67 (CX7_judgeAgain E w14 v1 h13) (fun _ h15 => kqU ?_)
    refine S_iload_5 70 dX8_setBoundary_70 ?_
    exact S_iret 72 dX8_setBoundary_72 rfl
  refine S_join (fun jj => ∀  (h16 : XH), XS E mX8_setBoundary eI 0 0 35 [some (.ref t), none, some (.int p2), some (.int p3), some (.ref v1), none] [] h16 (jj  h16)) (fun  h16 => ?_) (fun j35 hj35 => ?_)
  · skip
    refine S_ic 35 0 dX8_setBoundary_35 (by decide) ?_
    exact S_drop [] rfl (hj36 _ _)
  refine S_ifeq 16 35 dX8_setBoundary_16 (by decide) ?_ ?_
  · skip
    exact S_drop [1] rfl (hj35 _)
  · skip
    refine S_aload_4 19 dX8_setBoundary_19 ?_
    refine S_getR 21 fsX8_158 rfl dX8_setBoundary_21 (fun w17 => ?_)
    refine S_iload_3 24 dX8_setBoundary_24 ?_
    refine S_callV (a' := 0) (b' := 0) (a := 0) (b := 0) 25 (As := [.int p3]) (ci := 2) rfl calX2_has imX2_has seX2_has mkX8_128 rfl rfl rfl rfl rfl (by decide) rfl rfl dX8_setBoundary_25 (CX2_has E w17 p3 h5) (fun v18 h19 => kqI ?_)
    refine S_ifeq 28 35 dX8_setBoundary_28 (by decide) ?_ ?_
    · skip
      exact S_drop [1] rfl (hj35 _)
    · skip
      refine S_ic 31 1 dX8_setBoundary_31 (by decide) ?_
      refine S_goto 32 36 dX8_setBoundary_32 (by decide) ?_
      exact S_drop [1] rfl (hj36 _ _)
def FX8_setAct (E : XG) (t : Nat) (p1 : Int32) (p2 : Int32) (p3 : Int32) (p4 : Int32) (h : XH) : XP Int32 := xg (xk h t = 9) <| xb (FX8_moduleAt E t p1 h) fun v1 h2 => xg (xk h2 v1 = 2) <| xnn (xr h2 v1 2) fun w3 => xg (xk h2 w3 = 3) <| xb (FX2_has E w3 p2 h2) fun v4 h5 => xjn (fun (v6 : Int32) (h7 : XH) => xb (FX8_demandThere E v6 h7) fun _ h8 => xg (xk h8 v1 = 2) <| xb (FX1_actionOf E v1 p2 p3 h8) fun v9 h10 => xg (xk h10 t = 9) <| xb (FX8_beginChange E t  h10) fun _ h11 => xg (xk h11 v1 = 2) <| xnn (xr h11 v1 4) fun w12 => xb (FX8_put E w12 ((p2 * 8) + p3) p4 h11) fun _ h13 => xg (xk h13 t = 9) <| xnn (xr h13 t 5) fun w14 => xg (xk h13 w14 = 8) <| xb (FX7_judgeAgain E w14 v1 h13) fun _ h15 => xv v9 h15) fun (j49 : Int32 → XH → XP Int32) => xjn (fun  (h16 : XH) => j49 0 h16) fun (j48 : XH → XP Int32) => if (v4 : Int32) = 0 then (j48 h5) else (xg (xk h5 v1 = 2) <| xnn (xr h5 v1 1) fun w17 => xg (xk h5 w17 = 3) <| xb (FX2_has E w17 p3 h5) fun v18 h19 => if (v18 : Int32) = 0 then (j48 h19) else (xg (xk h19 v1 = 2) <| xnn (xr h19 v1 1) fun w20 => xg (xk h19 w20 = 3) <| xb (FX2_has E w20 p4 h19) fun v21 h22 => if (v21 : Int32) = 0 then (j48 h22) else (j49 1 h22)))
theorem CX8_setAct (E : XG) (t : Nat) (p1 : Int32) (p2 : Int32) (p3 : Int32) (p4 : Int32) (h : XH) : XN E mX8_setAct eI 0 0 [.ref t, .int p1, .int p2, .int p3, .int p4] h (FX8_setAct E t p1 p2 p3 p4 h) := by
  unfold FX8_setAct
  refine S_enter (L := [some (.ref t), some (.int p1), some (.int p2), some (.int p3), some (.int p4), none, none]) (by decide +kernel) rfl rfl rfl ?_
  refine S_aload_0 0 dX8_setAct_0 ?_
  refine S_iload_1 1 dX8_setAct_1 ?_
  refine S_callV (a' := 0) (b' := 0) (a := 0) (b := 0) 2 (As := [.int p1]) (ci := 8) rfl calX8_moduleAt imX8_moduleAt seX8_moduleAt mkX8_154 rfl rfl rfl rfl rfl (by decide) rfl rfl dX8_setAct_2 (CX8_moduleAt E t p1 h) (fun v1 h2 => kqR ?_)
  refine S_astore_5 5 dX8_setAct_5 rfl ?_
  refine S_aload_5 7 dX8_setAct_7 ?_
  refine S_getR 9 fsX8_158 rfl dX8_setAct_9 (fun w3 => ?_)
  refine S_iload_2 12 dX8_setAct_12 ?_
  refine S_callV (a' := 0) (b' := 0) (a := 0) (b := 0) 13 (As := [.int p2]) (ci := 2) rfl calX2_has imX2_has seX2_has mkX8_128 rfl rfl rfl rfl rfl (by decide) rfl rfl dX8_setAct_13 (CX2_has E w3 p2 h2) (fun v4 h5 => kqI ?_)
  refine S_join (fun jj => ∀ (v6 : Int32) (h7 : XH), XS E mX8_setAct eI 0 0 49 [some (.ref t), none, some (.int p2), some (.int p3), some (.int p4), some (.ref v1), none] [.int v6] h7 (jj v6 h7)) (fun v6 h7 => ?_) (fun j49 hj49 => ?_)
  · skip
    refine S_callS (a' := 0) (b' := 0) (a := 0) (b := 0) 49 (As := [.int v6]) rfl calX8_demandThere stX8_demandThere mkX8_45 rfl rfl rfl rfl rfl dX8_setAct_49 (CX8_demandThere E v6 h7) (fun _ h8 => kqU ?_)
    refine S_aload_5 52 dX8_setAct_52 ?_
    refine S_iload_2 54 dX8_setAct_54 ?_
    refine S_iload_3 55 dX8_setAct_55 ?_
    refine S_callV (a' := 0) (b' := 0) (a := 0) (b := 0) 56 (As := [.int p2, .int p3]) (ci := 1) rfl calX1_actionOf imX1_actionOf seX1_actionOf mkX8_173 rfl rfl rfl rfl rfl (by decide) rfl rfl dX8_setAct_56 (CX1_actionOf E v1 p2 p3 h8) (fun v9 h10 => kqI ?_)
    refine S_istore_6 59 dX8_setAct_59 rfl ?_
    refine S_aload_0 61 dX8_setAct_61 ?_
    refine S_callV (a' := 0) (b' := 0) (a := 0) (b := 0) 62 (As := []) (ci := 8) rfl calX8_beginChange imX8_beginChange seX8_beginChange mkX8_305 rfl rfl rfl rfl rfl (by decide) rfl rfl dX8_setAct_62 (CX8_beginChange E t  h10) (fun _ h11 => kqU ?_)
    refine S_aload_5 65 dX8_setAct_65 ?_
    refine S_getR 67 fsX8_319 rfl dX8_setAct_67 (fun w12 => ?_)
    refine S_iload_2 70 dX8_setAct_70 ?_
    refine S_bip 71 8 dX8_setAct_71 (by decide) ?_
    refine S_imul 73 dX8_setAct_73 ?_
    refine S_iload_3 74 dX8_setAct_74 ?_
    refine S_iadd 75 dX8_setAct_75 ?_
    refine S_iload_4 76 dX8_setAct_76 ?_
    refine S_callS (a' := 0) (b' := 0) (a := 0) (b := 0) 78 (As := [.ref w12, .int ((p2 * 8) + p3), .int p4]) rfl calX8_put stX8_put mkX8_311 rfl rfl rfl rfl rfl dX8_setAct_78 (CX8_put E w12 ((p2 * 8) + p3) p4 h11) (fun _ h13 => kqU ?_)
    refine S_aload_0 81 dX8_setAct_81 ?_
    refine S_getR 82 fsX8_20 rfl dX8_setAct_82 (fun w14 => ?_)
    refine S_aload_5 85 dX8_setAct_85 ?_
    refine S_callV (a' := 0) (b' := 0) (a := 0) (b := 0) 87 (As := [.ref v1]) (ci := 7) rfl calX7_judgeAgain imX7_judgeAgain seX7_judgeAgain mkX8_315 rfl rfl rfl rfl rfl (by decide) rfl rfl dX8_setAct_87 (CX7_judgeAgain E w14 v1 h13) (fun _ h15 => kqU ?_)
    refine S_iload_6 90 dX8_setAct_90 ?_
    exact S_iret 92 dX8_setAct_92 rfl
  refine S_join (fun jj => ∀  (h16 : XH), XS E mX8_setAct eI 0 0 48 [some (.ref t), none, some (.int p2), some (.int p3), some (.int p4), some (.ref v1), none] [] h16 (jj  h16)) (fun  h16 => ?_) (fun j48 hj48 => ?_)
  · skip
    refine S_ic 48 0 dX8_setAct_48 (by decide) ?_
    exact S_drop [] rfl (hj49 _ _)
  refine S_ifeq 16 48 dX8_setAct_16 (by decide) ?_ ?_
  · skip
    exact S_drop [1] rfl (hj48 _)
  · skip
    refine S_aload_5 19 dX8_setAct_19 ?_
    refine S_getR 21 fsX8_167 rfl dX8_setAct_21 (fun w17 => ?_)
    refine S_iload_3 24 dX8_setAct_24 ?_
    refine S_callV (a' := 0) (b' := 0) (a := 0) (b := 0) 25 (As := [.int p3]) (ci := 2) rfl calX2_has imX2_has seX2_has mkX8_128 rfl rfl rfl rfl rfl (by decide) rfl rfl dX8_setAct_25 (CX2_has E w17 p3 h5) (fun v18 h19 => kqI ?_)
    refine S_ifeq 28 48 dX8_setAct_28 (by decide) ?_ ?_
    · skip
      exact S_drop [1] rfl (hj48 _)
    · skip
      refine S_aload_5 31 dX8_setAct_31 ?_
      refine S_getR 33 fsX8_167 rfl dX8_setAct_33 (fun w20 => ?_)
      refine S_iload_4 36 dX8_setAct_36 ?_
      refine S_callV (a' := 0) (b' := 0) (a := 0) (b := 0) 38 (As := [.int p4]) (ci := 2) rfl calX2_has imX2_has seX2_has mkX8_128 rfl rfl rfl rfl rfl (by decide) rfl rfl dX8_setAct_38 (CX2_has E w20 p4 h19) (fun v21 h22 => kqI ?_)
      refine S_ifeq 41 48 dX8_setAct_41 (by decide) ?_ ?_
      · skip
        exact S_drop [1] rfl (hj48 _)
      · skip
        refine S_ic 44 1 dX8_setAct_44 (by decide) ?_
        refine S_goto 45 49 dX8_setAct_45 (by decide) ?_
        exact S_drop [1] rfl (hj49 _ _)
def FX8_rest (E : XG) (t : Nat) (p1 : Int32) (h : XH) : XP Int32 := xg (xk h t = 9) <| xb (FX8_moduleAt E t p1 h) fun v1 h2 => xg (xk h2 t = 9) <| xb (FX8_beginChange E t  h2) fun _ h3 => xg (xk h3 v1 = 2) <| xb (FX1_becomeRestful E v1  h3) fun v4 h5 => xg (xk h5 t = 9) <| xnn (xr h5 t 5) fun w6 => xg (xk h5 w6 = 8) <| xb (FX7_judgeAgain E w6 v1 h5) fun _ h7 => xv v4 h7
theorem CX8_rest (E : XG) (t : Nat) (p1 : Int32) (h : XH) : XN E mX8_rest eI 0 0 [.ref t, .int p1] h (FX8_rest E t p1 h) := by
  unfold FX8_rest
  refine S_enter (L := [some (.ref t), some (.int p1), none, none]) (by decide +kernel) rfl rfl rfl ?_
  refine S_aload_0 0 dX8_rest_0 ?_
  refine S_iload_1 1 dX8_rest_1 ?_
  refine S_callV (a' := 0) (b' := 0) (a := 0) (b := 0) 2 (As := [.int p1]) (ci := 8) rfl calX8_moduleAt imX8_moduleAt seX8_moduleAt mkX8_154 rfl rfl rfl rfl rfl (by decide) rfl rfl dX8_rest_2 (CX8_moduleAt E t p1 h) (fun v1 h2 => kqR ?_)
  refine S_astore_2 5 dX8_rest_5 rfl ?_
  refine S_aload_0 6 dX8_rest_6 ?_
  refine S_callV (a' := 0) (b' := 0) (a := 0) (b := 0) 7 (As := []) (ci := 8) rfl calX8_beginChange imX8_beginChange seX8_beginChange mkX8_305 rfl rfl rfl rfl rfl (by decide) rfl rfl dX8_rest_7 (CX8_beginChange E t  h2) (fun _ h3 => kqU ?_)
  refine S_aload_2 10 dX8_rest_10 ?_
  refine S_callV (a' := 0) (b' := 0) (a := 0) (b := 0) 11 (As := []) (ci := 1) rfl calX1_becomeRestful imX1_becomeRestful seX1_becomeRestful mkX8_322 rfl rfl rfl rfl rfl (by decide) rfl rfl dX8_rest_11 (CX1_becomeRestful E v1  h3) (fun v4 h5 => kqI ?_)
  refine S_istore_3 14 dX8_rest_14 rfl ?_
  refine S_aload_0 15 dX8_rest_15 ?_
  refine S_getR 16 fsX8_20 rfl dX8_rest_16 (fun w6 => ?_)
  refine S_aload_2 19 dX8_rest_19 ?_
  refine S_callV (a' := 0) (b' := 0) (a := 0) (b := 0) 20 (As := [.ref v1]) (ci := 7) rfl calX7_judgeAgain imX7_judgeAgain seX7_judgeAgain mkX8_315 rfl rfl rfl rfl rfl (by decide) rfl rfl dX8_rest_20 (CX7_judgeAgain E w6 v1 h5) (fun _ h7 => kqU ?_)
  refine S_iload_3 23 dX8_rest_23 ?_
  exact S_iret 24 dX8_rest_24 rfl
def FX8_conjugate (E : XG) (t : Nat) (p1 : Int32) (h : XH) : XP Int32 := xg (xk h t = 9) <| xb (FX8_moduleAt E t p1 h) fun v1 h2 => xg (xk h2 v1 = 2) <| xnn (xr h2 v1 1) fun w3 => xg (xk h2 w3 = 3) <| xg (xk h2 v1 = 2) <| xnn (xr h2 v1 2) fun w4 => xg (xk h2 w4 = 3) <| xjn (fun (v5 : Int32) (h6 : XH) => xb (FX8_demandFit E v5 h6) fun _ h7 => xg (xk h7 t = 9) <| xb (FX8_beginChange E t  h7) fun _ h8 => xg (xk h8 v1 = 2) <| xb (FX1_becomeConjugation E v1  h8) fun v9 h10 => xg (xk h10 t = 9) <| xnn (xr h10 t 5) fun w11 => xg (xk h10 w11 = 8) <| xb (FX7_judgeAgain E w11 v1 h10) fun _ h12 => xv v9 h12) fun (j28 : Int32 → XH → XP Int32) => if ((xi h2 w3 0) : Int32) = (xi h2 w4 0) then (j28 1 h2) else (j28 0 h2)
theorem CX8_conjugate (E : XG) (t : Nat) (p1 : Int32) (h : XH) : XN E mX8_conjugate eI 0 0 [.ref t, .int p1] h (FX8_conjugate E t p1 h) := by
  unfold FX8_conjugate
  refine S_enter (L := [some (.ref t), some (.int p1), none, none]) (by decide +kernel) rfl rfl rfl ?_
  refine S_aload_0 0 dX8_conjugate_0 ?_
  refine S_iload_1 1 dX8_conjugate_1 ?_
  refine S_callV (a' := 0) (b' := 0) (a := 0) (b := 0) 2 (As := [.int p1]) (ci := 8) rfl calX8_moduleAt imX8_moduleAt seX8_moduleAt mkX8_154 rfl rfl rfl rfl rfl (by decide) rfl rfl dX8_conjugate_2 (CX8_moduleAt E t p1 h) (fun v1 h2 => kqR ?_)
  refine S_astore_2 5 dX8_conjugate_5 rfl ?_
  refine S_aload_2 6 dX8_conjugate_6 ?_
  refine S_getR 7 fsX8_167 rfl dX8_conjugate_7 (fun w3 => ?_)
  refine S_getI 10 fsX8_164 rfl dX8_conjugate_10 ?_
  refine S_aload_2 13 dX8_conjugate_13 ?_
  refine S_getR 14 fsX8_158 rfl dX8_conjugate_14 (fun w4 => ?_)
  refine S_getI 17 fsX8_164 rfl dX8_conjugate_17 ?_
  refine S_join (fun jj => ∀ (v5 : Int32) (h6 : XH), XS E mX8_conjugate eI 0 0 28 [some (.ref t), none, some (.ref v1), none] [.int v5] h6 (jj v5 h6)) (fun v5 h6 => ?_) (fun j28 hj28 => ?_)
  · skip
    refine S_callS (a' := 0) (b' := 0) (a := 0) (b := 0) 28 (As := [.int v5]) rfl calX8_demandFit stX8_demandFit mkX8_75 rfl rfl rfl rfl rfl dX8_conjugate_28 (CX8_demandFit E v5 h6) (fun _ h7 => kqU ?_)
    refine S_aload_0 31 dX8_conjugate_31 ?_
    refine S_callV (a' := 0) (b' := 0) (a := 0) (b := 0) 32 (As := []) (ci := 8) rfl calX8_beginChange imX8_beginChange seX8_beginChange mkX8_305 rfl rfl rfl rfl rfl (by decide) rfl rfl dX8_conjugate_32 (CX8_beginChange E t  h7) (fun _ h8 => kqU ?_)
    refine S_aload_2 35 dX8_conjugate_35 ?_
    refine S_callV (a' := 0) (b' := 0) (a := 0) (b := 0) 36 (As := []) (ci := 1) rfl calX1_becomeConjugation imX1_becomeConjugation seX1_becomeConjugation mkX8_325 rfl rfl rfl rfl rfl (by decide) rfl rfl dX8_conjugate_36 (CX1_becomeConjugation E v1  h8) (fun v9 h10 => kqI ?_)
    refine S_istore_3 39 dX8_conjugate_39 rfl ?_
    refine S_aload_0 40 dX8_conjugate_40 ?_
    refine S_getR 41 fsX8_20 rfl dX8_conjugate_41 (fun w11 => ?_)
    refine S_aload_2 44 dX8_conjugate_44 ?_
    refine S_callV (a' := 0) (b' := 0) (a := 0) (b := 0) 45 (As := [.ref v1]) (ci := 7) rfl calX7_judgeAgain imX7_judgeAgain seX7_judgeAgain mkX8_315 rfl rfl rfl rfl rfl (by decide) rfl rfl dX8_conjugate_45 (CX7_judgeAgain E w11 v1 h10) (fun _ h12 => kqU ?_)
    refine S_iload_3 48 dX8_conjugate_48 ?_
    exact S_iret 49 dX8_conjugate_49 rfl
  refine S_icmpne 20 27 dX8_conjugate_20 (by decide) ?_ ?_
  · skip
    refine S_ic 27 0 dX8_conjugate_27 (by decide) ?_
    exact S_drop [1] rfl (hj28 _ _)
  · skip
    refine S_ic 23 1 dX8_conjugate_23 (by decide) ?_
    refine S_goto 24 28 dX8_conjugate_24 (by decide) ?_
    exact S_drop [1] rfl (hj28 _ _)
def FX8_setTop (E : XG) (t : Nat) (p1 : Int32) (p2 : Int32) (p3 : Int32) (h : XH) : XP Int32 := xg (xk h t = 9) <| xb (FX8_arrowAt E t p1 h) fun v1 h2 => xg (xk h2 v1 = 1) <| xnn (xr h2 v1 0) fun w3 => xg (xk h2 w3 = 2) <| xnn (xr h2 w3 1) fun w4 => xg (xk h2 w4 = 3) <| xb (FX2_has E w4 p2 h2) fun v5 h6 => xjn (fun (v7 : Int32) (h8 : XH) => xb (FX8_demandThere E v7 h8) fun _ h9 => xg (xk h9 v1 = 1) <| xb (FX0_topOf E v1 p2 h9) fun v10 h11 => xg (xk h11 t = 9) <| xb (FX8_beginChange E t  h11) fun _ h12 => xg (xk h12 v1 = 1) <| xnn (xr h12 v1 2) fun w13 => xb (FX8_put E w13 p2 p3 h12) fun _ h14 => xv v10 h14) fun (j42 : Int32 → XH → XP Int32) => xjn (fun  (h15 : XH) => j42 0 h15) fun (j41 : XH → XP Int32) => if (v5 : Int32) = 0 then (j41 h6) else (xg (xk h6 v1 = 1) <| xnn (xr h6 v1 1) fun w16 => xg (xk h6 w16 = 2) <| xnn (xr h6 w16 1) fun w17 => xg (xk h6 w17 = 3) <| xb (FX2_has E w17 p3 h6) fun v18 h19 => if (v18 : Int32) = 0 then (j41 h19) else (j42 1 h19))
theorem CX8_setTop (E : XG) (t : Nat) (p1 : Int32) (p2 : Int32) (p3 : Int32) (h : XH) : XN E mX8_setTop eI 0 0 [.ref t, .int p1, .int p2, .int p3] h (FX8_setTop E t p1 p2 p3 h) := by
  unfold FX8_setTop
  refine S_enter (L := [some (.ref t), some (.int p1), some (.int p2), some (.int p3), none, none]) (by decide +kernel) rfl rfl rfl ?_
  refine S_aload_0 0 dX8_setTop_0 ?_
  refine S_iload_1 1 dX8_setTop_1 ?_
  refine S_callV (a' := 0) (b' := 0) (a := 0) (b := 0) 2 (As := [.int p1]) (ci := 8) rfl calX8_arrowAt imX8_arrowAt seX8_arrowAt mkX8_260 rfl rfl rfl rfl rfl (by decide) rfl rfl dX8_setTop_2 (CX8_arrowAt E t p1 h) (fun v1 h2 => kqR ?_)
  refine S_astore_4 5 dX8_setTop_5 rfl ?_
  refine S_aload_4 7 dX8_setTop_7 ?_
  refine S_getR 9 fsX8_271 rfl dX8_setTop_9 (fun w3 => ?_)
  refine S_getR 12 fsX8_167 rfl dX8_setTop_12 (fun w4 => ?_)
  refine S_iload_2 15 dX8_setTop_15 ?_
  refine S_callV (a' := 0) (b' := 0) (a := 0) (b := 0) 16 (As := [.int p2]) (ci := 2) rfl calX2_has imX2_has seX2_has mkX8_128 rfl rfl rfl rfl rfl (by decide) rfl rfl dX8_setTop_16 (CX2_has E w4 p2 h2) (fun v5 h6 => kqI ?_)
  refine S_join (fun jj => ∀ (v7 : Int32) (h8 : XH), XS E mX8_setTop eI 0 0 42 [some (.ref t), none, some (.int p2), some (.int p3), some (.ref v1), none] [.int v7] h8 (jj v7 h8)) (fun v7 h8 => ?_) (fun j42 hj42 => ?_)
  · skip
    refine S_callS (a' := 0) (b' := 0) (a := 0) (b := 0) 42 (As := [.int v7]) rfl calX8_demandThere stX8_demandThere mkX8_45 rfl rfl rfl rfl rfl dX8_setTop_42 (CX8_demandThere E v7 h8) (fun _ h9 => kqU ?_)
    refine S_aload_4 45 dX8_setTop_45 ?_
    refine S_iload_2 47 dX8_setTop_47 ?_
    refine S_callV (a' := 0) (b' := 0) (a := 0) (b := 0) 48 (As := [.int p2]) (ci := 0) rfl calX0_topOf imX0_topOf seX0_topOf mkX8_274 rfl rfl rfl rfl rfl (by decide) rfl rfl dX8_setTop_48 (CX0_topOf E v1 p2 h9) (fun v10 h11 => kqI ?_)
    refine S_istore_5 51 dX8_setTop_51 rfl ?_
    refine S_aload_0 53 dX8_setTop_53 ?_
    refine S_callV (a' := 0) (b' := 0) (a := 0) (b := 0) 54 (As := []) (ci := 8) rfl calX8_beginChange imX8_beginChange seX8_beginChange mkX8_305 rfl rfl rfl rfl rfl (by decide) rfl rfl dX8_setTop_54 (CX8_beginChange E t  h11) (fun _ h12 => kqU ?_)
    refine S_aload_4 57 dX8_setTop_57 ?_
    refine S_getR 59 fsX8_328 rfl dX8_setTop_59 (fun w13 => ?_)
    refine S_iload_2 62 dX8_setTop_62 ?_
    refine S_iload_3 63 dX8_setTop_63 ?_
    refine S_callS (a' := 0) (b' := 0) (a := 0) (b := 0) 64 (As := [.ref w13, .int p2, .int p3]) rfl calX8_put stX8_put mkX8_311 rfl rfl rfl rfl rfl dX8_setTop_64 (CX8_put E w13 p2 p3 h12) (fun _ h14 => kqU ?_)
    refine S_iload_5 67 dX8_setTop_67 ?_
    exact S_iret 69 dX8_setTop_69 rfl
  refine S_join (fun jj => ∀  (h15 : XH), XS E mX8_setTop eI 0 0 41 [some (.ref t), none, some (.int p2), some (.int p3), some (.ref v1), none] [] h15 (jj  h15)) (fun  h15 => ?_) (fun j41 hj41 => ?_)
  · skip
    refine S_ic 41 0 dX8_setTop_41 (by decide) ?_
    exact S_drop [] rfl (hj42 _ _)
  refine S_ifeq 19 41 dX8_setTop_19 (by decide) ?_ ?_
  · skip
    exact S_drop [1] rfl (hj41 _)
  · skip
    refine S_aload_4 22 dX8_setTop_22 ?_
    refine S_getR 24 fsX8_264 rfl dX8_setTop_24 (fun w16 => ?_)
    refine S_getR 27 fsX8_167 rfl dX8_setTop_27 (fun w17 => ?_)
    refine S_iload_3 30 dX8_setTop_30 ?_
    refine S_callV (a' := 0) (b' := 0) (a := 0) (b := 0) 31 (As := [.int p3]) (ci := 2) rfl calX2_has imX2_has seX2_has mkX8_128 rfl rfl rfl rfl rfl (by decide) rfl rfl dX8_setTop_31 (CX2_has E w17 p3 h6) (fun v18 h19 => kqI ?_)
    refine S_ifeq 34 41 dX8_setTop_34 (by decide) ?_ ?_
    · skip
      exact S_drop [1] rfl (hj41 _)
    · skip
      refine S_ic 37 1 dX8_setTop_37 (by decide) ?_
      refine S_goto 38 42 dX8_setTop_38 (by decide) ?_
      exact S_drop [1] rfl (hj42 _ _)
def FX8_setBottom (E : XG) (t : Nat) (p1 : Int32) (p2 : Int32) (p3 : Int32) (h : XH) : XP Int32 := xg (xk h t = 9) <| xb (FX8_arrowAt E t p1 h) fun v1 h2 => xg (xk h2 v1 = 1) <| xnn (xr h2 v1 0) fun w3 => xg (xk h2 w3 = 2) <| xnn (xr h2 w3 2) fun w4 => xg (xk h2 w4 = 3) <| xb (FX2_has E w4 p2 h2) fun v5 h6 => xjn (fun (v7 : Int32) (h8 : XH) => xb (FX8_demandThere E v7 h8) fun _ h9 => xg (xk h9 v1 = 1) <| xb (FX0_bottomOf E v1 p2 h9) fun v10 h11 => xg (xk h11 t = 9) <| xb (FX8_beginChange E t  h11) fun _ h12 => xg (xk h12 v1 = 1) <| xnn (xr h12 v1 3) fun w13 => xb (FX8_put E w13 p2 p3 h12) fun _ h14 => xv v10 h14) fun (j42 : Int32 → XH → XP Int32) => xjn (fun  (h15 : XH) => j42 0 h15) fun (j41 : XH → XP Int32) => if (v5 : Int32) = 0 then (j41 h6) else (xg (xk h6 v1 = 1) <| xnn (xr h6 v1 1) fun w16 => xg (xk h6 w16 = 2) <| xnn (xr h6 w16 2) fun w17 => xg (xk h6 w17 = 3) <| xb (FX2_has E w17 p3 h6) fun v18 h19 => if (v18 : Int32) = 0 then (j41 h19) else (j42 1 h19))
theorem CX8_setBottom (E : XG) (t : Nat) (p1 : Int32) (p2 : Int32) (p3 : Int32) (h : XH) : XN E mX8_setBottom eI 0 0 [.ref t, .int p1, .int p2, .int p3] h (FX8_setBottom E t p1 p2 p3 h) := by
  unfold FX8_setBottom
  refine S_enter (L := [some (.ref t), some (.int p1), some (.int p2), some (.int p3), none, none]) (by decide +kernel) rfl rfl rfl ?_
  refine S_aload_0 0 dX8_setBottom_0 ?_
  refine S_iload_1 1 dX8_setBottom_1 ?_
  refine S_callV (a' := 0) (b' := 0) (a := 0) (b := 0) 2 (As := [.int p1]) (ci := 8) rfl calX8_arrowAt imX8_arrowAt seX8_arrowAt mkX8_260 rfl rfl rfl rfl rfl (by decide) rfl rfl dX8_setBottom_2 (CX8_arrowAt E t p1 h) (fun v1 h2 => kqR ?_)
  refine S_astore_4 5 dX8_setBottom_5 rfl ?_
  refine S_aload_4 7 dX8_setBottom_7 ?_
  refine S_getR 9 fsX8_271 rfl dX8_setBottom_9 (fun w3 => ?_)
  refine S_getR 12 fsX8_158 rfl dX8_setBottom_12 (fun w4 => ?_)
  refine S_iload_2 15 dX8_setBottom_15 ?_
  refine S_callV (a' := 0) (b' := 0) (a := 0) (b := 0) 16 (As := [.int p2]) (ci := 2) rfl calX2_has imX2_has seX2_has mkX8_128 rfl rfl rfl rfl rfl (by decide) rfl rfl dX8_setBottom_16 (CX2_has E w4 p2 h2) (fun v5 h6 => kqI ?_)
  refine S_join (fun jj => ∀ (v7 : Int32) (h8 : XH), XS E mX8_setBottom eI 0 0 42 [some (.ref t), none, some (.int p2), some (.int p3), some (.ref v1), none] [.int v7] h8 (jj v7 h8)) (fun v7 h8 => ?_) (fun j42 hj42 => ?_)
  · skip
    refine S_callS (a' := 0) (b' := 0) (a := 0) (b := 0) 42 (As := [.int v7]) rfl calX8_demandThere stX8_demandThere mkX8_45 rfl rfl rfl rfl rfl dX8_setBottom_42 (CX8_demandThere E v7 h8) (fun _ h9 => kqU ?_)
    refine S_aload_4 45 dX8_setBottom_45 ?_
    refine S_iload_2 47 dX8_setBottom_47 ?_
    refine S_callV (a' := 0) (b' := 0) (a := 0) (b := 0) 48 (As := [.int p2]) (ci := 0) rfl calX0_bottomOf imX0_bottomOf seX0_bottomOf mkX8_277 rfl rfl rfl rfl rfl (by decide) rfl rfl dX8_setBottom_48 (CX0_bottomOf E v1 p2 h9) (fun v10 h11 => kqI ?_)
    refine S_istore_5 51 dX8_setBottom_51 rfl ?_
    refine S_aload_0 53 dX8_setBottom_53 ?_
    refine S_callV (a' := 0) (b' := 0) (a := 0) (b := 0) 54 (As := []) (ci := 8) rfl calX8_beginChange imX8_beginChange seX8_beginChange mkX8_305 rfl rfl rfl rfl rfl (by decide) rfl rfl dX8_setBottom_54 (CX8_beginChange E t  h11) (fun _ h12 => kqU ?_)
    refine S_aload_4 57 dX8_setBottom_57 ?_
    refine S_getR 59 fsX8_331 rfl dX8_setBottom_59 (fun w13 => ?_)
    refine S_iload_2 62 dX8_setBottom_62 ?_
    refine S_iload_3 63 dX8_setBottom_63 ?_
    refine S_callS (a' := 0) (b' := 0) (a := 0) (b := 0) 64 (As := [.ref w13, .int p2, .int p3]) rfl calX8_put stX8_put mkX8_311 rfl rfl rfl rfl rfl dX8_setBottom_64 (CX8_put E w13 p2 p3 h12) (fun _ h14 => kqU ?_)
    refine S_iload_5 67 dX8_setBottom_67 ?_
    exact S_iret 69 dX8_setBottom_69 rfl
  refine S_join (fun jj => ∀  (h15 : XH), XS E mX8_setBottom eI 0 0 41 [some (.ref t), none, some (.int p2), some (.int p3), some (.ref v1), none] [] h15 (jj  h15)) (fun  h15 => ?_) (fun j41 hj41 => ?_)
  · skip
    refine S_ic 41 0 dX8_setBottom_41 (by decide) ?_
    exact S_drop [] rfl (hj42 _ _)
  refine S_ifeq 19 41 dX8_setBottom_19 (by decide) ?_ ?_
  · skip
    exact S_drop [1] rfl (hj41 _)
  · skip
    refine S_aload_4 22 dX8_setBottom_22 ?_
    refine S_getR 24 fsX8_264 rfl dX8_setBottom_24 (fun w16 => ?_)
    refine S_getR 27 fsX8_158 rfl dX8_setBottom_27 (fun w17 => ?_)
    refine S_iload_3 30 dX8_setBottom_30 ?_
    refine S_callV (a' := 0) (b' := 0) (a := 0) (b := 0) 31 (As := [.int p3]) (ci := 2) rfl calX2_has imX2_has seX2_has mkX8_128 rfl rfl rfl rfl rfl (by decide) rfl rfl dX8_setBottom_31 (CX2_has E w17 p3 h6) (fun v18 h19 => kqI ?_)
    refine S_ifeq 34 41 dX8_setBottom_34 (by decide) ?_ ?_
    · skip
      exact S_drop [1] rfl (hj41 _)
    · skip
      refine S_ic 37 1 dX8_setBottom_37 (by decide) ?_
      refine S_goto 38 42 dX8_setBottom_38 (by decide) ?_
      exact S_drop [1] rfl (hj42 _ _)
def FX8_undo (E : XG) (t : Nat) (h : XH) : XP Int32 := xg (xk h t = 9) <| if (0 : Int32) < (xi h t 9) then (xg (xk h t = 9) <| xg (xk h t = 9) <| xlt (yi h t 9 ((xi h t 9) - 1)) fun h1 => xg (xk h1 t = 9) <| xnn (xr h1 t 5) fun w2 => xg (xk h1 t = 9) <| xnn (xr h1 t 7) fun w3 => xg (xk h1 t = 9) <| xg (xk h1 t = 9) <| xb (FX8_undoPlace E t (xi h1 t 9) h1) fun v4 h5 => xg (xk h5 w3 = 18 ∧ xin v4 (xn h5 w3)) <| xnn (xr h5 w3 (v4 : Int32).toNatClampNeg) fun w6 => xg (xk h5 w2 = 8) <| xb (FX7_takeState E w2 w6 h5) fun _ h7 => xg (xk h7 t = 9) <| xv (xi h7 t 9) h7) else (xx 0 h)
theorem CX8_undo (E : XG) (t : Nat) (h : XH) : XN E mX8_undo eI 0 0 [.ref t] h (FX8_undo E t h) := by
  unfold FX8_undo
  refine S_enter (L := [some (.ref t)]) (by decide +kernel) rfl rfl rfl ?_
  refine S_aload_0 0 dX8_undo_0 ?_
  refine S_getI 1 fsX8_334 rfl dX8_undo_1 ?_
  refine S_ifgt 4 18 dX8_undo_4 (by decide) ?_ ?_
  · skip
    refine S_aload_0 18 dX8_undo_18 ?_
    refine S_dup 19 dX8_undo_19 rfl ?_
    refine S_getI 20 fsX8_334 rfl dX8_undo_20 ?_
    refine S_ic 23 1 dX8_undo_23 (by decide) ?_
    refine S_isub 24 dX8_undo_24 ?_
    refine S_putI 25 frX8_334 rfl (fun q => by cases q) dX8_undo_25 (fun h1 => ?_)
    refine S_aload_0 28 dX8_undo_28 ?_
    refine S_getR 29 fsX8_20 rfl dX8_undo_29 (fun w2 => ?_)
    refine S_aload_0 32 dX8_undo_32 ?_
    refine S_getR 33 fsX8_29 rfl dX8_undo_33 (fun w3 => ?_)
    refine S_aload_0 36 dX8_undo_36 ?_
    refine S_aload_0 37 dX8_undo_37 ?_
    refine S_getI 38 fsX8_334 rfl dX8_undo_38 ?_
    refine S_callV (a' := 0) (b' := 0) (a := 0) (b := 0) 41 (As := [.int (xi h1 t 9)]) (ci := 8) rfl calX8_undoPlace imX8_undoPlace seX8_undoPlace mkX8_344 rfl rfl rfl rfl rfl (by decide) rfl rfl dX8_undo_41 (CX8_undoPlace E t (xi h1 t 9) h1) (fun v4 h5 => kqI ?_)
    refine S_aald 44 18 7 (by decide) rfl rfl dX8_undo_44 (fun w6 => ?_)
    refine S_callV (a' := 0) (b' := 0) (a := 0) (b := 0) 45 (As := [.ref w6]) (ci := 7) rfl calX7_takeState imX7_takeState seX7_takeState mkX8_347 rfl rfl rfl rfl rfl (by decide) rfl rfl dX8_undo_45 (CX7_takeState E w2 w6 h5) (fun _ h7 => kqU ?_)
    refine S_aload_0 48 dX8_undo_48 ?_
    refine S_getI 49 fsX8_334 rfl dX8_undo_49 ?_
    exact S_iret 52 dX8_undo_52 rfl
  · skip
    exact S_throw 7 12 0 th0_339 rfl (by decide) rfl rfl rfl (by decide) rfl (by decide +kernel) (by decide +kernel) dX8_undo_7 dX8_undo_10 dX8_undo_11 dX8_undo_14 dX8_undo_17
def FX8_undoable (E : XG) (t : Nat) (h : XH) : XP Int32 := xg (xk h t = 9) <| xv (xi h t 9) h
theorem CX8_undoable (E : XG) (t : Nat) (h : XH) : XN E mX8_undoable eI 0 0 [.ref t] h (FX8_undoable E t h) := by
  unfold FX8_undoable
  refine S_enter (L := [some (.ref t)]) (by decide +kernel) rfl rfl rfl ?_
  refine S_aload_0 0 dX8_undoable_0 ?_
  refine S_getI 1 fsX8_334 rfl dX8_undoable_1 ?_
  exact S_iret 4 dX8_undoable_4 rfl
def FX8_save (E : XG) (t : Nat) (p1 : Int32) (h : XH) : XP Int32 := xg (xk h t = 9) <| xb (FX8_demandText E t  h) fun _ h1 => xjn (fun (v2 : Int32) (h3 : XH) => xb (FX8_demandThere E v2 h3) fun _ h4 => xg (xk h4 t = 9) <| xnn (xr h4 t 5) fun w5 => xg (xk h4 t = 9) <| xnn (xr h4 t 10) fun w6 => xg (xk h4 w6 = 18 ∧ xin p1 (xn h4 w6)) <| xnn (xr h4 w6 (p1 : Int32).toNatClampNeg) fun w7 => xg (xk h4 w5 = 8) <| xb (FX7_giveState E w5 w7 h4) fun _ h8 => xg (xk h8 t = 9) <| xg (xk h8 t = 9) <| xlt (yi h8 t 11 ((xi h8 t 11) ||| (1 <<< (p1 &&& 31)))) fun h9 => xg (xk h9 t = 9) <| xnn (xr h9 t 5) fun w10 => xg (xk h9 w10 = 8) <| xb (FX7_lawfulModules E w10  h9) fun v11 h12 => xb (FJ6_bitCount_0f7a4 E v11 h12) fun v13 h14 => xv v13 h14) fun (j18 : Int32 → XH → XP Int32) => xjn (fun  (h15 : XH) => j18 0 h15) fun (j17 : XH → XP Int32) => if (p1 : Int32) < 0 then (j17 h1) else (if (2 : Int32) ≤ p1 then (j17 h1) else (j18 1 h1))
theorem CX8_save (E : XG) (t : Nat) (p1 : Int32) (h : XH) : XN E mX8_save eI 0 0 [.ref t, .int p1] h (FX8_save E t p1 h) := by
  unfold FX8_save
  refine S_enter (L := [some (.ref t), some (.int p1)]) (by decide +kernel) rfl rfl rfl ?_
  refine S_aload_0 0 dX8_save_0 ?_
  refine S_callV (a' := 0) (b' := 0) (a := 0) (b := 0) 1 (As := []) (ci := 8) rfl calX8_demandText imX8_demandText seX8_demandText mkX8_100 rfl rfl rfl rfl rfl (by decide) rfl rfl dX8_save_1 (CX8_demandText E t  h) (fun _ h1 => kqU ?_)
  refine S_iload_1 4 dX8_save_4 ?_
  refine S_join (fun jj => ∀ (v2 : Int32) (h3 : XH), XS E mX8_save eI 0 0 18 [some (.ref t), some (.int p1)] [.int v2] h3 (jj v2 h3)) (fun v2 h3 => ?_) (fun j18 hj18 => ?_)
  · skip
    refine S_callS (a' := 0) (b' := 0) (a := 0) (b := 0) 18 (As := [.int v2]) rfl calX8_demandThere stX8_demandThere mkX8_45 rfl rfl rfl rfl rfl dX8_save_18 (CX8_demandThere E v2 h3) (fun _ h4 => kqU ?_)
    refine S_aload_0 21 dX8_save_21 ?_
    refine S_getR 22 fsX8_20 rfl dX8_save_22 (fun w5 => ?_)
    refine S_aload_0 25 dX8_save_25 ?_
    refine S_getR 26 fsX8_32 rfl dX8_save_26 (fun w6 => ?_)
    refine S_iload_1 29 dX8_save_29 ?_
    refine S_aald 30 18 7 (by decide) rfl rfl dX8_save_30 (fun w7 => ?_)
    refine S_callV (a' := 0) (b' := 0) (a := 0) (b := 0) 31 (As := [.ref w7]) (ci := 7) rfl calX7_giveState imX7_giveState seX7_giveState mkX8_351 rfl rfl rfl rfl rfl (by decide) rfl rfl dX8_save_31 (CX7_giveState E w5 w7 h4) (fun _ h8 => kqU ?_)
    refine S_aload_0 34 dX8_save_34 ?_
    refine S_dup 35 dX8_save_35 rfl ?_
    refine S_getI 36 fsX8_88 rfl dX8_save_36 ?_
    refine S_ic 39 1 dX8_save_39 (by decide) ?_
    refine S_iload_1 40 dX8_save_40 ?_
    refine S_ishl 41 dX8_save_41 ?_
    refine S_ior 42 dX8_save_42 ?_
    refine S_putI 43 frX8_88 rfl (fun q => by cases q) dX8_save_43 (fun h9 => ?_)
    refine S_aload_0 46 dX8_save_46 ?_
    refine S_getR 47 fsX8_20 rfl dX8_save_47 (fun w10 => ?_)
    refine S_callV (a' := 0) (b' := 0) (a := 0) (b := 0) 50 (As := []) (ci := 7) rfl calX7_lawfulModules imX7_lawfulModules seX7_lawfulModules mkX8_179 rfl rfl rfl rfl rfl (by decide) rfl rfl dX8_save_50 (CX7_lawfulModules E w10  h9) (fun v11 h12 => kqI ?_)
    refine S_callS (a' := 0) (b' := 0) (a := 0) (b := 0) 53 (As := [.int v11]) rfl calJ6_bitCount_0f7a4 stJ6_bitCount_0f7a4 mkX8_354 rfl rfl rfl rfl rfl dX8_save_53 (CJ6_bitCount_0f7a4 E v11 h12) (fun v13 h14 => kqI ?_)
    exact S_iret 56 dX8_save_56 rfl
  refine S_join (fun jj => ∀  (h15 : XH), XS E mX8_save eI 0 0 17 [some (.ref t), some (.int p1)] [] h15 (jj  h15)) (fun  h15 => ?_) (fun j17 hj17 => ?_)
  · skip
    refine S_ic 17 0 dX8_save_17 (by decide) ?_
    exact S_drop [] rfl (hj18 _ _)
  refine S_iflt 5 17 dX8_save_5 (by decide) ?_ ?_
  · skip
    exact S_drop [] rfl (hj17 _)
  · skip
    refine S_iload_1 8 dX8_save_8 ?_
    refine S_ic 9 2 dX8_save_9 (by decide) ?_
    refine S_icmpge 10 17 dX8_save_10 (by decide) ?_ ?_
    · skip
      exact S_drop [] rfl (hj17 _)
    · skip
      refine S_ic 13 1 dX8_save_13 (by decide) ?_
      refine S_goto 14 18 dX8_save_14 (by decide) ?_
      exact S_drop [] rfl (hj18 _ _)
def FX8_restore (E : XG) (t : Nat) (p1 : Int32) (h : XH) : XP Int32 := xjn (fun (v1 : Int32) (h2 : XH) => xb (FX8_demandThere E v1 h2) fun _ h3 => xg (xk h3 t = 9) <| xb (FX8_isIn E (xi h3 t 11) p1 h3) fun v4 h5 => if (v4 : Int32) = 0 then (xx 0 h5) else (xg (xk h5 t = 9) <| xnn (xr h5 t 5) fun w6 => xg (xk h5 t = 9) <| xnn (xr h5 t 10) fun w7 => xg (xk h5 w7 = 18 ∧ xin p1 (xn h5 w7)) <| xnn (xr h5 w7 (p1 : Int32).toNatClampNeg) fun w8 => xg (xk h5 w6 = 8) <| xb (FX7_takeState E w6 w8 h5) fun _ h9 => xg (xk h9 t = 9) <| xb (FX8_forgetChanges E t  h9) fun _ h10 => xg (xk h10 t = 9) <| xnn (xr h10 t 5) fun w11 => xg (xk h10 w11 = 8) <| xb (FX7_lawfulModules E w11  h10) fun v12 h13 => xb (FJ6_bitCount_0f7a4 E v12 h13) fun v14 h15 => xv v14 h15)) fun (j14 : Int32 → XH → XP Int32) => xjn (fun  (h16 : XH) => j14 0 h16) fun (j13 : XH → XP Int32) => if (p1 : Int32) < 0 then (j13 h) else (if (2 : Int32) ≤ p1 then (j13 h) else (j14 1 h))
theorem CX8_restore (E : XG) (t : Nat) (p1 : Int32) (h : XH) : XN E mX8_restore eI 0 0 [.ref t, .int p1] h (FX8_restore E t p1 h) := by
  unfold FX8_restore
  refine S_enter (L := [some (.ref t), some (.int p1)]) (by decide +kernel) rfl rfl rfl ?_
  refine S_iload_1 0 dX8_restore_0 ?_
  refine S_join (fun jj => ∀ (v1 : Int32) (h2 : XH), XS E mX8_restore eI 0 0 14 [some (.ref t), some (.int p1)] [.int v1] h2 (jj v1 h2)) (fun v1 h2 => ?_) (fun j14 hj14 => ?_)
  · skip
    refine S_callS (a' := 0) (b' := 0) (a := 0) (b := 0) 14 (As := [.int v1]) rfl calX8_demandThere stX8_demandThere mkX8_45 rfl rfl rfl rfl rfl dX8_restore_14 (CX8_demandThere E v1 h2) (fun _ h3 => kqU ?_)
    refine S_aload_0 17 dX8_restore_17 ?_
    refine S_getI 18 fsX8_88 rfl dX8_restore_18 ?_
    refine S_iload_1 21 dX8_restore_21 ?_
    refine S_callS (a' := 0) (b' := 0) (a := 0) (b := 0) 22 (As := [.int (xi h3 t 11), .int p1]) rfl calX8_isIn stX8_isIn mkX8_359 rfl rfl rfl rfl rfl dX8_restore_22 (CX8_isIn E (xi h3 t 11) p1 h3) (fun v4 h5 => kqI ?_)
    refine S_ifne 25 39 dX8_restore_25 (by decide) ?_ ?_
    · skip
      refine S_aload_0 39 dX8_restore_39 ?_
      refine S_getR 40 fsX8_20 rfl dX8_restore_40 (fun w6 => ?_)
      refine S_aload_0 43 dX8_restore_43 ?_
      refine S_getR 44 fsX8_32 rfl dX8_restore_44 (fun w7 => ?_)
      refine S_iload_1 47 dX8_restore_47 ?_
      refine S_aald 48 18 7 (by decide) rfl rfl dX8_restore_48 (fun w8 => ?_)
      refine S_callV (a' := 0) (b' := 0) (a := 0) (b := 0) 49 (As := [.ref w8]) (ci := 7) rfl calX7_takeState imX7_takeState seX7_takeState mkX8_347 rfl rfl rfl rfl rfl (by decide) rfl rfl dX8_restore_49 (CX7_takeState E w6 w8 h5) (fun _ h9 => kqU ?_)
      refine S_aload_0 52 dX8_restore_52 ?_
      refine S_callV (a' := 0) (b' := 0) (a := 0) (b := 0) 53 (As := []) (ci := 8) rfl calX8_forgetChanges imX8_forgetChanges seX8_forgetChanges mkX8_85 rfl rfl rfl rfl rfl (by decide) rfl rfl dX8_restore_53 (CX8_forgetChanges E t  h9) (fun _ h10 => kqU ?_)
      refine S_aload_0 56 dX8_restore_56 ?_
      refine S_getR 57 fsX8_20 rfl dX8_restore_57 (fun w11 => ?_)
      refine S_callV (a' := 0) (b' := 0) (a := 0) (b := 0) 60 (As := []) (ci := 7) rfl calX7_lawfulModules imX7_lawfulModules seX7_lawfulModules mkX8_179 rfl rfl rfl rfl rfl (by decide) rfl rfl dX8_restore_60 (CX7_lawfulModules E w11  h10) (fun v12 h13 => kqI ?_)
      refine S_callS (a' := 0) (b' := 0) (a := 0) (b := 0) 63 (As := [.int v12]) rfl calJ6_bitCount_0f7a4 stJ6_bitCount_0f7a4 mkX8_354 rfl rfl rfl rfl rfl dX8_restore_63 (CJ6_bitCount_0f7a4 E v12 h13) (fun v14 h15 => kqI ?_)
      exact S_iret 66 dX8_restore_66 rfl
    · skip
      exact S_throw 28 13 0 th0_363 rfl (by decide) rfl rfl rfl (by decide) rfl (by decide +kernel) (by decide +kernel) dX8_restore_28 dX8_restore_31 dX8_restore_32 dX8_restore_35 dX8_restore_38
  refine S_join (fun jj => ∀  (h16 : XH), XS E mX8_restore eI 0 0 13 [some (.ref t), some (.int p1)] [] h16 (jj  h16)) (fun  h16 => ?_) (fun j13 hj13 => ?_)
  · skip
    refine S_ic 13 0 dX8_restore_13 (by decide) ?_
    exact S_drop [] rfl (hj14 _ _)
  refine S_iflt 1 13 dX8_restore_1 (by decide) ?_ ?_
  · skip
    exact S_drop [] rfl (hj13 _)
  · skip
    refine S_iload_1 4 dX8_restore_4 ?_
    refine S_ic 5 2 dX8_restore_5 (by decide) ?_
    refine S_icmpge 6 13 dX8_restore_6 (by decide) ?_ ?_
    · skip
      exact S_drop [] rfl (hj13 _)
    · skip
      refine S_ic 9 1 dX8_restore_9 (by decide) ?_
      refine S_goto 10 14 dX8_restore_10 (by decide) ?_
      exact S_drop [] rfl (hj14 _ _)
def FX9_init (E : XG) (t : Nat) (h : XH) : XP Unit := xg (xk h t ≠ 0) <| xal h 12 6 fun w1 h2 => xg (xk h2 t = 10) <| xlt (yr h2 t 5 (some w1)) fun h3 => xg (xk h3 t ≠ 0) <| xal h3 12 384 fun w4 h5 => xg (xk h5 t = 10) <| xlt (yr h5 t 6 (some w4)) fun h6 => xg (xk h6 t ≠ 0) <| xal h6 12 6 fun w7 h8 => xg (xk h8 t = 10) <| xlt (yr h8 t 7 (some w7)) fun h9 => xg (xk h9 t ≠ 0) <| xal h9 12 6 fun w10 h11 => xg (xk h11 t = 10) <| xlt (yr h11 t 8 (some w10)) fun h12 => xg (xk h12 t ≠ 0) <| xal h12 12 8 fun w13 h14 => xg (xk h14 t = 10) <| xlt (yr h14 t 9 (some w13)) fun h15 => xg (xk h15 t ≠ 0) <| xal h15 12 8 fun w16 h17 => xg (xk h17 t = 10) <| xlt (yr h17 t 10 (some w16)) fun h18 => xg (xk h18 t ≠ 0) <| xal h18 12 200 fun w19 h20 => xg (xk h20 t = 10) <| xlt (yr h20 t 11 (some w19)) fun h21 => xg (xk h21 t ≠ 0) <| xal h21 12 563 fun w22 h23 => xg (xk h23 t = 10) <| xlt (yr h23 t 12 (some w22)) fun h24 => xg (xk h24 t ≠ 0) <| xal h24 12 5630 fun w25 h26 => xg (xk h26 t = 10) <| xlt (yr h26 t 13 (some w25)) fun h27 => xg (xk h27 t ≠ 0) <| xal h27 14 2 fun w28 h29 => xg (xk h29 t = 10) <| xlt (yr h29 t 15 (some w28)) fun h30 => xg (xk h30 t ≠ 0) <| xal h30 12 900 fun w31 h32 => xg (xk h32 t = 10) <| xlt (yr h32 t 16 (some w31)) fun h33 => xg (xk h33 t = 10) <| xlt (yi h33 t 19 (-1)) fun h34 => xg (xk h34 t ≠ 0) <| xal h34 12 563 fun w35 h36 => xg (xk h36 t = 10) <| xlt (yr h36 t 27 (some w35)) fun h37 => xg (xk h37 t ≠ 0) <| xal h37 12 6 fun w38 h39 => xg (xk h39 t = 10) <| xlt (yr h39 t 28 (some w38)) fun h40 => xg (xk h40 t ≠ 0) <| xal h40 12 384 fun w41 h42 => xg (xk h42 t = 10) <| xlt (yr h42 t 29 (some w41)) fun h43 => xg (xk h43 t ≠ 0) <| xal h43 12 6 fun w44 h45 => xg (xk h45 t = 10) <| xlt (yr h45 t 30 (some w44)) fun h46 => xg (xk h46 t ≠ 0) <| xal h46 12 6 fun w47 h48 => xg (xk h48 t = 10) <| xlt (yr h48 t 31 (some w47)) fun h49 => xg (xk h49 t ≠ 0) <| xal h49 12 8 fun w50 h51 => xg (xk h51 t = 10) <| xlt (yr h51 t 32 (some w50)) fun h52 => xg (xk h52 t ≠ 0) <| xal h52 12 8 fun w53 h54 => xg (xk h54 t = 10) <| xlt (yr h54 t 33 (some w53)) fun h55 => xg (xk h55 t ≠ 0) <| xal h55 12 200 fun w56 h57 => xg (xk h57 t = 10) <| xlt (yr h57 t 34 (some w56)) fun h58 => xg (xk h58 t ≠ 0) <| xal h58 12 6 fun w59 h60 => xg (xk h60 t = 10) <| xlt (yr h60 t 38 (some w59)) fun h61 => xg (xk h61 t ≠ 0) <| xal h61 12 8 fun w62 h63 => xg (xk h63 t = 10) <| xlt (yr h63 t 39 (some w62)) fun h64 => xg (xk h64 t ≠ 0) <| xal h64 12 8 fun w65 h66 => xg (xk h66 t = 10) <| xlt (yr h66 t 40 (some w65)) fun h67 => xg (xk h67 t ≠ 0) <| xal h67 12 8 fun w68 h69 => xg (xk h69 t = 10) <| xlt (yr h69 t 41 (some w68)) fun h70 => xg (xk h70 t ≠ 0) <| xal h70 12 100 fun w71 h72 => xg (xk h72 t = 10) <| xlt (yr h72 t 42 (some w71)) fun h73 => xv () h73
theorem CX9_init (E : XG) (t : Nat) (h : XH) : XN E mX9_init eU 24 9024 [.ref t] h (FX9_init E t h) := by
  unfold FX9_init
  refine S_enter (L := [some (.ref t)]) (by decide +kernel) rfl rfl rfl ?_
  refine S_aload_0 0 dX9_init_0 ?_
  refine S_objinit 1 rfl oiX9_1 oiI oiC (by decide) (by decide) (by exact Nat.le_of_ble_eq_true rfl) dX9_init_1 ?_
  refine S_aload_0 4 dX9_init_4 ?_
  refine S_bip 5 6 dX9_init_5 (by decide) ?_
  refine S_new_int (a := 23) (b := 9018) 7 t 6 (by decide) (by decide) (by decide) ar12 dX9_init_7 (fun w1 h2 => ?_)
  refine S_putR 9 frX9_7 rfl rfl (fun _ => rfl) dX9_init_9 (fun h3 => ?_)
  refine S_aload_0 12 dX9_init_12 ?_
  refine S_sip 13 384 dX9_init_13 (by decide) ?_
  refine S_new_int (a := 22) (b := 8634) 16 t 384 (by decide) (by decide) (by decide) ar12 dX9_init_16 (fun w4 h5 => ?_)
  refine S_putR 18 frX9_13 rfl rfl (fun _ => rfl) dX9_init_18 (fun h6 => ?_)
  refine S_aload_0 21 dX9_init_21 ?_
  refine S_bip 22 6 dX9_init_22 (by decide) ?_
  refine S_new_int (a := 21) (b := 8628) 24 t 6 (by decide) (by decide) (by decide) ar12 dX9_init_24 (fun w7 h8 => ?_)
  refine S_putR 26 frX9_16 rfl rfl (fun _ => rfl) dX9_init_26 (fun h9 => ?_)
  refine S_aload_0 29 dX9_init_29 ?_
  refine S_bip 30 6 dX9_init_30 (by decide) ?_
  refine S_new_int (a := 20) (b := 8622) 32 t 6 (by decide) (by decide) (by decide) ar12 dX9_init_32 (fun w10 h11 => ?_)
  refine S_putR 34 frX9_19 rfl rfl (fun _ => rfl) dX9_init_34 (fun h12 => ?_)
  refine S_aload_0 37 dX9_init_37 ?_
  refine S_bip 38 8 dX9_init_38 (by decide) ?_
  refine S_new_int (a := 19) (b := 8614) 40 t 8 (by decide) (by decide) (by decide) ar12 dX9_init_40 (fun w13 h14 => ?_)
  refine S_putR 42 frX9_22 rfl rfl (fun _ => rfl) dX9_init_42 (fun h15 => ?_)
  refine S_aload_0 45 dX9_init_45 ?_
  refine S_bip 46 8 dX9_init_46 (by decide) ?_
  refine S_new_int (a := 18) (b := 8606) 48 t 8 (by decide) (by decide) (by decide) ar12 dX9_init_48 (fun w16 h17 => ?_)
  refine S_putR 50 frX9_25 rfl rfl (fun _ => rfl) dX9_init_50 (fun h18 => ?_)
  refine S_aload_0 53 dX9_init_53 ?_
  refine S_sip 54 200 dX9_init_54 (by decide) ?_
  refine S_new_int (a := 17) (b := 8406) 57 t 200 (by decide) (by decide) (by decide) ar12 dX9_init_57 (fun w19 h20 => ?_)
  refine S_putR 59 frX9_28 rfl rfl (fun _ => rfl) dX9_init_59 (fun h21 => ?_)
  refine S_aload_0 62 dX9_init_62 ?_
  refine S_sip 63 563 dX9_init_63 (by decide) ?_
  refine S_new_int (a := 16) (b := 7843) 66 t 563 (by decide) (by decide) (by decide) ar12 dX9_init_66 (fun w22 h23 => ?_)
  refine S_putR 68 frX9_31 rfl rfl (fun _ => rfl) dX9_init_68 (fun h24 => ?_)
  refine S_aload_0 71 dX9_init_71 ?_
  refine S_sip 72 5630 dX9_init_72 (by decide) ?_
  refine S_new_int (a := 15) (b := 2213) 75 t 5630 (by decide) (by decide) (by decide) ar12 dX9_init_75 (fun w25 h26 => ?_)
  refine S_putR 77 frX9_34 rfl rfl (fun _ => rfl) dX9_init_77 (fun h27 => ?_)
  refine S_aload_0 80 dX9_init_80 ?_
  refine S_ic 81 2 dX9_init_81 (by decide) ?_
  refine S_new_boolean (a := 14) (b := 2211) 82 t 2 (by decide) (by decide) (by decide) ar14 dX9_init_82 (fun w28 h29 => ?_)
  refine S_putR 84 frX9_37 rfl rfl (fun _ => rfl) dX9_init_84 (fun h30 => ?_)
  refine S_aload_0 87 dX9_init_87 ?_
  refine S_sip 88 900 dX9_init_88 (by decide) ?_
  refine S_new_int (a := 13) (b := 1311) 91 t 900 (by decide) (by decide) (by decide) ar12 dX9_init_91 (fun w31 h32 => ?_)
  refine S_putR 93 frX9_41 rfl rfl (fun _ => rfl) dX9_init_93 (fun h33 => ?_)
  refine S_aload_0 96 dX9_init_96 ?_
  refine S_ic 97 (-1) dX9_init_97 (by decide) ?_
  refine S_putI 98 frX9_44 rfl (fun q => by cases q) dX9_init_98 (fun h34 => ?_)
  refine S_aload_0 101 dX9_init_101 ?_
  refine S_sip 102 563 dX9_init_102 (by decide) ?_
  refine S_new_int (a := 12) (b := 748) 105 t 563 (by decide) (by decide) (by decide) ar12 dX9_init_105 (fun w35 h36 => ?_)
  refine S_putR 107 frX9_48 rfl rfl (fun _ => rfl) dX9_init_107 (fun h37 => ?_)
  refine S_aload_0 110 dX9_init_110 ?_
  refine S_bip 111 6 dX9_init_111 (by decide) ?_
  refine S_new_int (a := 11) (b := 742) 113 t 6 (by decide) (by decide) (by decide) ar12 dX9_init_113 (fun w38 h39 => ?_)
  refine S_putR 115 frX9_51 rfl rfl (fun _ => rfl) dX9_init_115 (fun h40 => ?_)
  refine S_aload_0 118 dX9_init_118 ?_
  refine S_sip 119 384 dX9_init_119 (by decide) ?_
  refine S_new_int (a := 10) (b := 358) 122 t 384 (by decide) (by decide) (by decide) ar12 dX9_init_122 (fun w41 h42 => ?_)
  refine S_putR 124 frX9_54 rfl rfl (fun _ => rfl) dX9_init_124 (fun h43 => ?_)
  refine S_aload_0 127 dX9_init_127 ?_
  refine S_bip 128 6 dX9_init_128 (by decide) ?_
  refine S_new_int (a := 9) (b := 352) 130 t 6 (by decide) (by decide) (by decide) ar12 dX9_init_130 (fun w44 h45 => ?_)
  refine S_putR 132 frX9_57 rfl rfl (fun _ => rfl) dX9_init_132 (fun h46 => ?_)
  refine S_aload_0 135 dX9_init_135 ?_
  refine S_bip 136 6 dX9_init_136 (by decide) ?_
  refine S_new_int (a := 8) (b := 346) 138 t 6 (by decide) (by decide) (by decide) ar12 dX9_init_138 (fun w47 h48 => ?_)
  refine S_putR 140 frX9_60 rfl rfl (fun _ => rfl) dX9_init_140 (fun h49 => ?_)
  refine S_aload_0 143 dX9_init_143 ?_
  refine S_bip 144 8 dX9_init_144 (by decide) ?_
  refine S_new_int (a := 7) (b := 338) 146 t 8 (by decide) (by decide) (by decide) ar12 dX9_init_146 (fun w50 h51 => ?_)
  refine S_putR 148 frX9_63 rfl rfl (fun _ => rfl) dX9_init_148 (fun h52 => ?_)
  refine S_aload_0 151 dX9_init_151 ?_
  refine S_bip 152 8 dX9_init_152 (by decide) ?_
  refine S_new_int (a := 6) (b := 330) 154 t 8 (by decide) (by decide) (by decide) ar12 dX9_init_154 (fun w53 h54 => ?_)
  refine S_putR 156 frX9_66 rfl rfl (fun _ => rfl) dX9_init_156 (fun h55 => ?_)
  refine S_aload_0 159 dX9_init_159 ?_
  refine S_sip 160 200 dX9_init_160 (by decide) ?_
  refine S_new_int (a := 5) (b := 130) 163 t 200 (by decide) (by decide) (by decide) ar12 dX9_init_163 (fun w56 h57 => ?_)
  refine S_putR 165 frX9_69 rfl rfl (fun _ => rfl) dX9_init_165 (fun h58 => ?_)
  refine S_aload_0 168 dX9_init_168 ?_
  refine S_bip 169 6 dX9_init_169 (by decide) ?_
  refine S_new_int (a := 4) (b := 124) 171 t 6 (by decide) (by decide) (by decide) ar12 dX9_init_171 (fun w59 h60 => ?_)
  refine S_putR 173 frX9_72 rfl rfl (fun _ => rfl) dX9_init_173 (fun h61 => ?_)
  refine S_aload_0 176 dX9_init_176 ?_
  refine S_bip 177 8 dX9_init_177 (by decide) ?_
  refine S_new_int (a := 3) (b := 116) 179 t 8 (by decide) (by decide) (by decide) ar12 dX9_init_179 (fun w62 h63 => ?_)
  refine S_putR 181 frX9_75 rfl rfl (fun _ => rfl) dX9_init_181 (fun h64 => ?_)
  refine S_aload_0 184 dX9_init_184 ?_
  refine S_bip 185 8 dX9_init_185 (by decide) ?_
  refine S_new_int (a := 2) (b := 108) 187 t 8 (by decide) (by decide) (by decide) ar12 dX9_init_187 (fun w65 h66 => ?_)
  refine S_putR 189 frX9_78 rfl rfl (fun _ => rfl) dX9_init_189 (fun h67 => ?_)
  refine S_aload_0 192 dX9_init_192 ?_
  refine S_bip 193 8 dX9_init_193 (by decide) ?_
  refine S_new_int (a := 1) (b := 100) 195 t 8 (by decide) (by decide) (by decide) ar12 dX9_init_195 (fun w68 h69 => ?_)
  refine S_putR 197 frX9_81 rfl rfl (fun _ => rfl) dX9_init_197 (fun h70 => ?_)
  refine S_aload_0 200 dX9_init_200 ?_
  refine S_bip 201 100 dX9_init_201 (by decide) ?_
  refine S_new_int (a := 0) (b := 0) 203 t 100 (by decide) (by decide) (by decide) ar12 dX9_init_203 (fun w71 h72 => ?_)
  refine S_putR 205 frX9_84 rfl rfl (fun _ => rfl) dX9_init_205 (fun h73 => ?_)
  exact S_ret 208 dX9_init_208 rfl
