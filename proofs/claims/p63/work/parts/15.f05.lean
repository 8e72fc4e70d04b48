/-! Methods as functions, 5. -/
set_option linter.unusedVariables false
set_option maxRecDepth 10000
def FX5_readModule (E : XG) (t : Nat) (h : XH) : XP Int32 := xg (xk h t = 6) <| xnn (xr h t 1) fun w1 => xg (xk h w1 = 8) <| xnn (xr h w1 1) fun w2 => xg (xk h t = 6) <| xb (FX5_readNewName E t w2 h) fun v3 h4 => xjn (fun  (h5 : XH) => xg ((0 : Int32) = 0 ∨ (0 : Int32) = 1) <| xv 0 h5) fun (j30 : XH → XP Int32) => if (v3 : Int32) = 0 then (j30 h4) else (xg (xk h4 t = 6) <| xnn (xr h4 t 1) fun w6 => xg (xk h4 w6 = 8) <| xnn (xr h4 w6 0) fun w7 => xg (xk h4 t = 6) <| xb (FX5_isKnown E t w7 h4) fun v8 h9 => if (v8 : Int32) = 0 then (j30 h9) else (xg (xk h9 t = 6) <| xb (FX5_groupTold E t  h9) fun v10 h11 => xg (xk h11 t = 6) <| xnn (xr h11 t 0) fun w12 => xg (xk h11 w12 = 7) <| xb (FX6_advance E w12  h11) fun _ h13 => xg (xk h13 t = 6) <| xnn (xr h13 t 1) fun w14 => xg (xk h13 w14 = 8) <| xnn (xr h13 w14 0) fun w15 => xg (xk h13 t = 6) <| xb (FX5_isKnown E t w15 h13) fun v16 h17 => if (v16 : Int32) = 0 then (xg ((0 : Int32) = 0 ∨ (0 : Int32) = 1) <| xv 0 h17) else (xg (xk h17 t = 6) <| xb (FX5_groupTold E t  h17) fun v18 h19 => xg (xk h19 t = 6) <| xnn (xr h19 t 0) fun w20 => xg (xk h19 w20 = 7) <| xb (FX6_advance E w20  h19) fun _ h21 => xg (xk h21 t = 6) <| xnn (xr h21 t 1) fun w22 => xg (xk h21 w22 = 8) <| xnn (xr h21 w22 4) fun w23 => xg (xk h21 w2 = 4) <| xg (xk h21 w23 = 16 ∧ xin (xi h21 w2 2) (xn h21 w23)) <| xnn (xr h21 w23 ((xi h21 w2 2) : Int32).toNatClampNeg) fun w24 => xg (xk h21 w24 = 2) <| xb (FX1_start E w24 v10 v18 h21) fun _ h25 => xg (xk h25 w24 = 2) <| xnn (xr h25 w24 3) fun w26 => xg (xk h25 t = 6) <| xb (FX5_readElements E t w26 0 v10 v18 h25) fun v27 h28 => if (v27 : Int32) = 0 then (xg ((0 : Int32) = 0 ∨ (0 : Int32) = 1) <| xv 0 h28) else (xg (xk h28 w2 = 4) <| xg (xk h28 w2 = 4) <| xlt (yi h28 w2 2 ((xi h28 w2 2) + 1)) fun h29 => xg ((1 : Int32) = 0 ∨ (1 : Int32) = 1) <| xv 1 h29))))
theorem CX5_readModule (E : XG) (t : Nat) (h : XH) : XN E mX5_readModule eI 0 0 [.ref t] h (FX5_readModule E t h) := by
  unfold FX5_readModule
  refine S_enter (L := [some (.ref t), none, none, none, none]) (by decide +kernel) rfl rfl rfl ?_
  refine S_aload_0 0 dX5_readModule_0 ?_
  refine S_getR 1 fsX5_19 rfl dX5_readModule_1 (fun w1 => ?_)
  refine S_getR 4 fsX5_144 rfl dX5_readModule_4 (fun w2 => ?_)
  refine S_astore_1 7 dX5_readModule_7 rfl ?_
  refine S_aload_0 8 dX5_readModule_8 ?_
  refine S_aload_1 9 dX5_readModule_9 ?_
  refine S_callV (a' := 0) (b' := 0) (a := 0) (b := 0) 10 (As := [.ref w2]) (ci := 5) rfl calX5_readNewName imX5_readNewName seX5_readNewName mkX5_77 rfl rfl rfl rfl rfl (by decide) rfl rfl dX5_readModule_10 (CX5_readNewName E t w2 h) (fun v3 h4 => kqI ?_)
  refine S_join (fun jj => ∀  (h5 : XH), XS E mX5_readModule eI 0 0 30 [none, none, none, none, none] [] h5 (jj  h5)) (fun  h5 => ?_) (fun j30 hj30 => ?_)
  · skip
    refine S_ic 30 0 dX5_readModule_30 (by decide) ?_
    exact S_zret 31 dX5_readModule_31 rfl
  refine S_ifeq 13 30 dX5_readModule_13 (by decide) ?_ ?_
  · skip
    exact S_drop [0, 1] rfl (hj30 _)
  · skip
    refine S_aload_0 16 dX5_readModule_16 ?_
    refine S_aload_0 17 dX5_readModule_17 ?_
    refine S_getR 18 fsX5_19 rfl dX5_readModule_18 (fun w6 => ?_)
    refine S_getR 21 fsX5_71 rfl dX5_readModule_21 (fun w7 => ?_)
    refine S_callV (a' := 0) (b' := 0) (a := 0) (b := 0) 24 (As := [.ref w7]) (ci := 5) rfl calX5_isKnown imX5_isKnown seX5_isKnown mkX5_130 rfl rfl rfl rfl rfl (by decide) rfl rfl dX5_readModule_24 (CX5_isKnown E t w7 h4) (fun v8 h9 => kqI ?_)
    refine S_ifne 27 32 dX5_readModule_27 (by decide) ?_ ?_
    · skip
      refine S_aload_0 32 dX5_readModule_32 ?_
      refine S_callV (a' := 0) (b' := 0) (a := 0) (b := 0) 33 (As := []) (ci := 5) rfl calX5_groupTold imX5_groupTold seX5_groupTold mkX5_133 rfl rfl rfl rfl rfl (by decide) rfl rfl dX5_readModule_33 (CX5_groupTold E t  h9) (fun v10 h11 => kqR ?_)
      refine S_astore_2 36 dX5_readModule_36 rfl ?_
      refine S_aload_0 37 dX5_readModule_37 ?_
      refine S_getR 38 fsX5_15 rfl dX5_readModule_38 (fun w12 => ?_)
      refine S_callV (a' := 0) (b' := 0) (a := 0) (b := 0) 41 (As := []) (ci := 6) rfl calX6_advance imX6_advance seX6_advance mkX5_31 rfl rfl rfl rfl rfl (by decide) rfl rfl dX5_readModule_41 (CX6_advance E w12  h11) (fun _ h13 => kqU ?_)
      refine S_aload_0 44 dX5_readModule_44 ?_
      refine S_aload_0 45 dX5_readModule_45 ?_
      refine S_getR 46 fsX5_19 rfl dX5_readModule_46 (fun w14 => ?_)
      refine S_getR 49 fsX5_71 rfl dX5_readModule_49 (fun w15 => ?_)
      refine S_callV (a' := 0) (b' := 0) (a := 0) (b := 0) 52 (As := [.ref w15]) (ci := 5) rfl calX5_isKnown imX5_isKnown seX5_isKnown mkX5_130 rfl rfl rfl rfl rfl (by decide) rfl rfl dX5_readModule_52 (CX5_isKnown E t w15 h13) (fun v16 h17 => kqI ?_)
      refine S_ifne 55 60 dX5_readModule_55 (by decide) ?_ ?_
      · skip
        refine S_aload_0 60 dX5_readModule_60 ?_
        refine S_callV (a' := 0) (b' := 0) (a := 0) (b := 0) 61 (As := []) (ci := 5) rfl calX5_groupTold imX5_groupTold seX5_groupTold mkX5_133 rfl rfl rfl rfl rfl (by decide) rfl rfl dX5_readModule_61 (CX5_groupTold E t  h17) (fun v18 h19 => kqR ?_)
        refine S_astore_3 64 dX5_readModule_64 rfl ?_
        refine S_aload_0 65 dX5_readModule_65 ?_
        refine S_getR 66 fsX5_15 rfl dX5_readModule_66 (fun w20 => ?_)
        refine S_callV (a' := 0) (b' := 0) (a := 0) (b := 0) 69 (As := []) (ci := 6) rfl calX6_advance imX6_advance seX6_advance mkX5_31 rfl rfl rfl rfl rfl (by decide) rfl rfl dX5_readModule_69 (CX6_advance E w20  h19) (fun _ h21 => kqU ?_)
        refine S_aload_0 72 dX5_readModule_72 ?_
        refine S_getR 73 fsX5_19 rfl dX5_readModule_73 (fun w22 => ?_)
        refine S_getR 76 fsX5_147 rfl dX5_readModule_76 (fun w23 => ?_)
        refine S_aload_1 79 dX5_readModule_79 ?_
        refine S_getI 80 fsX5_85 rfl dX5_readModule_80 ?_
        refine S_aald 83 16 5 (by decide) rfl rfl dX5_readModule_83 (fun w24 => ?_)
        refine S_astore_4 84 dX5_readModule_84 rfl ?_
        refine S_aload_4 86 dX5_readModule_86 ?_
        refine S_aload_2 88 dX5_readModule_88 ?_
        refine S_aload_3 89 dX5_readModule_89 ?_
        refine S_callV (a' := 0) (b' := 0) (a := 0) (b := 0) 90 (As := [.ref v10, .ref v18]) (ci := 1) rfl calX1_start imX1_start seX1_start mkX5_151 rfl rfl rfl rfl rfl (by decide) rfl rfl dX5_readModule_90 (CX1_start E w24 v10 v18 h21) (fun _ h25 => kqU ?_)
        refine S_aload_0 93 dX5_readModule_93 ?_
        refine S_aload_4 94 dX5_readModule_94 ?_
        refine S_getR 96 fsX5_155 rfl dX5_readModule_96 (fun w26 => ?_)
        refine S_ic 99 0 dX5_readModule_99 (by decide) ?_
        refine S_aload_2 100 dX5_readModule_100 ?_
        refine S_aload_3 101 dX5_readModule_101 ?_
        refine S_callV (a' := 0) (b' := 0) (a := 0) (b := 0) 102 (As := [.ref w26, .int 0, .ref v10, .ref v18]) (ci := 5) rfl calX5_readElements imX5_readElements seX5_readElements mkX5_159 rfl rfl rfl rfl rfl (by decide) rfl rfl dX5_readModule_102 (CX5_readElements E t w26 0 v10 v18 h25) (fun v27 h28 => kqI ?_)
        refine S_ifne 105 110 dX5_readModule_105 (by decide) ?_ ?_
        · skip
          refine S_aload_1 110 dX5_readModule_110 ?_
          refine S_dup 111 dX5_readModule_111 rfl ?_
          refine S_getI 112 fsX5_85 rfl dX5_readModule_112 ?_
          refine S_ic 115 1 dX5_readModule_115 (by decide) ?_
          refine S_iadd 116 dX5_readModule_116 ?_
          refine S_putI 117 frX5_85 rfl (fun q => by cases q) dX5_readModule_117 (fun h29 => ?_)
          refine S_ic 120 1 dX5_readModule_120 (by decide) ?_
          exact S_zret 121 dX5_readModule_121 rfl
        · skip
          refine S_ic 108 0 dX5_readModule_108 (by decide) ?_
          exact S_zret 109 dX5_readModule_109 rfl
      · skip
        refine S_ic 58 0 dX5_readModule_58 (by decide) ?_
        exact S_zret 59 dX5_readModule_59 rfl
    · skip
      exact S_drop [0, 1] rfl (hj30 _)
def FX5_moduleTold (E : XG) (t : Nat) (h : XH) : XP Nat := xg (xk h t = 6) <| xnn (xr h t 1) fun w1 => xg (xk h w1 = 8) <| xnn (xr h w1 1) fun w2 => xg (xk h t = 6) <| xnn (xr h t 0) fun w3 => xg (xk h w3 = 7) <| xg (xk h w2 = 4) <| xb (FX3_numberOf E w2 (xj h w3 5) h) fun v4 h5 => xg (xk h5 t = 6) <| xnn (xr h5 t 1) fun w6 => xg (xk h5 w6 = 8) <| xnn (xr h5 w6 4) fun w7 => xjn (fun (v8 : Int32) (h9 : XH) => xg (xk h9 w7 = 16 ∧ xin v8 (xn h9 w7)) <| xnn (xr h9 w7 (v8 : Int32).toNatClampNeg) fun w10 => xv w10 h9) fun (j34 : Int32 → XH → XP Nat) => if (v4 : Int32) < 0 then (j34 0 h5) else (j34 v4 h5)
theorem CX5_moduleTold (E : XG) (t : Nat) (h : XH) : XN E mX5_moduleTold eR 0 0 [.ref t] h (FX5_moduleTold E t h) := by
  unfold FX5_moduleTold
  refine S_enter (L := [some (.ref t), none]) (by decide +kernel) rfl rfl rfl ?_
  refine S_aload_0 0 dX5_moduleTold_0 ?_
  refine S_getR 1 fsX5_19 rfl dX5_moduleTold_1 (fun w1 => ?_)
  refine S_getR 4 fsX5_144 rfl dX5_moduleTold_4 (fun w2 => ?_)
  refine S_aload_0 7 dX5_moduleTold_7 ?_
  refine S_getR 8 fsX5_15 rfl dX5_moduleTold_8 (fun w3 => ?_)
  refine S_getJ 11 fsX5_208 rfl dX5_moduleTold_11 ?_
  refine S_callV (a' := 0) (b' := 0) (a := 0) (b := 0) 14 (As := [.long (xj h w3 5)]) (ci := 3) rfl calX3_numberOf imX3_numberOf seX3_numberOf mkX5_212 rfl rfl rfl rfl rfl (by decide) rfl rfl dX5_moduleTold_14 (CX3_numberOf E w2 (xj h w3 5) h) (fun v4 h5 => kqI ?_)
  refine S_istore_1 17 dX5_moduleTold_17 rfl ?_
  refine S_aload_0 18 dX5_moduleTold_18 ?_
  refine S_getR 19 fsX5_19 rfl dX5_moduleTold_19 (fun w6 => ?_)
  refine S_getR 22 fsX5_147 rfl dX5_moduleTold_22 (fun w7 => ?_)
  refine S_iload_1 25 dX5_moduleTold_25 ?_
  refine S_join (fun jj => ∀ (v8 : Int32) (h9 : XH), XS E mX5_moduleTold eR 0 0 34 [none, none] [.int v8, .ref w7] h9 (jj v8 h9)) (fun v8 h9 => ?_) (fun j34 hj34 => ?_)
  · skip
    refine S_aald 34 16 5 (by decide) rfl rfl dX5_moduleTold_34 (fun w10 => ?_)
    exact S_aret 35 dX5_moduleTold_35 rfl
  refine S_iflt 26 33 dX5_moduleTold_26 (by decide) ?_ ?_
  · skip
    refine S_ic 33 0 dX5_moduleTold_33 (by decide) ?_
    exact S_drop [0, 1] rfl (hj34 _ _)
  · skip
    refine S_iload_1 29 dX5_moduleTold_29 ?_
    refine S_goto 30 34 dX5_moduleTold_30 (by decide) ?_
    exact S_drop [0, 1] rfl (hj34 _ _)
def FX5_readAct (E : XG) (t : Nat) (h : XH) : XP Int32 := xg (xk h t = 6) <| xnn (xr h t 0) fun w1 => xg (xk h w1 = 7) <| xb (FX6_advance E w1  h) fun _ h2 => xg (xk h2 t = 6) <| xnn (xr h2 t 1) fun w3 => xg (xk h2 w3 = 8) <| xnn (xr h2 w3 1) fun w4 => xg (xk h2 t = 6) <| xb (FX5_isKnown E t w4 h2) fun v5 h6 => if (v5 : Int32) = 0 then (xg ((0 : Int32) = 0 ∨ (0 : Int32) = 1) <| xv 0 h6) else (xg (xk h6 t = 6) <| xb (FX5_moduleTold E t  h6) fun v7 h8 => xg (xk h8 t = 6) <| xnn (xr h8 t 0) fun w9 => xg (xk h8 w9 = 7) <| xb (FX6_advance E w9  h8) fun _ h10 => xg (xk h10 v7 = 2) <| xnn (xr h10 v7 2) fun w11 => xg (xk h10 w11 = 3) <| xg (xk h10 t = 6) <| xb (FX5_isNumber E t 0 ((xi h10 w11 3) - 1) h10) fun v12 h13 => if (v12 : Int32) = 0 then (xg ((0 : Int32) = 0 ∨ (0 : Int32) = 1) <| xv 0 h13) else (xg (xk h13 t = 6) <| xnn (xr h13 t 0) fun w14 => xg (xk h13 w14 = 7) <| xlt (xi h13 w14 6) fun v15 => xg (xk h13 v7 = 2) <| xb (FX8_isIn E (xi h13 v7 6) v15 h13) fun v16 h17 => if (v16 : Int32) = 0 then (xg (xk h17 v7 = 2) <| xg (xk h17 v7 = 2) <| xlt (yi h17 v7 6 ((xi h17 v7 6) ||| (1 <<< (v15 &&& 31)))) fun h18 => xg (xk h18 t = 6) <| xnn (xr h18 t 0) fun w19 => xg (xk h18 w19 = 7) <| xb (FX6_advance E w19  h18) fun _ h20 => xg (xk h20 v7 = 2) <| xnn (xr h20 v7 4) fun w21 => xg (xk h20 v7 = 2) <| xnn (xr h20 v7 1) fun w22 => xg (xk h20 v7 = 2) <| xnn (xr h20 v7 1) fun w23 => xg (xk h20 t = 6) <| xb (FX5_readElements E t w21 (v15 * 8) w22 w23 h20) fun v24 h25 => xg ((v24 : Int32) = 0 ∨ (v24 : Int32) = 1) <| xv v24 h25) else (xg (xk h17 t = 6) <| xb (FX5_refuse E t 3 h17) fun v26 h27 => xg ((v26 : Int32) = 0 ∨ (v26 : Int32) = 1) <| xv v26 h27)))
theorem CX5_readAct (E : XG) (t : Nat) (h : XH) : XN E mX5_readAct eI 0 0 [.ref t] h (FX5_readAct E t h) := by
  unfold FX5_readAct
  refine S_enter (L := [some (.ref t), none, none]) (by decide +kernel) rfl rfl rfl ?_
  refine S_aload_0 0 dX5_readAct_0 ?_
  refine S_getR 1 fsX5_15 rfl dX5_readAct_1 (fun w1 => ?_)
  refine S_callV (a' := 0) (b' := 0) (a := 0) (b := 0) 4 (As := []) (ci := 6) rfl calX6_advance imX6_advance seX6_advance mkX5_31 rfl rfl rfl rfl rfl (by decide) rfl rfl dX5_readAct_4 (CX6_advance E w1  h) (fun _ h2 => kqU ?_)
  refine S_aload_0 7 dX5_readAct_7 ?_
  refine S_aload_0 8 dX5_readAct_8 ?_
  refine S_getR 9 fsX5_19 rfl dX5_readAct_9 (fun w3 => ?_)
  refine S_getR 12 fsX5_144 rfl dX5_readAct_12 (fun w4 => ?_)
  refine S_callV (a' := 0) (b' := 0) (a := 0) (b := 0) 15 (As := [.ref w4]) (ci := 5) rfl calX5_isKnown imX5_isKnown seX5_isKnown mkX5_130 rfl rfl rfl rfl rfl (by decide) rfl rfl dX5_readAct_15 (CX5_isKnown E t w4 h2) (fun v5 h6 => kqI ?_)
  refine S_ifne 18 23 dX5_readAct_18 (by decide) ?_ ?_
  · skip
    refine S_aload_0 23 dX5_readAct_23 ?_
    refine S_callV (a' := 0) (b' := 0) (a := 0) (b := 0) 24 (As := []) (ci := 5) rfl calX5_moduleTold imX5_moduleTold seX5_moduleTold mkX5_163 rfl rfl rfl rfl rfl (by decide) rfl rfl dX5_readAct_24 (CX5_moduleTold E t  h6) (fun v7 h8 => kqR ?_)
    refine S_astore_1 27 dX5_readAct_27 rfl ?_
    refine S_aload_0 28 dX5_readAct_28 ?_
    refine S_getR 29 fsX5_15 rfl dX5_readAct_29 (fun w9 => ?_)
    refine S_callV (a' := 0) (b' := 0) (a := 0) (b := 0) 32 (As := []) (ci := 6) rfl calX6_advance imX6_advance seX6_advance mkX5_31 rfl rfl rfl rfl rfl (by decide) rfl rfl dX5_readAct_32 (CX6_advance E w9  h8) (fun _ h10 => kqU ?_)
    refine S_aload_0 35 dX5_readAct_35 ?_
    refine S_ic 36 0 dX5_readAct_36 (by decide) ?_
    refine S_aload_1 37 dX5_readAct_37 ?_
    refine S_getR 38 fsX5_167 rfl dX5_readAct_38 (fun w11 => ?_)
    refine S_getI 41 fsX5_137 rfl dX5_readAct_41 ?_
    refine S_ic 44 1 dX5_readAct_44 (by decide) ?_
    refine S_isub 45 dX5_readAct_45 ?_
    refine S_callV (a' := 0) (b' := 0) (a := 0) (b := 0) 46 (As := [.int 0, .int ((xi h10 w11 3) - 1)]) (ci := 5) rfl calX5_isNumber imX5_isNumber seX5_isNumber mkX5_111 rfl rfl rfl rfl rfl (by decide) rfl rfl dX5_readAct_46 (CX5_isNumber E t 0 ((xi h10 w11 3) - 1) h10) (fun v12 h13 => kqI ?_)
    refine S_ifne 49 54 dX5_readAct_49 (by decide) ?_ ?_
    · skip
      refine S_aload_0 54 dX5_readAct_54 ?_
      refine S_getR 55 fsX5_15 rfl dX5_readAct_55 (fun w14 => ?_)
      refine S_getI 58 fsX5_115 rfl dX5_readAct_58 ?_
      refine S_gen (fun v15 => ?_)
      refine S_istore_2 61 dX5_readAct_61 rfl ?_
      refine S_aload_1 62 dX5_readAct_62 ?_
      refine S_getI 63 fsX5_171 rfl dX5_readAct_63 ?_
      refine S_iload_2 66 dX5_readAct_66 ?_
      refine S_callSN (a' := 0) (b' := 0) (a := 0) (b := 0) 67 (As := [.int (xi h13 v7 6), .int v15]) rfl calX8_isIn stX8_isIn (List.mem_of_getElem? (i := 13) rfl) rfl rfl rfl rfl rfl dX5_readAct_67 (CX8_isIn E (xi h13 v7 6) v15 h13) (fun v16 h17 => kqI ?_)
      refine S_ifeq 70 79 dX5_readAct_70 (by decide) ?_ ?_
      · skip
        refine S_aload_1 79 dX5_readAct_79 ?_
        refine S_dup 80 dX5_readAct_80 rfl ?_
        refine S_getI 81 fsX5_171 rfl dX5_readAct_81 ?_
        refine S_ic 84 1 dX5_readAct_84 (by decide) ?_
        refine S_iload_2 85 dX5_readAct_85 ?_
        refine S_ishl 86 dX5_readAct_86 ?_
        refine S_ior 87 dX5_readAct_87 ?_
        refine S_putI 88 frX5_171 rfl (fun q => by cases q) dX5_readAct_88 (fun h18 => ?_)
        refine S_aload_0 91 dX5_readAct_91 ?_
        refine S_getR 92 fsX5_15 rfl dX5_readAct_92 (fun w19 => ?_)
        refine S_callV (a' := 0) (b' := 0) (a := 0) (b := 0) 95 (As := []) (ci := 6) rfl calX6_advance imX6_advance seX6_advance mkX5_31 rfl rfl rfl rfl rfl (by decide) rfl rfl dX5_readAct_95 (CX6_advance E w19  h18) (fun _ h20 => kqU ?_)
        refine S_aload_0 98 dX5_readAct_98 ?_
        refine S_aload_1 99 dX5_readAct_99 ?_
        refine S_getR 100 fsX5_177 rfl dX5_readAct_100 (fun w21 => ?_)
        refine S_iload_2 103 dX5_readAct_103 ?_
        refine S_bip 104 8 dX5_readAct_104 (by decide) ?_
        refine S_imul 106 dX5_readAct_106 ?_
        refine S_aload_1 107 dX5_readAct_107 ?_
        refine S_getR 108 fsX5_180 rfl dX5_readAct_108 (fun w22 => ?_)
        refine S_aload_1 111 dX5_readAct_111 ?_
        refine S_getR 112 fsX5_180 rfl dX5_readAct_112 (fun w23 => ?_)
        refine S_callV (a' := 0) (b' := 0) (a := 0) (b := 0) 115 (As := [.ref w21, .int (v15 * 8), .ref w22, .ref w23]) (ci := 5) rfl calX5_readElements imX5_readElements seX5_readElements mkX5_159 rfl rfl rfl rfl rfl (by decide) rfl rfl dX5_readAct_115 (CX5_readElements E t w21 (v15 * 8) w22 w23 h20) (fun v24 h25 => kqI ?_)
        exact S_zret 118 dX5_readAct_118 rfl
      · skip
        refine S_aload_0 73 dX5_readAct_73 ?_
        refine S_ic 74 3 dX5_readAct_74 (by decide) ?_
        refine S_callV (a' := 0) (b' := 0) (a := 0) (b := 0) 75 (As := [.int 3]) (ci := 5) rfl calX5_refuse imX5_refuse seX5_refuse mkX5_40 rfl rfl rfl rfl rfl (by decide) rfl rfl dX5_readAct_75 (CX5_refuse E t 3 h17) (fun v26 h27 => kqI ?_)
        exact S_zret 78 dX5_readAct_78 rfl
    · skip
      refine S_ic 52 0 dX5_readAct_52 (by decide) ?_
      exact S_zret 53 dX5_readAct_53 rfl
  · skip
    refine S_ic 21 0 dX5_readAct_21 (by decide) ?_
    exact S_zret 22 dX5_readAct_22 rfl
def FX5_readArrow (E : XG) (t : Nat) (h : XH) : XP Int32 := xg (xk h t = 6) <| xnn (xr h t 1) fun w1 => xg (xk h w1 = 8) <| xnn (xr h w1 2) fun w2 => xg (xk h t = 6) <| xb (FX5_readNewName E t w2 h) fun v3 h4 => xjn (fun  (h5 : XH) => xg ((0 : Int32) = 0 ∨ (0 : Int32) = 1) <| xv 0 h5) fun (j30 : XH → XP Int32) => if (v3 : Int32) = 0 then (j30 h4) else (xg (xk h4 t = 6) <| xnn (xr h4 t 1) fun w6 => xg (xk h4 w6 = 8) <| xnn (xr h4 w6 1) fun w7 => xg (xk h4 t = 6) <| xb (FX5_isKnown E t w7 h4) fun v8 h9 => if (v8 : Int32) = 0 then (j30 h9) else (xg (xk h9 t = 6) <| xb (FX5_moduleTold E t  h9) fun v10 h11 => xg (xk h11 t = 6) <| xnn (xr h11 t 0) fun w12 => xg (xk h11 w12 = 7) <| xb (FX6_advance E w12  h11) fun _ h13 => xg (xk h13 t = 6) <| xnn (xr h13 t 1) fun w14 => xg (xk h13 w14 = 8) <| xnn (xr h13 w14 1) fun w15 => xg (xk h13 t = 6) <| xb (FX5_isKnown E t w15 h13) fun v16 h17 => if (v16 : Int32) = 0 then (xg ((0 : Int32) = 0 ∨ (0 : Int32) = 1) <| xv 0 h17) else (xg (xk h17 t = 6) <| xb (FX5_moduleTold E t  h17) fun v18 h19 => xg (xk h19 t = 6) <| xnn (xr h19 t 0) fun w20 => xg (xk h19 w20 = 7) <| xb (FX6_advance E w20  h19) fun _ h21 => xg (xk h21 t = 6) <| xnn (xr h21 t 1) fun w22 => xg (xk h21 w22 = 8) <| xnn (xr h21 w22 5) fun w23 => xg (xk h21 w2 = 4) <| xg (xk h21 w23 = 15 ∧ xin (xi h21 w2 2) (xn h21 w23)) <| xnn (xr h21 w23 ((xi h21 w2 2) : Int32).toNatClampNeg) fun w24 => xg (xk h21 w24 = 1) <| xlt (yr h21 w24 0 (some v10)) fun h25 => xg (xk h25 w24 = 1) <| xlt (yr h25 w24 1 (some v18)) fun h26 => xg (xk h26 w24 = 1) <| xnn (xr h26 w24 2) fun w27 => xg (xk h26 v10 = 2) <| xnn (xr h26 v10 1) fun w28 => xg (xk h26 v18 = 2) <| xnn (xr h26 v18 1) fun w29 => xg (xk h26 t = 6) <| xb (FX5_readElements E t w27 0 w28 w29 h26) fun v30 h31 => xjn (fun  (h32 : XH) => xg ((0 : Int32) = 0 ∨ (0 : Int32) = 1) <| xv 0 h32) fun (j140 : XH → XP Int32) => if (v30 : Int32) = 0 then (j140 h31) else (xg (xk h31 w24 = 1) <| xnn (xr h31 w24 3) fun w33 => xg (xk h31 v10 = 2) <| xnn (xr h31 v10 2) fun w34 => xg (xk h31 v18 = 2) <| xnn (xr h31 v18 2) fun w35 => xg (xk h31 t = 6) <| xb (FX5_readElements E t w33 0 w34 w35 h31) fun v36 h37 => if (v36 : Int32) = 0 then (j140 h37) else (xg (xk h37 w2 = 4) <| xg (xk h37 w2 = 4) <| xlt (yi h37 w2 2 ((xi h37 w2 2) + 1)) fun h38 => xg ((1 : Int32) = 0 ∨ (1 : Int32) = 1) <| xv 1 h38)))))
theorem CX5_readArrow (E : XG) (t : Nat) (h : XH) : XN E mX5_readArrow eI 0 0 [.ref t] h (FX5_readArrow E t h) := by
  unfold FX5_readArrow
  refine S_enter (L := [some (.ref t), none, none, none, none]) (by decide +kernel) rfl rfl rfl ?_
  refine S_aload_0 0 dX5_readArrow_0 ?_
  refine S_getR 1 fsX5_19 rfl dX5_readArrow_1 (fun w1 => ?_)
  refine S_getR 4 fsX5_183 rfl dX5_readArrow_4 (fun w2 => ?_)
  refine S_astore_1 7 dX5_readArrow_7 rfl ?_
  refine S_aload_0 8 dX5_readArrow_8 ?_
  refine S_aload_1 9 dX5_readArrow_9 ?_
  refine S_callV (a' := 0) (b' := 0) (a := 0) (b := 0) 10 (As := [.ref w2]) (ci := 5) rfl calX5_readNewName imX5_readNewName seX5_readNewName mkX5_77 rfl rfl rfl rfl rfl (by decide) rfl rfl dX5_readArrow_10 (CX5_readNewName E t w2 h) (fun v3 h4 => kqI ?_)
  refine S_join (fun jj => ∀  (h5 : XH), XS E mX5_readArrow eI 0 0 30 [none, none, none, none, none] [] h5 (jj  h5)) (fun  h5 => ?_) (fun j30 hj30 => ?_)
  · skip
    refine S_ic 30 0 dX5_readArrow_30 (by decide) ?_
    exact S_zret 31 dX5_readArrow_31 rfl
  refine S_ifeq 13 30 dX5_readArrow_13 (by decide) ?_ ?_
  · skip
    exact S_drop [0, 1] rfl (hj30 _)
  · skip
    refine S_aload_0 16 dX5_readArrow_16 ?_
    refine S_aload_0 17 dX5_readArrow_17 ?_
    refine S_getR 18 fsX5_19 rfl dX5_readArrow_18 (fun w6 => ?_)
    refine S_getR 21 fsX5_144 rfl dX5_readArrow_21 (fun w7 => ?_)
    refine S_callV (a' := 0) (b' := 0) (a := 0) (b := 0) 24 (As := [.ref w7]) (ci := 5) rfl calX5_isKnown imX5_isKnown seX5_isKnown mkX5_130 rfl rfl rfl rfl rfl (by decide) rfl rfl dX5_readArrow_24 (CX5_isKnown E t w7 h4) (fun v8 h9 => kqI ?_)
    refine S_ifne 27 32 dX5_readArrow_27 (by decide) ?_ ?_
    · skip
      refine S_aload_0 32 dX5_readArrow_32 ?_
      refine S_callV (a' := 0) (b' := 0) (a := 0) (b := 0) 33 (As := []) (ci := 5) rfl calX5_moduleTold imX5_moduleTold seX5_moduleTold mkX5_163 rfl rfl rfl rfl rfl (by decide) rfl rfl dX5_readArrow_33 (CX5_moduleTold E t  h9) (fun v10 h11 => kqR ?_)
      refine S_astore_2 36 dX5_readArrow_36 rfl ?_
      refine S_aload_0 37 dX5_readArrow_37 ?_
      refine S_getR 38 fsX5_15 rfl dX5_readArrow_38 (fun w12 => ?_)
      refine S_callV (a' := 0) (b' := 0) (a := 0) (b := 0) 41 (As := []) (ci := 6) rfl calX6_advance imX6_advance seX6_advance mkX5_31 rfl rfl rfl rfl rfl (by decide) rfl rfl dX5_readArrow_41 (CX6_advance E w12  h11) (fun _ h13 => kqU ?_)
      refine S_aload_0 44 dX5_readArrow_44 ?_
      refine S_aload_0 45 dX5_readArrow_45 ?_
      refine S_getR 46 fsX5_19 rfl dX5_readArrow_46 (fun w14 => ?_)
      refine S_getR 49 fsX5_144 rfl dX5_readArrow_49 (fun w15 => ?_)
      refine S_callV (a' := 0) (b' := 0) (a := 0) (b := 0) 52 (As := [.ref w15]) (ci := 5) rfl calX5_isKnown imX5_isKnown seX5_isKnown mkX5_130 rfl rfl rfl rfl rfl (by decide) rfl rfl dX5_readArrow_52 (CX5_isKnown E t w15 h13) (fun v16 h17 => kqI ?_)
      refine S_ifne 55 60 dX5_readArrow_55 (by decide) ?_ ?_
      · skip
        refine S_aload_0 60 dX5_readArrow_60 ?_
        refine S_callV (a' := 0) (b' := 0) (a := 0) (b := 0) 61 (As := []) (ci := 5) rfl calX5_moduleTold imX5_moduleTold seX5_moduleTold mkX5_163 rfl rfl rfl rfl rfl (by decide) rfl rfl dX5_readArrow_61 (CX5_moduleTold E t  h17) (fun v18 h19 => kqR ?_)
        refine S_astore_3 64 dX5_readArrow_64 rfl ?_
        refine S_aload_0 65 dX5_readArrow_65 ?_
        refine S_getR 66 fsX5_15 rfl dX5_readArrow_66 (fun w20 => ?_)
        refine S_callV (a' := 0) (b' := 0) (a := 0) (b := 0) 69 (As := []) (ci := 6) rfl calX6_advance imX6_advance seX6_advance mkX5_31 rfl rfl rfl rfl rfl (by decide) rfl rfl dX5_readArrow_69 (CX6_advance E w20  h19) (fun _ h21 => kqU ?_)
        refine S_aload_0 72 dX5_readArrow_72 ?_
        refine S_getR 73 fsX5_19 rfl dX5_readArrow_73 (fun w22 => ?_)
        refine S_getR 76 fsX5_186 rfl dX5_readArrow_76 (fun w23 => ?_)
        refine S_aload_1 79 dX5_readArrow_79 ?_
        refine S_getI 80 fsX5_85 rfl dX5_readArrow_80 ?_
        refine S_aald 83 15 4 (by decide) rfl rfl dX5_readArrow_83 (fun w24 => ?_)
        refine S_astore_4 84 dX5_readArrow_84 rfl ?_
        refine S_aload_4 86 dX5_readArrow_86 ?_
        refine S_aload_2 88 dX5_readArrow_88 ?_
        refine S_putR 89 frX5_190 rfl rfl (fun q => by cases q) dX5_readArrow_89 (fun h25 => ?_)
        refine S_aload_4 92 dX5_readArrow_92 ?_
        refine S_aload_3 94 dX5_readArrow_94 ?_
        refine S_putR 95 frX5_196 rfl rfl (fun q => by cases q) dX5_readArrow_95 (fun h26 => ?_)
        refine S_aload_0 98 dX5_readArrow_98 ?_
        refine S_aload_4 99 dX5_readArrow_99 ?_
        refine S_getR 101 fsX5_199 rfl dX5_readArrow_101 (fun w27 => ?_)
        refine S_ic 104 0 dX5_readArrow_104 (by decide) ?_
        refine S_aload_2 105 dX5_readArrow_105 ?_
        refine S_getR 106 fsX5_180 rfl dX5_readArrow_106 (fun w28 => ?_)
        refine S_aload_3 109 dX5_readArrow_109 ?_
        refine S_getR 110 fsX5_180 rfl dX5_readArrow_110 (fun w29 => ?_)
        refine S_callV (a' := 0) (b' := 0) (a := 0) (b := 0) 113 (As := [.ref w27, .int 0, .ref w28, .ref w29]) (ci := 5) rfl calX5_readElements imX5_readElements seX5_readElements mkX5_159 rfl rfl rfl rfl rfl (by decide) rfl rfl dX5_readArrow_113 (CX5_readElements E t w27 0 w28 w29 h26) (fun v30 h31 => kqI ?_)
        refine S_join (fun jj => ∀  (h32 : XH), XS E mX5_readArrow eI 0 0 140 [none, none, none, none, none] [] h32 (jj  h32)) (fun  h32 => ?_) (fun j140 hj140 => ?_)
        · skip
          refine S_ic 140 0 dX5_readArrow_140 (by decide) ?_
          exact S_zret 141 dX5_readArrow_141 rfl
        refine S_ifeq 116 140 dX5_readArrow_116 (by decide) ?_ ?_
        · skip
          exact S_drop [0, 1, 2, 3, 4] rfl (hj140 _)
        · skip
          refine S_aload_0 119 dX5_readArrow_119 ?_
          refine S_aload_4 120 dX5_readArrow_120 ?_
          refine S_getR 122 fsX5_202 rfl dX5_readArrow_122 (fun w33 => ?_)
          refine S_ic 125 0 dX5_readArrow_125 (by decide) ?_
          refine S_aload_2 126 dX5_readArrow_126 ?_
          refine S_getR 127 fsX5_167 rfl dX5_readArrow_127 (fun w34 => ?_)
          refine S_aload_3 130 dX5_readArrow_130 ?_
          refine S_getR 131 fsX5_167 rfl dX5_readArrow_131 (fun w35 => ?_)
          refine S_callV (a' := 0) (b' := 0) (a := 0) (b := 0) 134 (As := [.ref w33, .int 0, .ref w34, .ref w35]) (ci := 5) rfl calX5_readElements imX5_readElements seX5_readElements mkX5_159 rfl rfl rfl rfl rfl (by decide) rfl rfl dX5_readArrow_134 (CX5_readElements E t w33 0 w34 w35 h31) (fun v36 h37 => kqI ?_)
          refine S_ifne 137 142 dX5_readArrow_137 (by decide) ?_ ?_
          · skip
            refine S_aload_1 142 dX5_readArrow_142 ?_
            refine S_dup 143 dX5_readArrow_143 rfl ?_
            refine S_getI 144 fsX5_85 rfl dX5_readArrow_144 ?_
            refine S_ic 147 1 dX5_readArrow_147 (by decide) ?_
            refine S_iadd 148 dX5_readArrow_148 ?_
            refine S_putI 149 frX5_85 rfl (fun q => by cases q) dX5_readArrow_149 (fun h38 => ?_)
            refine S_ic 152 1 dX5_readArrow_152 (by decide) ?_
            exact S_zret 153 dX5_readArrow_153 rfl
          · skip
            exact S_drop [0, 1, 2, 3, 4] rfl (hj140 _)
      · skip
        refine S_ic 58 0 dX5_readArrow_58 (by decide) ?_
        exact S_zret 59 dX5_readArrow_59 rfl
    · skip
      exact S_drop [0, 1] rfl (hj30 _)
def FX5_readLine (E : XG) (t : Nat) (h : XH) : XP Int32 := xg (xk h t = 6) <| xnn (xr h t 0) fun w1 => xg (xk h w1 = 7) <| xb (FX6_spells E w1 2 h) fun v2 h3 => if (v2 : Int32) = 0 then (xg (xk h3 t = 6) <| xnn (xr h3 t 0) fun w4 => xg (xk h3 w4 = 7) <| xb (FX6_spells E w4 7 h3) fun v5 h6 => if (v5 : Int32) = 0 then (xg (xk h6 t = 6) <| xnn (xr h6 t 0) fun w7 => xg (xk h6 w7 = 7) <| xb (FX6_spells E w7 8 h6) fun v8 h9 => if (v8 : Int32) = 0 then (xg (xk h9 t = 6) <| xnn (xr h9 t 0) fun w10 => xg (xk h9 w10 = 7) <| xb (FX6_spells E w10 9 h9) fun v11 h12 => xjn (fun (v13 : Int32) (h14 : XH) => xg ((v13 : Int32) = 0 ∨ (v13 : Int32) = 1) <| xv v13 h14) fun (j75 : Int32 → XH → XP Int32) => if (v11 : Int32) = 0 then (xg (xk h12 t = 6) <| xb (FX5_refuse E t 1 h12) fun v15 h16 => j75 v15 h16) else (xg (xk h12 t = 6) <| xb (FX5_readArrow E t  h12) fun v17 h18 => j75 v17 h18)) else (xg (xk h9 t = 6) <| xb (FX5_readAct E t  h9) fun v19 h20 => xg ((v19 : Int32) = 0 ∨ (v19 : Int32) = 1) <| xv v19 h20)) else (xg (xk h6 t = 6) <| xb (FX5_readModule E t  h6) fun v21 h22 => xg ((v21 : Int32) = 0 ∨ (v21 : Int32) = 1) <| xv v21 h22)) else (xg (xk h3 t = 6) <| xb (FX5_readGroup E t  h3) fun v23 h24 => xg ((v23 : Int32) = 0 ∨ (v23 : Int32) = 1) <| xv v23 h24)
theorem CX5_readLine (E : XG) (t : Nat) (h : XH) : XN E mX5_readLine eI 0 0 [.ref t] h (FX5_readLine E t h) := by
  unfold FX5_readLine
  refine S_enter (L := [some (.ref t)]) (by decide +kernel) rfl rfl rfl ?_
  refine S_aload_0 0 dX5_readLine_0 ?_
  refine S_getR 1 fsX5_15 rfl dX5_readLine_1 (fun w1 => ?_)
  refine S_ldcS 4 2 (by decide) rfl rfl dX5_readLine_4 ?_
  refine S_callV (a' := 0) (b' := 0) (a := 0) (b := 0) 6 (As := [.ref (eK E 2)]) (ci := 6) rfl calX6_spells imX6_spells seX6_spells mkX5_36 rfl rfl rfl rfl rfl (by decide) rfl rfl dX5_readLine_6 (CX6_spells E w1 2 h) (fun v2 h3 => kqI ?_)
  refine S_ifeq 9 17 dX5_readLine_9 (by decide) ?_ ?_
  · skip
    refine S_aload_0 17 dX5_readLine_17 ?_
    refine S_getR 18 fsX5_15 rfl dX5_readLine_18 (fun w4 => ?_)
    refine S_ldcS 21 7 (by decide) rfl rfl dX5_readLine_21 ?_
    refine S_callV (a' := 0) (b' := 0) (a := 0) (b := 0) 23 (As := [.ref (eK E 7)]) (ci := 6) rfl calX6_spells imX6_spells seX6_spells mkX5_36 rfl rfl rfl rfl rfl (by decide) rfl rfl dX5_readLine_23 (CX6_spells E w4 7 h3) (fun v5 h6 => kqI ?_)
    refine S_ifeq 26 34 dX5_readLine_26 (by decide) ?_ ?_
    · skip
      refine S_aload_0 34 dX5_readLine_34 ?_
      refine S_getR 35 fsX5_15 rfl dX5_readLine_35 (fun w7 => ?_)
      refine S_ldcS 38 8 (by decide) rfl rfl dX5_readLine_38 ?_
      refine S_callV (a' := 0) (b' := 0) (a := 0) (b := 0) 40 (As := [.ref (eK E 8)]) (ci := 6) rfl calX6_spells imX6_spells seX6_spells mkX5_36 rfl rfl rfl rfl rfl (by decide) rfl rfl dX5_readLine_40 (CX6_spells E w7 8 h6) (fun v8 h9 => kqI ?_)
      refine S_ifeq 43 51 dX5_readLine_43 (by decide) ?_ ?_
      · skip
        refine S_aload_0 51 dX5_readLine_51 ?_
        refine S_getR 52 fsX5_15 rfl dX5_readLine_52 (fun w10 => ?_)
        refine S_ldcS 55 9 (by decide) rfl rfl dX5_readLine_55 ?_
        refine S_callV (a' := 0) (b' := 0) (a := 0) (b := 0) 57 (As := [.ref (eK E 9)]) (ci := 6) rfl calX6_spells imX6_spells seX6_spells mkX5_36 rfl rfl rfl rfl rfl (by decide) rfl rfl dX5_readLine_57 (CX6_spells E w10 9 h9) (fun v11 h12 => kqI ?_)
        refine S_join (fun jj => ∀ (v13 : Int32) (h14 : XH), XS E mX5_readLine eI 0 0 75 [none] [.int v13] h14 (jj v13 h14)) (fun v13 h14 => ?_) (fun j75 hj75 => ?_)
        · skip
          exact S_zret 75 dX5_readLine_75 rfl
        refine S_ifeq 60 70 dX5_readLine_60 (by decide) ?_ ?_
        · skip
          refine S_aload_0 70 dX5_readLine_70 ?_
          refine S_ic 71 1 dX5_readLine_71 (by decide) ?_
          refine S_callV (a' := 0) (b' := 0) (a := 0) (b := 0) 72 (As := [.int 1]) (ci := 5) rfl calX5_refuse imX5_refuse seX5_refuse mkX5_40 rfl rfl rfl rfl rfl (by decide) rfl rfl dX5_readLine_72 (CX5_refuse E t 1 h12) (fun v15 h16 => kqI ?_)
          exact S_drop [0] rfl (hj75 _ _)
        · skip
          refine S_aload_0 63 dX5_readLine_63 ?_
          refine S_callV (a' := 0) (b' := 0) (a := 0) (b := 0) 64 (As := []) (ci := 5) rfl calX5_readArrow imX5_readArrow seX5_readArrow mkX5_68 rfl rfl rfl rfl rfl (by decide) rfl rfl dX5_readLine_64 (CX5_readArrow E t  h12) (fun v17 h18 => kqI ?_)
          refine S_goto 67 75 dX5_readLine_67 (by decide) ?_
          exact S_drop [0] rfl (hj75 _ _)
      · skip
        refine S_aload_0 46 dX5_readLine_46 ?_
        refine S_callV (a' := 0) (b' := 0) (a := 0) (b := 0) 47 (As := []) (ci := 5) rfl calX5_readAct imX5_readAct seX5_readAct mkX5_63 rfl rfl rfl rfl rfl (by decide) rfl rfl dX5_readLine_47 (CX5_readAct E t  h9) (fun v19 h20 => kqI ?_)
        exact S_zret 50 dX5_readLine_50 rfl
    · skip
      refine S_aload_0 29 dX5_readLine_29 ?_
      refine S_callV (a' := 0) (b' := 0) (a := 0) (b := 0) 30 (As := []) (ci := 5) rfl calX5_readModule imX5_readModule seX5_readModule mkX5_58 rfl rfl rfl rfl rfl (by decide) rfl rfl dX5_readLine_30 (CX5_readModule E t  h6) (fun v21 h22 => kqI ?_)
      exact S_zret 33 dX5_readLine_33 rfl
  · skip
    refine S_aload_0 12 dX5_readLine_12 ?_
    refine S_callV (a' := 0) (b' := 0) (a := 0) (b := 0) 13 (As := []) (ci := 5) rfl calX5_readGroup imX5_readGroup seX5_readGroup mkX5_53 rfl rfl rfl rfl rfl (by decide) rfl rfl dX5_readLine_13 (CX5_readGroup E t  h3) (fun v23 h24 => kqI ?_)
    exact S_zret 16 dX5_readLine_16 rfl
def FX5_readText (E : XG) (t : Nat) (h : XH) : XP Int32 := xg (xk h t = 6) <| xnn (xr h t 0) fun w1 => xg (xk h w1 = 7) <| xb (FX6_advance E w1  h) fun _ h2 => xg (xk h2 t = 6) <| xnn (xr h2 t 0) fun w3 => xg (xk h2 w3 = 7) <| xb (FX6_spells E w3 1 h2) fun v4 h5 => if (v4 : Int32) = 0 then (xg (xk h5 t = 6) <| xb (FX5_refuse E t 1 h5) fun v21 h22 => xg ((v21 : Int32) = 0 ∨ (v21 : Int32) = 1) <| xv v21 h22) else (xg (xk h5 t = 6) <| xnn (xr h5 t 0) fun w6 => xg (xk h5 w6 = 7) <| xb (FX6_advance E w6  h5) fun _ h7 => xlp (fun again34 (s34 : Int32) h8 => xjn (fun  (h9 : XH) => xg (xk h9 t = 6) <| xnn (xr h9 t 0) fun w10 => xg (xk h9 w10 = 7) <| xjn (fun (v11 : Int32) (h12 : XH) => xg ((v11 : Int32) = 0 ∨ (v11 : Int32) = 1) <| xv v11 h12) fun (j97 : Int32 → XH → XP Int32) => xjn (fun  (h13 : XH) => j97 1 h13) fun (j92 : XH → XP Int32) => if ((xi h9 w10 4) : Int32) = 0 then (j92 h9) else (xg (xk h9 t = 6) <| xb (FX5_refuse E t 1 h9) fun v14 h15 => if (v14 : Int32) = 0 then (j97 0 h15) else (j92 h15))) fun (j74 : XH → XP Int32) => if (900 : Int32) ≤ s34 then (j74 h8) else (xg (xk h8 t = 6) <| xnn (xr h8 t 0) fun w16 => xg (xk h8 w16 = 7) <| if ((xi h8 w16 4) : Int32) = 3 then (xg (xk h8 t = 6) <| xnn (xr h8 t 0) fun w17 => xg (xk h8 w17 = 7) <| xb (FX6_advance E w17  h8) fun _ h18 => xg (xk h18 t = 6) <| xb (FX5_readLine E t  h18) fun v19 h20 => if (v19 : Int32) = 0 then (xg ((0 : Int32) = 0 ∨ (0 : Int32) = 1) <| xv 0 h20) else (again34 (s34 + 1) h20)) else (j74 h8))) xfu 0 h7)
theorem CX5_readText (E : XG) (t : Nat) (h : XH) : XN E mX5_readText eI 0 0 [.ref t] h (FX5_readText E t h) := by
  unfold FX5_readText
  refine S_enter (L := [some (.ref t), none]) (by decide +kernel) rfl rfl rfl ?_
  refine S_aload_0 0 dX5_readText_0 ?_
  refine S_getR 1 fsX5_15 rfl dX5_readText_1 (fun w1 => ?_)
  refine S_callV (a' := 0) (b' := 0) (a := 0) (b := 0) 4 (As := []) (ci := 6) rfl calX6_advance imX6_advance seX6_advance mkX5_31 rfl rfl rfl rfl rfl (by decide) rfl rfl dX5_readText_4 (CX6_advance E w1  h) (fun _ h2 => kqU ?_)
  refine S_aload_0 7 dX5_readText_7 ?_
  refine S_getR 8 fsX5_15 rfl dX5_readText_8 (fun w3 => ?_)
  refine S_ldcS 11 1 (by decide) rfl rfl dX5_readText_11 ?_
  refine S_callV (a' := 0) (b' := 0) (a := 0) (b := 0) 13 (As := [.ref (eK E 1)]) (ci := 6) rfl calX6_spells imX6_spells seX6_spells mkX5_36 rfl rfl rfl rfl rfl (by decide) rfl rfl dX5_readText_13 (CX6_spells E w3 1 h2) (fun v4 h5 => kqI ?_)
  refine S_ifne 16 25 dX5_readText_16 (by decide) ?_ ?_
  · skip
    refine S_aload_0 25 dX5_readText_25 ?_
    refine S_getR 26 fsX5_15 rfl dX5_readText_26 (fun w6 => ?_)
    refine S_callV (a' := 0) (b' := 0) (a := 0) (b := 0) 29 (As := []) (ci := 6) rfl calX6_advance imX6_advance seX6_advance mkX5_31 rfl rfl rfl rfl rfl (by decide) rfl rfl dX5_readText_29 (CX6_advance E w6  h5) (fun _ h7 => kqU ?_)
    refine S_ic 32 0 dX5_readText_32 (by decide) ?_
    refine S_istore_1 33 dX5_readText_33 rfl ?_
    refine S_loop (fun (s34 : Int32) => [some (.ref t), some (.int s34)]) (fun again34 hg34 s34 h8 => ?_) xfu _ _
    refine S_iload_1 34 dX5_readText_34 ?_
    refine S_sip 35 900 dX5_readText_35 (by decide) ?_
    refine S_join (fun jj => ∀  (h9 : XH), XS E mX5_readText eI 0 0 74 [some (.ref t), none] [] h9 (jj  h9)) (fun  h9 => ?_) (fun j74 hj74 => ?_)
    · skip
      refine S_aload_0 74 dX5_readText_74 ?_
      refine S_getR 75 fsX5_15 rfl dX5_readText_75 (fun w10 => ?_)
      refine S_getI 78 fsX5_44 rfl dX5_readText_78 ?_
      refine S_join (fun jj => ∀ (v11 : Int32) (h12 : XH), XS E mX5_readText eI 0 0 97 [none, none] [.int v11] h12 (jj v11 h12)) (fun v11 h12 => ?_) (fun j97 hj97 => ?_)
      · skip
        exact S_zret 97 dX5_readText_97 rfl
      refine S_join (fun jj => ∀  (h13 : XH), XS E mX5_readText eI 0 0 92 [none, none] [] h13 (jj  h13)) (fun  h13 => ?_) (fun j92 hj92 => ?_)
      · skip
        refine S_ic 92 1 dX5_readText_92 (by decide) ?_
        refine S_goto 93 97 dX5_readText_93 (by decide) ?_
        exact S_drop [] rfl (hj97 _ _)
      refine S_ifeq 81 92 dX5_readText_81 (by decide) ?_ ?_
      · skip
        exact S_drop [0] rfl (hj92 _)
      · skip
        refine S_aload_0 84 dX5_readText_84 ?_
        refine S_ic 85 1 dX5_readText_85 (by decide) ?_
        refine S_callV (a' := 0) (b' := 0) (a := 0) (b := 0) 86 (As := [.int 1]) (ci := 5) rfl calX5_refuse imX5_refuse seX5_refuse mkX5_40 rfl rfl rfl rfl rfl (by decide) rfl rfl dX5_readText_86 (CX5_refuse E t 1 h9) (fun v14 h15 => kqI ?_)
        refine S_ifeq 89 96 dX5_readText_89 (by decide) ?_ ?_
        · skip
          refine S_ic 96 0 dX5_readText_96 (by decide) ?_
          exact S_drop [0] rfl (hj97 _ _)
        · skip
          exact S_drop [0] rfl (hj92 _)
    refine S_icmpge 38 74 dX5_readText_38 (by decide) ?_ ?_
    · skip
      exact S_drop [1] rfl (hj74 _)
    · skip
      refine S_aload_0 41 dX5_readText_41 ?_
      refine S_getR 42 fsX5_15 rfl dX5_readText_42 (fun w16 => ?_)
      refine S_getI 45 fsX5_44 rfl dX5_readText_45 ?_
      refine S_ic 48 3 dX5_readText_48 (by decide) ?_
      refine S_icmpne 49 74 dX5_readText_49 (by decide) ?_ ?_
      · skip
        exact S_drop [1] rfl (hj74 _)
      · skip
        refine S_aload_0 52 dX5_readText_52 ?_
        refine S_getR 53 fsX5_15 rfl dX5_readText_53 (fun w17 => ?_)
        refine S_callV (a' := 0) (b' := 0) (a := 0) (b := 0) 56 (As := []) (ci := 6) rfl calX6_advance imX6_advance seX6_advance mkX5_31 rfl rfl rfl rfl rfl (by decide) rfl rfl dX5_readText_56 (CX6_advance E w17  h8) (fun _ h18 => kqU ?_)
        refine S_aload_0 59 dX5_readText_59 ?_
        refine S_callV (a' := 0) (b' := 0) (a := 0) (b := 0) 60 (As := []) (ci := 5) rfl calX5_readLine imX5_readLine seX5_readLine mkX5_47 rfl rfl rfl rfl rfl (by decide) rfl rfl dX5_readText_60 (CX5_readLine E t  h18) (fun v19 h20 => kqI ?_)
        refine S_ifne 63 68 dX5_readText_63 (by decide) ?_ ?_
        · skip
          refine S_iinc_1 68 (s34 + 1) dX5_readText_68 (by rfl) rfl ?_
          refine S_goto 71 34 dX5_readText_71 (by decide) ?_
          exact S_drop [] rfl (hg34 _ _)
        · skip
          refine S_ic 66 0 dX5_readText_66 (by decide) ?_
          exact S_zret 67 dX5_readText_67 rfl
  · skip
    refine S_aload_0 19 dX5_readText_19 ?_
    refine S_ic 20 1 dX5_readText_20 (by decide) ?_
    refine S_callV (a' := 0) (b' := 0) (a := 0) (b := 0) 21 (As := [.int 1]) (ci := 5) rfl calX5_refuse imX5_refuse seX5_refuse mkX5_40 rfl rfl rfl rfl rfl (by decide) rfl rfl dX5_readText_21 (CX5_refuse E t 1 h5) (fun v21 h22 => kqI ?_)
    exact S_zret 24 dX5_readText_24 rfl
def FX6_init (E : XG) (t : Nat) (p1 : Nat) (p2 : Int32) (h : XH) : XP Unit := xg (xk h t = 7) <| xlt (yr h t 0 (some p1)) fun h1 => xg (xk h1 t = 7) <| xlt (yi h1 t 1 p2) fun h2 => xv () h2
theorem CX6_init (E : XG) (t : Nat) (p1 : Nat) (p2 : Int32) (h : XH) : XN E mX6_init eU 0 0 [.ref t, .ref p1, .int p2] h (FX6_init E t p1 p2 h) := by
  unfold FX6_init
  refine S_enter (L := [some (.ref t), some (.ref p1), some (.int p2)]) (by decide +kernel) rfl rfl rfl ?_
  refine S_aload_0 0 dX6_init_0 ?_
  refine S_objinit 1 rfl oiX6_3 oiI oiC (by decide) (by decide) (by exact Nat.le_of_ble_eq_true rfl) dX6_init_1 ?_
  refine S_aload_0 4 dX6_init_4 ?_
  refine S_aload_1 5 dX6_init_5 ?_
  refine S_putR 6 frX6_9 rfl rfl (fun _ => rfl) dX6_init_6 (fun h1 => ?_)
  refine S_aload_0 9 dX6_init_9 ?_
  refine S_iload_2 10 dX6_init_10 ?_
  refine S_putI 11 frX6_15 rfl (fun _ => rfl) dX6_init_11 (fun h2 => ?_)
  exact S_ret 14 dX6_init_14 rfl
def FX7_init (E : XG) (t : Nat) (h : XH) : XP Unit := xg (xk h t ≠ 0) <| xal h 4 0 fun w1 h2 => xb (FX3_init E w1 6 h2) fun _ h3 => xg (xk h3 t = 8) <| xlt (yr h3 t 0 (some w1)) fun h4 => xg (xk h4 t ≠ 0) <| xal h4 4 0 fun w5 h6 => xb (FX3_init E w5 6 h6) fun _ h7 => xg (xk h7 t = 8) <| xlt (yr h7 t 1 (some w5)) fun h8 => xg (xk h8 t ≠ 0) <| xal h8 4 0 fun w9 h10 => xb (FX3_init E w9 8 h10) fun _ h11 => xg (xk h11 t = 8) <| xlt (yr h11 t 2 (some w9)) fun h12 => xg (xk h12 t ≠ 0) <| xal h12 17 6 fun w13 h14 => xg (xk h14 t = 8) <| xlt (yr h14 t 3 (some w13)) fun h15 => xg (xk h15 t ≠ 0) <| xal h15 16 6 fun w16 h17 => xg (xk h17 t = 8) <| xlt (yr h17 t 4 (some w16)) fun h18 => xg (xk h18 t ≠ 0) <| xal h18 15 8 fun w19 h20 => xg (xk h20 t = 8) <| xlt (yr h20 t 5 (some w19)) fun h21 => xg (xk h21 t ≠ 0) <| xal h21 12 3 fun w22 h23 => xg (xk h23 t = 8) <| xlt (yr h23 t 6 (some w22)) fun h24 => xg (xk h24 t = 8) <| xnn (xr h24 t 3) fun w25 => xg (xk h24 t ≠ 0) <| xal h24 3 0 fun w26 h27 => xb (FX2_init E w26 0 h27) fun _ h28 => xg (xk h28 w25 = 17 ∧ xk h28 w26 = 3 ∧ xin 0 (xn h28 w25)) <| xlt (yr h28 w25 (0 : Int32).toNatClampNeg (some w26)) fun h29 => xg (xk h29 t = 8) <| xnn (xr h29 t 3) fun w30 => xg (xk h29 t ≠ 0) <| xal h29 3 0 fun w31 h32 => xb (FX2_init E w31 1 h32) fun _ h33 => xg (xk h33 w30 = 17 ∧ xk h33 w31 = 3 ∧ xin 1 (xn h33 w30)) <| xlt (yr h33 w30 (1 : Int32).toNatClampNeg (some w31)) fun h34 => xg (xk h34 t = 8) <| xnn (xr h34 t 3) fun w35 => xg (xk h34 t ≠ 0) <| xal h34 3 0 fun w36 h37 => xb (FX2_init E w36 2 h37) fun _ h38 => xg (xk h38 w35 = 17 ∧ xk h38 w36 = 3 ∧ xin 2 (xn h38 w35)) <| xlt (yr h38 w35 (2 : Int32).toNatClampNeg (some w36)) fun h39 => xg (xk h39 t = 8) <| xnn (xr h39 t 3) fun w40 => xg (xk h39 t ≠ 0) <| xal h39 3 0 fun w41 h42 => xb (FX2_init E w41 3 h42) fun _ h43 => xg (xk h43 w40 = 17 ∧ xk h43 w41 = 3 ∧ xin 3 (xn h43 w40)) <| xlt (yr h43 w40 (3 : Int32).toNatClampNeg (some w41)) fun h44 => xg (xk h44 t = 8) <| xnn (xr h44 t 3) fun w45 => xg (xk h44 t ≠ 0) <| xal h44 3 0 fun w46 h47 => xb (FX2_init E w46 4 h47) fun _ h48 => xg (xk h48 w45 = 17 ∧ xk h48 w46 = 3 ∧ xin 4 (xn h48 w45)) <| xlt (yr h48 w45 (4 : Int32).toNatClampNeg (some w46)) fun h49 => xg (xk h49 t = 8) <| xnn (xr h49 t 3) fun w50 => xg (xk h49 t ≠ 0) <| xal h49 3 0 fun w51 h52 => xb (FX2_init E w51 5 h52) fun _ h53 => xg (xk h53 w50 = 17 ∧ xk h53 w51 = 3 ∧ xin 5 (xn h53 w50)) <| xlt (yr h53 w50 (5 : Int32).toNatClampNeg (some w51)) fun h54 => xg (xk h54 t = 8) <| xnn (xr h54 t 4) fun w55 => xg (xk h54 t ≠ 0) <| xal h54 2 0 fun w56 h57 => xg (xk h57 t = 8) <| xnn (xr h57 t 3) fun w58 => xg (xk h57 w58 = 17 ∧ xin 0 (xn h57 w58)) <| xnn (xr h57 w58 (0 : Int32).toNatClampNeg) fun w59 => xb (FX1_init E w56 0 w59 h57) fun _ h60 => xg (xk h60 w55 = 16 ∧ xk h60 w56 = 2 ∧ xin 0 (xn h60 w55)) <| xlt (yr h60 w55 (0 : Int32).toNatClampNeg (some w56)) fun h61 => xg (xk h61 t = 8) <| xnn (xr h61 t 4) fun w62 => xg (xk h61 t ≠ 0) <| xal h61 2 0 fun w63 h64 => xg (xk h64 t = 8) <| xnn (xr h64 t 3) fun w65 => xg (xk h64 w65 = 17 ∧ xin 0 (xn h64 w65)) <| xnn (xr h64 w65 (0 : Int32).toNatClampNeg) fun w66 => xb (FX1_init E w63 1 w66 h64) fun _ h67 => xg (xk h67 w62 = 16 ∧ xk h67 w63 = 2 ∧ xin 1 (xn h67 w62)) <| xlt (yr h67 w62 (1 : Int32).toNatClampNeg (some w63)) fun h68 => xg (xk h68 t = 8) <| xnn (xr h68 t 4) fun w69 => xg (xk h68 t ≠ 0) <| xal h68 2 0 fun w70 h71 => xg (xk h71 t = 8) <| xnn (xr h71 t 3) fun w72 => xg (xk h71 w72 = 17 ∧ xin 0 (xn h71 w72)) <| xnn (xr h71 w72 (0 : Int32).toNatClampNeg) fun w73 => xb (FX1_init E w70 2 w73 h71) fun _ h74 => xg (xk h74 w69 = 16 ∧ xk h74 w70 = 2 ∧ xin 2 (xn h74 w69)) <| xlt (yr h74 w69 (2 : Int32).toNatClampNeg (some w70)) fun h75 => xg (xk h75 t = 8) <| xnn (xr h75 t 4) fun w76 => xg (xk h75 t ≠ 0) <| xal h75 2 0 fun w77 h78 => xg (xk h78 t = 8) <| xnn (xr h78 t 3) fun w79 => xg (xk h78 w79 = 17 ∧ xin 0 (xn h78 w79)) <| xnn (xr h78 w79 (0 : Int32).toNatClampNeg) fun w80 => xb (FX1_init E w77 3 w80 h78) fun _ h81 => xg (xk h81 w76 = 16 ∧ xk h81 w77 = 2 ∧ xin 3 (xn h81 w76)) <| xlt (yr h81 w76 (3 : Int32).toNatClampNeg (some w77)) fun h82 => xg (xk h82 t = 8) <| xnn (xr h82 t 4) fun w83 => xg (xk h82 t ≠ 0) <| xal h82 2 0 fun w84 h85 => xg (xk h85 t = 8) <| xnn (xr h85 t 3) fun w86 => xg (xk h85 w86 = 17 ∧ xin 0 (xn h85 w86)) <| xnn (xr h85 w86 (0 : Int32).toNatClampNeg) fun w87 => xb (FX1_init E w84 4 w87 h85) fun _ h88 => xg (xk h88 w83 = 16 ∧ xk h88 w84 = 2 ∧ xin 4 (xn h88 w83)) <| xlt (yr h88 w83 (4 : Int32).toNatClampNeg (some w84)) fun h89 => xg (xk h89 t = 8) <| xnn (xr h89 t 4) fun w90 => xg (xk h89 t ≠ 0) <| xal h89 2 0 fun w91 h92 => xg (xk h92 t = 8) <| xnn (xr h92 t 3) fun w93 => xg (xk h92 w93 = 17 ∧ xin 0 (xn h92 w93)) <| xnn (xr h92 w93 (0 : Int32).toNatClampNeg) fun w94 => xb (FX1_init E w91 5 w94 h92) fun _ h95 => xg (xk h95 w90 = 16 ∧ xk h95 w91 = 2 ∧ xin 5 (xn h95 w90)) <| xlt (yr h95 w90 (5 : Int32).toNatClampNeg (some w91)) fun h96 => xg (xk h96 t = 8) <| xnn (xr h96 t 5) fun w97 => xg (xk h96 t ≠ 0) <| xal h96 1 0 fun w98 h99 => xg (xk h99 t = 8) <| xnn (xr h99 t 4) fun w100 => xg (xk h99 w100 = 16 ∧ xin 0 (xn h99 w100)) <| xnn (xr h99 w100 (0 : Int32).toNatClampNeg) fun w101 => xb (FX0_init E w98 w101 h99) fun _ h102 => xg (xk h102 w97 = 15 ∧ xk h102 w98 = 1 ∧ xin 0 (xn h102 w97)) <| xlt (yr h102 w97 (0 : Int32).toNatClampNeg (some w98)) fun h103 => xg (xk h103 t = 8) <| xnn (xr h103 t 5) fun w104 => xg (xk h103 t ≠ 0) <| xal h103 1 0 fun w105 h106 => xg (xk h106 t = 8) <| xnn (xr h106 t 4) fun w107 => xg (xk h106 w107 = 16 ∧ xin 0 (xn h106 w107)) <| xnn (xr h106 w107 (0 : Int32).toNatClampNeg) fun w108 => xb (FX0_init E w105 w108 h106) fun _ h109 => xg (xk h109 w104 = 15 ∧ xk h109 w105 = 1 ∧ xin 1 (xn h109 w104)) <| xlt (yr h109 w104 (1 : Int32).toNatClampNeg (some w105)) fun h110 => xg (xk h110 t = 8) <| xnn (xr h110 t 5) fun w111 => xg (xk h110 t ≠ 0) <| xal h110 1 0 fun w112 h113 => xg (xk h113 t = 8) <| xnn (xr h113 t 4) fun w114 => xg (xk h113 w114 = 16 ∧ xin 0 (xn h113 w114)) <| xnn (xr h113 w114 (0 : Int32).toNatClampNeg) fun w115 => xb (FX0_init E w112 w115 h113) fun _ h116 => xg (xk h116 w111 = 15 ∧ xk h116 w112 = 1 ∧ xin 2 (xn h116 w111)) <| xlt (yr h116 w111 (2 : Int32).toNatClampNeg (some w112)) fun h117 => xg (xk h117 t = 8) <| xnn (xr h117 t 5) fun w118 => xg (xk h117 t ≠ 0) <| xal h117 1 0 fun w119 h120 => xg (xk h120 t = 8) <| xnn (xr h120 t 4) fun w121 => xg (xk h120 w121 = 16 ∧ xin 0 (xn h120 w121)) <| xnn (xr h120 w121 (0 : Int32).toNatClampNeg) fun w122 => xb (FX0_init E w119 w122 h120) fun _ h123 => xg (xk h123 w118 = 15 ∧ xk h123 w119 = 1 ∧ xin 3 (xn h123 w118)) <| xlt (yr h123 w118 (3 : Int32).toNatClampNeg (some w119)) fun h124 => xg (xk h124 t = 8) <| xnn (xr h124 t 5) fun w125 => xg (xk h124 t ≠ 0) <| xal h124 1 0 fun w126 h127 => xg (xk h127 t = 8) <| xnn (xr h127 t 4) fun w128 => xg (xk h127 w128 = 16 ∧ xin 0 (xn h127 w128)) <| xnn (xr h127 w128 (0 : Int32).toNatClampNeg) fun w129 => xb (FX0_init E w126 w129 h127) fun _ h130 => xg (xk h130 w125 = 15 ∧ xk h130 w126 = 1 ∧ xin 4 (xn h130 w125)) <| xlt (yr h130 w125 (4 : Int32).toNatClampNeg (some w126)) fun h131 => xg (xk h131 t = 8) <| xnn (xr h131 t 5) fun w132 => xg (xk h131 t ≠ 0) <| xal h131 1 0 fun w133 h134 => xg (xk h134 t = 8) <| xnn (xr h134 t 4) fun w135 => xg (xk h134 w135 = 16 ∧ xin 0 (xn h134 w135)) <| xnn (xr h134 w135 (0 : Int32).toNatClampNeg) fun w136 => xb (FX0_init E w133 w136 h134) fun _ h137 => xg (xk h137 w132 = 15 ∧ xk h137 w133 = 1 ∧ xin 5 (xn h137 w132)) <| xlt (yr h137 w132 (5 : Int32).toNatClampNeg (some w133)) fun h138 => xg (xk h138 t = 8) <| xnn (xr h138 t 5) fun w139 => xg (xk h138 t ≠ 0) <| xal h138 1 0 fun w140 h141 => xg (xk h141 t = 8) <| xnn (xr h141 t 4) fun w142 => xg (xk h141 w142 = 16 ∧ xin 0 (xn h141 w142)) <| xnn (xr h141 w142 (0 : Int32).toNatClampNeg) fun w143 => xb (FX0_init E w140 w143 h141) fun _ h144 => xg (xk h144 w139 = 15 ∧ xk h144 w140 = 1 ∧ xin 6 (xn h144 w139)) <| xlt (yr h144 w139 (6 : Int32).toNatClampNeg (some w140)) fun h145 => xg (xk h145 t = 8) <| xnn (xr h145 t 5) fun w146 => xg (xk h145 t ≠ 0) <| xal h145 1 0 fun w147 h148 => xg (xk h148 t = 8) <| xnn (xr h148 t 4) fun w149 => xg (xk h148 w149 = 16 ∧ xin 0 (xn h148 w149)) <| xnn (xr h148 w149 (0 : Int32).toNatClampNeg) fun w150 => xb (FX0_init E w147 w150 h148) fun _ h151 => xg (xk h151 w146 = 15 ∧ xk h151 w147 = 1 ∧ xin 7 (xn h151 w146)) <| xlt (yr h151 w146 (7 : Int32).toNatClampNeg (some w147)) fun h152 => xv () h152
theorem CX7_init (E : XG) (t : Nat) (h : XH) : XN E mX7_init eU 103 1410 [.ref t] h (FX7_init E t h) := by
  unfold FX7_init
  refine S_enter (L := [some (.ref t), none]) (by decide +kernel) rfl rfl rfl ?_
  refine S_aload_0 0 dX7_init_0 ?_
  refine S_objinit 1 rfl oiX7_3 oiI oiC (by decide) (by decide) (by exact Nat.le_of_ble_eq_true rfl) dX7_init_1 ?_
  refine S_aload_0 4 dX7_init_4 ?_
  refine S_new (a := 102) (b := 1407) 5 t (ci := 3) (N := 3) xok3 rfl nwX7_9 inst3 ini3 dv3 dX7_init_5 (fun w1 h2 => ?_)
  refine S_dup 8 dX7_init_8 rfl ?_
  refine S_bip 9 6 dX7_init_9 (by decide) ?_
  refine S_callI (a' := 2) (b' := 16) (a := 100) (b := 1391) 11 (As := [.int 6]) rfl calX3_init rfl rfl imX3_init mkX7_11 rfl rfl rfl rfl rfl dX7_init_11 (CX3_init E w1 6 h2) (fun _ h3 => kqU ?_)
  refine S_putR 14 frX7_14 rfl rfl (fun _ => rfl) dX7_init_14 (fun h4 => ?_)
  refine S_aload_0 17 dX7_init_17 ?_
  refine S_new (a := 99) (b := 1388) 18 t (ci := 3) (N := 3) xok3 rfl nwX7_9 inst3 ini3 dv3 dX7_init_18 (fun w5 h6 => ?_)
  refine S_dup 21 dX7_init_21 rfl ?_
  refine S_bip 22 6 dX7_init_22 (by decide) ?_
  refine S_callI (a' := 2) (b' := 16) (a := 97) (b := 1372) 24 (As := [.int 6]) rfl calX3_init rfl rfl imX3_init mkX7_11 rfl rfl rfl rfl rfl dX7_init_24 (CX3_init E w5 6 h6) (fun _ h7 => kqU ?_)
  refine S_putR 27 frX7_20 rfl rfl (fun _ => rfl) dX7_init_27 (fun h8 => ?_)
  refine S_aload_0 30 dX7_init_30 ?_
  refine S_new (a := 96) (b := 1369) 31 t (ci := 3) (N := 3) xok3 rfl nwX7_9 inst3 ini3 dv3 dX7_init_31 (fun w9 h10 => ?_)
  refine S_dup 34 dX7_init_34 rfl ?_
  refine S_bip 35 8 dX7_init_35 (by decide) ?_
  refine S_callI (a' := 2) (b' := 16) (a := 94) (b := 1353) 37 (As := [.int 8]) rfl calX3_init rfl rfl imX3_init mkX7_11 rfl rfl rfl rfl rfl dX7_init_37 (CX3_init E w9 8 h10) (fun _ h11 => kqU ?_)
  refine S_putR 40 frX7_23 rfl rfl (fun _ => rfl) dX7_init_40 (fun h12 => ?_)
  refine S_aload_0 43 dX7_init_43 ?_
  refine S_bip 44 6 dX7_init_44 (by decide) ?_
  refine S_newq (a := 93) (b := 1347) 46 t 6 17 6 (by decide) rfl (fun U q => q.2.2.2.1.2.2.1) rfl nwX7_26 (by decide) (by decide) (by decide) dX7_init_46 (fun w13 h14 => ?_)
  refine S_putR 49 frX7_28 rfl rfl (fun _ => rfl) dX7_init_49 (fun h15 => ?_)
  refine S_aload_0 52 dX7_init_52 ?_
  refine S_bip 53 6 dX7_init_53 (by decide) ?_
  refine S_newq (a := 92) (b := 1341) 55 t 6 16 5 (by decide) rfl (fun U q => q.2.2.2.1.2.1) rfl nwX7_32 (by decide) (by decide) (by decide) dX7_init_55 (fun w16 h17 => ?_)
  refine S_putR 58 frX7_34 rfl rfl (fun _ => rfl) dX7_init_58 (fun h18 => ?_)
  refine S_aload_0 61 dX7_init_61 ?_
  refine S_bip 62 8 dX7_init_62 (by decide) ?_
  refine S_newq (a := 91) (b := 1333) 64 t 8 15 4 (by decide) rfl (fun U q => q.2.2.2.1.1) rfl nwX7_38 (by decide) (by decide) (by decide) dX7_init_64 (fun w19 h20 => ?_)
  refine S_putR 67 frX7_40 rfl rfl (fun _ => rfl) dX7_init_67 (fun h21 => ?_)
  refine S_aload_0 70 dX7_init_70 ?_
  refine S_ic 71 3 dX7_init_71 (by decide) ?_
  refine S_new_int (a := 90) (b := 1330) 72 t 3 (by decide) (by decide) (by decide) ar12 dX7_init_72 (fun w22 h23 => ?_)
  refine S_putR 74 frX7_44 rfl rfl (fun _ => rfl) dX7_init_74 (fun h24 => ?_)
  refine S_ic 77 0 dX7_init_77 (by decide) ?_
  refine S_istore_1 78 dX7_init_78 rfl ?_
  refine S_iload_1 79 dX7_init_79 ?_
  refine S_bip 80 6 dX7_init_80 (by decide) ?_
  refine S_icmpge_f 82 105 dX7_init_82 (by decide) (by decide) ?_
  refine S_aload_0 85 dX7_init_85 ?_
  refine S_getR 86 fsX7_28 rfl dX7_init_86 (fun w25 => ?_)
  refine S_iload_1 89 dX7_init_89 ?_
  refine S_new (a := 89) (b := 1326) 90 t (ci := 2) (N := 4) xok2 rfl nwX7_26 inst2 ini2 dv2 dX7_init_90 (fun w26 h27 => ?_)
  refine S_dup 93 dX7_init_93 rfl ?_
  refine S_iload_1 94 dX7_init_94 ?_
  refine S_callI (a' := 2) (b' := 72) (a := 87) (b := 1254) 95 (As := [.int 0]) rfl calX2_init rfl rfl imX2_init mkX7_48 rfl rfl rfl rfl rfl dX7_init_95 (CX2_init E w26 0 h27) (fun _ h28 => kqU ?_)
  refine S_aast 98 17 6 2 (by decide) rfl rfl (by decide) dX7_init_98 (fun h29 => ?_)
  refine S_iinc_1 99 1 dX7_init_99 (by decide) rfl ?_
  refine S_goto 102 79 dX7_init_102 (by decide) ?_
  refine S_iload_1 79 dX7_init_79 ?_
  refine S_bip 80 6 dX7_init_80 (by decide) ?_
  refine S_icmpge_f 82 105 dX7_init_82 (by decide) (by decide) ?_
  refine S_aload_0 85 dX7_init_85 ?_
  refine S_getR 86 fsX7_28 rfl dX7_init_86 (fun w30 => ?_)
  refine S_iload_1 89 dX7_init_89 ?_
  refine S_new (a := 86) (b := 1250) 90 t (ci := 2) (N := 4) xok2 rfl nwX7_26 inst2 ini2 dv2 dX7_init_90 (fun w31 h32 => ?_)
  refine S_dup 93 dX7_init_93 rfl ?_
  refine S_iload_1 94 dX7_init_94 ?_
  refine S_callI (a' := 2) (b' := 72) (a := 84) (b := 1178) 95 (As := [.int 1]) rfl calX2_init rfl rfl imX2_init mkX7_48 rfl rfl rfl rfl rfl dX7_init_95 (CX2_init E w31 1 h32) (fun _ h33 => kqU ?_)
  refine S_aast 98 17 6 2 (by decide) rfl rfl (by decide) dX7_init_98 (fun h34 => ?_)
  refine S_iinc_1 99 2 dX7_init_99 (by decide) rfl ?_
  refine S_goto 102 79 dX7_init_102 (by decide) ?_
  refine S_iload_1 79 dX7_init_79 ?_
  refine S_bip 80 6 dX7_init_80 (by decide) ?_
  refine S_icmpge_f 82 105 dX7_init_82 (by decide) (by decide) ?_
  refine S_aload_0 85 dX7_init_85 ?_
  refine S_getR 86 fsX7_28 rfl dX7_init_86 (fun w35 => ?_)
  refine S_iload_1 89 dX7_init_89 ?_
  refine S_new (a := 83) (b := 1174) 90 t (ci := 2) (N := 4) xok2 rfl nwX7_26 inst2 ini2 dv2 dX7_init_90 (fun w36 h37 => ?_)
  refine S_dup 93 dX7_init_93 rfl ?_
  refine S_iload_1 94 dX7_init_94 ?_
  refine S_callI (a' := 2) (b' := 72) (a := 81) (b := 1102) 95 (As := [.int 2]) rfl calX2_init rfl rfl imX2_init mkX7_48 rfl rfl rfl rfl rfl dX7_init_95 (CX2_init E w36 2 h37) (fun _ h38 => kqU ?_)
  refine S_aast 98 17 6 2 (by decide) rfl rfl (by decide) dX7_init_98 (fun h39 => ?_)
  refine S_iinc_1 99 3 dX7_init_99 (by decide) rfl ?_
  refine S_goto 102 79 dX7_init_102 (by decide) ?_
  refine S_iload_1 79 dX7_init_79 ?_
  refine S_bip 80 6 dX7_init_80 (by decide) ?_
  refine S_icmpge_f 82 105 dX7_init_82 (by decide) (by decide) ?_
  refine S_aload_0 85 dX7_init_85 ?_
  refine S_getR 86 fsX7_28 rfl dX7_init_86 (fun w40 => ?_)
  refine S_iload_1 89 dX7_init_89 ?_
  refine S_new (a := 80) (b := 1098) 90 t (ci := 2) (N := 4) xok2 rfl nwX7_26 inst2 ini2 dv2 dX7_init_90 (fun w41 h42 => ?_)
  refine S_dup 93 dX7_init_93 rfl ?_
  refine S_iload_1 94 dX7_init_94 ?_
  refine S_callI (a' := 2) (b' := 72) (a := 78) (b := 1026) 95 (As := [.int 3]) rfl calX2_init rfl rfl imX2_init mkX7_48 rfl rfl rfl rfl rfl dX7_init_95 (CX2_init E w41 3 h42) (fun _ h43 => kqU ?_)
  refine S_aast 98 17 6 2 (by decide) rfl rfl (by decide) dX7_init_98 (fun h44 => ?_)
  refine S_iinc_1 99 4 dX7_init_99 (by decide) rfl ?_
  refine S_goto 102 79 dX7_init_102 (by decide) ?_
  refine S_iload_1 79 dX7_init_79 ?_
  refine S_bip 80 6 dX7_init_80 (by decide) ?_
  refine S_icmpge_f 82 105 dX7_init_82 (by decide) (by decide) ?_
  refine S_aload_0 85 dX7_init_85 ?_
  refine S_getR 86 fsX7_28 rfl dX7_init_86 (fun w45 => ?_)
  refine S_iload_1 89 dX7_init_89 ?_
  refine S_new (a := 77) (b := 1022) 90 t (ci := 2) (N := 4) xok2 rfl nwX7_26 inst2 ini2 dv2 dX7_init_90 (fun w46 h47 => ?_)
  refine S_dup 93 dX7_init_93 rfl ?_
  refine S_iload_1 94 dX7_init_94 ?_
  refine S_callI (a' := 2) (b' := 72) (a := 75) (b := 950) 95 (As := [.int 4]) rfl calX2_init rfl rfl imX2_init mkX7_48 rfl rfl rfl rfl rfl dX7_init_95 (CX2_init E w46 4 h47) (fun _ h48 => kqU ?_)
  refine S_aast 98 17 6 2 (by decide) rfl rfl (by decide) dX7_init_98 (fun h49 => ?_)
  refine S_iinc_1 99 5 dX7_init_99 (by decide) rfl ?_
  refine S_goto 102 79 dX7_init_102 (by decide) ?_
  refine S_iload_1 79 dX7_init_79 ?_
  refine S_bip 80 6 dX7_init_80 (by decide) ?_
  refine S_icmpge_f 82 105 dX7_init_82 (by decide) (by decide) ?_
  refine S_aload_0 85 dX7_init_85 ?_
  refine S_getR 86 fsX7_28 rfl dX7_init_86 (fun w50 => ?_)
  refine S_iload_1 89 dX7_init_89 ?_
  refine S_new (a := 74) (b := 946) 90 t (ci := 2) (N := 4) xok2 rfl nwX7_26 inst2 ini2 dv2 dX7_init_90 (fun w51 h52 => ?_)
  refine S_dup 93 dX7_init_93 rfl ?_
  refine S_iload_1 94 dX7_init_94 ?_
  refine S_callI (a' := 2) (b' := 72) (a := 72) (b := 874) 95 (As := [.int 5]) rfl calX2_init rfl rfl imX2_init mkX7_48 rfl rfl rfl rfl rfl dX7_init_95 (CX2_init E w51 5 h52) (fun _ h53 => kqU ?_)
  refine S_aast 98 17 6 2 (by decide) rfl rfl (by decide) dX7_init_98 (fun h54 => ?_)
  refine S_iinc_1 99 6 dX7_init_99 (by decide) rfl ?_
  refine S_goto 102 79 dX7_init_102 (by decide) ?_
  refine S_iload_1 79 dX7_init_79 ?_
  refine S_bip 80 6 dX7_init_80 (by decide) ?_
  refine S_icmpge_t 82 105 dX7_init_82 (by decide) (by decide) ?_
  refine S_ic 105 0 dX7_init_105 (by decide) ?_
  refine S_istore_1 106 dX7_init_106 rfl ?_
  refine S_iload_1 107 dX7_init_107 ?_
  refine S_bip 108 6 dX7_init_108 (by decide) ?_
  refine S_icmpge_f 110 139 dX7_init_110 (by decide) (by decide) ?_
  refine S_aload_0 113 dX7_init_113 ?_
  refine S_getR 114 fsX7_34 rfl dX7_init_114 (fun w55 => ?_)
  refine S_iload_1 117 dX7_init_117 ?_
  refine S_new (a := 71) (b := 866) 118 t (ci := 1) (N := 8) xok1 rfl nwX7_32 inst1 ini1 dv1 dX7_init_118 (fun w56 h57 => ?_)
  refine S_dup 121 dX7_init_121 rfl ?_
  refine S_iload_1 122 dX7_init_122 ?_
  refine S_aload_0 123 dX7_init_123 ?_
  refine S_getR 124 fsX7_28 rfl dX7_init_124 (fun w58 => ?_)
  refine S_ic 127 0 dX7_init_127 (by decide) ?_
  refine S_aald 128 17 6 (by decide) rfl rfl dX7_init_128 (fun w59 => ?_)
  refine S_callI (a' := 7) (b' := 111) (a := 64) (b := 755) 129 (As := [.int 0, .ref w59]) rfl calX1_init rfl rfl imX1_init mkX7_49 rfl rfl rfl rfl rfl dX7_init_129 (CX1_init E w56 0 w59 h57) (fun _ h60 => kqU ?_)
  refine S_aast 132 16 5 1 (by decide) rfl rfl (by decide) dX7_init_132 (fun h61 => ?_)
  refine S_iinc_1 133 1 dX7_init_133 (by decide) rfl ?_
  refine S_goto 136 107 dX7_init_136 (by decide) ?_
  refine S_iload_1 107 dX7_init_107 ?_
  refine S_bip 108 6 dX7_init_108 (by decide) ?_
  refine S_icmpge_f 110 139 dX7_init_110 (by decide) (by decide) ?_
  refine S_aload_0 113 dX7_init_113 ?_
  refine S_getR 114 fsX7_34 rfl dX7_init_114 (fun w62 => ?_)
  refine S_iload_1 117 dX7_init_117 ?_
  refine S_new (a := 63) (b := 747) 118 t (ci := 1) (N := 8) xok1 rfl nwX7_32 inst1 ini1 dv1 dX7_init_118 (fun w63 h64 => ?_)
  refine S_dup 121 dX7_init_121 rfl ?_
  refine S_iload_1 122 dX7_init_122 ?_
  refine S_aload_0 123 dX7_init_123 ?_
  refine S_getR 124 fsX7_28 rfl dX7_init_124 (fun w65 => ?_)
  refine S_ic 127 0 dX7_init_127 (by decide) ?_
  refine S_aald 128 17 6 (by decide) rfl rfl dX7_init_128 (fun w66 => ?_)
  refine S_callI (a' := 7) (b' := 111) (a := 56) (b := 636) 129 (As := [.int 1, .ref w66]) rfl calX1_init rfl rfl imX1_init mkX7_49 rfl rfl rfl rfl rfl dX7_init_129 (CX1_init E w63 1 w66 h64) (fun _ h67 => kqU ?_)
  refine S_aast 132 16 5 1 (by decide) rfl rfl (by decide) dX7_init_132 (fun h68 => ?_)
  refine S_iinc_1 133 2 dX7_init_133 (by decide) rfl ?_
  refine S_goto 136 107 dX7_init_136 (by decide) ?_
  refine S_iload_1 107 dX7_init_107 ?_
  refine S_bip 108 6 dX7_init_108 (by decide) ?_
  refine S_icmpge_f 110 139 dX7_init_110 (by decide) (by decide) ?_
  refine S_aload_0 113 dX7_init_113 ?_
  refine S_getR 114 fsX7_34 rfl dX7_init_114 (fun w69 => ?_)
  refine S_iload_1 117 dX7_init_117 ?_
  refine S_new (a := 55) (b := 628) 118 t (ci := 1) (N := 8) xok1 rfl nwX7_32 inst1 ini1 dv1 dX7_init_118 (fun w70 h71 => ?_)
  refine S_dup 121 dX7_init_121 rfl ?_
  refine S_iload_1 122 dX7_init_122 ?_
  refine S_aload_0 123 dX7_init_123 ?_
  refine S_getR 124 fsX7_28 rfl dX7_init_124 (fun w72 => ?_)
  refine S_ic 127 0 dX7_init_127 (by decide) ?_
  refine S_aald 128 17 6 (by decide) rfl rfl dX7_init_128 (fun w73 => ?_)
  refine S_callI (a' := 7) (b' := 111) (a := 48) (b := 517) 129 (As := [.int 2, .ref w73]) rfl calX1_init rfl rfl imX1_init mkX7_49 rfl rfl rfl rfl rfl dX7_init_129 (CX1_init E w70 2 w73 h71) (fun _ h74 => kqU ?_)
  refine S_aast 132 16 5 1 (by decide) rfl rfl (by decide) dX7_init_132 (fun h75 => ?_)
  refine S_iinc_1 133 3 dX7_init_133 (by decide) rfl ?_
  refine S_goto 136 107 dX7_init_136 (by decide) ?_
  refine S_iload_1 107 dX7_init_107 ?_
  refine S_bip 108 6 dX7_init_108 (by decide) ?_
  refine S_icmpge_f 110 139 dX7_init_110 (by decide) (by decide) ?_
  refine S_aload_0 113 dX7_init_113 ?_
  refine S_getR 114 fsX7_34 rfl dX7_init_114 (fun w76 => ?_)
  refine S_iload_1 117 dX7_init_117 ?_
  refine S_new (a := 47) (b := 509) 118 t (ci := 1) (N := 8) xok1 rfl nwX7_32 inst1 ini1 dv1 dX7_init_118 (fun w77 h78 => ?_)
  refine S_dup 121 dX7_init_121 rfl ?_
  refine S_iload_1 122 dX7_init_122 ?_
  refine S_aload_0 123 dX7_init_123 ?_
  refine S_getR 124 fsX7_28 rfl dX7_init_124 (fun w79 => ?_)
  refine S_ic 127 0 dX7_init_127 (by decide) ?_
  refine S_aald 128 17 6 (by decide) rfl rfl dX7_init_128 (fun w80 => ?_)
  refine S_callI (a' := 7) (b' := 111) (a := 40) (b := 398) 129 (As := [.int 3, .ref w80]) rfl calX1_init rfl rfl imX1_init mkX7_49 rfl rfl rfl rfl rfl dX7_init_129 (CX1_init E w77 3 w80 h78) (fun _ h81 => kqU ?_)
  refine S_aast 132 16 5 1 (by decide) rfl rfl (by decide) dX7_init_132 (fun h82 => ?_)
  refine S_iinc_1 133 4 dX7_init_133 (by decide) rfl ?_
  refine S_goto 136 107 dX7_init_136 (by decide) ?_
  refine S_iload_1 107 dX7_init_107 ?_
  refine S_bip 108 6 dX7_init_108 (by decide) ?_
  refine S_icmpge_f 110 139 dX7_init_110 (by decide) (by decide) ?_
  refine S_aload_0 113 dX7_init_113 ?_
  refine S_getR 114 fsX7_34 rfl dX7_init_114 (fun w83 => ?_)
  refine S_iload_1 117 dX7_init_117 ?_
  refine S_new (a := 39) (b := 390) 118 t (ci := 1) (N := 8) xok1 rfl nwX7_32 inst1 ini1 dv1 dX7_init_118 (fun w84 h85 => ?_)
  refine S_dup 121 dX7_init_121 rfl ?_
  refine S_iload_1 122 dX7_init_122 ?_
  refine S_aload_0 123 dX7_init_123 ?_
  refine S_getR 124 fsX7_28 rfl dX7_init_124 (fun w86 => ?_)
  refine S_ic 127 0 dX7_init_127 (by decide) ?_
  refine S_aald 128 17 6 (by decide) rfl rfl dX7_init_128 (fun w87 => ?_)
  refine S_callI (a' := 7) (b' := 111) (a := 32) (b := 279) 129 (As := [.int 4, .ref w87]) rfl calX1_init rfl rfl imX1_init mkX7_49 rfl rfl rfl rfl rfl dX7_init_129 (CX1_init E w84 4 w87 h85) (fun _ h88 => kqU ?_)
  refine S_aast 132 16 5 1 (by decide) rfl rfl (by decide) dX7_init_132 (fun h89 => ?_)
  refine S_iinc_1 133 5 dX7_init_133 (by decide) rfl ?_
  refine S_goto 136 107 dX7_init_136 (by decide) ?_
  refine S_iload_1 107 dX7_init_107 ?_
  refine S_bip 108 6 dX7_init_108 (by decide) ?_
  refine S_icmpge_f 110 139 dX7_init_110 (by decide) (by decide) ?_
  refine S_aload_0 113 dX7_init_113 ?_
  refine S_getR 114 fsX7_34 rfl dX7_init_114 (fun w90 => ?_)
  refine S_iload_1 117 dX7_init_117 ?_
  refine S_new (a := 31) (b := 271) 118 t (ci := 1) (N := 8) xok1 rfl nwX7_32 inst1 ini1 dv1 dX7_init_118 (fun w91 h92 => ?_)
  refine S_dup 121 dX7_init_121 rfl ?_
  refine S_iload_1 122 dX7_init_122 ?_
  refine S_aload_0 123 dX7_init_123 ?_
  refine S_getR 124 fsX7_28 rfl dX7_init_124 (fun w93 => ?_)
  refine S_ic 127 0 dX7_init_127 (by decide) ?_
  refine S_aald 128 17 6 (by decide) rfl rfl dX7_init_128 (fun w94 => ?_)
  refine S_callI (a' := 7) (b' := 111) (a := 24) (b := 160) 129 (As := [.int 5, .ref w94]) rfl calX1_init rfl rfl imX1_init mkX7_49 rfl rfl rfl rfl rfl dX7_init_129 (CX1_init E w91 5 w94 h92) (fun _ h95 => kqU ?_)
  refine S_aast 132 16 5 1 (by decide) rfl rfl (by decide) dX7_init_132 (fun h96 => ?_)
  refine S_iinc_1 133 6 dX7_init_133 (by decide) rfl ?_
  refine S_goto 136 107 dX7_init_136 (by decide) ?_
  refine S_iload_1 107 dX7_init_107 ?_
  refine S_bip 108 6 dX7_init_108 (by decide) ?_
  refine S_icmpge_t 110 139 dX7_init_110 (by decide) (by decide) ?_
  refine S_ic 139 0 dX7_init_139 (by decide) ?_
  refine S_istore_1 140 dX7_init_140 rfl ?_
  refine S_iload_1 141 dX7_init_141 ?_
  refine S_bip 142 8 dX7_init_142 (by decide) ?_
  refine S_icmpge_f 144 172 dX7_init_144 (by decide) (by decide) ?_
  refine S_aload_0 147 dX7_init_147 ?_
  refine S_getR 148 fsX7_40 rfl dX7_init_148 (fun w97 => ?_)
  refine S_iload_1 151 dX7_init_151 ?_
  refine S_new (a := 23) (b := 156) 152 t (ci := 0) (N := 4) xok0 rfl nwX7_38 inst0 ini0 dv0 dX7_init_152 (fun w98 h99 => ?_)
  refine S_dup 155 dX7_init_155 rfl ?_
  refine S_aload_0 156 dX7_init_156 ?_
  refine S_getR 157 fsX7_34 rfl dX7_init_157 (fun w100 => ?_)
  refine S_ic 160 0 dX7_init_160 (by decide) ?_
  refine S_aald 161 16 5 (by decide) rfl rfl dX7_init_161 (fun w101 => ?_)
  refine S_callI (a' := 2) (b' := 16) (a := 21) (b := 140) 162 (As := [.ref w101]) rfl calX0_init rfl rfl imX0_init mkX7_52 rfl rfl rfl rfl rfl dX7_init_162 (CX0_init E w98 w101 h99) (fun _ h102 => kqU ?_)
  refine S_aast 165 15 4 0 (by decide) rfl rfl (by decide) dX7_init_165 (fun h103 => ?_)
  refine S_iinc_1 166 1 dX7_init_166 (by decide) rfl ?_
  refine S_goto 169 141 dX7_init_169 (by decide) ?_
  refine S_iload_1 141 dX7_init_141 ?_
  refine S_bip 142 8 dX7_init_142 (by decide) ?_
  refine S_icmpge_f 144 172 dX7_init_144 (by decide) (by decide) ?_
  refine S_aload_0 147 dX7_init_147 ?_
  refine S_getR 148 fsX7_40 rfl dX7_init_148 (fun w104 => ?_)
  refine S_iload_1 151 dX7_init_151 ?_
  refine S_new (a := 20) (b := 136) 152 t (ci := 0) (N := 4) xok0 rfl nwX7_38 inst0 ini0 dv0 dX7_init_152 (fun w105 h106 => ?_)
  refine S_dup 155 dX7_init_155 rfl ?_
  refine S_aload_0 156 dX7_init_156 ?_
  refine S_getR 157 fsX7_34 rfl dX7_init_157 (fun w107 => ?_)
  refine S_ic 160 0 dX7_init_160 (by decide) ?_
  refine S_aald 161 16 5 (by decide) rfl rfl dX7_init_161 (fun w108 => ?_)
  refine S_callI (a' := 2) (b' := 16) (a := 18) (b := 120) 162 (As := [.ref w108]) rfl calX0_init rfl rfl imX0_init mkX7_52 rfl rfl rfl rfl rfl dX7_init_162 (CX0_init E w105 w108 h106) (fun _ h109 => kqU ?_)
  refine S_aast 165 15 4 0 (by decide) rfl rfl (by decide) dX7_init_165 (fun h110 => ?_)
  refine S_iinc_1 166 2 dX7_init_166 (by decide) rfl ?_
  refine S_goto 169 141 dX7_init_169 (by decide) ?_
  refine S_iload_1 141 dX7_init_141 ?_
  refine S_bip 142 8 dX7_init_142 (by decide) ?_
  refine S_icmpge_f 144 172 dX7_init_144 (by decide) (by decide) ?_
  refine S_aload_0 147 dX7_init_147 ?_
  refine S_getR 148 fsX7_40 rfl dX7_init_148 (fun w111 => ?_)
  refine S_iload_1 151 dX7_init_151 ?_
  refine S_new (a := 17) (b := 116) 152 t (ci := 0) (N := 4) xok0 rfl nwX7_38 inst0 ini0 dv0 dX7_init_152 (fun w112 h113 => ?_)
  refine S_dup 155 dX7_init_155 rfl ?_
  refine S_aload_0 156 dX7_init_156 ?_
  refine S_getR 157 fsX7_34 rfl dX7_init_157 (fun w114 => ?_)
  refine S_ic 160 0 dX7_init_160 (by decide) ?_
  refine S_aald 161 16 5 (by decide) rfl rfl dX7_init_161 (fun w115 => ?_)
  refine S_callI (a' := 2) (b' := 16) (a := 15) (b := 100) 162 (As := [.ref w115]) rfl calX0_init rfl rfl imX0_init mkX7_52 rfl rfl rfl rfl rfl dX7_init_162 (CX0_init E w112 w115 h113) (fun _ h116 => kqU ?_)
  refine S_aast 165 15 4 0 (by decide) rfl rfl (by decide) dX7_init_165 (fun h117 => ?_)
  refine S_iinc_1 166 3 dX7_init_166 (by decide) rfl ?_
  refine S_goto 169 141 dX7_init_169 (by decide) ?_
  refine S_iload_1 141 dX7_init_141 ?_
  refine S_bip 142 8 dX7_init_142 (by decide) ?_
  refine S_icmpge_f 144 172 dX7_init_144 (by decide) (by decide) ?_
  refine S_aload_0 147 dX7_init_147 ?_
  refine S_getR 148 fsX7_40 rfl dX7_init_148 (fun w118 => ?_)
  refine S_iload_1 151 dX7_init_151 ?_
  refine S_new (a := 14) (b := 96) 152 t (ci := 0) (N := 4) xok0 rfl nwX7_38 inst0 ini0 dv0 dX7_init_152 (fun w119 h120 => ?_)
  refine S_dup 155 dX7_init_155 rfl ?_
  refine S_aload_0 156 dX7_init_156 ?_
  refine S_getR 157 fsX7_34 rfl dX7_init_157 (fun w121 => ?_)
  refine S_ic 160 0 dX7_init_160 (by decide) ?_
  refine S_aald 161 16 5 (by decide) rfl rfl dX7_init_161 (fun w122 => ?_)
  refine S_callI (a' := 2) (b' := 16) (a := 12) (b := 80) 162 (As := [.ref w122]) rfl calX0_init rfl rfl imX0_init mkX7_52 rfl rfl rfl rfl rfl dX7_init_162 (CX0_init E w119 w122 h120) (fun _ h123 => kqU ?_)
  refine S_aast 165 15 4 0 (by decide) rfl rfl (by decide) dX7_init_165 (fun h124 => ?_)
  refine S_iinc_1 166 4 dX7_init_166 (by decide) rfl ?_
  refine S_goto 169 141 dX7_init_169 (by decide) ?_
  refine S_iload_1 141 dX7_init_141 ?_
  refine S_bip 142 8 dX7_init_142 (by decide) ?_
  refine S_icmpge_f 144 172 dX7_init_144 (by decide) (by decide) ?_
  refine S_aload_0 147 dX7_init_147 ?_
  refine S_getR 148 fsX7_40 rfl dX7_init_148 (fun w125 => ?_)
  refine S_iload_1 151 dX7_init_151 ?_
  refine S_new (a := 11) (b := 76) 152 t (ci := 0) (N := 4) xok0 rfl nwX7_38 inst0 ini0 dv0 dX7_init_152 (fun w126 h127 => ?_)
  refine S_dup 155 dX7_init_155 rfl ?_
  refine S_aload_0 156 dX7_init_156 ?_
  refine S_getR 157 fsX7_34 rfl dX7_init_157 (fun w128 => ?_)
  refine S_ic 160 0 dX7_init_160 (by decide) ?_
  refine S_aald 161 16 5 (by decide) rfl rfl dX7_init_161 (fun w129 => ?_)
  refine S_callI (a' := 2) (b' := 16) (a := 9) (b := 60) 162 (As := [.ref w129]) rfl calX0_init rfl rfl imX0_init mkX7_52 rfl rfl rfl rfl rfl dX7_init_162 (CX0_init E w126 w129 h127) (fun _ h130 => kqU ?_)
  refine S_aast 165 15 4 0 (by decide) rfl rfl (by decide) dX7_init_165 (fun h131 => ?_)
  refine S_iinc_1 166 5 dX7_init_166 (by decide) rfl ?_
  refine S_goto 169 141 dX7_init_169 (by decide) ?_
  refine S_iload_1 141 dX7_init_141 ?_
  refine S_bip 142 8 dX7_init_142 (by decide) ?_
  refine S_icmpge_f 144 172 dX7_init_144 (by decide) (by decide) ?_
  refine S_aload_0 147 dX7_init_147 ?_
  refine S_getR 148 fsX7_40 rfl dX7_init_148 (fun w132 => ?_)
  refine S_iload_1 151 dX7_init_151 ?_
  refine S_new (a := 8) (b := 56) 152 t (ci := 0) (N := 4) xok0 rfl nwX7_38 inst0 ini0 dv0 dX7_init_152 (fun w133 h134 => ?_)
  refine S_dup 155 dX7_init_155 rfl ?_
  refine S_aload_0 156 dX7_init_156 ?_
  refine S_getR 157 fsX7_34 rfl dX7_init_157 (fun w135 => ?_)
  refine S_ic 160 0 dX7_init_160 (by decide) ?_
  refine S_aald 161 16 5 (by decide) rfl rfl dX7_init_161 (fun w136 => ?_)
  refine S_callI (a' := 2) (b' := 16) (a := 6) (b := 40) 162 (As := [.ref w136]) rfl calX0_init rfl rfl imX0_init mkX7_52 rfl rfl rfl rfl rfl dX7_init_162 (CX0_init E w133 w136 h134) (fun _ h137 => kqU ?_)
  refine S_aast 165 15 4 0 (by decide) rfl rfl (by decide) dX7_init_165 (fun h138 => ?_)
  refine S_iinc_1 166 6 dX7_init_166 (by decide) rfl ?_
  refine S_goto 169 141 dX7_init_169 (by decide) ?_
  refine S_iload_1 141 dX7_init_141 ?_
  refine S_bip 142 8 dX7_init_142 (by decide) ?_
  refine S_icmpge_f 144 172 dX7_init_144 (by decide) (by decide) ?_
  refine S_aload_0 147 dX7_init_147 ?_
  refine S_getR 148 fsX7_40 rfl dX7_init_148 (fun w139 => ?_)
  refine S_iload_1 151 dX7_init_151 ?_
  refine S_new (a := 5) (b := 36) 152 t (ci := 0) (N := 4) xok0 rfl nwX7_38 inst0 ini0 dv0 dX7_init_152 (fun w140 h141 => ?_)
  refine S_dup 155 dX7_init_155 rfl ?_
  refine S_aload_0 156 dX7_init_156 ?_
  refine S_getR 157 fsX7_34 rfl dX7_init_157 (fun w142 => ?_)
  refine S_ic 160 0 dX7_init_160 (by decide) ?_
  refine S_aald 161 16 5 (by decide) rfl rfl dX7_init_161 (fun w143 => ?_)
  refine S_callI (a' := 2) (b' := 16) (a := 3) (b := 20) 162 (As := [.ref w143]) rfl calX0_init rfl rfl imX0_init mkX7_52 rfl rfl rfl rfl rfl dX7_init_162 (CX0_init E w140 w143 h141) (fun _ h144 => kqU ?_)
  refine S_aast 165 15 4 0 (by decide) rfl rfl (by decide) dX7_init_165 (fun h145 => ?_)
  refine S_iinc_1 166 7 dX7_init_166 (by decide) rfl ?_
  refine S_goto 169 141 dX7_init_169 (by decide) ?_
  refine S_iload_1 141 dX7_init_141 ?_
  refine S_bip 142 8 dX7_init_142 (by decide) ?_
  refine S_icmpge_f 144 172 dX7_init_144 (by decide) (by decide) ?_
  refine S_aload_0 147 dX7_init_147 ?_
  refine S_getR 148 fsX7_40 rfl dX7_init_148 (fun w146 => ?_)
  refine S_iload_1 151 dX7_init_151 ?_
  refine S_new (a := 2) (b := 16) 152 t (ci := 0) (N := 4) xok0 rfl nwX7_38 inst0 ini0 dv0 dX7_init_152 (fun w147 h148 => ?_)
  refine S_dup 155 dX7_init_155 rfl ?_
  refine S_aload_0 156 dX7_init_156 ?_
  refine S_getR 157 fsX7_34 rfl dX7_init_157 (fun w149 => ?_)
  refine S_ic 160 0 dX7_init_160 (by decide) ?_
  refine S_aald 161 16 5 (by decide) rfl rfl dX7_init_161 (fun w150 => ?_)
  refine S_callI (a' := 2) (b' := 16) (a := 0) (b := 0) 162 (As := [.ref w150]) rfl calX0_init rfl rfl imX0_init mkX7_52 rfl rfl rfl rfl rfl dX7_init_162 (CX0_init E w147 w150 h148) (fun _ h151 => kqU ?_)
  refine S_aast 165 15 4 0 (by decide) rfl rfl (by decide) dX7_init_165 (fun h152 => ?_)
  refine S_iinc_1 166 8 dX7_init_166 (by decide) rfl ?_
  refine S_goto 169 141 dX7_init_169 (by decide) ?_
  refine S_iload_1 141 dX7_init_141 ?_
  refine S_bip 142 8 dX7_init_142 (by decide) ?_
  refine S_icmpge_t 144 172 dX7_init_144 (by decide) (by decide) ?_
  exact S_ret 172 dX7_init_172 rfl
