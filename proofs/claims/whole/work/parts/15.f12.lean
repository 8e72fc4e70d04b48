/-! Methods as functions, 12. -/
set_option linter.unusedVariables false
set_option maxRecDepth 10000
def FX9_arrowLine (E : XG) (t : Nat) (h : XH) : XP Unit := xg (xk h t = 10) <| xlt (xi h t 37) fun v1 => xjn (fun (v2 : Int32) (h3 : XH) => xg (xk h3 t = 10) <| xb (FX9_failsIf E t v2 4 h3) fun _ h4 => xg (xk h4 t = 10) <| xb (FX9_goesOn E t  h4) fun _ h5 => xg (xk h5 t = 10) <| xb (FX9_newName E t 12 v1 h5) fun _ h6 => xg (xk h6 t = 10) <| xg (xk h6 t = 10) <| xb (FX9_takesName E t 6 (xi h6 t 36) h6) fun v7 h8 => xg (xk h8 t = 10) <| xg (xk h8 t = 10) <| xb (FX9_takesName E t 6 (xi h8 t 36) h8) fun v9 h10 => xlp (fun again57 (s57 : Int32) h11 => xg (xk h11 t = 10) <| xjn (fun  (h12 : XH) => xlp (fun again123 (s123 : Int32) h13 => xg (xk h13 t = 10) <| xjn (fun  (h14 : XH) => xg (xk h14 t = 10) <| xjn (fun  (h15 : XH) => xv () h15) fun (j217 : XH → XP Unit) => if ((xi h14 t 25) : Int32) = 0 then (xg (xk h14 t = 10) <| xnn (xr h14 t 32) fun w16 => xg (xk h14 w16 = 12 ∧ xin v1 (xn h14 w16)) <| xlt (yi h14 w16 (v1 : Int32).toNatClampNeg v7) fun h17 => xg (xk h17 t = 10) <| xnn (xr h17 t 33) fun w18 => xg (xk h17 w18 = 12 ∧ xin v1 (xn h17 w18)) <| xlt (yi h17 w18 (v1 : Int32).toNatClampNeg v9) fun h19 => xg (xk h19 t = 10) <| xg (xk h19 t = 10) <| xlt (yi h19 t 37 ((xi h19 t 37) + 1)) fun h20 => j217 h20) else (j217 h14)) fun (j186 : XH → XP Unit) => if ((xi h13 t 25) : Int32) = 0 then (xg (xk h13 t = 10) <| xnn (xr h13 t 28) fun w21 => xg (xk h13 t = 10) <| xnn (xr h13 t 31) fun w22 => xg (xk h13 w22 = 12 ∧ xin v7 (xn h13 w22)) <| xg (xk h13 w21 = 12 ∧ xin (xi h13 w22 (v7 : Int32).toNatClampNeg) (xn h13 w21)) <| if ((xi h13 w21 ((xi h13 w22 (v7 : Int32).toNatClampNeg) : Int32).toNatClampNeg) : Int32) ≤ s123 then (j186 h13) else (xg (xk h13 t = 10) <| xnn (xr h13 t 27) fun w23 => xg (xk h13 t = 10) <| xnn (xr h13 t 28) fun w24 => xg (xk h13 t = 10) <| xnn (xr h13 t 31) fun w25 => xg (xk h13 w25 = 12 ∧ xin v9 (xn h13 w25)) <| xg (xk h13 w24 = 12 ∧ xin (xi h13 w25 (v9 : Int32).toNatClampNeg) (xn h13 w24)) <| xg (xk h13 t = 10) <| xb (FX9_takes E t 0 ((xi h13 w24 ((xi h13 w25 (v9 : Int32).toNatClampNeg) : Int32).toNatClampNeg) - 1) h13) fun v26 h27 => xg (xk h27 w23 = 12 ∧ xin ((496 + (8 * v1)) + s123) (xn h27 w23)) <| xlt (yi h27 w23 (((496 + (8 * v1)) + s123) : Int32).toNatClampNeg v26) fun h28 => again123 (s123 + 1) h28)) else (j186 h13)) xfu 0 h12) fun (j120 : XH → XP Unit) => if ((xi h11 t 25) : Int32) = 0 then (xg (xk h11 t = 10) <| xnn (xr h11 t 28) fun w29 => xg (xk h11 t = 10) <| xnn (xr h11 t 30) fun w30 => xg (xk h11 w30 = 12 ∧ xin v7 (xn h11 w30)) <| xg (xk h11 w29 = 12 ∧ xin (xi h11 w30 (v7 : Int32).toNatClampNeg) (xn h11 w29)) <| if ((xi h11 w29 ((xi h11 w30 (v7 : Int32).toNatClampNeg) : Int32).toNatClampNeg) : Int32) ≤ s57 then (j120 h11) else (xg (xk h11 t = 10) <| xnn (xr h11 t 27) fun w31 => xg (xk h11 t = 10) <| xnn (xr h11 t 28) fun w32 => xg (xk h11 t = 10) <| xnn (xr h11 t 30) fun w33 => xg (xk h11 w33 = 12 ∧ xin v9 (xn h11 w33)) <| xg (xk h11 w32 = 12 ∧ xin (xi h11 w33 (v9 : Int32).toNatClampNeg) (xn h11 w32)) <| xg (xk h11 t = 10) <| xb (FX9_takes E t 0 ((xi h11 w32 ((xi h11 w33 (v9 : Int32).toNatClampNeg) : Int32).toNatClampNeg) - 1) h11) fun v34 h35 => xg (xk h35 w31 = 12 ∧ xin ((432 + (8 * v1)) + s57) (xn h35 w31)) <| xlt (yi h35 w31 (((432 + (8 * v1)) + s57) : Int32).toNatClampNeg v34) fun h36 => again57 (s57 + 1) h36)) else (j120 h11)) xfu 0 h10) fun (j17 : Int32 → XH → XP Unit) => if (v1 : Int32) = 8 then (j17 1 h) else (j17 0 h)
theorem CX9_arrowLine (E : XG) (t : Nat) (h : XH) : XN E mX9_arrowLine eU 0 0 [.ref t] h (FX9_arrowLine E t h) := by
  unfold FX9_arrowLine
  refine S_enter (L := [some (.ref t), none, none, none, none]) (by decide +kernel) rfl rfl rfl ?_
  refine S_aload_0 0 dX9_arrowLine_0 ?_
  refine S_getI 1 fsX9_225 rfl dX9_arrowLine_1 ?_
  refine S_gen (fun v1 => ?_)
  refine S_istore_1 4 dX9_arrowLine_4 rfl ?_
  refine S_aload_0 5 dX9_arrowLine_5 ?_
  refine S_iload_1 6 dX9_arrowLine_6 ?_
  refine S_bip 7 8 dX9_arrowLine_7 (by decide) ?_
  refine S_join (fun jj => ∀ (v2 : Int32) (h3 : XH), XS E mX9_arrowLine eU 0 0 17 [some (.ref t), some (.int v1), none, none, none] [.int v2, .ref t] h3 (jj v2 h3)) (fun v2 h3 => ?_) (fun j17 hj17 => ?_)
  · skip
    refine S_ic 17 4 dX9_arrowLine_17 (by decide) ?_
    refine S_callV (a' := 0) (b' := 0) (a := 0) (b := 0) 18 (As := [.int v2, .int 4]) (ci := 9) rfl calX9_failsIf imX9_failsIf seX9_failsIf mkX9_159 rfl rfl rfl rfl rfl (by decide) rfl rfl dX9_arrowLine_18 (CX9_failsIf E t v2 4 h3) (fun _ h4 => kqU ?_)
    refine S_aload_0 21 dX9_arrowLine_21 ?_
    refine S_callV (a' := 0) (b' := 0) (a := 0) (b := 0) 22 (As := []) (ci := 9) rfl calX9_goesOn imX9_goesOn seX9_goesOn mkX9_156 rfl rfl rfl rfl rfl (by decide) rfl rfl dX9_arrowLine_22 (CX9_goesOn E t  h4) (fun _ h5 => kqU ?_)
    refine S_aload_0 25 dX9_arrowLine_25 ?_
    refine S_bip 26 12 dX9_arrowLine_26 (by decide) ?_
    refine S_iload_1 28 dX9_arrowLine_28 ?_
    refine S_callV (a' := 0) (b' := 0) (a := 0) (b := 0) 29 (As := [.int 12, .int v1]) (ci := 9) rfl calX9_newName imX9_newName seX9_newName mkX9_173 rfl rfl rfl rfl rfl (by decide) rfl rfl dX9_arrowLine_29 (CX9_newName E t 12 v1 h5) (fun _ h6 => kqU ?_)
    refine S_aload_0 32 dX9_arrowLine_32 ?_
    refine S_bip 33 6 dX9_arrowLine_33 (by decide) ?_
    refine S_aload_0 35 dX9_arrowLine_35 ?_
    refine S_getI 36 fsX9_218 rfl dX9_arrowLine_36 ?_
    refine S_callV (a' := 0) (b' := 0) (a := 0) (b := 0) 39 (As := [.int 6, .int (xi h6 t 36)]) (ci := 9) rfl calX9_takesName imX9_takesName seX9_takesName mkX9_201 rfl rfl rfl rfl rfl (by decide) rfl rfl dX9_arrowLine_39 (CX9_takesName E t 6 (xi h6 t 36) h6) (fun v7 h8 => kqI ?_)
    refine S_istore_2 42 dX9_arrowLine_42 rfl ?_
    refine S_aload_0 43 dX9_arrowLine_43 ?_
    refine S_bip 44 6 dX9_arrowLine_44 (by decide) ?_
    refine S_aload_0 46 dX9_arrowLine_46 ?_
    refine S_getI 47 fsX9_218 rfl dX9_arrowLine_47 ?_
    refine S_callV (a' := 0) (b' := 0) (a := 0) (b := 0) 50 (As := [.int 6, .int (xi h8 t 36)]) (ci := 9) rfl calX9_takesName imX9_takesName seX9_takesName mkX9_201 rfl rfl rfl rfl rfl (by decide) rfl rfl dX9_arrowLine_50 (CX9_takesName E t 6 (xi h8 t 36) h8) (fun v9 h10 => kqI ?_)
    refine S_istore_3 53 dX9_arrowLine_53 rfl ?_
    refine S_ic 54 0 dX9_arrowLine_54 (by decide) ?_
    refine S_istore_4 55 dX9_arrowLine_55 rfl ?_
    refine S_loop (fun (s57 : Int32) => [some (.ref t), some (.int v1), some (.int v7), some (.int v9), some (.int s57)]) (fun again57 hg57 s57 h11 => ?_) xfu _ _
    refine S_aload_0 57 dX9_arrowLine_57 ?_
    refine S_getI 58 fsX9_130 rfl dX9_arrowLine_58 ?_
    refine S_join (fun jj => ∀  (h12 : XH), XS E mX9_arrowLine eU 0 0 120 [some (.ref t), some (.int v1), some (.int v7), some (.int v9), none] [] h12 (jj  h12)) (fun  h12 => ?_) (fun j120 hj120 => ?_)
    · skip
      refine S_ic 120 0 dX9_arrowLine_120 (by decide) ?_
      refine S_istore_4 121 dX9_arrowLine_121 rfl ?_
      refine S_loop (fun (s123 : Int32) => [some (.ref t), some (.int v1), some (.int v7), some (.int v9), some (.int s123)]) (fun again123 hg123 s123 h13 => ?_) xfu _ _
      refine S_aload_0 123 dX9_arrowLine_123 ?_
      refine S_getI 124 fsX9_130 rfl dX9_arrowLine_124 ?_
      refine S_join (fun jj => ∀  (h14 : XH), XS E mX9_arrowLine eU 0 0 186 [some (.ref t), some (.int v1), some (.int v7), some (.int v9), none] [] h14 (jj  h14)) (fun  h14 => ?_) (fun j186 hj186 => ?_)
      · skip
        refine S_aload_0 186 dX9_arrowLine_186 ?_
        refine S_getI 187 fsX9_130 rfl dX9_arrowLine_187 ?_
        refine S_join (fun jj => ∀  (h15 : XH), XS E mX9_arrowLine eU 0 0 217 [none, none, none, none, none] [] h15 (jj  h15)) (fun  h15 => ?_) (fun j217 hj217 => ?_)
        · skip
          exact S_ret 217 dX9_arrowLine_217 rfl
        refine S_ifne 190 217 dX9_arrowLine_190 (by decide) ?_ ?_
        · skip
          exact S_drop [0, 1, 2, 3] rfl (hj217 _)
        · skip
          refine S_aload_0 193 dX9_arrowLine_193 ?_
          refine S_getR 194 fsX9_63 rfl dX9_arrowLine_194 (fun w16 => ?_)
          refine S_iload_1 197 dX9_arrowLine_197 ?_
          refine S_iload_2 198 dX9_arrowLine_198 ?_
          refine S_iast 199 dX9_arrowLine_199 (fun h17 => ?_)
          refine S_aload_0 200 dX9_arrowLine_200 ?_
          refine S_getR 201 fsX9_66 rfl dX9_arrowLine_201 (fun w18 => ?_)
          refine S_iload_1 204 dX9_arrowLine_204 ?_
          refine S_iload_3 205 dX9_arrowLine_205 ?_
          refine S_iast 206 dX9_arrowLine_206 (fun h19 => ?_)
          refine S_aload_0 207 dX9_arrowLine_207 ?_
          refine S_dup 208 dX9_arrowLine_208 rfl ?_
          refine S_getI 209 fsX9_225 rfl dX9_arrowLine_209 ?_
          refine S_ic 212 1 dX9_arrowLine_212 (by decide) ?_
          refine S_iadd 213 dX9_arrowLine_213 ?_
          refine S_putI 214 frX9_225 rfl (fun q => by cases q) dX9_arrowLine_214 (fun h20 => ?_)
          exact S_drop [0, 1, 2, 3] rfl (hj217 _)
      refine S_ifne 127 186 dX9_arrowLine_127 (by decide) ?_ ?_
      · skip
        exact S_drop [4] rfl (hj186 _)
      · skip
        refine S_iload_4 130 dX9_arrowLine_130 ?_
        refine S_aload_0 132 dX9_arrowLine_132 ?_
        refine S_getR 133 fsX9_51 rfl dX9_arrowLine_133 (fun w21 => ?_)
        refine S_aload_0 136 dX9_arrowLine_136 ?_
        refine S_getR 137 fsX9_60 rfl dX9_arrowLine_137 (fun w22 => ?_)
        refine S_iload_2 140 dX9_arrowLine_140 ?_
        refine S_iald 141 dX9_arrowLine_141 ?_
        refine S_iald 142 dX9_arrowLine_142 ?_
        refine S_icmpge 143 186 dX9_arrowLine_143 (by decide) ?_ ?_
        · skip
          exact S_drop [4] rfl (hj186 _)
        · skip
          refine S_aload_0 146 dX9_arrowLine_146 ?_
          refine S_getR 147 fsX9_48 rfl dX9_arrowLine_147 (fun w23 => ?_)
          refine S_sip 150 496 dX9_arrowLine_150 (by decide) ?_
          refine S_bip 153 8 dX9_arrowLine_153 (by decide) ?_
          refine S_iload_1 155 dX9_arrowLine_155 ?_
          refine S_imul 156 dX9_arrowLine_156 ?_
          refine S_iadd 157 dX9_arrowLine_157 ?_
          refine S_iload_4 158 dX9_arrowLine_158 ?_
          refine S_iadd 160 dX9_arrowLine_160 ?_
          refine S_aload_0 161 dX9_arrowLine_161 ?_
          refine S_ic 162 0 dX9_arrowLine_162 (by decide) ?_
          refine S_aload_0 163 dX9_arrowLine_163 ?_
          refine S_getR 164 fsX9_51 rfl dX9_arrowLine_164 (fun w24 => ?_)
          refine S_aload_0 167 dX9_arrowLine_167 ?_
          refine S_getR 168 fsX9_60 rfl dX9_arrowLine_168 (fun w25 => ?_)
          refine S_iload_3 171 dX9_arrowLine_171 ?_
          refine S_iald 172 dX9_arrowLine_172 ?_
          refine S_iald 173 dX9_arrowLine_173 ?_
          refine S_ic 174 1 dX9_arrowLine_174 (by decide) ?_
          refine S_isub 175 dX9_arrowLine_175 ?_
          refine S_callV (a' := 0) (b' := 0) (a := 0) (b := 0) 176 (As := [.int 0, .int ((xi h13 w24 ((xi h13 w25 (v9 : Int32).toNatClampNeg) : Int32).toNatClampNeg) - 1)]) (ci := 9) rfl calX9_takes imX9_takes seX9_takes mkX9_183 rfl rfl rfl rfl rfl (by decide) rfl rfl dX9_arrowLine_176 (CX9_takes E t 0 ((xi h13 w24 ((xi h13 w25 (v9 : Int32).toNatClampNeg) : Int32).toNatClampNeg) - 1) h13) (fun v26 h27 => kqI ?_)
          refine S_iast 179 dX9_arrowLine_179 (fun h28 => ?_)
          refine S_iinc_4 180 (s123 + 1) dX9_arrowLine_180 (by rfl) rfl ?_
          refine S_goto 183 123 dX9_arrowLine_183 (by decide) ?_
          exact S_drop [] rfl (hg123 _ _)
    refine S_ifne 61 120 dX9_arrowLine_61 (by decide) ?_ ?_
    · skip
      exact S_drop [4] rfl (hj120 _)
    · skip
      refine S_iload_4 64 dX9_arrowLine_64 ?_
      refine S_aload_0 66 dX9_arrowLine_66 ?_
      refine S_getR 67 fsX9_51 rfl dX9_arrowLine_67 (fun w29 => ?_)
      refine S_aload_0 70 dX9_arrowLine_70 ?_
      refine S_getR 71 fsX9_57 rfl dX9_arrowLine_71 (fun w30 => ?_)
      refine S_iload_2 74 dX9_arrowLine_74 ?_
      refine S_iald 75 dX9_arrowLine_75 ?_
      refine S_iald 76 dX9_arrowLine_76 ?_
      refine S_icmpge 77 120 dX9_arrowLine_77 (by decide) ?_ ?_
      · skip
        exact S_drop [4] rfl (hj120 _)
      · skip
        refine S_aload_0 80 dX9_arrowLine_80 ?_
        refine S_getR 81 fsX9_48 rfl dX9_arrowLine_81 (fun w31 => ?_)
        refine S_sip 84 432 dX9_arrowLine_84 (by decide) ?_
        refine S_bip 87 8 dX9_arrowLine_87 (by decide) ?_
        refine S_iload_1 89 dX9_arrowLine_89 ?_
        refine S_imul 90 dX9_arrowLine_90 ?_
        refine S_iadd 91 dX9_arrowLine_91 ?_
        refine S_iload_4 92 dX9_arrowLine_92 ?_
        refine S_iadd 94 dX9_arrowLine_94 ?_
        refine S_aload_0 95 dX9_arrowLine_95 ?_
        refine S_ic 96 0 dX9_arrowLine_96 (by decide) ?_
        refine S_aload_0 97 dX9_arrowLine_97 ?_
        refine S_getR 98 fsX9_51 rfl dX9_arrowLine_98 (fun w32 => ?_)
        refine S_aload_0 101 dX9_arrowLine_101 ?_
        refine S_getR 102 fsX9_57 rfl dX9_arrowLine_102 (fun w33 => ?_)
        refine S_iload_3 105 dX9_arrowLine_105 ?_
        refine S_iald 106 dX9_arrowLine_106 ?_
        refine S_iald 107 dX9_arrowLine_107 ?_
        refine S_ic 108 1 dX9_arrowLine_108 (by decide) ?_
        refine S_isub 109 dX9_arrowLine_109 ?_
        refine S_callV (a' := 0) (b' := 0) (a := 0) (b := 0) 110 (As := [.int 0, .int ((xi h11 w32 ((xi h11 w33 (v9 : Int32).toNatClampNeg) : Int32).toNatClampNeg) - 1)]) (ci := 9) rfl calX9_takes imX9_takes seX9_takes mkX9_183 rfl rfl rfl rfl rfl (by decide) rfl rfl dX9_arrowLine_110 (CX9_takes E t 0 ((xi h11 w32 ((xi h11 w33 (v9 : Int32).toNatClampNeg) : Int32).toNatClampNeg) - 1) h11) (fun v34 h35 => kqI ?_)
        refine S_iast 113 dX9_arrowLine_113 (fun h36 => ?_)
        refine S_iinc_4 114 (s57 + 1) dX9_arrowLine_114 (by rfl) rfl ?_
        refine S_goto 117 57 dX9_arrowLine_117 (by decide) ?_
        exact S_drop [] rfl (hg57 _ _)
  refine S_icmpne 9 16 dX9_arrowLine_9 (by decide) ?_ ?_
  · skip
    refine S_ic 16 0 dX9_arrowLine_16 (by decide) ?_
    exact S_drop [] rfl (hj17 _ _)
  · skip
    refine S_ic 12 1 dX9_arrowLine_12 (by decide) ?_
    refine S_goto 13 17 dX9_arrowLine_13 (by decide) ?_
    exact S_drop [] rfl (hj17 _ _)
def FX9_line (E : XG) (t : Nat) (h : XH) : XP Unit := xg (xk h t = 10) <| xb (FX9_isWord E t 15 h) fun v1 h2 => xjn (fun  (h3 : XH) => xv () h3) fun (j69 : XH → XP Unit) => if (v1 : Int32) = 0 then (xg (xk h2 t = 10) <| xb (FX9_isWord E t 20 h2) fun v4 h5 => if (v4 : Int32) = 0 then (xg (xk h5 t = 10) <| xb (FX9_isWord E t 21 h5) fun v6 h7 => if (v6 : Int32) = 0 then (xg (xk h7 t = 10) <| xb (FX9_isWord E t 22 h7) fun v8 h9 => if (v8 : Int32) = 0 then (xg (xk h9 t = 10) <| xb (FX9_fails E t 1 h9) fun _ h10 => j69 h10) else (xg (xk h9 t = 10) <| xb (FX9_arrowLine E t  h9) fun _ h11 => j69 h11)) else (xg (xk h7 t = 10) <| xb (FX9_actLine E t  h7) fun _ h12 => j69 h12)) else (xg (xk h5 t = 10) <| xb (FX9_moduleLine E t  h5) fun _ h13 => j69 h13)) else (xg (xk h2 t = 10) <| xb (FX9_groupLine E t  h2) fun _ h14 => j69 h14)
theorem CX9_line (E : XG) (t : Nat) (h : XH) : XN E mX9_line eU 0 0 [.ref t] h (FX9_line E t h) := by
  unfold FX9_line
  refine S_enter (L := [some (.ref t)]) (by decide +kernel) rfl rfl rfl ?_
  refine S_aload_0 0 dX9_line_0 ?_
  refine S_ldcS 1 15 (by decide) rfl rfl dX9_line_1 ?_
  refine S_callV (a' := 0) (b' := 0) (a := 0) (b := 0) 3 (As := [.ref (eK E 15)]) (ci := 9) rfl calX9_isWord imX9_isWord seX9_isWord mkX9_179 rfl rfl rfl rfl rfl (by decide) rfl rfl dX9_line_3 (CX9_isWord E t 15 h) (fun v1 h2 => kqI ?_)
  refine S_join (fun jj => ∀  (h3 : XH), XS E mX9_line eU 0 0 69 [none] [] h3 (jj  h3)) (fun  h3 => ?_) (fun j69 hj69 => ?_)
  · skip
    exact S_ret 69 dX9_line_69 rfl
  refine S_ifeq 6 16 dX9_line_6 (by decide) ?_ ?_
  · skip
    refine S_aload_0 16 dX9_line_16 ?_
    refine S_ldcS 17 20 (by decide) rfl rfl dX9_line_17 ?_
    refine S_callV (a' := 0) (b' := 0) (a := 0) (b := 0) 19 (As := [.ref (eK E 20)]) (ci := 9) rfl calX9_isWord imX9_isWord seX9_isWord mkX9_179 rfl rfl rfl rfl rfl (by decide) rfl rfl dX9_line_19 (CX9_isWord E t 20 h2) (fun v4 h5 => kqI ?_)
    refine S_ifeq 22 32 dX9_line_22 (by decide) ?_ ?_
    · skip
      refine S_aload_0 32 dX9_line_32 ?_
      refine S_ldcS 33 21 (by decide) rfl rfl dX9_line_33 ?_
      refine S_callV (a' := 0) (b' := 0) (a := 0) (b := 0) 35 (As := [.ref (eK E 21)]) (ci := 9) rfl calX9_isWord imX9_isWord seX9_isWord mkX9_179 rfl rfl rfl rfl rfl (by decide) rfl rfl dX9_line_35 (CX9_isWord E t 21 h5) (fun v6 h7 => kqI ?_)
      refine S_ifeq 38 48 dX9_line_38 (by decide) ?_ ?_
      · skip
        refine S_aload_0 48 dX9_line_48 ?_
        refine S_ldcS 49 22 (by decide) rfl rfl dX9_line_49 ?_
        refine S_callV (a' := 0) (b' := 0) (a := 0) (b := 0) 51 (As := [.ref (eK E 22)]) (ci := 9) rfl calX9_isWord imX9_isWord seX9_isWord mkX9_179 rfl rfl rfl rfl rfl (by decide) rfl rfl dX9_line_51 (CX9_isWord E t 22 h7) (fun v8 h9 => kqI ?_)
        refine S_ifeq 54 64 dX9_line_54 (by decide) ?_ ?_
        · skip
          refine S_aload_0 64 dX9_line_64 ?_
          refine S_ic 65 1 dX9_line_65 (by decide) ?_
          refine S_callV (a' := 0) (b' := 0) (a := 0) (b := 0) 66 (As := [.int 1]) (ci := 9) rfl calX9_fails imX9_fails seX9_fails mkX9_136 rfl rfl rfl rfl rfl (by decide) rfl rfl dX9_line_66 (CX9_fails E t 1 h9) (fun _ h10 => kqU ?_)
          exact S_drop [0] rfl (hj69 _)
        · skip
          refine S_aload_0 57 dX9_line_57 ?_
          refine S_callV (a' := 0) (b' := 0) (a := 0) (b := 0) 58 (As := []) (ci := 9) rfl calX9_arrowLine imX9_arrowLine seX9_arrowLine mkX9_245 rfl rfl rfl rfl rfl (by decide) rfl rfl dX9_line_58 (CX9_arrowLine E t  h9) (fun _ h11 => kqU ?_)
          refine S_goto 61 69 dX9_line_61 (by decide) ?_
          exact S_drop [0] rfl (hj69 _)
      · skip
        refine S_aload_0 41 dX9_line_41 ?_
        refine S_callV (a' := 0) (b' := 0) (a := 0) (b := 0) 42 (As := []) (ci := 9) rfl calX9_actLine imX9_actLine seX9_actLine mkX9_240 rfl rfl rfl rfl rfl (by decide) rfl rfl dX9_line_42 (CX9_actLine E t  h7) (fun _ h12 => kqU ?_)
        refine S_goto 45 69 dX9_line_45 (by decide) ?_
        exact S_drop [0] rfl (hj69 _)
    · skip
      refine S_aload_0 25 dX9_line_25 ?_
      refine S_callV (a' := 0) (b' := 0) (a := 0) (b := 0) 26 (As := []) (ci := 9) rfl calX9_moduleLine imX9_moduleLine seX9_moduleLine mkX9_235 rfl rfl rfl rfl rfl (by decide) rfl rfl dX9_line_26 (CX9_moduleLine E t  h5) (fun _ h13 => kqU ?_)
      refine S_goto 29 69 dX9_line_29 (by decide) ?_
      exact S_drop [0] rfl (hj69 _)
  · skip
    refine S_aload_0 9 dX9_line_9 ?_
    refine S_callV (a' := 0) (b' := 0) (a := 0) (b := 0) 10 (As := []) (ci := 9) rfl calX9_groupLine imX9_groupLine seX9_groupLine mkX9_230 rfl rfl rfl rfl rfl (by decide) rfl rfl dX9_line_10 (CX9_groupLine E t  h2) (fun _ h14 => kqU ?_)
    refine S_goto 13 69 dX9_line_13 (by decide) ?_
    exact S_drop [0] rfl (hj69 _)
def FX9_reads (E : XG) (t : Nat) (p1 : Int32) (h : XH) : XP Unit := xg (xk h t = 10) <| xlt (yi h t 20 p1) fun h1 => xg (xk h1 t = 10) <| xlt (yi h1 t 21 0) fun h2 => xg (xk h2 t = 10) <| xlt (yi h2 t 25 0) fun h3 => xg (xk h3 t = 10) <| xlt (yi h3 t 26 (-1)) fun h4 => xg (xk h4 t = 10) <| xlt (yi h4 t 35 0) fun h5 => xg (xk h5 t = 10) <| xlt (yi h5 t 36 0) fun h6 => xg (xk h6 t = 10) <| xlt (yi h6 t 37 0) fun h7 => xlp (fun again37 (s37 : Int32) h8 => if (563 : Int32) ≤ s37 then (xg (xk h8 t = 10) <| xb (FX9_token E t  h8) fun _ h9 => xg (xk h9 t = 10) <| xb (FX9_isWord E t 14 h9) fun v10 h11 => xjn (fun (v12 : Int32) (h13 : XH) => xg (xk h13 t = 10) <| xb (FX9_failsIf E t v12 1 h13) fun _ h14 => xg (xk h14 t = 10) <| xb (FX9_goesOn E t  h14) fun _ h15 => xlp (fun again84 (s84 : Unit) h16 => xg (xk h16 t = 10) <| xjn (fun  (h17 : XH) => xg (xk h17 t = 10) <| xjn (fun (v18 : Int32) (h19 : XH) => xg (xk h19 t = 10) <| xb (FX9_failsIf E t v18 1 h19) fun _ h20 => xv () h20) fun (j123 : Int32 → XH → XP Unit) => if ((xi h17 t 23) : Int32) = 0 then (j123 0 h17) else (j123 1 h17)) fun (j110 : XH → XP Unit) => if ((xi h16 t 25) : Int32) = 0 then (xg (xk h16 t = 10) <| if ((xi h16 t 23) : Int32) = 3 then (xg (xk h16 t = 10) <| xb (FX9_token E t  h16) fun _ h21 => xg (xk h21 t = 10) <| xb (FX9_line E t  h21) fun _ h22 => again84 () h22) else (j110 h16)) else (j110 h16)) xfu () h15) fun (j76 : Int32 → XH → XP Unit) => if (v10 : Int32) = 0 then (j76 1 h11) else (j76 0 h11)) else (xg (xk h8 t = 10) <| xnn (xr h8 t 27) fun w23 => xg (xk h8 w23 = 12 ∧ xin s37 (xn h8 w23)) <| xlt (yi h8 w23 (s37 : Int32).toNatClampNeg 0) fun h24 => again37 (s37 + 1) h24)) xfu 0 h7
theorem CX9_reads (E : XG) (t : Nat) (p1 : Int32) (h : XH) : XN E mX9_reads eU 0 0 [.ref t, .int p1] h (FX9_reads E t p1 h) := by
  unfold FX9_reads
  refine S_enter (L := [some (.ref t), some (.int p1), none]) (by decide +kernel) rfl rfl rfl ?_
  refine S_aload_0 0 dX9_reads_0 ?_
  refine S_iload_1 1 dX9_reads_1 ?_
  refine S_putI 2 frX9_104 rfl (fun q => by cases q) dX9_reads_2 (fun h1 => ?_)
  refine S_aload_0 5 dX9_reads_5 ?_
  refine S_ic 6 0 dX9_reads_6 (by decide) ?_
  refine S_putI 7 frX9_107 rfl (fun q => by cases q) dX9_reads_7 (fun h2 => ?_)
  refine S_aload_0 10 dX9_reads_10 ?_
  refine S_ic 11 0 dX9_reads_11 (by decide) ?_
  refine S_putI 12 frX9_130 rfl (fun q => by cases q) dX9_reads_12 (fun h3 => ?_)
  refine S_aload_0 15 dX9_reads_15 ?_
  refine S_ic 16 (-1) dX9_reads_16 (by decide) ?_
  refine S_putI 17 frX9_133 rfl (fun q => by cases q) dX9_reads_17 (fun h4 => ?_)
  refine S_aload_0 20 dX9_reads_20 ?_
  refine S_ic 21 0 dX9_reads_21 (by decide) ?_
  refine S_putI 22 frX9_170 rfl (fun q => by cases q) dX9_reads_22 (fun h5 => ?_)
  refine S_aload_0 25 dX9_reads_25 ?_
  refine S_ic 26 0 dX9_reads_26 (by decide) ?_
  refine S_putI 27 frX9_218 rfl (fun q => by cases q) dX9_reads_27 (fun h6 => ?_)
  refine S_aload_0 30 dX9_reads_30 ?_
  refine S_ic 31 0 dX9_reads_31 (by decide) ?_
  refine S_putI 32 frX9_225 rfl (fun q => by cases q) dX9_reads_32 (fun h7 => ?_)
  refine S_ic 35 0 dX9_reads_35 (by decide) ?_
  refine S_istore_2 36 dX9_reads_36 rfl ?_
  refine S_drop [1] rfl ?_
  refine S_loop (fun (s37 : Int32) => [some (.ref t), none, some (.int s37)]) (fun again37 hg37 s37 h8 => ?_) xfu _ _
  refine S_iload_2 37 dX9_reads_37 ?_
  refine S_sip 38 563 dX9_reads_38 (by decide) ?_
  refine S_icmpge 41 57 dX9_reads_41 (by decide) ?_ ?_
  · skip
    refine S_aload_0 57 dX9_reads_57 ?_
    refine S_callV (a' := 0) (b' := 0) (a := 0) (b := 0) 58 (As := []) (ci := 9) rfl calX9_token imX9_token seX9_token mkX9_140 rfl rfl rfl rfl rfl (by decide) rfl rfl dX9_reads_58 (CX9_token E t  h8) (fun _ h9 => kqU ?_)
    refine S_aload_0 61 dX9_reads_61 ?_
    refine S_aload_0 62 dX9_reads_62 ?_
    refine S_ldcS 63 14 (by decide) rfl rfl dX9_reads_63 ?_
    refine S_callV (a' := 0) (b' := 0) (a := 0) (b := 0) 65 (As := [.ref (eK E 14)]) (ci := 9) rfl calX9_isWord imX9_isWord seX9_isWord mkX9_179 rfl rfl rfl rfl rfl (by decide) rfl rfl dX9_reads_65 (CX9_isWord E t 14 h9) (fun v10 h11 => kqI ?_)
    refine S_join (fun jj => ∀ (v12 : Int32) (h13 : XH), XS E mX9_reads eU 0 0 76 [some (.ref t), none, none] [.int v12, .ref t] h13 (jj v12 h13)) (fun v12 h13 => ?_) (fun j76 hj76 => ?_)
    · skip
      refine S_ic 76 1 dX9_reads_76 (by decide) ?_
      refine S_callV (a' := 0) (b' := 0) (a := 0) (b := 0) 77 (As := [.int v12, .int 1]) (ci := 9) rfl calX9_failsIf imX9_failsIf seX9_failsIf mkX9_159 rfl rfl rfl rfl rfl (by decide) rfl rfl dX9_reads_77 (CX9_failsIf E t v12 1 h13) (fun _ h14 => kqU ?_)
      refine S_aload_0 80 dX9_reads_80 ?_
      refine S_callV (a' := 0) (b' := 0) (a := 0) (b := 0) 81 (As := []) (ci := 9) rfl calX9_goesOn imX9_goesOn seX9_goesOn mkX9_156 rfl rfl rfl rfl rfl (by decide) rfl rfl dX9_reads_81 (CX9_goesOn E t  h14) (fun _ h15 => kqU ?_)
      refine S_loop (fun (s84 : Unit) => [some (.ref t), none, none]) (fun again84 hg84 s84 h16 => ?_) xfu _ _
      refine S_aload_0 84 dX9_reads_84 ?_
      refine S_getI 85 fsX9_130 rfl dX9_reads_85 ?_
      refine S_join (fun jj => ∀  (h17 : XH), XS E mX9_reads eU 0 0 110 [some (.ref t), none, none] [] h17 (jj  h17)) (fun  h17 => ?_) (fun j110 hj110 => ?_)
      · skip
        refine S_aload_0 110 dX9_reads_110 ?_
        refine S_aload_0 111 dX9_reads_111 ?_
        refine S_getI 112 fsX9_117 rfl dX9_reads_112 ?_
        refine S_join (fun jj => ∀ (v18 : Int32) (h19 : XH), XS E mX9_reads eU 0 0 123 [none, none, none] [.int v18, .ref t] h19 (jj v18 h19)) (fun v18 h19 => ?_) (fun j123 hj123 => ?_)
        · skip
          refine S_ic 123 1 dX9_reads_123 (by decide) ?_
          refine S_callV (a' := 0) (b' := 0) (a := 0) (b := 0) 124 (As := [.int v18, .int 1]) (ci := 9) rfl calX9_failsIf imX9_failsIf seX9_failsIf mkX9_159 rfl rfl rfl rfl rfl (by decide) rfl rfl dX9_reads_124 (CX9_failsIf E t v18 1 h19) (fun _ h20 => kqU ?_)
          exact S_ret 127 dX9_reads_127 rfl
        refine S_ifeq 115 122 dX9_reads_115 (by decide) ?_ ?_
        · skip
          refine S_ic 122 0 dX9_reads_122 (by decide) ?_
          exact S_drop [0] rfl (hj123 _ _)
        · skip
          refine S_ic 118 1 dX9_reads_118 (by decide) ?_
          refine S_goto 119 123 dX9_reads_119 (by decide) ?_
          exact S_drop [0] rfl (hj123 _ _)
      refine S_ifne 88 110 dX9_reads_88 (by decide) ?_ ?_
      · skip
        exact S_drop [] rfl (hj110 _)
      · skip
        refine S_aload_0 91 dX9_reads_91 ?_
        refine S_getI 92 fsX9_117 rfl dX9_reads_92 ?_
        refine S_ic 95 3 dX9_reads_95 (by decide) ?_
        refine S_icmpne 96 110 dX9_reads_96 (by decide) ?_ ?_
        · skip
          exact S_drop [] rfl (hj110 _)
        · skip
          refine S_aload_0 99 dX9_reads_99 ?_
          refine S_callV (a' := 0) (b' := 0) (a := 0) (b := 0) 100 (As := []) (ci := 9) rfl calX9_token imX9_token seX9_token mkX9_140 rfl rfl rfl rfl rfl (by decide) rfl rfl dX9_reads_100 (CX9_token E t  h16) (fun _ h21 => kqU ?_)
          refine S_aload_0 103 dX9_reads_103 ?_
          refine S_callV (a' := 0) (b' := 0) (a := 0) (b := 0) 104 (As := []) (ci := 9) rfl calX9_line imX9_line seX9_line mkX9_250 rfl rfl rfl rfl rfl (by decide) rfl rfl dX9_reads_104 (CX9_line E t  h21) (fun _ h22 => kqU ?_)
          refine S_goto 107 84 dX9_reads_107 (by decide) ?_
          exact S_drop [] rfl (hg84 _ _)
    refine S_ifne 68 75 dX9_reads_68 (by decide) ?_ ?_
    · skip
      refine S_ic 75 0 dX9_reads_75 (by decide) ?_
      exact S_drop [2] rfl (hj76 _ _)
    · skip
      refine S_ic 71 1 dX9_reads_71 (by decide) ?_
      refine S_goto 72 76 dX9_reads_72 (by decide) ?_
      exact S_drop [2] rfl (hj76 _ _)
  · skip
    refine S_aload_0 44 dX9_reads_44 ?_
    refine S_getR 45 fsX9_48 rfl dX9_reads_45 (fun w23 => ?_)
    refine S_iload_2 48 dX9_reads_48 ?_
    refine S_ic 49 0 dX9_reads_49 (by decide) ?_
    refine S_iast 50 dX9_reads_50 (fun h24 => ?_)
    refine S_iinc_2 51 (s37 + 1) dX9_reads_51 (by rfl) rfl ?_
    refine S_goto 54 37 dX9_reads_54 (by decide) ?_
    exact S_drop [] rfl (hg37 _ _)
def FX9_copies (E : XG) (p1 : Nat) (p2 : Nat) (h : XH) : XP Unit := xlp (fun again2 (s2 : Int32) h1 => xg (xk h1 p2 = 12) <| if ((Int32.ofNat (xn h1 p2)) : Int32) ≤ s2 then (xv () h1) else (xg (xk h1 p1 = 12 ∧ xin s2 (xn h1 p1)) <| xg (xk h1 p2 = 12 ∧ xin s2 (xn h1 p2)) <| xlt (yi h1 p2 (s2 : Int32).toNatClampNeg (xi h1 p1 (s2 : Int32).toNatClampNeg)) fun h2 => again2 (s2 + 1) h2)) xfu 0 h
theorem CX9_copies (E : XG) (p1 : Nat) (p2 : Nat) (h : XH) : XN E mX9_copies eU 0 0 [.ref p1, .ref p2] h (FX9_copies E p1 p2 h) := by
  unfold FX9_copies
  refine S_enter (L := [some (.ref p1), some (.ref p2), none]) (by decide +kernel) rfl rfl rfl ?_
  refine S_ic 0 0 dX9_copies_0 (by decide) ?_
  refine S_istore_2 1 dX9_copies_1 rfl ?_
  refine S_loop (fun (s2 : Int32) => [some (.ref p1), some (.ref p2), some (.int s2)]) (fun again2 hg2 s2 h1 => ?_) xfu _ _
  refine S_iload_2 2 dX9_copies_2 ?_
  refine S_aload_1 3 dX9_copies_3 ?_
  refine S_alen 4 12 1 (by decide) rfl dX9_copies_4 ?_
  refine S_icmpge 5 20 dX9_copies_5 (by decide) ?_ ?_
  · skip
    exact S_ret 20 dX9_copies_20 rfl
  · skip
    refine S_aload_1 8 dX9_copies_8 ?_
    refine S_iload_2 9 dX9_copies_9 ?_
    refine S_aload_0 10 dX9_copies_10 ?_
    refine S_iload_2 11 dX9_copies_11 ?_
    refine S_iald 12 dX9_copies_12 ?_
    refine S_iast 13 dX9_copies_13 (fun h2 => ?_)
    refine S_iinc_2 14 (s2 + 1) dX9_copies_14 (by rfl) rfl ?_
    refine S_goto 17 2 dX9_copies_17 (by decide) ?_
    exact S_drop [] rfl (hg2 _ _)
def FX9_load (E : XG) (t : Nat) (p1 : Int32) (h : XH) : XP Int32 := xg (xk h t = 10) <| xlt (yi h t 0 0) fun h1 => xg (xk h1 t = 10) <| xb (FX9_in E p1 0 (xi h1 t 17) h1) fun v2 h3 => xjn (fun (v4 : Int32) (h5 : XH) => xg (xk h5 t = 10) <| xb (FX9_refuse E t v4 1 h5) fun v6 h7 => if (v6 : Int32) = 0 then (xg (xk h7 t = 10) <| xlt (yi h7 t 17 0) fun h8 => xg (xk h8 t = 10) <| xb (FX9_reads E t p1 h8) fun _ h9 => xg (xk h9 t = 10) <| xg (xk h9 t = 10) <| xlt (yi h9 t 18 (xi h9 t 25)) fun h10 => xg (xk h10 t = 10) <| xjn (fun (v11 : Int32) (h12 : XH) => xg (xk h12 t = 10) <| xlt (yi h12 t 19 v11) fun h13 => xg (xk h13 t = 10) <| xjn (fun (v14 : Int32) (h15 : XH) => xg (xk h15 t = 10) <| xb (FX9_refuse E t v14 2 h15) fun v16 h17 => if (v16 : Int32) = 0 then (xg (xk h17 t = 10 ∧ ((1 : Int32) = 0 ∨ (1 : Int32) = 1)) <| xlt (yi h17 t 1 1) fun h18 => xg (xk h18 t = 10) <| xg (xk h18 t = 10) <| xlt (yi h18 t 2 (xi h18 t 35)) fun h19 => xg (xk h19 t = 10) <| xg (xk h19 t = 10) <| xlt (yi h19 t 3 (xi h19 t 36)) fun h20 => xg (xk h20 t = 10) <| xg (xk h20 t = 10) <| xlt (yi h20 t 4 (xi h20 t 37)) fun h21 => xg (xk h21 t = 10) <| xnn (xr h21 t 28) fun w22 => xg (xk h21 t = 10) <| xnn (xr h21 t 5) fun w23 => xb (FX9_copies E w22 w23 h21) fun _ h24 => xg (xk h24 t = 10) <| xnn (xr h24 t 29) fun w25 => xg (xk h24 t = 10) <| xnn (xr h24 t 6) fun w26 => xb (FX9_copies E w25 w26 h24) fun _ h27 => xg (xk h27 t = 10) <| xnn (xr h27 t 30) fun w28 => xg (xk h27 t = 10) <| xnn (xr h27 t 7) fun w29 => xb (FX9_copies E w28 w29 h27) fun _ h30 => xg (xk h30 t = 10) <| xnn (xr h30 t 31) fun w31 => xg (xk h30 t = 10) <| xnn (xr h30 t 8) fun w32 => xb (FX9_copies E w31 w32 h30) fun _ h33 => xg (xk h33 t = 10) <| xnn (xr h33 t 32) fun w34 => xg (xk h33 t = 10) <| xnn (xr h33 t 9) fun w35 => xb (FX9_copies E w34 w35 h33) fun _ h36 => xg (xk h36 t = 10) <| xnn (xr h36 t 33) fun w37 => xg (xk h36 t = 10) <| xnn (xr h36 t 10) fun w38 => xb (FX9_copies E w37 w38 h36) fun _ h39 => xg (xk h39 t = 10) <| xnn (xr h39 t 34) fun w40 => xg (xk h39 t = 10) <| xnn (xr h39 t 11) fun w41 => xb (FX9_copies E w40 w41 h39) fun _ h42 => xg (xk h42 t = 10) <| xnn (xr h42 t 27) fun w43 => xg (xk h42 t = 10) <| xnn (xr h42 t 12) fun w44 => xb (FX9_copies E w43 w44 h42) fun _ h45 => xg (xk h45 t = 10) <| xlt (yi h45 t 14 0) fun h46 => xg (xk h46 t = 10) <| xnn (xr h46 t 15) fun w47 => xg (xk h46 w47 = 14 ∧ xin 0 (xn h46 w47)) <| xlt (yi h46 w47 (0 : Int32).toNatClampNeg (vp_nar .boolean 0)) fun h48 => xg (xk h48 t = 10) <| xnn (xr h48 t 15) fun w49 => xg (xk h48 w49 = 14 ∧ xin 1 (xn h48 w49)) <| xlt (yi h48 w49 (1 : Int32).toNatClampNeg (vp_nar .boolean 0)) fun h50 => xg (xk h50 t = 10) <| xv (xi h50 t 3) h50) else (xv 0 h17)) fun (j82 : Int32 → XH → XP Int32) => if ((xi h13 t 25) : Int32) = 0 then (j82 0 h13) else (j82 1 h13)) fun (j66 : Int32 → XH → XP Int32) => if ((xi h10 t 25) : Int32) = 0 then (j66 (-1) h10) else (xg (xk h10 t = 10) <| j66 (xi h10 t 26) h10)) else (xv 0 h7)) fun (j23 : Int32 → XH → XP Int32) => if (v2 : Int32) = 0 then (j23 1 h3) else (j23 0 h3)
theorem CX9_load (E : XG) (t : Nat) (p1 : Int32) (h : XH) : XN E mX9_load eI 0 0 [.ref t, .int p1] h (FX9_load E t p1 h) := by
  unfold FX9_load
  refine S_enter (L := [some (.ref t), some (.int p1)]) (by decide +kernel) rfl rfl rfl ?_
  refine S_aload_0 0 dX9_load_0 ?_
  refine S_ic 1 0 dX9_load_1 (by decide) ?_
  refine S_putI 2 frX9_87 rfl (fun q => by cases q) dX9_load_2 (fun h1 => ?_)
  refine S_aload_0 5 dX9_load_5 ?_
  refine S_iload_1 6 dX9_load_6 ?_
  refine S_ic 7 0 dX9_load_7 (by decide) ?_
  refine S_aload_0 8 dX9_load_8 ?_
  refine S_getI 9 fsX9_98 rfl dX9_load_9 ?_
  refine S_callS (a' := 0) (b' := 0) (a := 0) (b := 0) 12 (As := [.int p1, .int 0, .int (xi h1 t 17)]) rfl calX9_in stX9_in mkX9_152 rfl rfl rfl rfl rfl dX9_load_12 (CX9_in E p1 0 (xi h1 t 17) h1) (fun v2 h3 => kqI ?_)
  refine S_join (fun jj => ∀ (v4 : Int32) (h5 : XH), XS E mX9_load eI 0 0 23 [some (.ref t), some (.int p1)] [.int v4, .ref t] h5 (jj v4 h5)) (fun v4 h5 => ?_) (fun j23 hj23 => ?_)
  · skip
    refine S_ic 23 1 dX9_load_23 (by decide) ?_
    refine S_callV (a' := 0) (b' := 0) (a := 0) (b := 0) 24 (As := [.int v4, .int 1]) (ci := 9) rfl calX9_refuse imX9_refuse seX9_refuse mkX9_94 rfl rfl rfl rfl rfl (by decide) rfl rfl dX9_load_24 (CX9_refuse E t v4 1 h5) (fun v6 h7 => kqI ?_)
    refine S_ifeq 27 32 dX9_load_27 (by decide) ?_ ?_
    · skip
      refine S_aload_0 32 dX9_load_32 ?_
      refine S_ic 33 0 dX9_load_33 (by decide) ?_
      refine S_putI 34 frX9_98 rfl (fun q => by cases q) dX9_load_34 (fun h8 => ?_)
      refine S_aload_0 37 dX9_load_37 ?_
      refine S_iload_1 38 dX9_load_38 ?_
      refine S_callV (a' := 0) (b' := 0) (a := 0) (b := 0) 39 (As := [.int p1]) (ci := 9) rfl calX9_reads imX9_reads seX9_reads mkX9_253 rfl rfl rfl rfl rfl (by decide) rfl rfl dX9_load_39 (CX9_reads E t p1 h8) (fun _ h9 => kqU ?_)
      refine S_aload_0 42 dX9_load_42 ?_
      refine S_aload_0 43 dX9_load_43 ?_
      refine S_getI 44 fsX9_130 rfl dX9_load_44 ?_
      refine S_putI 47 frX9_101 rfl (fun q => by cases q) dX9_load_47 (fun h10 => ?_)
      refine S_aload_0 50 dX9_load_50 ?_
      refine S_aload_0 51 dX9_load_51 ?_
      refine S_getI 52 fsX9_130 rfl dX9_load_52 ?_
      refine S_join (fun jj => ∀ (v11 : Int32) (h12 : XH), XS E mX9_load eI 0 0 66 [some (.ref t), none] [.int v11, .ref t] h12 (jj v11 h12)) (fun v11 h12 => ?_) (fun j66 hj66 => ?_)
      · skip
        refine S_putI 66 frX9_44 rfl (fun q => by cases q) dX9_load_66 (fun h13 => ?_)
        refine S_aload_0 69 dX9_load_69 ?_
        refine S_aload_0 70 dX9_load_70 ?_
        refine S_getI 71 fsX9_130 rfl dX9_load_71 ?_
        refine S_join (fun jj => ∀ (v14 : Int32) (h15 : XH), XS E mX9_load eI 0 0 82 [some (.ref t), none] [.int v14, .ref t] h15 (jj v14 h15)) (fun v14 h15 => ?_) (fun j82 hj82 => ?_)
        · skip
          refine S_ic 82 2 dX9_load_82 (by decide) ?_
          refine S_callV (a' := 0) (b' := 0) (a := 0) (b := 0) 83 (As := [.int v14, .int 2]) (ci := 9) rfl calX9_refuse imX9_refuse seX9_refuse mkX9_94 rfl rfl rfl rfl rfl (by decide) rfl rfl dX9_load_83 (CX9_refuse E t v14 2 h15) (fun v16 h17 => kqI ?_)
          refine S_ifeq 86 91 dX9_load_86 (by decide) ?_ ?_
          · skip
            refine S_aload_0 91 dX9_load_91 ?_
            refine S_ic 92 1 dX9_load_92 (by decide) ?_
            refine S_putZ 93 frX9_90 rfl (fun q => by cases q) dX9_load_93 (fun h18 => ?_)
            refine S_aload_0 96 dX9_load_96 ?_
            refine S_aload_0 97 dX9_load_97 ?_
            refine S_getI 98 fsX9_170 rfl dX9_load_98 ?_
            refine S_putI 101 frX9_256 rfl (fun q => by cases q) dX9_load_101 (fun h19 => ?_)
            refine S_aload_0 104 dX9_load_104 ?_
            refine S_aload_0 105 dX9_load_105 ?_
            refine S_getI 106 fsX9_218 rfl dX9_load_106 ?_
            refine S_putI 109 frX9_259 rfl (fun q => by cases q) dX9_load_109 (fun h20 => ?_)
            refine S_aload_0 112 dX9_load_112 ?_
            refine S_aload_0 113 dX9_load_113 ?_
            refine S_getI 114 fsX9_225 rfl dX9_load_114 ?_
            refine S_putI 117 frX9_262 rfl (fun q => by cases q) dX9_load_117 (fun h21 => ?_)
            refine S_aload_0 120 dX9_load_120 ?_
            refine S_getR 121 fsX9_51 rfl dX9_load_121 (fun w22 => ?_)
            refine S_aload_0 124 dX9_load_124 ?_
            refine S_getR 125 fsX9_7 rfl dX9_load_125 (fun w23 => ?_)
            refine S_callS (a' := 0) (b' := 0) (a := 0) (b := 0) 128 (As := [.ref w22, .ref w23]) rfl calX9_copies stX9_copies mkX9_265 rfl rfl rfl rfl rfl dX9_load_128 (CX9_copies E w22 w23 h21) (fun _ h24 => kqU ?_)
            refine S_aload_0 131 dX9_load_131 ?_
            refine S_getR 132 fsX9_54 rfl dX9_load_132 (fun w25 => ?_)
            refine S_aload_0 135 dX9_load_135 ?_
            refine S_getR 136 fsX9_13 rfl dX9_load_136 (fun w26 => ?_)
            refine S_callS (a' := 0) (b' := 0) (a := 0) (b := 0) 139 (As := [.ref w25, .ref w26]) rfl calX9_copies stX9_copies mkX9_265 rfl rfl rfl rfl rfl dX9_load_139 (CX9_copies E w25 w26 h24) (fun _ h27 => kqU ?_)
            refine S_aload_0 142 dX9_load_142 ?_
            refine S_getR 143 fsX9_57 rfl dX9_load_143 (fun w28 => ?_)
            refine S_aload_0 146 dX9_load_146 ?_
            refine S_getR 147 fsX9_16 rfl dX9_load_147 (fun w29 => ?_)
            refine S_callS (a' := 0) (b' := 0) (a := 0) (b := 0) 150 (As := [.ref w28, .ref w29]) rfl calX9_copies stX9_copies mkX9_265 rfl rfl rfl rfl rfl dX9_load_150 (CX9_copies E w28 w29 h27) (fun _ h30 => kqU ?_)
            refine S_aload_0 153 dX9_load_153 ?_
            refine S_getR 154 fsX9_60 rfl dX9_load_154 (fun w31 => ?_)
            refine S_aload_0 157 dX9_load_157 ?_
            refine S_getR 158 fsX9_19 rfl dX9_load_158 (fun w32 => ?_)
            refine S_callS (a' := 0) (b' := 0) (a := 0) (b := 0) 161 (As := [.ref w31, .ref w32]) rfl calX9_copies stX9_copies mkX9_265 rfl rfl rfl rfl rfl dX9_load_161 (CX9_copies E w31 w32 h30) (fun _ h33 => kqU ?_)
            refine S_aload_0 164 dX9_load_164 ?_
            refine S_getR 165 fsX9_63 rfl dX9_load_165 (fun w34 => ?_)
            refine S_aload_0 168 dX9_load_168 ?_
            refine S_getR 169 fsX9_22 rfl dX9_load_169 (fun w35 => ?_)
            refine S_callS (a' := 0) (b' := 0) (a := 0) (b := 0) 172 (As := [.ref w34, .ref w35]) rfl calX9_copies stX9_copies mkX9_265 rfl rfl rfl rfl rfl dX9_load_172 (CX9_copies E w34 w35 h33) (fun _ h36 => kqU ?_)
            refine S_aload_0 175 dX9_load_175 ?_
            refine S_getR 176 fsX9_66 rfl dX9_load_176 (fun w37 => ?_)
            refine S_aload_0 179 dX9_load_179 ?_
            refine S_getR 180 fsX9_25 rfl dX9_load_180 (fun w38 => ?_)
            refine S_callS (a' := 0) (b' := 0) (a := 0) (b := 0) 183 (As := [.ref w37, .ref w38]) rfl calX9_copies stX9_copies mkX9_265 rfl rfl rfl rfl rfl dX9_load_183 (CX9_copies E w37 w38 h36) (fun _ h39 => kqU ?_)
            refine S_aload_0 186 dX9_load_186 ?_
            refine S_getR 187 fsX9_69 rfl dX9_load_187 (fun w40 => ?_)
            refine S_aload_0 190 dX9_load_190 ?_
            refine S_getR 191 fsX9_28 rfl dX9_load_191 (fun w41 => ?_)
            refine S_callS (a' := 0) (b' := 0) (a := 0) (b := 0) 194 (As := [.ref w40, .ref w41]) rfl calX9_copies stX9_copies mkX9_265 rfl rfl rfl rfl rfl dX9_load_194 (CX9_copies E w40 w41 h39) (fun _ h42 => kqU ?_)
            refine S_aload_0 197 dX9_load_197 ?_
            refine S_getR 198 fsX9_48 rfl dX9_load_198 (fun w43 => ?_)
            refine S_aload_0 201 dX9_load_201 ?_
            refine S_getR 202 fsX9_31 rfl dX9_load_202 (fun w44 => ?_)
            refine S_callS (a' := 0) (b' := 0) (a := 0) (b := 0) 205 (As := [.ref w43, .ref w44]) rfl calX9_copies stX9_copies mkX9_265 rfl rfl rfl rfl rfl dX9_load_205 (CX9_copies E w43 w44 h42) (fun _ h45 => kqU ?_)
            refine S_aload_0 208 dX9_load_208 ?_
            refine S_ic 209 0 dX9_load_209 (by decide) ?_
            refine S_putI 210 frX9_269 rfl (fun q => by cases q) dX9_load_210 (fun h46 => ?_)
            refine S_aload_0 213 dX9_load_213 ?_
            refine S_getR 214 fsX9_37 rfl dX9_load_214 (fun w47 => ?_)
            refine S_ic 217 0 dX9_load_217 (by decide) ?_
            refine S_ic 218 0 dX9_load_218 (by decide) ?_
            refine S_zast 219 dX9_load_219 (fun h48 => ?_)
            refine S_aload_0 220 dX9_load_220 ?_
            refine S_getR 221 fsX9_37 rfl dX9_load_221 (fun w49 => ?_)
            refine S_ic 224 1 dX9_load_224 (by decide) ?_
            refine S_ic 225 0 dX9_load_225 (by decide) ?_
            refine S_zast 226 dX9_load_226 (fun h50 => ?_)
            refine S_aload_0 227 dX9_load_227 ?_
            refine S_getI 228 fsX9_259 rfl dX9_load_228 ?_
            exact S_iret 231 dX9_load_231 rfl
          · skip
            refine S_ic 89 0 dX9_load_89 (by decide) ?_
            exact S_iret 90 dX9_load_90 rfl
        refine S_ifeq 74 81 dX9_load_74 (by decide) ?_ ?_
        · skip
          refine S_ic 81 0 dX9_load_81 (by decide) ?_
          exact S_drop [] rfl (hj82 _ _)
        · skip
          refine S_ic 77 1 dX9_load_77 (by decide) ?_
          refine S_goto 78 82 dX9_load_78 (by decide) ?_
          exact S_drop [] rfl (hj82 _ _)
      refine S_ifne 55 62 dX9_load_55 (by decide) ?_ ?_
      · skip
        refine S_aload_0 62 dX9_load_62 ?_
        refine S_getI 63 fsX9_133 rfl dX9_load_63 ?_
        exact S_drop [1] rfl (hj66 _ _)
      · skip
        refine S_ic 58 (-1) dX9_load_58 (by decide) ?_
        refine S_goto 59 66 dX9_load_59 (by decide) ?_
        exact S_drop [1] rfl (hj66 _ _)
    · skip
      refine S_ic 30 0 dX9_load_30 (by decide) ?_
      exact S_iret 31 dX9_load_31 rfl
  refine S_ifne 15 22 dX9_load_15 (by decide) ?_ ?_
  · skip
    refine S_ic 22 0 dX9_load_22 (by decide) ?_
    exact S_drop [] rfl (hj23 _ _)
  · skip
    refine S_ic 18 1 dX9_load_18 (by decide) ?_
    refine S_goto 19 23 dX9_load_19 (by decide) ?_
    exact S_drop [] rfl (hj23 _ _)
def FX9_count (E : XG) (t : Nat) (p1 : Int32) (h : XH) : XP Int32 := xg (xk h t = 10) <| xb (FX9_notLoaded E t  h) fun v1 h2 => xjn (fun (v3 : Int32) (h4 : XH) => xv v3 h4) fun (j60 : Int32 → XH → XP Int32) => xjn (fun  (h5 : XH) => j60 0 h5) fun (j29 : XH → XP Int32) => if (v1 : Int32) = 0 then (xb (FX9_in E p1 0 2 h2) fun v6 h7 => xjn (fun (v8 : Int32) (h9 : XH) => xg (xk h9 t = 10) <| xb (FX9_refuse E t v8 2 h9) fun v10 h11 => if (v10 : Int32) = 0 then (if (p1 : Int32) = 0 then (xg (xk h11 t = 10) <| j60 (xi h11 t 2) h11) else (if (p1 : Int32) = 1 then (xg (xk h11 t = 10) <| j60 (xi h11 t 3) h11) else (xg (xk h11 t = 10) <| j60 (xi h11 t 4) h11))) else (j29 h11)) fun (j22 : Int32 → XH → XP Int32) => if (v6 : Int32) = 0 then (j22 1 h7) else (j22 0 h7)) else (j29 h2)
theorem CX9_count (E : XG) (t : Nat) (p1 : Int32) (h : XH) : XN E mX9_count eI 0 0 [.ref t, .int p1] h (FX9_count E t p1 h) := by
  unfold FX9_count
  refine S_enter (L := [some (.ref t), some (.int p1)]) (by decide +kernel) rfl rfl rfl ?_
  refine S_aload_0 0 dX9_count_0 ?_
  refine S_callV (a' := 0) (b' := 0) (a := 0) (b := 0) 1 (As := []) (ci := 9) rfl calX9_notLoaded imX9_notLoaded seX9_notLoaded mkX9_272 rfl rfl rfl rfl rfl (by decide) rfl rfl dX9_count_1 (CX9_notLoaded E t  h) (fun v1 h2 => kqI ?_)
  refine S_join (fun jj => ∀ (v3 : Int32) (h4 : XH), XS E mX9_count eI 0 0 60 [none, none] [.int v3] h4 (jj v3 h4)) (fun v3 h4 => ?_) (fun j60 hj60 => ?_)
  · skip
    exact S_iret 60 dX9_count_60 rfl
  refine S_join (fun jj => ∀  (h5 : XH), XS E mX9_count eI 0 0 29 [none, none] [] h5 (jj  h5)) (fun  h5 => ?_) (fun j29 hj29 => ?_)
  · skip
    refine S_ic 29 0 dX9_count_29 (by decide) ?_
    refine S_goto 30 60 dX9_count_30 (by decide) ?_
    exact S_drop [] rfl (hj60 _ _)
  refine S_ifne 4 29 dX9_count_4 (by decide) ?_ ?_
  · skip
    exact S_drop [0, 1] rfl (hj29 _)
  · skip
    refine S_aload_0 7 dX9_count_7 ?_
    refine S_iload_1 8 dX9_count_8 ?_
    refine S_ic 9 0 dX9_count_9 (by decide) ?_
    refine S_ic 10 2 dX9_count_10 (by decide) ?_
    refine S_callS (a' := 0) (b' := 0) (a := 0) (b := 0) 11 (As := [.int p1, .int 0, .int 2]) rfl calX9_in stX9_in mkX9_152 rfl rfl rfl rfl rfl dX9_count_11 (CX9_in E p1 0 2 h2) (fun v6 h7 => kqI ?_)
    refine S_join (fun jj => ∀ (v8 : Int32) (h9 : XH), XS E mX9_count eI 0 0 22 [some (.ref t), some (.int p1)] [.int v8, .ref t] h9 (jj v8 h9)) (fun v8 h9 => ?_) (fun j22 hj22 => ?_)
    · skip
      refine S_ic 22 2 dX9_count_22 (by decide) ?_
      refine S_callV (a' := 0) (b' := 0) (a := 0) (b := 0) 23 (As := [.int v8, .int 2]) (ci := 9) rfl calX9_refuse imX9_refuse seX9_refuse mkX9_94 rfl rfl rfl rfl rfl (by decide) rfl rfl dX9_count_23 (CX9_refuse E t v8 2 h9) (fun v10 h11 => kqI ?_)
      refine S_ifeq 26 33 dX9_count_26 (by decide) ?_ ?_
      · skip
        refine S_iload_1 33 dX9_count_33 ?_
        refine S_ifne 34 44 dX9_count_34 (by decide) ?_ ?_
        · skip
          refine S_iload_1 44 dX9_count_44 ?_
          refine S_ic 45 1 dX9_count_45 (by decide) ?_
          refine S_icmpne 46 56 dX9_count_46 (by decide) ?_ ?_
          · skip
            refine S_aload_0 56 dX9_count_56 ?_
            refine S_getI 57 fsX9_262 rfl dX9_count_57 ?_
            exact S_drop [0, 1] rfl (hj60 _ _)
          · skip
            refine S_aload_0 49 dX9_count_49 ?_
            refine S_getI 50 fsX9_259 rfl dX9_count_50 ?_
            refine S_goto 53 60 dX9_count_53 (by decide) ?_
            exact S_drop [0, 1] rfl (hj60 _ _)
        · skip
          refine S_aload_0 37 dX9_count_37 ?_
          refine S_getI 38 fsX9_256 rfl dX9_count_38 ?_
          refine S_goto 41 60 dX9_count_41 (by decide) ?_
          exact S_drop [0, 1] rfl (hj60 _ _)
      · skip
        exact S_drop [0, 1] rfl (hj29 _)
    refine S_ifne 14 21 dX9_count_14 (by decide) ?_ ?_
    · skip
      refine S_ic 21 0 dX9_count_21 (by decide) ?_
      exact S_drop [] rfl (hj22 _ _)
    · skip
      refine S_ic 17 1 dX9_count_17 (by decide) ?_
      refine S_goto 18 22 dX9_count_18 (by decide) ?_
      exact S_drop [] rfl (hj22 _ _)
def FX9_nameLong (E : XG) (t : Nat) (p1 : Int32) (h : XH) : XP Int32 := xlp (fun again2 (s2 : Int32) h1 => xjn (fun  (h2 : XH) => xv s2 h2) fun (j28 : XH → XP Int32) => if (10 : Int32) ≤ s2 then (j28 h1) else (xg (xk h1 t = 10) <| xnn (xr h1 t 11) fun w3 => xg (xk h1 w3 = 12 ∧ xin ((10 * p1) + s2) (xn h1 w3)) <| if ((xi h1 w3 (((10 * p1) + s2) : Int32).toNatClampNeg) : Int32) = 0 then (j28 h1) else (again2 (s2 + 1) h1))) xfu 0 h
theorem CX9_nameLong (E : XG) (t : Nat) (p1 : Int32) (h : XH) : XN E mX9_nameLong eI 0 0 [.ref t, .int p1] h (FX9_nameLong E t p1 h) := by
  unfold FX9_nameLong
  refine S_enter (L := [some (.ref t), some (.int p1), none]) (by decide +kernel) rfl rfl rfl ?_
  refine S_ic 0 0 dX9_nameLong_0 (by decide) ?_
  refine S_istore_2 1 dX9_nameLong_1 rfl ?_
  refine S_loop (fun (s2 : Int32) => [some (.ref t), some (.int p1), some (.int s2)]) (fun again2 hg2 s2 h1 => ?_) xfu _ _
  refine S_iload_2 2 dX9_nameLong_2 ?_
  refine S_bip 3 10 dX9_nameLong_3 (by decide) ?_
  refine S_join (fun jj => ∀  (h2 : XH), XS E mX9_nameLong eI 0 0 28 [none, none, some (.int s2)] [] h2 (jj  h2)) (fun  h2 => ?_) (fun j28 hj28 => ?_)
  · skip
    refine S_iload_2 28 dX9_nameLong_28 ?_
    exact S_iret 29 dX9_nameLong_29 rfl
  refine S_icmpge 5 28 dX9_nameLong_5 (by decide) ?_ ?_
  · skip
    exact S_drop [0, 1] rfl (hj28 _)
  · skip
    refine S_aload_0 8 dX9_nameLong_8 ?_
    refine S_getR 9 fsX9_28 rfl dX9_nameLong_9 (fun w3 => ?_)
    refine S_bip 12 10 dX9_nameLong_12 (by decide) ?_
    refine S_iload_1 14 dX9_nameLong_14 ?_
    refine S_imul 15 dX9_nameLong_15 ?_
    refine S_iload_2 16 dX9_nameLong_16 ?_
    refine S_iadd 17 dX9_nameLong_17 ?_
    refine S_iald 18 dX9_nameLong_18 ?_
    refine S_ifeq 19 28 dX9_nameLong_19 (by decide) ?_ ?_
    · skip
      exact S_drop [0, 1] rfl (hj28 _)
    · skip
      refine S_iinc_2 22 (s2 + 1) dX9_nameLong_22 (by rfl) rfl ?_
      refine S_goto 25 2 dX9_nameLong_25 (by decide) ?_
      exact S_drop [] rfl (hg2 _ _)
def FX9_letter (E : XG) (t : Nat) (p1 : Int32) (p2 : Int32) (p3 : Int32) (h : XH) : XP Int32 := xg (xk h t = 10) <| xb (FX9_notLoaded E t  h) fun v1 h2 => xjn (fun  (h3 : XH) => xv 0 h3) fun (j29 : XH → XP Int32) => if (v1 : Int32) = 0 then (xb (FX9_in E p1 0 2 h2) fun v4 h5 => xjn (fun (v6 : Int32) (h7 : XH) => xg (xk h7 t = 10) <| xb (FX9_refuse E t v6 3 h7) fun v8 h9 => if (v8 : Int32) = 0 then (xjn (fun (v10 : Int32) (h11 : XH) => xb (FX9_in E p2 0 (v10 - 1) h11) fun v12 h13 => xjn (fun (v14 : Int32) (h15 : XH) => xg (xk h15 t = 10) <| xb (FX9_refuse E t v14 2 h15) fun v16 h17 => xjn (fun  (h18 : XH) => xv 0 h18) fun (j118 : XH → XP Int32) => if (v16 : Int32) = 0 then (xg (xk h17 t = 10) <| xb (FX9_nameLong E t ((6 * p1) + p2) h17) fun v19 h20 => xb (FX9_in E p3 0 (v19 - 1) h20) fun v21 h22 => xjn (fun (v23 : Int32) (h24 : XH) => xg (xk h24 t = 10) <| xb (FX9_refuse E t v23 2 h24) fun v25 h26 => if (v25 : Int32) = 0 then (xg (xk h26 t = 10) <| xnn (xr h26 t 11) fun w27 => xg (xk h26 w27 = 12 ∧ xin ((10 * ((6 * p1) + p2)) + p3) (xn h26 w27)) <| xv (xi h26 w27 (((10 * ((6 * p1) + p2)) + p3) : Int32).toNatClampNeg) h26) else (j118 h26)) fun (j111 : Int32 → XH → XP Int32) => if (v21 : Int32) = 0 then (j111 1 h22) else (j111 0 h22)) else (j118 h17)) fun (j78 : Int32 → XH → XP Int32) => if (v12 : Int32) = 0 then (j78 1 h13) else (j78 0 h13)) fun (j58 : Int32 → XH → XP Int32) => if (p1 : Int32) = 0 then (xg (xk h9 t = 10) <| j58 (xi h9 t 2) h9) else (if (p1 : Int32) = 1 then (xg (xk h9 t = 10) <| j58 (xi h9 t 3) h9) else (xg (xk h9 t = 10) <| j58 (xi h9 t 4) h9))) else (j29 h9)) fun (j22 : Int32 → XH → XP Int32) => if (v4 : Int32) = 0 then (j22 1 h5) else (j22 0 h5)) else (j29 h2)
theorem CX9_letter (E : XG) (t : Nat) (p1 : Int32) (p2 : Int32) (p3 : Int32) (h : XH) : XN E mX9_letter eI 0 0 [.ref t, .int p1, .int p2, .int p3] h (FX9_letter E t p1 p2 p3 h) := by
  unfold FX9_letter
  refine S_enter (L := [some (.ref t), some (.int p1), some (.int p2), some (.int p3), none]) (by decide +kernel) rfl rfl rfl ?_
  refine S_aload_0 0 dX9_letter_0 ?_
  refine S_callV (a' := 0) (b' := 0) (a := 0) (b := 0) 1 (As := []) (ci := 9) rfl calX9_notLoaded imX9_notLoaded seX9_notLoaded mkX9_272 rfl rfl rfl rfl rfl (by decide) rfl rfl dX9_letter_1 (CX9_notLoaded E t  h) (fun v1 h2 => kqI ?_)
  refine S_join (fun jj => ∀  (h3 : XH), XS E mX9_letter eI 0 0 29 [none, none, none, none, none] [] h3 (jj  h3)) (fun  h3 => ?_) (fun j29 hj29 => ?_)
  · skip
    refine S_ic 29 0 dX9_letter_29 (by decide) ?_
    exact S_iret 30 dX9_letter_30 rfl
  refine S_ifne 4 29 dX9_letter_4 (by decide) ?_ ?_
  · skip
    exact S_drop [0, 1, 2, 3] rfl (hj29 _)
  · skip
    refine S_aload_0 7 dX9_letter_7 ?_
    refine S_iload_1 8 dX9_letter_8 ?_
    refine S_ic 9 0 dX9_letter_9 (by decide) ?_
    refine S_ic 10 2 dX9_letter_10 (by decide) ?_
    refine S_callS (a' := 0) (b' := 0) (a := 0) (b := 0) 11 (As := [.int p1, .int 0, .int 2]) rfl calX9_in stX9_in mkX9_152 rfl rfl rfl rfl rfl dX9_letter_11 (CX9_in E p1 0 2 h2) (fun v4 h5 => kqI ?_)
    refine S_join (fun jj => ∀ (v6 : Int32) (h7 : XH), XS E mX9_letter eI 0 0 22 [some (.ref t), some (.int p1), some (.int p2), some (.int p3), none] [.int v6, .ref t] h7 (jj v6 h7)) (fun v6 h7 => ?_) (fun j22 hj22 => ?_)
    · skip
      refine S_ic 22 3 dX9_letter_22 (by decide) ?_
      refine S_callV (a' := 0) (b' := 0) (a := 0) (b := 0) 23 (As := [.int v6, .int 3]) (ci := 9) rfl calX9_refuse imX9_refuse seX9_refuse mkX9_94 rfl rfl rfl rfl rfl (by decide) rfl rfl dX9_letter_23 (CX9_refuse E t v6 3 h7) (fun v8 h9 => kqI ?_)
      refine S_ifeq 26 31 dX9_letter_26 (by decide) ?_ ?_
      · skip
        refine S_iload_1 31 dX9_letter_31 ?_
        refine S_join (fun jj => ∀ (v10 : Int32) (h11 : XH), XS E mX9_letter eI 0 0 58 [some (.ref t), some (.int p1), some (.int p2), some (.int p3), none] [.int v10] h11 (jj v10 h11)) (fun v10 h11 => ?_) (fun j58 hj58 => ?_)
        · skip
          refine S_istore_4 58 dX9_letter_58 rfl ?_
          refine S_aload_0 60 dX9_letter_60 ?_
          refine S_iload_2 61 dX9_letter_61 ?_
          refine S_ic 62 0 dX9_letter_62 (by decide) ?_
          refine S_iload_4 63 dX9_letter_63 ?_
          refine S_ic 65 1 dX9_letter_65 (by decide) ?_
          refine S_isub 66 dX9_letter_66 ?_
          refine S_callS (a' := 0) (b' := 0) (a := 0) (b := 0) 67 (As := [.int p2, .int 0, .int (v10 - 1)]) rfl calX9_in stX9_in mkX9_152 rfl rfl rfl rfl rfl dX9_letter_67 (CX9_in E p2 0 (v10 - 1) h11) (fun v12 h13 => kqI ?_)
          refine S_join (fun jj => ∀ (v14 : Int32) (h15 : XH), XS E mX9_letter eI 0 0 78 [some (.ref t), some (.int p1), some (.int p2), some (.int p3), none] [.int v14, .ref t] h15 (jj v14 h15)) (fun v14 h15 => ?_) (fun j78 hj78 => ?_)
          · skip
            refine S_ic 78 2 dX9_letter_78 (by decide) ?_
            refine S_callV (a' := 0) (b' := 0) (a := 0) (b := 0) 79 (As := [.int v14, .int 2]) (ci := 9) rfl calX9_refuse imX9_refuse seX9_refuse mkX9_94 rfl rfl rfl rfl rfl (by decide) rfl rfl dX9_letter_79 (CX9_refuse E t v14 2 h15) (fun v16 h17 => kqI ?_)
            refine S_join (fun jj => ∀  (h18 : XH), XS E mX9_letter eI 0 0 118 [none, none, none, none, none] [] h18 (jj  h18)) (fun  h18 => ?_) (fun j118 hj118 => ?_)
            · skip
              refine S_ic 118 0 dX9_letter_118 (by decide) ?_
              exact S_iret 119 dX9_letter_119 rfl
            refine S_ifne 82 118 dX9_letter_82 (by decide) ?_ ?_
            · skip
              exact S_drop [0, 1, 2, 3] rfl (hj118 _)
            · skip
              refine S_aload_0 85 dX9_letter_85 ?_
              refine S_iload_3 86 dX9_letter_86 ?_
              refine S_ic 87 0 dX9_letter_87 (by decide) ?_
              refine S_aload_0 88 dX9_letter_88 ?_
              refine S_bip 89 6 dX9_letter_89 (by decide) ?_
              refine S_iload_1 91 dX9_letter_91 ?_
              refine S_imul 92 dX9_letter_92 ?_
              refine S_iload_2 93 dX9_letter_93 ?_
              refine S_iadd 94 dX9_letter_94 ?_
              refine S_callV (a' := 0) (b' := 0) (a := 0) (b := 0) 95 (As := [.int ((6 * p1) + p2)]) (ci := 9) rfl calX9_nameLong imX9_nameLong seX9_nameLong mkX9_276 rfl rfl rfl rfl rfl (by decide) rfl rfl dX9_letter_95 (CX9_nameLong E t ((6 * p1) + p2) h17) (fun v19 h20 => kqI ?_)
              refine S_ic 98 1 dX9_letter_98 (by decide) ?_
              refine S_isub 99 dX9_letter_99 ?_
              refine S_callS (a' := 0) (b' := 0) (a := 0) (b := 0) 100 (As := [.int p3, .int 0, .int (v19 - 1)]) rfl calX9_in stX9_in mkX9_152 rfl rfl rfl rfl rfl dX9_letter_100 (CX9_in E p3 0 (v19 - 1) h20) (fun v21 h22 => kqI ?_)
              refine S_join (fun jj => ∀ (v23 : Int32) (h24 : XH), XS E mX9_letter eI 0 0 111 [some (.ref t), some (.int p1), some (.int p2), some (.int p3), none] [.int v23, .ref t] h24 (jj v23 h24)) (fun v23 h24 => ?_) (fun j111 hj111 => ?_)
              · skip
                refine S_ic 111 2 dX9_letter_111 (by decide) ?_
                refine S_callV (a' := 0) (b' := 0) (a := 0) (b := 0) 112 (As := [.int v23, .int 2]) (ci := 9) rfl calX9_refuse imX9_refuse seX9_refuse mkX9_94 rfl rfl rfl rfl rfl (by decide) rfl rfl dX9_letter_112 (CX9_refuse E t v23 2 h24) (fun v25 h26 => kqI ?_)
                refine S_ifeq 115 120 dX9_letter_115 (by decide) ?_ ?_
                · skip
                  refine S_aload_0 120 dX9_letter_120 ?_
                  refine S_getR 121 fsX9_28 rfl dX9_letter_121 (fun w27 => ?_)
                  refine S_bip 124 10 dX9_letter_124 (by decide) ?_
                  refine S_bip 126 6 dX9_letter_126 (by decide) ?_
                  refine S_iload_1 128 dX9_letter_128 ?_
                  refine S_imul 129 dX9_letter_129 ?_
                  refine S_iload_2 130 dX9_letter_130 ?_
                  refine S_iadd 131 dX9_letter_131 ?_
                  refine S_imul 132 dX9_letter_132 ?_
                  refine S_iload_3 133 dX9_letter_133 ?_
                  refine S_iadd 134 dX9_letter_134 ?_
                  refine S_iald 135 dX9_letter_135 ?_
                  exact S_iret 136 dX9_letter_136 rfl
                · skip
                  exact S_drop [0, 1, 2, 3] rfl (hj118 _)
              refine S_ifne 103 110 dX9_letter_103 (by decide) ?_ ?_
              · skip
                refine S_ic 110 0 dX9_letter_110 (by decide) ?_
                exact S_drop [] rfl (hj111 _ _)
              · skip
                refine S_ic 106 1 dX9_letter_106 (by decide) ?_
                refine S_goto 107 111 dX9_letter_107 (by decide) ?_
                exact S_drop [] rfl (hj111 _ _)
          refine S_ifne 70 77 dX9_letter_70 (by decide) ?_ ?_
          · skip
            refine S_ic 77 0 dX9_letter_77 (by decide) ?_
            exact S_drop [4] rfl (hj78 _ _)
          · skip
            refine S_ic 73 1 dX9_letter_73 (by decide) ?_
            refine S_goto 74 78 dX9_letter_74 (by decide) ?_
            exact S_drop [4] rfl (hj78 _ _)
        refine S_ifne 32 42 dX9_letter_32 (by decide) ?_ ?_
        · skip
          refine S_iload_1 42 dX9_letter_42 ?_
          refine S_ic 43 1 dX9_letter_43 (by decide) ?_
          refine S_icmpne 44 54 dX9_letter_44 (by decide) ?_ ?_
          · skip
            refine S_aload_0 54 dX9_letter_54 ?_
            refine S_getI 55 fsX9_262 rfl dX9_letter_55 ?_
            exact S_drop [] rfl (hj58 _ _)
          · skip
            refine S_aload_0 47 dX9_letter_47 ?_
            refine S_getI 48 fsX9_259 rfl dX9_letter_48 ?_
            refine S_goto 51 58 dX9_letter_51 (by decide) ?_
            exact S_drop [] rfl (hj58 _ _)
        · skip
          refine S_aload_0 35 dX9_letter_35 ?_
          refine S_getI 36 fsX9_256 rfl dX9_letter_36 ?_
          refine S_goto 39 58 dX9_letter_39 (by decide) ?_
          exact S_drop [] rfl (hj58 _ _)
      · skip
        exact S_drop [0, 1, 2, 3] rfl (hj29 _)
    refine S_ifne 14 21 dX9_letter_14 (by decide) ?_ ?_
    · skip
      refine S_ic 21 0 dX9_letter_21 (by decide) ?_
      exact S_drop [] rfl (hj22 _ _)
    · skip
      refine S_ic 17 1 dX9_letter_17 (by decide) ?_
      refine S_goto 18 22 dX9_letter_18 (by decide) ?_
      exact S_drop [] rfl (hj22 _ _)
def FX9_noGroup (E : XG) (t : Nat) (p1 : Int32) (h : XH) : XP Int32 := xg (xk h t = 10) <| xb (FX9_notLoaded E t  h) fun v1 h2 => xjn (fun (v3 : Int32) (h4 : XH) => xg ((v3 : Int32) = 0 ∨ (v3 : Int32) = 1) <| xv v3 h4) fun (j39 : Int32 → XH → XP Int32) => xjn (fun  (h5 : XH) => j39 1 h5) fun (j34 : XH → XP Int32) => if (v1 : Int32) = 0 then (xg (xk h2 t = 10) <| xb (FX9_in E p1 0 ((xi h2 t 2) - 1) h2) fun v6 h7 => xjn (fun (v8 : Int32) (h9 : XH) => xg (xk h9 t = 10) <| xb (FX9_refuse E t v8 2 h9) fun v10 h11 => if (v10 : Int32) = 0 then (j39 0 h11) else (j34 h11)) fun (j27 : Int32 → XH → XP Int32) => if (v6 : Int32) = 0 then (j27 1 h7) else (j27 0 h7)) else (j34 h2)
theorem CX9_noGroup (E : XG) (t : Nat) (p1 : Int32) (h : XH) : XN E mX9_noGroup eI 0 0 [.ref t, .int p1] h (FX9_noGroup E t p1 h) := by
  unfold FX9_noGroup
  refine S_enter (L := [some (.ref t), some (.int p1)]) (by decide +kernel) rfl rfl rfl ?_
  refine S_aload_0 0 dX9_noGroup_0 ?_
  refine S_callV (a' := 0) (b' := 0) (a := 0) (b := 0) 1 (As := []) (ci := 9) rfl calX9_notLoaded imX9_notLoaded seX9_notLoaded mkX9_272 rfl rfl rfl rfl rfl (by decide) rfl rfl dX9_noGroup_1 (CX9_notLoaded E t  h) (fun v1 h2 => kqI ?_)
  refine S_join (fun jj => ∀ (v3 : Int32) (h4 : XH), XS E mX9_noGroup eI 0 0 39 [none, none] [.int v3] h4 (jj v3 h4)) (fun v3 h4 => ?_) (fun j39 hj39 => ?_)
  · skip
    exact S_zret 39 dX9_noGroup_39 rfl
  refine S_join (fun jj => ∀  (h5 : XH), XS E mX9_noGroup eI 0 0 34 [none, none] [] h5 (jj  h5)) (fun  h5 => ?_) (fun j34 hj34 => ?_)
  · skip
    refine S_ic 34 1 dX9_noGroup_34 (by decide) ?_
    refine S_goto 35 39 dX9_noGroup_35 (by decide) ?_
    exact S_drop [] rfl (hj39 _ _)
  refine S_ifne 4 34 dX9_noGroup_4 (by decide) ?_ ?_
  · skip
    exact S_drop [0, 1] rfl (hj34 _)
  · skip
    refine S_aload_0 7 dX9_noGroup_7 ?_
    refine S_iload_1 8 dX9_noGroup_8 ?_
    refine S_ic 9 0 dX9_noGroup_9 (by decide) ?_
    refine S_aload_0 10 dX9_noGroup_10 ?_
    refine S_getI 11 fsX9_256 rfl dX9_noGroup_11 ?_
    refine S_ic 14 1 dX9_noGroup_14 (by decide) ?_
    refine S_isub 15 dX9_noGroup_15 ?_
    refine S_callS (a' := 0) (b' := 0) (a := 0) (b := 0) 16 (As := [.int p1, .int 0, .int ((xi h2 t 2) - 1)]) rfl calX9_in stX9_in mkX9_152 rfl rfl rfl rfl rfl dX9_noGroup_16 (CX9_in E p1 0 ((xi h2 t 2) - 1) h2) (fun v6 h7 => kqI ?_)
    refine S_join (fun jj => ∀ (v8 : Int32) (h9 : XH), XS E mX9_noGroup eI 0 0 27 [none, none] [.int v8, .ref t] h9 (jj v8 h9)) (fun v8 h9 => ?_) (fun j27 hj27 => ?_)
    · skip
      refine S_ic 27 2 dX9_noGroup_27 (by decide) ?_
      refine S_callV (a' := 0) (b' := 0) (a := 0) (b := 0) 28 (As := [.int v8, .int 2]) (ci := 9) rfl calX9_refuse imX9_refuse seX9_refuse mkX9_94 rfl rfl rfl rfl rfl (by decide) rfl rfl dX9_noGroup_28 (CX9_refuse E t v8 2 h9) (fun v10 h11 => kqI ?_)
      refine S_ifeq 31 38 dX9_noGroup_31 (by decide) ?_ ?_
      · skip
        refine S_ic 38 0 dX9_noGroup_38 (by decide) ?_
        exact S_drop [] rfl (hj39 _ _)
      · skip
        exact S_drop [] rfl (hj34 _)
    refine S_ifne 19 26 dX9_noGroup_19 (by decide) ?_ ?_
    · skip
      refine S_ic 26 0 dX9_noGroup_26 (by decide) ?_
      exact S_drop [0, 1] rfl (hj27 _ _)
    · skip
      refine S_ic 22 1 dX9_noGroup_22 (by decide) ?_
      refine S_goto 23 27 dX9_noGroup_23 (by decide) ?_
      exact S_drop [0, 1] rfl (hj27 _ _)
