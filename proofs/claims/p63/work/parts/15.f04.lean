/-! Methods as functions, 4. -/
set_option linter.unusedVariables false
set_option maxRecDepth 10000
def FX6_reckoned (E : XG) (t : Nat) (h : XH) : XP Int32 := xg (xk h t = 7) <| xlt (xi h t 2) fun v1 => xlp (fun again7 (s7 : Int32 × Int32) h2 => xjn (fun  (h3 : XH) => xv s7.1 h3) fun (j49 : XH → XP Int32) => if (s7.2 : Int32) < 0 then (j49 h2) else (xg (xk h2 t = 7) <| if ((xi h2 t 3) : Int32) ≤ s7.2 then (j49 h2) else (xg (xk h2 t = 7) <| xnn (xr h2 t 0) fun w4 => xg (xk h2 w4 = 11) <| if ((Int32.ofNat (xn h2 w4)) : Int32) ≤ s7.2 then (j49 h2) else (xg (xk h2 t = 7) <| xnn (xr h2 t 0) fun w5 => xg (xk h2 w5 = 11 ∧ xin s7.2 (xn h2 w5)) <| xlt (((s7.1 * 10) + (xi h2 w5 (s7.2 : Int32).toNatClampNeg)) - 48) fun v6 => again7 (v6, (s7.2 + 1)) h2)))) xfu (0, v1) h
theorem CX6_reckoned (E : XG) (t : Nat) (h : XH) : XN E mX6_reckoned eI 0 0 [.ref t] h (FX6_reckoned E t h) := by
  unfold FX6_reckoned
  refine S_enter (L := [some (.ref t), none, none]) (by decide +kernel) rfl rfl rfl ?_
  refine S_ic 0 0 dX6_reckoned_0 (by decide) ?_
  refine S_istore_1 1 dX6_reckoned_1 rfl ?_
  refine S_aload_0 2 dX6_reckoned_2 ?_
  refine S_getI 3 fsX6_26 rfl dX6_reckoned_3 ?_
  refine S_gen (fun v1 => ?_)
  refine S_istore_2 6 dX6_reckoned_6 rfl ?_
  refine S_loop (fun (s7 : Int32 × Int32) => [some (.ref t), some (.int s7.1), some (.int s7.2)]) (fun again7 hg7 s7 h2 => ?_) xfu _ _
  refine S_iload_2 7 dX6_reckoned_7 ?_
  refine S_join (fun jj => ∀  (h3 : XH), XS E mX6_reckoned eI 0 0 49 [none, some (.int s7.1), none] [] h3 (jj  h3)) (fun  h3 => ?_) (fun j49 hj49 => ?_)
  · skip
    refine S_iload_1 49 dX6_reckoned_49 ?_
    exact S_iret 50 dX6_reckoned_50 rfl
  refine S_iflt 8 49 dX6_reckoned_8 (by decide) ?_ ?_
  · skip
    exact S_drop [0, 2] rfl (hj49 _)
  · skip
    refine S_iload_2 11 dX6_reckoned_11 ?_
    refine S_aload_0 12 dX6_reckoned_12 ?_
    refine S_getI 13 fsX6_19 rfl dX6_reckoned_13 ?_
    refine S_icmpge 16 49 dX6_reckoned_16 (by decide) ?_ ?_
    · skip
      exact S_drop [0, 2] rfl (hj49 _)
    · skip
      refine S_iload_2 19 dX6_reckoned_19 ?_
      refine S_aload_0 20 dX6_reckoned_20 ?_
      refine S_getR 21 fsX6_9 rfl dX6_reckoned_21 (fun w4 => ?_)
      refine S_alen 24 11 0 (by decide) rfl dX6_reckoned_24 ?_
      refine S_icmpge 25 49 dX6_reckoned_25 (by decide) ?_ ?_
      · skip
        exact S_drop [0, 2] rfl (hj49 _)
      · skip
        refine S_iload_1 28 dX6_reckoned_28 ?_
        refine S_bip 29 10 dX6_reckoned_29 (by decide) ?_
        refine S_imul 31 dX6_reckoned_31 ?_
        refine S_aload_0 32 dX6_reckoned_32 ?_
        refine S_getR 33 fsX6_9 rfl dX6_reckoned_33 (fun w5 => ?_)
        refine S_iload_2 36 dX6_reckoned_36 ?_
        refine S_bald 37 dX6_reckoned_37 ?_
        refine S_iadd 38 dX6_reckoned_38 ?_
        refine S_bip 39 48 dX6_reckoned_39 (by decide) ?_
        refine S_isub 41 dX6_reckoned_41 ?_
        refine S_gen (fun v6 => ?_)
        refine S_istore_1 42 dX6_reckoned_42 rfl ?_
        refine S_iinc_2 43 (s7.2 + 1) dX6_reckoned_43 (by rfl) rfl ?_
        refine S_goto 46 7 dX6_reckoned_46 (by decide) ?_
        exact S_drop [] rfl (hg7 _ _)
def FX6_advance (E : XG) (t : Nat) (h : XH) : XP Unit := xg (xk h t = 7) <| xg (xk h t = 7) <| xb (FX6_endOfRun E t (xi h t 3) 32 32 h) fun v1 h2 => xg (xk h2 t = 7) <| xlt (yi h2 t 2 v1) fun h3 => xg (xk h3 t = 7) <| xg (xk h3 t = 7) <| xb (FX6_byteAt E t (xi h3 t 2) h3) fun v4 h5 => xg (xk h5 t = 7) <| xg (xk h5 t = 7) <| xjn (fun  (h6 : XH) => xv () h6) fun (j222 : XH → XP Unit) => if ((xi h5 t 2) : Int32) < (xi h5 t 1) then (xb (FX8_isBetween E v4 97 122 h5) fun v7 h8 => if (v7 : Int32) = 0 then (xb (FX8_isBetween E v4 48 57 h8) fun v9 h10 => if (v9 : Int32) = 0 then (xg (xk h10 t = 7) <| xg (xk h10 t = 7) <| xlt (yi h10 t 3 ((xi h10 t 2) + 1)) fun h11 => xjn (fun (v12 : Int32) (h13 : XH) => xg (xk h13 t = 7) <| xlt (yi h13 t 4 v12) fun h14 => j222 h14) fun (j219 : Int32 → XH → XP Unit) => if (v4 : Int32) = 59 then (j219 3 h11) else (j219 4 h11)) else (xg (xk h10 t = 7) <| xg (xk h10 t = 7) <| xb (FX6_endOfRun E t (xi h10 t 2) 48 57 h10) fun v15 h16 => xg (xk h16 t = 7) <| xlt (yi h16 t 3 v15) fun h17 => xg (xk h17 t = 7) <| xg (xk h17 t = 7) <| xjn (fun (v18 : Int32) (h19 : XH) => xg (xk h19 t = 7) <| xlt (yi h19 t 4 v18) fun h20 => xg (xk h20 t = 7) <| xjn (fun (v21 : Int32) (h22 : XH) => xg (xk h22 t = 7) <| xlt (yi h22 t 6 v21) fun h23 => j222 h23) fun (j191 : Int32 → XH → XP Unit) => if ((xi h20 t 4) : Int32) = 2 then (xg (xk h20 t = 7) <| xb (FX6_reckoned E t  h20) fun v24 h25 => j191 v24 h25) else (j191 0 h20)) fun (j171 : Int32 → XH → XP Unit) => if (2 : Int32) < ((xi h17 t 3) - (xi h17 t 2)) then (j171 4 h17) else (j171 2 h17))) else (xg (xk h8 t = 7) <| xg (xk h8 t = 7) <| xb (FX6_endOfRun E t (xi h8 t 2) 97 122 h8) fun v26 h27 => xg (xk h27 t = 7) <| xlt (yi h27 t 3 v26) fun h28 => xg (xk h28 t = 7) <| xg (xk h28 t = 7) <| xjn (fun (v29 : Int32) (h30 : XH) => xg (xk h30 t = 7) <| xlt (yi h30 t 4 v29) fun h31 => xg (xk h31 t = 7) <| xjn (fun (v32 : Int64) (h33 : XH) => xg (xk h33 t = 7) <| xlt (yj h33 t 5 v32) fun h34 => j222 h34) fun (j119 : Int64 → XH → XP Unit) => if ((xi h31 t 4) : Int32) = 1 then (xg (xk h31 t = 7) <| xb (FX6_packed E t  h31) fun v35 h36 => j119 v35 h36) else (j119 (Int64.ofNat 0) h31)) fun (j99 : Int32 → XH → XP Unit) => if (10 : Int32) < ((xi h28 t 3) - (xi h28 t 2)) then (j99 4 h28) else (j99 1 h28))) else (xg (xk h5 t = 7) <| xg (xk h5 t = 7) <| xlt (yi h5 t 3 (xi h5 t 2)) fun h37 => xg (xk h37 t = 7) <| xlt (yi h37 t 4 0) fun h38 => j222 h38)
theorem CX6_advance (E : XG) (t : Nat) (h : XH) : XN E mX6_advance eU 0 0 [.ref t] h (FX6_advance E t h) := by
  unfold FX6_advance
  refine S_enter (L := [some (.ref t), none]) (by decide +kernel) rfl rfl rfl ?_
  refine S_aload_0 0 dX6_advance_0 ?_
  refine S_aload_0 1 dX6_advance_1 ?_
  refine S_aload_0 2 dX6_advance_2 ?_
  refine S_getI 3 fsX6_19 rfl dX6_advance_3 ?_
  refine S_bip 6 32 dX6_advance_6 (by decide) ?_
  refine S_bip 8 32 dX6_advance_8 (by decide) ?_
  refine S_callV (a' := 0) (b' := 0) (a := 0) (b := 0) 10 (As := [.int (xi h t 3), .int 32, .int 32]) (ci := 6) rfl calX6_endOfRun imX6_endOfRun seX6_endOfRun mkX6_22 rfl rfl rfl rfl rfl (by decide) rfl rfl dX6_advance_10 (CX6_endOfRun E t (xi h t 3) 32 32 h) (fun v1 h2 => kqI ?_)
  refine S_putI 13 frX6_26 rfl (fun q => by cases q) dX6_advance_13 (fun h3 => ?_)
  refine S_aload_0 16 dX6_advance_16 ?_
  refine S_aload_0 17 dX6_advance_17 ?_
  refine S_getI 18 fsX6_26 rfl dX6_advance_18 ?_
  refine S_callV (a' := 0) (b' := 0) (a := 0) (b := 0) 21 (As := [.int (xi h3 t 2)]) (ci := 6) rfl calX6_byteAt imX6_byteAt seX6_byteAt mkX6_29 rfl rfl rfl rfl rfl (by decide) rfl rfl dX6_advance_21 (CX6_byteAt E t (xi h3 t 2) h3) (fun v4 h5 => kqI ?_)
  refine S_istore_1 24 dX6_advance_24 rfl ?_
  refine S_aload_0 25 dX6_advance_25 ?_
  refine S_getI 26 fsX6_26 rfl dX6_advance_26 ?_
  refine S_aload_0 29 dX6_advance_29 ?_
  refine S_getI 30 fsX6_15 rfl dX6_advance_30 ?_
  refine S_join (fun jj => ∀  (h6 : XH), XS E mX6_advance eU 0 0 222 [none, none] [] h6 (jj  h6)) (fun  h6 => ?_) (fun j222 hj222 => ?_)
  · skip
    exact S_ret 222 dX6_advance_222 rfl
  refine S_icmplt 33 52 dX6_advance_33 (by decide) ?_ ?_
  · skip
    refine S_iload_1 52 dX6_advance_52 ?_
    refine S_bip 53 97 dX6_advance_53 (by decide) ?_
    refine S_bip 55 122 dX6_advance_55 (by decide) ?_
    refine S_callSN (a' := 0) (b' := 0) (a := 0) (b := 0) 57 (As := [.int v4, .int 97, .int 122]) rfl calX8_isBetween stX8_isBetween (List.mem_of_getElem? (i := 16) rfl) rfl rfl rfl rfl rfl dX6_advance_57 (CX8_isBetween E v4 97 122 h5) (fun v7 h8 => kqI ?_)
    refine S_ifeq 60 125 dX6_advance_60 (by decide) ?_ ?_
    · skip
      refine S_iload_1 125 dX6_advance_125 ?_
      refine S_bip 126 48 dX6_advance_126 (by decide) ?_
      refine S_bip 128 57 dX6_advance_128 (by decide) ?_
      refine S_callSN (a' := 0) (b' := 0) (a := 0) (b := 0) 130 (As := [.int v4, .int 48, .int 57]) rfl calX8_isBetween stX8_isBetween (List.mem_of_getElem? (i := 16) rfl) rfl rfl rfl rfl rfl dX6_advance_130 (CX8_isBetween E v4 48 57 h8) (fun v9 h10 => kqI ?_)
      refine S_ifeq 133 197 dX6_advance_133 (by decide) ?_ ?_
      · skip
        refine S_aload_0 197 dX6_advance_197 ?_
        refine S_aload_0 198 dX6_advance_198 ?_
        refine S_getI 199 fsX6_26 rfl dX6_advance_199 ?_
        refine S_ic 202 1 dX6_advance_202 (by decide) ?_
        refine S_iadd 203 dX6_advance_203 ?_
        refine S_putI 204 frX6_19 rfl (fun q => by cases q) dX6_advance_204 (fun h11 => ?_)
        refine S_aload_0 207 dX6_advance_207 ?_
        refine S_iload_1 208 dX6_advance_208 ?_
        refine S_bip 209 59 dX6_advance_209 (by decide) ?_
        refine S_join (fun jj => ∀ (v12 : Int32) (h13 : XH), XS E mX6_advance eU 0 0 219 [none, none] [.int v12, .ref t] h13 (jj v12 h13)) (fun v12 h13 => ?_) (fun j219 hj219 => ?_)
        · skip
          refine S_putI 219 frX6_33 rfl (fun q => by cases q) dX6_advance_219 (fun h14 => ?_)
          exact S_drop [] rfl (hj222 _)
        refine S_icmpne 211 218 dX6_advance_211 (by decide) ?_ ?_
        · skip
          refine S_ic 218 4 dX6_advance_218 (by decide) ?_
          exact S_drop [0, 1] rfl (hj219 _ _)
        · skip
          refine S_ic 214 3 dX6_advance_214 (by decide) ?_
          refine S_goto 215 219 dX6_advance_215 (by decide) ?_
          exact S_drop [0, 1] rfl (hj219 _ _)
      · skip
        refine S_aload_0 136 dX6_advance_136 ?_
        refine S_aload_0 137 dX6_advance_137 ?_
        refine S_aload_0 138 dX6_advance_138 ?_
        refine S_getI 139 fsX6_26 rfl dX6_advance_139 ?_
        refine S_bip 142 48 dX6_advance_142 (by decide) ?_
        refine S_bip 144 57 dX6_advance_144 (by decide) ?_
        refine S_callV (a' := 0) (b' := 0) (a := 0) (b := 0) 146 (As := [.int (xi h10 t 2), .int 48, .int 57]) (ci := 6) rfl calX6_endOfRun imX6_endOfRun seX6_endOfRun mkX6_22 rfl rfl rfl rfl rfl (by decide) rfl rfl dX6_advance_146 (CX6_endOfRun E t (xi h10 t 2) 48 57 h10) (fun v15 h16 => kqI ?_)
        refine S_putI 149 frX6_19 rfl (fun q => by cases q) dX6_advance_149 (fun h17 => ?_)
        refine S_aload_0 152 dX6_advance_152 ?_
        refine S_aload_0 153 dX6_advance_153 ?_
        refine S_getI 154 fsX6_19 rfl dX6_advance_154 ?_
        refine S_aload_0 157 dX6_advance_157 ?_
        refine S_getI 158 fsX6_26 rfl dX6_advance_158 ?_
        refine S_isub 161 dX6_advance_161 ?_
        refine S_ic 162 2 dX6_advance_162 (by decide) ?_
        refine S_join (fun jj => ∀ (v18 : Int32) (h19 : XH), XS E mX6_advance eU 0 0 171 [some (.ref t), none] [.int v18, .ref t] h19 (jj v18 h19)) (fun v18 h19 => ?_) (fun j171 hj171 => ?_)
        · skip
          refine S_putI 171 frX6_33 rfl (fun q => by cases q) dX6_advance_171 (fun h20 => ?_)
          refine S_aload_0 174 dX6_advance_174 ?_
          refine S_aload_0 175 dX6_advance_175 ?_
          refine S_getI 176 fsX6_33 rfl dX6_advance_176 ?_
          refine S_ic 179 2 dX6_advance_179 (by decide) ?_
          refine S_join (fun jj => ∀ (v21 : Int32) (h22 : XH), XS E mX6_advance eU 0 0 191 [none, none] [.int v21, .ref t] h22 (jj v21 h22)) (fun v21 h22 => ?_) (fun j191 hj191 => ?_)
          · skip
            refine S_putI 191 frX6_52 rfl (fun q => by cases q) dX6_advance_191 (fun h23 => ?_)
            refine S_goto 194 222 dX6_advance_194 (by decide) ?_
            exact S_drop [] rfl (hj222 _)
          refine S_icmpne 180 190 dX6_advance_180 (by decide) ?_ ?_
          · skip
            refine S_ic 190 0 dX6_advance_190 (by decide) ?_
            exact S_drop [0] rfl (hj191 _ _)
          · skip
            refine S_aload_0 183 dX6_advance_183 ?_
            refine S_callV (a' := 0) (b' := 0) (a := 0) (b := 0) 184 (As := []) (ci := 6) rfl calX6_reckoned imX6_reckoned seX6_reckoned mkX6_48 rfl rfl rfl rfl rfl (by decide) rfl rfl dX6_advance_184 (CX6_reckoned E t  h20) (fun v24 h25 => kqI ?_)
            refine S_goto 187 191 dX6_advance_187 (by decide) ?_
            exact S_drop [0] rfl (hj191 _ _)
        refine S_icmpgt 163 170 dX6_advance_163 (by decide) ?_ ?_
        · skip
          refine S_ic 170 4 dX6_advance_170 (by decide) ?_
          exact S_drop [1] rfl (hj171 _ _)
        · skip
          refine S_ic 166 2 dX6_advance_166 (by decide) ?_
          refine S_goto 167 171 dX6_advance_167 (by decide) ?_
          exact S_drop [1] rfl (hj171 _ _)
    · skip
      refine S_aload_0 63 dX6_advance_63 ?_
      refine S_aload_0 64 dX6_advance_64 ?_
      refine S_aload_0 65 dX6_advance_65 ?_
      refine S_getI 66 fsX6_26 rfl dX6_advance_66 ?_
      refine S_bip 69 97 dX6_advance_69 (by decide) ?_
      refine S_bip 71 122 dX6_advance_71 (by decide) ?_
      refine S_callV (a' := 0) (b' := 0) (a := 0) (b := 0) 73 (As := [.int (xi h8 t 2), .int 97, .int 122]) (ci := 6) rfl calX6_endOfRun imX6_endOfRun seX6_endOfRun mkX6_22 rfl rfl rfl rfl rfl (by decide) rfl rfl dX6_advance_73 (CX6_endOfRun E t (xi h8 t 2) 97 122 h8) (fun v26 h27 => kqI ?_)
      refine S_putI 76 frX6_19 rfl (fun q => by cases q) dX6_advance_76 (fun h28 => ?_)
      refine S_aload_0 79 dX6_advance_79 ?_
      refine S_aload_0 80 dX6_advance_80 ?_
      refine S_getI 81 fsX6_19 rfl dX6_advance_81 ?_
      refine S_aload_0 84 dX6_advance_84 ?_
      refine S_getI 85 fsX6_26 rfl dX6_advance_85 ?_
      refine S_isub 88 dX6_advance_88 ?_
      refine S_bip 89 10 dX6_advance_89 (by decide) ?_
      refine S_join (fun jj => ∀ (v29 : Int32) (h30 : XH), XS E mX6_advance eU 0 0 99 [some (.ref t), none] [.int v29, .ref t] h30 (jj v29 h30)) (fun v29 h30 => ?_) (fun j99 hj99 => ?_)
      · skip
        refine S_putI 99 frX6_33 rfl (fun q => by cases q) dX6_advance_99 (fun h31 => ?_)
        refine S_aload_0 102 dX6_advance_102 ?_
        refine S_aload_0 103 dX6_advance_103 ?_
        refine S_getI 104 fsX6_33 rfl dX6_advance_104 ?_
        refine S_ic 107 1 dX6_advance_107 (by decide) ?_
        refine S_join (fun jj => ∀ (v32 : Int64) (h33 : XH), XS E mX6_advance eU 0 0 119 [none, none] [.long v32, .ref t] h33 (jj v32 h33)) (fun v32 h33 => ?_) (fun j119 hj119 => ?_)
        · skip
          refine S_putJ 119 frX6_44 rfl (fun q => by cases q) dX6_advance_119 (fun h34 => ?_)
          refine S_goto 122 222 dX6_advance_122 (by decide) ?_
          exact S_drop [] rfl (hj222 _)
        refine S_icmpne 108 118 dX6_advance_108 (by decide) ?_ ?_
        · skip
          refine S_lconst 118 0 dX6_advance_118 ?_
          exact S_drop [0] rfl (hj119 _ _)
        · skip
          refine S_aload_0 111 dX6_advance_111 ?_
          refine S_callV (a' := 0) (b' := 0) (a := 0) (b := 0) 112 (As := []) (ci := 6) rfl calX6_packed imX6_packed seX6_packed mkX6_40 rfl rfl rfl rfl rfl (by decide) rfl rfl dX6_advance_112 (CX6_packed E t  h31) (fun v35 h36 => kqJ ?_)
          refine S_goto 115 119 dX6_advance_115 (by decide) ?_
          exact S_drop [0] rfl (hj119 _ _)
      refine S_icmpgt 91 98 dX6_advance_91 (by decide) ?_ ?_
      · skip
        refine S_ic 98 4 dX6_advance_98 (by decide) ?_
        exact S_drop [1] rfl (hj99 _ _)
      · skip
        refine S_ic 94 1 dX6_advance_94 (by decide) ?_
        refine S_goto 95 99 dX6_advance_95 (by decide) ?_
        exact S_drop [1] rfl (hj99 _ _)
  · skip
    refine S_aload_0 36 dX6_advance_36 ?_
    refine S_aload_0 37 dX6_advance_37 ?_
    refine S_getI 38 fsX6_26 rfl dX6_advance_38 ?_
    refine S_putI 41 frX6_19 rfl (fun q => by cases q) dX6_advance_41 (fun h37 => ?_)
    refine S_aload_0 44 dX6_advance_44 ?_
    refine S_ic 45 0 dX6_advance_45 (by decide) ?_
    refine S_putI 46 frX6_33 rfl (fun q => by cases q) dX6_advance_46 (fun h38 => ?_)
    refine S_goto 49 222 dX6_advance_49 (by decide) ?_
    exact S_drop [0, 1] rfl (hj222 _)
def FX6_spells (E : XG) (t : Nat) (p1 : Nat) (h : XH) : XP Int32 := xg (xk h t = 7) <| xjn (fun (v1 : Int32) (h2 : XH) => xlp (fun again32 (s32 : Int32 × Int32) h3 => xjn (fun  (h4 : XH) => xg ((s32.1 : Int32) = 0 ∨ (s32.1 : Int32) = 1) <| xv s32.1 h4) fun (j74 : XH → XP Int32) => if (s32.1 : Int32) = 0 then (j74 h3) else (xg (p1 < nJS) <| xb (FJ0_length p1  h3) fun v5 h6 => if (v5 : Int32) ≤ s32.2 then (j74 h6) else (xg (xk h6 t = 7) <| xg (xk h6 t = 7) <| xb (FX6_byteAt E t ((xi h6 t 2) + s32.2) h6) fun v7 h8 => xg (p1 < nJS) <| xb (FJ0_charAt p1 s32.2 h8) fun v9 h10 => xjn (fun (v11 : Int32) (h12 : XH) => again32 (v11, (s32.2 + 1)) h12) fun (j67 : Int32 → XH → XP Int32) => if (v7 : Int32) = v9 then (j67 1 h10) else (j67 0 h10)))) xfu (v1, 0) h2) fun (j29 : Int32 → XH → XP Int32) => xjn (fun  (h13 : XH) => j29 0 h13) fun (j28 : XH → XP Int32) => if ((xi h t 4) : Int32) = 1 then (xg (xk h t = 7) <| xg (xk h t = 7) <| xg (p1 < nJS) <| xb (FJ0_length p1  h) fun v14 h15 => if (((xi h t 3) - (xi h t 2)) : Int32) = v14 then (j29 1 h15) else (j28 h15)) else (j28 h)
theorem CX6_spells (E : XG) (t : Nat) (p1 : Nat) (h : XH) : XN E mX6_spells eI 0 0 [.ref t, .ref (eK E p1)] h (FX6_spells E t p1 h) := by
  unfold FX6_spells
  refine S_enter (L := [some (.ref t), some (.ref (eK E p1)), none, none]) (by decide +kernel) rfl rfl rfl ?_
  refine S_aload_0 0 dX6_spells_0 ?_
  refine S_getI 1 fsX6_33 rfl dX6_spells_1 ?_
  refine S_ic 4 1 dX6_spells_4 (by decide) ?_
  refine S_join (fun jj => ∀ (v1 : Int32) (h2 : XH), XS E mX6_spells eI 0 0 29 [some (.ref t), some (.ref (eK E p1)), none, none] [.int v1] h2 (jj v1 h2)) (fun v1 h2 => ?_) (fun j29 hj29 => ?_)
  · skip
    refine S_istore_2 29 dX6_spells_29 rfl ?_
    refine S_ic 30 0 dX6_spells_30 (by decide) ?_
    refine S_istore_3 31 dX6_spells_31 rfl ?_
    refine S_loop (fun (s32 : Int32 × Int32) => [some (.ref t), some (.ref (eK E p1)), some (.int s32.1), some (.int s32.2)]) (fun again32 hg32 s32 h3 => ?_) xfu _ _
    refine S_iload_2 32 dX6_spells_32 ?_
    refine S_join (fun jj => ∀  (h4 : XH), XS E mX6_spells eI 0 0 74 [none, none, some (.int s32.1), none] [] h4 (jj  h4)) (fun  h4 => ?_) (fun j74 hj74 => ?_)
    · skip
      refine S_iload_2 74 dX6_spells_74 ?_
      exact S_zret 75 dX6_spells_75 rfl
    refine S_ifeq 33 74 dX6_spells_33 (by decide) ?_ ?_
    · skip
      exact S_drop [0, 1, 3] rfl (hj74 _)
    · skip
      refine S_iload_3 36 dX6_spells_36 ?_
      refine S_aload_1 37 dX6_spells_37 ?_
      refine S_g (fun hi9 => S_callVS (a' := 0) (b' := 0) (a := 0) (b := 0) 38 p1 (As := []) rfl hi9 calJ0_length_8abf5 rfl imJ0_length_8abf5 seJ0_length_8abf5 mkX6_55 rfl rfl rfl rfl rfl dX6_spells_38 (CJ0_length E p1  h3) (fun v5 h6 => kqI ?_))
      refine S_icmpge 41 74 dX6_spells_41 (by decide) ?_ ?_
      · skip
        exact S_drop [0, 1, 3] rfl (hj74 _)
      · skip
        refine S_aload_0 44 dX6_spells_44 ?_
        refine S_aload_0 45 dX6_spells_45 ?_
        refine S_getI 46 fsX6_26 rfl dX6_spells_46 ?_
        refine S_iload_3 49 dX6_spells_49 ?_
        refine S_iadd 50 dX6_spells_50 ?_
        refine S_callV (a' := 0) (b' := 0) (a := 0) (b := 0) 51 (As := [.int ((xi h6 t 2) + s32.2)]) (ci := 6) rfl calX6_byteAt imX6_byteAt seX6_byteAt mkX6_29 rfl rfl rfl rfl rfl (by decide) rfl rfl dX6_spells_51 (CX6_byteAt E t ((xi h6 t 2) + s32.2) h6) (fun v7 h8 => kqI ?_)
        refine S_aload_1 54 dX6_spells_54 ?_
        refine S_iload_3 55 dX6_spells_55 ?_
        refine S_g (fun hi9 => S_callVS (a' := 0) (b' := 0) (a := 0) (b := 0) 56 p1 (As := [.int s32.2]) rfl hi9 calJ0_charAt_5068e rfl imJ0_charAt_5068e seJ0_charAt_5068e mkX6_59 rfl rfl rfl rfl rfl dX6_spells_56 (CJ0_charAt E p1 s32.2 h8) (fun v9 h10 => kqI ?_))
        refine S_join (fun jj => ∀ (v11 : Int32) (h12 : XH), XS E mX6_spells eI 0 0 67 [some (.ref t), some (.ref (eK E p1)), none, some (.int s32.2)] [.int v11] h12 (jj v11 h12)) (fun v11 h12 => ?_) (fun j67 hj67 => ?_)
        · skip
          refine S_istore_2 67 dX6_spells_67 rfl ?_
          refine S_iinc_3 68 (s32.2 + 1) dX6_spells_68 (by rfl) rfl ?_
          refine S_goto 71 32 dX6_spells_71 (by decide) ?_
          exact S_drop [] rfl (hg32 _ _)
        refine S_icmpne 59 66 dX6_spells_59 (by decide) ?_ ?_
        · skip
          refine S_ic 66 0 dX6_spells_66 (by decide) ?_
          exact S_drop [2] rfl (hj67 _ _)
        · skip
          refine S_ic 62 1 dX6_spells_62 (by decide) ?_
          refine S_goto 63 67 dX6_spells_63 (by decide) ?_
          exact S_drop [2] rfl (hj67 _ _)
  refine S_join (fun jj => ∀  (h13 : XH), XS E mX6_spells eI 0 0 28 [some (.ref t), some (.ref (eK E p1)), none, none] [] h13 (jj  h13)) (fun  h13 => ?_) (fun j28 hj28 => ?_)
  · skip
    refine S_ic 28 0 dX6_spells_28 (by decide) ?_
    exact S_drop [] rfl (hj29 _ _)
  refine S_icmpne 5 28 dX6_spells_5 (by decide) ?_ ?_
  · skip
    exact S_drop [] rfl (hj28 _)
  · skip
    refine S_aload_0 8 dX6_spells_8 ?_
    refine S_getI 9 fsX6_19 rfl dX6_spells_9 ?_
    refine S_aload_0 12 dX6_spells_12 ?_
    refine S_getI 13 fsX6_26 rfl dX6_spells_13 ?_
    refine S_isub 16 dX6_spells_16 ?_
    refine S_aload_1 17 dX6_spells_17 ?_
    refine S_g (fun hi9 => S_callVS (a' := 0) (b' := 0) (a := 0) (b := 0) 18 p1 (As := []) rfl hi9 calJ0_length_8abf5 rfl imJ0_length_8abf5 seJ0_length_8abf5 mkX6_55 rfl rfl rfl rfl rfl dX6_spells_18 (CJ0_length E p1  h) (fun v14 h15 => kqI ?_))
    refine S_icmpne 21 28 dX6_spells_21 (by decide) ?_ ?_
    · skip
      exact S_drop [] rfl (hj28 _)
    · skip
      refine S_ic 24 1 dX6_spells_24 (by decide) ?_
      refine S_goto 25 29 dX6_spells_25 (by decide) ?_
      exact S_drop [] rfl (hj29 _ _)
def FX5_readNewName (E : XG) (t : Nat) (p1 : Nat) (h : XH) : XP Int32 := xg (xk h p1 = 4) <| xb (FX3_isFull E p1  h) fun v1 h2 => if (v1 : Int32) = 0 then (xg (xk h2 t = 6) <| xnn (xr h2 t 0) fun w3 => xg (xk h2 w3 = 7) <| xb (FX6_advance E w3  h2) fun _ h4 => xg (xk h4 t = 6) <| xnn (xr h4 t 0) fun w5 => xg (xk h4 w5 = 7) <| if ((xi h4 w5 4) : Int32) = 1 then (xg (xk h4 t = 6) <| xnn (xr h4 t 0) fun w6 => xg (xk h4 w6 = 7) <| xg (xk h4 p1 = 4) <| xb (FX3_numberOf E p1 (xj h4 w6 5) h4) fun v7 h8 => if (v7 : Int32) = (-1) then (xg (xk h8 t = 6) <| xnn (xr h8 t 0) fun w9 => xg (xk h8 w9 = 7) <| xg (xk h8 t = 6) <| xnn (xr h8 t 0) fun w10 => xg (xk h8 w10 = 7) <| xg (xk h8 t = 6) <| xnn (xr h8 t 0) fun w11 => xg (xk h8 w11 = 7) <| xg (xk h8 p1 = 4) <| xb (FX3_noteNext E p1 (xj h8 w9 5) ((xi h8 w10 3) - (xi h8 w11 2)) h8) fun _ h12 => xg (xk h12 t = 6) <| xnn (xr h12 t 0) fun w13 => xg (xk h12 w13 = 7) <| xb (FX6_advance E w13  h12) fun _ h14 => xg ((1 : Int32) = 0 ∨ (1 : Int32) = 1) <| xv 1 h14) else (xg (xk h8 t = 6) <| xb (FX5_refuse E t 3 h8) fun v15 h16 => xg ((v15 : Int32) = 0 ∨ (v15 : Int32) = 1) <| xv v15 h16)) else (xg (xk h4 t = 6) <| xb (FX5_refuse E t 1 h4) fun v17 h18 => xg ((v17 : Int32) = 0 ∨ (v17 : Int32) = 1) <| xv v17 h18)) else (xg (xk h2 t = 6) <| xb (FX5_refuse E t 4 h2) fun v19 h20 => xg ((v19 : Int32) = 0 ∨ (v19 : Int32) = 1) <| xv v19 h20)
theorem CX5_readNewName (E : XG) (t : Nat) (p1 : Nat) (h : XH) : XN E mX5_readNewName eI 0 0 [.ref t, .ref p1] h (FX5_readNewName E t p1 h) := by
  unfold FX5_readNewName
  refine S_enter (L := [some (.ref t), some (.ref p1)]) (by decide +kernel) rfl rfl rfl ?_
  refine S_aload_1 0 dX5_readNewName_0 ?_
  refine S_callV (a' := 0) (b' := 0) (a := 0) (b := 0) 1 (As := []) (ci := 3) rfl calX3_isFull imX3_isFull seX3_isFull mkX5_205 rfl rfl rfl rfl rfl (by decide) rfl rfl dX5_readNewName_1 (CX3_isFull E p1  h) (fun v1 h2 => kqI ?_)
  refine S_ifeq 4 13 dX5_readNewName_4 (by decide) ?_ ?_
  · skip
    refine S_aload_0 13 dX5_readNewName_13 ?_
    refine S_getR 14 fsX5_15 rfl dX5_readNewName_14 (fun w3 => ?_)
    refine S_callV (a' := 0) (b' := 0) (a := 0) (b := 0) 17 (As := []) (ci := 6) rfl calX6_advance imX6_advance seX6_advance mkX5_31 rfl rfl rfl rfl rfl (by decide) rfl rfl dX5_readNewName_17 (CX6_advance E w3  h2) (fun _ h4 => kqU ?_)
    refine S_aload_0 20 dX5_readNewName_20 ?_
    refine S_getR 21 fsX5_15 rfl dX5_readNewName_21 (fun w5 => ?_)
    refine S_getI 24 fsX5_44 rfl dX5_readNewName_24 ?_
    refine S_ic 27 1 dX5_readNewName_27 (by decide) ?_
    refine S_icmpeq 28 37 dX5_readNewName_28 (by decide) ?_ ?_
    · skip
      refine S_aload_1 37 dX5_readNewName_37 ?_
      refine S_aload_0 38 dX5_readNewName_38 ?_
      refine S_getR 39 fsX5_15 rfl dX5_readNewName_39 (fun w6 => ?_)
      refine S_getJ 42 fsX5_208 rfl dX5_readNewName_42 ?_
      refine S_callV (a' := 0) (b' := 0) (a := 0) (b := 0) 45 (As := [.long (xj h4 w6 5)]) (ci := 3) rfl calX3_numberOf imX3_numberOf seX3_numberOf mkX5_212 rfl rfl rfl rfl rfl (by decide) rfl rfl dX5_readNewName_45 (CX3_numberOf E p1 (xj h4 w6 5) h4) (fun v7 h8 => kqI ?_)
      refine S_ic 48 (-1) dX5_readNewName_48 (by decide) ?_
      refine S_icmpeq 49 58 dX5_readNewName_49 (by decide) ?_ ?_
      · skip
        refine S_aload_1 58 dX5_readNewName_58 ?_
        refine S_aload_0 59 dX5_readNewName_59 ?_
        refine S_getR 60 fsX5_15 rfl dX5_readNewName_60 (fun w9 => ?_)
        refine S_getJ 63 fsX5_208 rfl dX5_readNewName_63 ?_
        refine S_aload_0 66 dX5_readNewName_66 ?_
        refine S_getR 67 fsX5_15 rfl dX5_readNewName_67 (fun w10 => ?_)
        refine S_getI 70 fsX5_216 rfl dX5_readNewName_70 ?_
        refine S_aload_0 73 dX5_readNewName_73 ?_
        refine S_getR 74 fsX5_15 rfl dX5_readNewName_74 (fun w11 => ?_)
        refine S_getI 77 fsX5_26 rfl dX5_readNewName_77 ?_
        refine S_isub 80 dX5_readNewName_80 ?_
        refine S_callV (a' := 0) (b' := 0) (a := 0) (b := 0) 81 (As := [.long (xj h8 w9 5), .int ((xi h8 w10 3) - (xi h8 w11 2))]) (ci := 3) rfl calX3_noteNext imX3_noteNext seX3_noteNext mkX5_219 rfl rfl rfl rfl rfl (by decide) rfl rfl dX5_readNewName_81 (CX3_noteNext E p1 (xj h8 w9 5) ((xi h8 w10 3) - (xi h8 w11 2)) h8) (fun _ h12 => kqU ?_)
        refine S_aload_0 84 dX5_readNewName_84 ?_
        refine S_getR 85 fsX5_15 rfl dX5_readNewName_85 (fun w13 => ?_)
        refine S_callV (a' := 0) (b' := 0) (a := 0) (b := 0) 88 (As := []) (ci := 6) rfl calX6_advance imX6_advance seX6_advance mkX5_31 rfl rfl rfl rfl rfl (by decide) rfl rfl dX5_readNewName_88 (CX6_advance E w13  h12) (fun _ h14 => kqU ?_)
        refine S_ic 91 1 dX5_readNewName_91 (by decide) ?_
        exact S_zret 92 dX5_readNewName_92 rfl
      · skip
        refine S_aload_0 52 dX5_readNewName_52 ?_
        refine S_ic 53 3 dX5_readNewName_53 (by decide) ?_
        refine S_callV (a' := 0) (b' := 0) (a := 0) (b := 0) 54 (As := [.int 3]) (ci := 5) rfl calX5_refuse imX5_refuse seX5_refuse mkX5_40 rfl rfl rfl rfl rfl (by decide) rfl rfl dX5_readNewName_54 (CX5_refuse E t 3 h8) (fun v15 h16 => kqI ?_)
        exact S_zret 57 dX5_readNewName_57 rfl
    · skip
      refine S_aload_0 31 dX5_readNewName_31 ?_
      refine S_ic 32 1 dX5_readNewName_32 (by decide) ?_
      refine S_callV (a' := 0) (b' := 0) (a := 0) (b := 0) 33 (As := [.int 1]) (ci := 5) rfl calX5_refuse imX5_refuse seX5_refuse mkX5_40 rfl rfl rfl rfl rfl (by decide) rfl rfl dX5_readNewName_33 (CX5_refuse E t 1 h4) (fun v17 h18 => kqI ?_)
      exact S_zret 36 dX5_readNewName_36 rfl
  · skip
    refine S_aload_0 7 dX5_readNewName_7 ?_
    refine S_ic 8 4 dX5_readNewName_8 (by decide) ?_
    refine S_callV (a' := 0) (b' := 0) (a := 0) (b := 0) 9 (As := [.int 4]) (ci := 5) rfl calX5_refuse imX5_refuse seX5_refuse mkX5_40 rfl rfl rfl rfl rfl (by decide) rfl rfl dX5_readNewName_9 (CX5_refuse E t 4 h2) (fun v19 h20 => kqI ?_)
    exact S_zret 12 dX5_readNewName_12 rfl
def FX5_isNumber (E : XG) (t : Nat) (p1 : Int32) (p2 : Int32) (h : XH) : XP Int32 := xg (xk h t = 6) <| xnn (xr h t 0) fun w1 => xg (xk h w1 = 7) <| if ((xi h w1 4) : Int32) = 2 then (xg (xk h t = 6) <| xnn (xr h t 0) fun w2 => xg (xk h w2 = 7) <| xb (FX8_isBetween E (xi h w2 6) p1 p2 h) fun v3 h4 => xjn (fun (v5 : Int32) (h6 : XH) => xg ((v5 : Int32) = 0 ∨ (v5 : Int32) = 1) <| xv v5 h6) fun (j45 : Int32 → XH → XP Int32) => xjn (fun  (h7 : XH) => j45 1 h7) fun (j40 : XH → XP Int32) => if (v3 : Int32) = 0 then (xg (xk h4 t = 6) <| xb (FX5_refuse E t 2 h4) fun v8 h9 => if (v8 : Int32) = 0 then (j45 0 h9) else (j40 h9)) else (j40 h4)) else (xg (xk h t = 6) <| xb (FX5_refuse E t 1 h) fun v10 h11 => xg ((v10 : Int32) = 0 ∨ (v10 : Int32) = 1) <| xv v10 h11)
theorem CX5_isNumber (E : XG) (t : Nat) (p1 : Int32) (p2 : Int32) (h : XH) : XN E mX5_isNumber eI 0 0 [.ref t, .int p1, .int p2] h (FX5_isNumber E t p1 p2 h) := by
  unfold FX5_isNumber
  refine S_enter (L := [some (.ref t), some (.int p1), some (.int p2)]) (by decide +kernel) rfl rfl rfl ?_
  refine S_aload_0 0 dX5_isNumber_0 ?_
  refine S_getR 1 fsX5_15 rfl dX5_isNumber_1 (fun w1 => ?_)
  refine S_getI 4 fsX5_44 rfl dX5_isNumber_4 ?_
  refine S_ic 7 2 dX5_isNumber_7 (by decide) ?_
  refine S_icmpeq 8 17 dX5_isNumber_8 (by decide) ?_ ?_
  · skip
    refine S_aload_0 17 dX5_isNumber_17 ?_
    refine S_getR 18 fsX5_15 rfl dX5_isNumber_18 (fun w2 => ?_)
    refine S_getI 21 fsX5_115 rfl dX5_isNumber_21 ?_
    refine S_iload_1 24 dX5_isNumber_24 ?_
    refine S_iload_2 25 dX5_isNumber_25 ?_
    refine S_callSN (a' := 0) (b' := 0) (a := 0) (b := 0) 26 (As := [.int (xi h w2 6), .int p1, .int p2]) rfl calX8_isBetween stX8_isBetween (List.mem_of_getElem? (i := 15) rfl) rfl rfl rfl rfl rfl dX5_isNumber_26 (CX8_isBetween E (xi h w2 6) p1 p2 h) (fun v3 h4 => kqI ?_)
    refine S_join (fun jj => ∀ (v5 : Int32) (h6 : XH), XS E mX5_isNumber eI 0 0 45 [none, none, none] [.int v5] h6 (jj v5 h6)) (fun v5 h6 => ?_) (fun j45 hj45 => ?_)
    · skip
      exact S_zret 45 dX5_isNumber_45 rfl
    refine S_join (fun jj => ∀  (h7 : XH), XS E mX5_isNumber eI 0 0 40 [none, none, none] [] h7 (jj  h7)) (fun  h7 => ?_) (fun j40 hj40 => ?_)
    · skip
      refine S_ic 40 1 dX5_isNumber_40 (by decide) ?_
      refine S_goto 41 45 dX5_isNumber_41 (by decide) ?_
      exact S_drop [] rfl (hj45 _ _)
    refine S_ifne 29 40 dX5_isNumber_29 (by decide) ?_ ?_
    · skip
      exact S_drop [0, 1, 2] rfl (hj40 _)
    · skip
      refine S_aload_0 32 dX5_isNumber_32 ?_
      refine S_ic 33 2 dX5_isNumber_33 (by decide) ?_
      refine S_callV (a' := 0) (b' := 0) (a := 0) (b := 0) 34 (As := [.int 2]) (ci := 5) rfl calX5_refuse imX5_refuse seX5_refuse mkX5_40 rfl rfl rfl rfl rfl (by decide) rfl rfl dX5_isNumber_34 (CX5_refuse E t 2 h4) (fun v8 h9 => kqI ?_)
      refine S_ifeq 37 44 dX5_isNumber_37 (by decide) ?_ ?_
      · skip
        refine S_ic 44 0 dX5_isNumber_44 (by decide) ?_
        exact S_drop [0, 1, 2] rfl (hj45 _ _)
      · skip
        exact S_drop [0, 1, 2] rfl (hj40 _)
  · skip
    refine S_aload_0 11 dX5_isNumber_11 ?_
    refine S_ic 12 1 dX5_isNumber_12 (by decide) ?_
    refine S_callV (a' := 0) (b' := 0) (a := 0) (b := 0) 13 (As := [.int 1]) (ci := 5) rfl calX5_refuse imX5_refuse seX5_refuse mkX5_40 rfl rfl rfl rfl rfl (by decide) rfl rfl dX5_isNumber_13 (CX5_refuse E t 1 h) (fun v10 h11 => kqI ?_)
    exact S_zret 16 dX5_isNumber_16 rfl
def FX5_readCyclic (E : XG) (t : Nat) (p1 : Nat) (h : XH) : XP Int32 := xg (xk h t = 6) <| xnn (xr h t 0) fun w1 => xg (xk h w1 = 7) <| xb (FX6_advance E w1  h) fun _ h2 => xg (xk h2 t = 6) <| xb (FX5_isNumber E t 1 8 h2) fun v3 h4 => if (v3 : Int32) = 0 then (xg ((0 : Int32) = 0 ∨ (0 : Int32) = 1) <| xv 0 h4) else (xg (xk h4 t = 6) <| xnn (xr h4 t 0) fun w5 => xg (xk h4 w5 = 7) <| xg (xk h4 p1 = 3) <| xb (FX2_becomeCyclic E p1 (xi h4 w5 6) h4) fun _ h6 => xg (xk h6 t = 6) <| xnn (xr h6 t 0) fun w7 => xg (xk h6 w7 = 7) <| xb (FX6_advance E w7  h6) fun _ h8 => xg ((1 : Int32) = 0 ∨ (1 : Int32) = 1) <| xv 1 h8)
theorem CX5_readCyclic (E : XG) (t : Nat) (p1 : Nat) (h : XH) : XN E mX5_readCyclic eI 0 0 [.ref t, .ref p1] h (FX5_readCyclic E t p1 h) := by
  unfold FX5_readCyclic
  refine S_enter (L := [some (.ref t), some (.ref p1)]) (by decide +kernel) rfl rfl rfl ?_
  refine S_aload_0 0 dX5_readCyclic_0 ?_
  refine S_getR 1 fsX5_15 rfl dX5_readCyclic_1 (fun w1 => ?_)
  refine S_callV (a' := 0) (b' := 0) (a := 0) (b := 0) 4 (As := []) (ci := 6) rfl calX6_advance imX6_advance seX6_advance mkX5_31 rfl rfl rfl rfl rfl (by decide) rfl rfl dX5_readCyclic_4 (CX6_advance E w1  h) (fun _ h2 => kqU ?_)
  refine S_aload_0 7 dX5_readCyclic_7 ?_
  refine S_ic 8 1 dX5_readCyclic_8 (by decide) ?_
  refine S_bip 9 8 dX5_readCyclic_9 (by decide) ?_
  refine S_callV (a' := 0) (b' := 0) (a := 0) (b := 0) 11 (As := [.int 1, .int 8]) (ci := 5) rfl calX5_isNumber imX5_isNumber seX5_isNumber mkX5_111 rfl rfl rfl rfl rfl (by decide) rfl rfl dX5_readCyclic_11 (CX5_isNumber E t 1 8 h2) (fun v3 h4 => kqI ?_)
  refine S_ifne 14 19 dX5_readCyclic_14 (by decide) ?_ ?_
  · skip
    refine S_aload_1 19 dX5_readCyclic_19 ?_
    refine S_aload_0 20 dX5_readCyclic_20 ?_
    refine S_getR 21 fsX5_15 rfl dX5_readCyclic_21 (fun w5 => ?_)
    refine S_getI 24 fsX5_115 rfl dX5_readCyclic_24 ?_
    refine S_callV (a' := 0) (b' := 0) (a := 0) (b := 0) 27 (As := [.int (xi h4 w5 6)]) (ci := 2) rfl calX2_becomeCyclic imX2_becomeCyclic seX2_becomeCyclic mkX5_118 rfl rfl rfl rfl rfl (by decide) rfl rfl dX5_readCyclic_27 (CX2_becomeCyclic E p1 (xi h4 w5 6) h4) (fun _ h6 => kqU ?_)
    refine S_aload_0 30 dX5_readCyclic_30 ?_
    refine S_getR 31 fsX5_15 rfl dX5_readCyclic_31 (fun w7 => ?_)
    refine S_callV (a' := 0) (b' := 0) (a := 0) (b := 0) 34 (As := []) (ci := 6) rfl calX6_advance imX6_advance seX6_advance mkX5_31 rfl rfl rfl rfl rfl (by decide) rfl rfl dX5_readCyclic_34 (CX6_advance E w7  h6) (fun _ h8 => kqU ?_)
    refine S_ic 37 1 dX5_readCyclic_37 (by decide) ?_
    exact S_zret 38 dX5_readCyclic_38 rfl
  · skip
    refine S_ic 17 0 dX5_readCyclic_17 (by decide) ?_
    exact S_zret 18 dX5_readCyclic_18 rfl
def FX5_readDihedral (E : XG) (t : Nat) (p1 : Nat) (h : XH) : XP Int32 := xg (xk h t = 6) <| xnn (xr h t 0) fun w1 => xg (xk h w1 = 7) <| xb (FX6_advance E w1  h) fun _ h2 => xg (xk h2 t = 6) <| xb (FX5_isNumber E t 3 4 h2) fun v3 h4 => if (v3 : Int32) = 0 then (xg ((0 : Int32) = 0 ∨ (0 : Int32) = 1) <| xv 0 h4) else (xg (xk h4 t = 6) <| xnn (xr h4 t 0) fun w5 => xg (xk h4 w5 = 7) <| xg (xk h4 p1 = 3) <| xb (FX2_becomeDihedral E p1 (xi h4 w5 6) h4) fun _ h6 => xg (xk h6 t = 6) <| xnn (xr h6 t 0) fun w7 => xg (xk h6 w7 = 7) <| xb (FX6_advance E w7  h6) fun _ h8 => xg ((1 : Int32) = 0 ∨ (1 : Int32) = 1) <| xv 1 h8)
theorem CX5_readDihedral (E : XG) (t : Nat) (p1 : Nat) (h : XH) : XN E mX5_readDihedral eI 0 0 [.ref t, .ref p1] h (FX5_readDihedral E t p1 h) := by
  unfold FX5_readDihedral
  refine S_enter (L := [some (.ref t), some (.ref p1)]) (by decide +kernel) rfl rfl rfl ?_
  refine S_aload_0 0 dX5_readDihedral_0 ?_
  refine S_getR 1 fsX5_15 rfl dX5_readDihedral_1 (fun w1 => ?_)
  refine S_callV (a' := 0) (b' := 0) (a := 0) (b := 0) 4 (As := []) (ci := 6) rfl calX6_advance imX6_advance seX6_advance mkX5_31 rfl rfl rfl rfl rfl (by decide) rfl rfl dX5_readDihedral_4 (CX6_advance E w1  h) (fun _ h2 => kqU ?_)
  refine S_aload_0 7 dX5_readDihedral_7 ?_
  refine S_ic 8 3 dX5_readDihedral_8 (by decide) ?_
  refine S_ic 9 4 dX5_readDihedral_9 (by decide) ?_
  refine S_callV (a' := 0) (b' := 0) (a := 0) (b := 0) 10 (As := [.int 3, .int 4]) (ci := 5) rfl calX5_isNumber imX5_isNumber seX5_isNumber mkX5_111 rfl rfl rfl rfl rfl (by decide) rfl rfl dX5_readDihedral_10 (CX5_isNumber E t 3 4 h2) (fun v3 h4 => kqI ?_)
  refine S_ifne 13 18 dX5_readDihedral_13 (by decide) ?_ ?_
  · skip
    refine S_aload_1 18 dX5_readDihedral_18 ?_
    refine S_aload_0 19 dX5_readDihedral_19 ?_
    refine S_getR 20 fsX5_15 rfl dX5_readDihedral_20 (fun w5 => ?_)
    refine S_getI 23 fsX5_115 rfl dX5_readDihedral_23 ?_
    refine S_callV (a' := 0) (b' := 0) (a := 0) (b := 0) 26 (As := [.int (xi h4 w5 6)]) (ci := 2) rfl calX2_becomeDihedral imX2_becomeDihedral seX2_becomeDihedral mkX5_124 rfl rfl rfl rfl rfl (by decide) rfl rfl dX5_readDihedral_26 (CX2_becomeDihedral E p1 (xi h4 w5 6) h4) (fun _ h6 => kqU ?_)
    refine S_aload_0 29 dX5_readDihedral_29 ?_
    refine S_getR 30 fsX5_15 rfl dX5_readDihedral_30 (fun w7 => ?_)
    refine S_callV (a' := 0) (b' := 0) (a := 0) (b := 0) 33 (As := []) (ci := 6) rfl calX6_advance imX6_advance seX6_advance mkX5_31 rfl rfl rfl rfl rfl (by decide) rfl rfl dX5_readDihedral_33 (CX6_advance E w7  h6) (fun _ h8 => kqU ?_)
    refine S_ic 36 1 dX5_readDihedral_36 (by decide) ?_
    exact S_zret 37 dX5_readDihedral_37 rfl
  · skip
    refine S_ic 16 0 dX5_readDihedral_16 (by decide) ?_
    exact S_zret 17 dX5_readDihedral_17 rfl
def FX5_readQuaternion (E : XG) (t : Nat) (p1 : Nat) (h : XH) : XP Int32 := xg (xk h t = 6) <| xnn (xr h t 0) fun w1 => xg (xk h w1 = 7) <| xb (FX6_advance E w1  h) fun _ h2 => xg (xk h2 p1 = 3) <| xb (FX2_becomeQuaternion E p1  h2) fun _ h3 => xg ((1 : Int32) = 0 ∨ (1 : Int32) = 1) <| xv 1 h3
theorem CX5_readQuaternion (E : XG) (t : Nat) (p1 : Nat) (h : XH) : XN E mX5_readQuaternion eI 0 0 [.ref t, .ref p1] h (FX5_readQuaternion E t p1 h) := by
  unfold FX5_readQuaternion
  refine S_enter (L := [some (.ref t), some (.ref p1)]) (by decide +kernel) rfl rfl rfl ?_
  refine S_aload_0 0 dX5_readQuaternion_0 ?_
  refine S_getR 1 fsX5_15 rfl dX5_readQuaternion_1 (fun w1 => ?_)
  refine S_callV (a' := 0) (b' := 0) (a := 0) (b := 0) 4 (As := []) (ci := 6) rfl calX6_advance imX6_advance seX6_advance mkX5_31 rfl rfl rfl rfl rfl (by decide) rfl rfl dX5_readQuaternion_4 (CX6_advance E w1  h) (fun _ h2 => kqU ?_)
  refine S_aload_1 7 dX5_readQuaternion_7 ?_
  refine S_callV (a' := 0) (b' := 0) (a := 0) (b := 0) 8 (As := []) (ci := 2) rfl calX2_becomeQuaternion imX2_becomeQuaternion seX2_becomeQuaternion mkX5_127 rfl rfl rfl rfl rfl (by decide) rfl rfl dX5_readQuaternion_8 (CX2_becomeQuaternion E p1  h2) (fun _ h3 => kqU ?_)
  refine S_ic 11 1 dX5_readQuaternion_11 (by decide) ?_
  exact S_zret 12 dX5_readQuaternion_12 rfl
def FX5_isKnown (E : XG) (t : Nat) (p1 : Nat) (h : XH) : XP Int32 := xg (xk h t = 6) <| xnn (xr h t 0) fun w1 => xg (xk h w1 = 7) <| if ((xi h w1 4) : Int32) = 1 then (xg (xk h t = 6) <| xnn (xr h t 0) fun w2 => xg (xk h w2 = 7) <| xg (xk h p1 = 4) <| xb (FX3_numberOf E p1 (xj h w2 5) h) fun v3 h4 => xjn (fun (v5 : Int32) (h6 : XH) => xg ((v5 : Int32) = 0 ∨ (v5 : Int32) = 1) <| xv v5 h6) fun (j45 : Int32 → XH → XP Int32) => xjn (fun  (h7 : XH) => j45 1 h7) fun (j40 : XH → XP Int32) => if (v3 : Int32) = (-1) then (xg (xk h4 t = 6) <| xb (FX5_refuse E t 3 h4) fun v8 h9 => if (v8 : Int32) = 0 then (j45 0 h9) else (j40 h9)) else (j40 h4)) else (xg (xk h t = 6) <| xb (FX5_refuse E t 1 h) fun v10 h11 => xg ((v10 : Int32) = 0 ∨ (v10 : Int32) = 1) <| xv v10 h11)
theorem CX5_isKnown (E : XG) (t : Nat) (p1 : Nat) (h : XH) : XN E mX5_isKnown eI 0 0 [.ref t, .ref p1] h (FX5_isKnown E t p1 h) := by
  unfold FX5_isKnown
  refine S_enter (L := [some (.ref t), some (.ref p1)]) (by decide +kernel) rfl rfl rfl ?_
  refine S_aload_0 0 dX5_isKnown_0 ?_
  refine S_getR 1 fsX5_15 rfl dX5_isKnown_1 (fun w1 => ?_)
  refine S_getI 4 fsX5_44 rfl dX5_isKnown_4 ?_
  refine S_ic 7 1 dX5_isKnown_7 (by decide) ?_
  refine S_icmpeq 8 17 dX5_isKnown_8 (by decide) ?_ ?_
  · skip
    refine S_aload_1 17 dX5_isKnown_17 ?_
    refine S_aload_0 18 dX5_isKnown_18 ?_
    refine S_getR 19 fsX5_15 rfl dX5_isKnown_19 (fun w2 => ?_)
    refine S_getJ 22 fsX5_208 rfl dX5_isKnown_22 ?_
    refine S_callV (a' := 0) (b' := 0) (a := 0) (b := 0) 25 (As := [.long (xj h w2 5)]) (ci := 3) rfl calX3_numberOf imX3_numberOf seX3_numberOf mkX5_212 rfl rfl rfl rfl rfl (by decide) rfl rfl dX5_isKnown_25 (CX3_numberOf E p1 (xj h w2 5) h) (fun v3 h4 => kqI ?_)
    refine S_ic 28 (-1) dX5_isKnown_28 (by decide) ?_
    refine S_join (fun jj => ∀ (v5 : Int32) (h6 : XH), XS E mX5_isKnown eI 0 0 45 [none, none] [.int v5] h6 (jj v5 h6)) (fun v5 h6 => ?_) (fun j45 hj45 => ?_)
    · skip
      exact S_zret 45 dX5_isKnown_45 rfl
    refine S_join (fun jj => ∀  (h7 : XH), XS E mX5_isKnown eI 0 0 40 [none, none] [] h7 (jj  h7)) (fun  h7 => ?_) (fun j40 hj40 => ?_)
    · skip
      refine S_ic 40 1 dX5_isKnown_40 (by decide) ?_
      refine S_goto 41 45 dX5_isKnown_41 (by decide) ?_
      exact S_drop [] rfl (hj45 _ _)
    refine S_icmpne 29 40 dX5_isKnown_29 (by decide) ?_ ?_
    · skip
      exact S_drop [0, 1] rfl (hj40 _)
    · skip
      refine S_aload_0 32 dX5_isKnown_32 ?_
      refine S_ic 33 3 dX5_isKnown_33 (by decide) ?_
      refine S_callV (a' := 0) (b' := 0) (a := 0) (b := 0) 34 (As := [.int 3]) (ci := 5) rfl calX5_refuse imX5_refuse seX5_refuse mkX5_40 rfl rfl rfl rfl rfl (by decide) rfl rfl dX5_isKnown_34 (CX5_refuse E t 3 h4) (fun v8 h9 => kqI ?_)
      refine S_ifeq 37 44 dX5_isKnown_37 (by decide) ?_ ?_
      · skip
        refine S_ic 44 0 dX5_isKnown_44 (by decide) ?_
        exact S_drop [0, 1] rfl (hj45 _ _)
      · skip
        exact S_drop [0, 1] rfl (hj40 _)
  · skip
    refine S_aload_0 11 dX5_isKnown_11 ?_
    refine S_ic 12 1 dX5_isKnown_12 (by decide) ?_
    refine S_callV (a' := 0) (b' := 0) (a := 0) (b := 0) 13 (As := [.int 1]) (ci := 5) rfl calX5_refuse imX5_refuse seX5_refuse mkX5_40 rfl rfl rfl rfl rfl (by decide) rfl rfl dX5_isKnown_13 (CX5_refuse E t 1 h) (fun v10 h11 => kqI ?_)
    exact S_zret 16 dX5_isKnown_16 rfl
def FX5_groupTold (E : XG) (t : Nat) (h : XH) : XP Nat := xg (xk h t = 6) <| xnn (xr h t 1) fun w1 => xg (xk h w1 = 8) <| xnn (xr h w1 0) fun w2 => xg (xk h t = 6) <| xnn (xr h t 0) fun w3 => xg (xk h w3 = 7) <| xg (xk h w2 = 4) <| xb (FX3_numberOf E w2 (xj h w3 5) h) fun v4 h5 => xg (xk h5 t = 6) <| xnn (xr h5 t 1) fun w6 => xg (xk h5 w6 = 8) <| xnn (xr h5 w6 3) fun w7 => xjn (fun (v8 : Int32) (h9 : XH) => xg (xk h9 w7 = 17 ∧ xin v8 (xn h9 w7)) <| xnn (xr h9 w7 (v8 : Int32).toNatClampNeg) fun w10 => xv w10 h9) fun (j34 : Int32 → XH → XP Nat) => if (v4 : Int32) < 0 then (j34 0 h5) else (j34 v4 h5)
theorem CX5_groupTold (E : XG) (t : Nat) (h : XH) : XN E mX5_groupTold eR 0 0 [.ref t] h (FX5_groupTold E t h) := by
  unfold FX5_groupTold
  refine S_enter (L := [some (.ref t), none]) (by decide +kernel) rfl rfl rfl ?_
  refine S_aload_0 0 dX5_groupTold_0 ?_
  refine S_getR 1 fsX5_19 rfl dX5_groupTold_1 (fun w1 => ?_)
  refine S_getR 4 fsX5_71 rfl dX5_groupTold_4 (fun w2 => ?_)
  refine S_aload_0 7 dX5_groupTold_7 ?_
  refine S_getR 8 fsX5_15 rfl dX5_groupTold_8 (fun w3 => ?_)
  refine S_getJ 11 fsX5_208 rfl dX5_groupTold_11 ?_
  refine S_callV (a' := 0) (b' := 0) (a := 0) (b := 0) 14 (As := [.long (xj h w3 5)]) (ci := 3) rfl calX3_numberOf imX3_numberOf seX3_numberOf mkX5_212 rfl rfl rfl rfl rfl (by decide) rfl rfl dX5_groupTold_14 (CX3_numberOf E w2 (xj h w3 5) h) (fun v4 h5 => kqI ?_)
  refine S_istore_1 17 dX5_groupTold_17 rfl ?_
  refine S_aload_0 18 dX5_groupTold_18 ?_
  refine S_getR 19 fsX5_19 rfl dX5_groupTold_19 (fun w6 => ?_)
  refine S_getR 22 fsX5_81 rfl dX5_groupTold_22 (fun w7 => ?_)
  refine S_iload_1 25 dX5_groupTold_25 ?_
  refine S_join (fun jj => ∀ (v8 : Int32) (h9 : XH), XS E mX5_groupTold eR 0 0 34 [none, none] [.int v8, .ref w7] h9 (jj v8 h9)) (fun v8 h9 => ?_) (fun j34 hj34 => ?_)
  · skip
    refine S_aald 34 17 6 (by decide) rfl rfl dX5_groupTold_34 (fun w10 => ?_)
    exact S_aret 35 dX5_groupTold_35 rfl
  refine S_iflt 26 33 dX5_groupTold_26 (by decide) ?_ ?_
  · skip
    refine S_ic 33 0 dX5_groupTold_33 (by decide) ?_
    exact S_drop [0, 1] rfl (hj34 _ _)
  · skip
    refine S_iload_1 29 dX5_groupTold_29 ?_
    refine S_goto 30 34 dX5_groupTold_30 (by decide) ?_
    exact S_drop [0, 1] rfl (hj34 _ _)
def FX5_readProduct (E : XG) (t : Nat) (p1 : Nat) (h : XH) : XP Int32 := xg (xk h t = 6) <| xnn (xr h t 0) fun w1 => xg (xk h w1 = 7) <| xb (FX6_advance E w1  h) fun _ h2 => xg (xk h2 t = 6) <| xnn (xr h2 t 1) fun w3 => xg (xk h2 w3 = 8) <| xnn (xr h2 w3 0) fun w4 => xg (xk h2 t = 6) <| xb (FX5_isKnown E t w4 h2) fun v5 h6 => if (v5 : Int32) = 0 then (xg ((0 : Int32) = 0 ∨ (0 : Int32) = 1) <| xv 0 h6) else (xg (xk h6 t = 6) <| xb (FX5_groupTold E t  h6) fun v7 h8 => xg (xk h8 t = 6) <| xnn (xr h8 t 0) fun w9 => xg (xk h8 w9 = 7) <| xb (FX6_advance E w9  h8) fun _ h10 => xg (xk h10 t = 6) <| xnn (xr h10 t 1) fun w11 => xg (xk h10 w11 = 8) <| xnn (xr h10 w11 0) fun w12 => xg (xk h10 t = 6) <| xb (FX5_isKnown E t w12 h10) fun v13 h14 => if (v13 : Int32) = 0 then (xg ((0 : Int32) = 0 ∨ (0 : Int32) = 1) <| xv 0 h14) else (xg (xk h14 t = 6) <| xb (FX5_groupTold E t  h14) fun v15 h16 => xg (xk h16 v7 = 3) <| xg (xk h16 v15 = 3) <| if (((xi h16 v7 3) * (xi h16 v15 3)) : Int32) ≤ 8 then (xg (xk h16 t = 6) <| xnn (xr h16 t 0) fun w17 => xg (xk h16 w17 = 7) <| xb (FX6_advance E w17  h16) fun _ h18 => xg (xk h18 p1 = 3) <| xb (FX2_becomeProduct E p1 v7 v15 h18) fun _ h19 => xg ((1 : Int32) = 0 ∨ (1 : Int32) = 1) <| xv 1 h19) else (xg (xk h16 t = 6) <| xb (FX5_refuse E t 4 h16) fun v20 h21 => xg ((v20 : Int32) = 0 ∨ (v20 : Int32) = 1) <| xv v20 h21)))
theorem CX5_readProduct (E : XG) (t : Nat) (p1 : Nat) (h : XH) : XN E mX5_readProduct eI 0 0 [.ref t, .ref p1] h (FX5_readProduct E t p1 h) := by
  unfold FX5_readProduct
  refine S_enter (L := [some (.ref t), some (.ref p1), none, none]) (by decide +kernel) rfl rfl rfl ?_
  refine S_aload_0 0 dX5_readProduct_0 ?_
  refine S_getR 1 fsX5_15 rfl dX5_readProduct_1 (fun w1 => ?_)
  refine S_callV (a' := 0) (b' := 0) (a := 0) (b := 0) 4 (As := []) (ci := 6) rfl calX6_advance imX6_advance seX6_advance mkX5_31 rfl rfl rfl rfl rfl (by decide) rfl rfl dX5_readProduct_4 (CX6_advance E w1  h) (fun _ h2 => kqU ?_)
  refine S_aload_0 7 dX5_readProduct_7 ?_
  refine S_aload_0 8 dX5_readProduct_8 ?_
  refine S_getR 9 fsX5_19 rfl dX5_readProduct_9 (fun w3 => ?_)
  refine S_getR 12 fsX5_71 rfl dX5_readProduct_12 (fun w4 => ?_)
  refine S_callV (a' := 0) (b' := 0) (a := 0) (b := 0) 15 (As := [.ref w4]) (ci := 5) rfl calX5_isKnown imX5_isKnown seX5_isKnown mkX5_130 rfl rfl rfl rfl rfl (by decide) rfl rfl dX5_readProduct_15 (CX5_isKnown E t w4 h2) (fun v5 h6 => kqI ?_)
  refine S_ifne 18 23 dX5_readProduct_18 (by decide) ?_ ?_
  · skip
    refine S_aload_0 23 dX5_readProduct_23 ?_
    refine S_callV (a' := 0) (b' := 0) (a := 0) (b := 0) 24 (As := []) (ci := 5) rfl calX5_groupTold imX5_groupTold seX5_groupTold mkX5_133 rfl rfl rfl rfl rfl (by decide) rfl rfl dX5_readProduct_24 (CX5_groupTold E t  h6) (fun v7 h8 => kqR ?_)
    refine S_astore_2 27 dX5_readProduct_27 rfl ?_
    refine S_aload_0 28 dX5_readProduct_28 ?_
    refine S_getR 29 fsX5_15 rfl dX5_readProduct_29 (fun w9 => ?_)
    refine S_callV (a' := 0) (b' := 0) (a := 0) (b := 0) 32 (As := []) (ci := 6) rfl calX6_advance imX6_advance seX6_advance mkX5_31 rfl rfl rfl rfl rfl (by decide) rfl rfl dX5_readProduct_32 (CX6_advance E w9  h8) (fun _ h10 => kqU ?_)
    refine S_aload_0 35 dX5_readProduct_35 ?_
    refine S_aload_0 36 dX5_readProduct_36 ?_
    refine S_getR 37 fsX5_19 rfl dX5_readProduct_37 (fun w11 => ?_)
    refine S_getR 40 fsX5_71 rfl dX5_readProduct_40 (fun w12 => ?_)
    refine S_callV (a' := 0) (b' := 0) (a := 0) (b := 0) 43 (As := [.ref w12]) (ci := 5) rfl calX5_isKnown imX5_isKnown seX5_isKnown mkX5_130 rfl rfl rfl rfl rfl (by decide) rfl rfl dX5_readProduct_43 (CX5_isKnown E t w12 h10) (fun v13 h14 => kqI ?_)
    refine S_ifne 46 51 dX5_readProduct_46 (by decide) ?_ ?_
    · skip
      refine S_aload_0 51 dX5_readProduct_51 ?_
      refine S_callV (a' := 0) (b' := 0) (a := 0) (b := 0) 52 (As := []) (ci := 5) rfl calX5_groupTold imX5_groupTold seX5_groupTold mkX5_133 rfl rfl rfl rfl rfl (by decide) rfl rfl dX5_readProduct_52 (CX5_groupTold E t  h14) (fun v15 h16 => kqR ?_)
      refine S_astore_3 55 dX5_readProduct_55 rfl ?_
      refine S_aload_2 56 dX5_readProduct_56 ?_
      refine S_getI 57 fsX5_137 rfl dX5_readProduct_57 ?_
      refine S_aload_3 60 dX5_readProduct_60 ?_
      refine S_getI 61 fsX5_137 rfl dX5_readProduct_61 ?_
      refine S_imul 64 dX5_readProduct_64 ?_
      refine S_bip 65 8 dX5_readProduct_65 (by decide) ?_
      refine S_icmple 67 76 dX5_readProduct_67 (by decide) ?_ ?_
      · skip
        refine S_aload_0 76 dX5_readProduct_76 ?_
        refine S_getR 77 fsX5_15 rfl dX5_readProduct_77 (fun w17 => ?_)
        refine S_callV (a' := 0) (b' := 0) (a := 0) (b := 0) 80 (As := []) (ci := 6) rfl calX6_advance imX6_advance seX6_advance mkX5_31 rfl rfl rfl rfl rfl (by decide) rfl rfl dX5_readProduct_80 (CX6_advance E w17  h16) (fun _ h18 => kqU ?_)
        refine S_aload_1 83 dX5_readProduct_83 ?_
        refine S_aload_2 84 dX5_readProduct_84 ?_
        refine S_aload_3 85 dX5_readProduct_85 ?_
        refine S_callV (a' := 0) (b' := 0) (a := 0) (b := 0) 86 (As := [.ref v7, .ref v15]) (ci := 2) rfl calX2_becomeProduct imX2_becomeProduct seX2_becomeProduct mkX5_140 rfl rfl rfl rfl rfl (by decide) rfl rfl dX5_readProduct_86 (CX2_becomeProduct E p1 v7 v15 h18) (fun _ h19 => kqU ?_)
        refine S_ic 89 1 dX5_readProduct_89 (by decide) ?_
        exact S_zret 90 dX5_readProduct_90 rfl
      · skip
        refine S_aload_0 70 dX5_readProduct_70 ?_
        refine S_ic 71 4 dX5_readProduct_71 (by decide) ?_
        refine S_callV (a' := 0) (b' := 0) (a := 0) (b := 0) 72 (As := [.int 4]) (ci := 5) rfl calX5_refuse imX5_refuse seX5_refuse mkX5_40 rfl rfl rfl rfl rfl (by decide) rfl rfl dX5_readProduct_72 (CX5_refuse E t 4 h16) (fun v20 h21 => kqI ?_)
        exact S_zret 75 dX5_readProduct_75 rfl
    · skip
      refine S_ic 49 0 dX5_readProduct_49 (by decide) ?_
      exact S_zret 50 dX5_readProduct_50 rfl
  · skip
    refine S_ic 21 0 dX5_readProduct_21 (by decide) ?_
    exact S_zret 22 dX5_readProduct_22 rfl
def FX5_readGroup (E : XG) (t : Nat) (h : XH) : XP Int32 := xg (xk h t = 6) <| xnn (xr h t 1) fun w1 => xg (xk h w1 = 8) <| xnn (xr h w1 0) fun w2 => xg (xk h t = 6) <| xb (FX5_readNewName E t w2 h) fun v3 h4 => if (v3 : Int32) = 0 then (xg ((0 : Int32) = 0 ∨ (0 : Int32) = 1) <| xv 0 h4) else (xg (xk h4 t = 6) <| xnn (xr h4 t 1) fun w5 => xg (xk h4 w5 = 8) <| xnn (xr h4 w5 3) fun w6 => xg (xk h4 w2 = 4) <| xg (xk h4 w6 = 17 ∧ xin (xi h4 w2 2) (xn h4 w6)) <| xnn (xr h4 w6 ((xi h4 w2 2) : Int32).toNatClampNeg) fun w7 => xg (xk h4 t = 6) <| xnn (xr h4 t 0) fun w8 => xg (xk h4 w8 = 7) <| xb (FX6_spells E w8 3 h4) fun v9 h10 => xjn (fun (v11 : Int32) (h12 : XH) => xg (xk h12 w2 = 4) <| xjn (fun (v13 : Int32) (h14 : XH) => xg (xk h14 w2 = 4) <| xlt (yi h14 w2 2 ((xi h12 w2 2) + v13)) fun h15 => xg ((v11 : Int32) = 0 ∨ (v11 : Int32) = 1) <| xv v11 h15) fun (j134 : Int32 → XH → XP Int32) => if (v11 : Int32) = 0 then (j134 0 h12) else (j134 1 h12)) fun (j120 : Int32 → XH → XP Int32) => if (v9 : Int32) = 0 then (xg (xk h10 t = 6) <| xnn (xr h10 t 0) fun w16 => xg (xk h10 w16 = 7) <| xb (FX6_spells E w16 4 h10) fun v17 h18 => if (v17 : Int32) = 0 then (xg (xk h18 t = 6) <| xnn (xr h18 t 0) fun w19 => xg (xk h18 w19 = 7) <| xb (FX6_spells E w19 5 h18) fun v20 h21 => if (v20 : Int32) = 0 then (xg (xk h21 t = 6) <| xnn (xr h21 t 0) fun w22 => xg (xk h21 w22 = 7) <| xb (FX6_spells E w22 6 h21) fun v23 h24 => xjn (fun (v25 : Int32) (h26 : XH) => j120 v25 h26) fun (j119 : Int32 → XH → XP Int32) => if (v23 : Int32) = 0 then (xg (xk h24 t = 6) <| xb (FX5_refuse E t 1 h24) fun v27 h28 => j119 v27 h28) else (xg (xk h24 t = 6) <| xb (FX5_readProduct E t w7 h24) fun v29 h30 => j119 v29 h30)) else (xg (xk h21 t = 6) <| xb (FX5_readQuaternion E t w7 h21) fun v31 h32 => j120 v31 h32)) else (xg (xk h18 t = 6) <| xb (FX5_readDihedral E t w7 h18) fun v33 h34 => j120 v33 h34)) else (xg (xk h10 t = 6) <| xb (FX5_readCyclic E t w7 h10) fun v35 h36 => j120 v35 h36))
theorem CX5_readGroup (E : XG) (t : Nat) (h : XH) : XN E mX5_readGroup eI 0 0 [.ref t] h (FX5_readGroup E t h) := by
  unfold FX5_readGroup
  refine S_enter (L := [some (.ref t), none, none, none]) (by decide +kernel) rfl rfl rfl ?_
  refine S_aload_0 0 dX5_readGroup_0 ?_
  refine S_getR 1 fsX5_19 rfl dX5_readGroup_1 (fun w1 => ?_)
  refine S_getR 4 fsX5_71 rfl dX5_readGroup_4 (fun w2 => ?_)
  refine S_astore_1 7 dX5_readGroup_7 rfl ?_
  refine S_aload_0 8 dX5_readGroup_8 ?_
  refine S_aload_1 9 dX5_readGroup_9 ?_
  refine S_callV (a' := 0) (b' := 0) (a := 0) (b := 0) 10 (As := [.ref w2]) (ci := 5) rfl calX5_readNewName imX5_readNewName seX5_readNewName mkX5_77 rfl rfl rfl rfl rfl (by decide) rfl rfl dX5_readGroup_10 (CX5_readNewName E t w2 h) (fun v3 h4 => kqI ?_)
  refine S_ifne 13 18 dX5_readGroup_13 (by decide) ?_ ?_
  · skip
    refine S_aload_0 18 dX5_readGroup_18 ?_
    refine S_getR 19 fsX5_19 rfl dX5_readGroup_19 (fun w5 => ?_)
    refine S_getR 22 fsX5_81 rfl dX5_readGroup_22 (fun w6 => ?_)
    refine S_aload_1 25 dX5_readGroup_25 ?_
    refine S_getI 26 fsX5_85 rfl dX5_readGroup_26 ?_
    refine S_aald 29 17 6 (by decide) rfl rfl dX5_readGroup_29 (fun w7 => ?_)
    refine S_astore_2 30 dX5_readGroup_30 rfl ?_
    refine S_aload_0 31 dX5_readGroup_31 ?_
    refine S_getR 32 fsX5_15 rfl dX5_readGroup_32 (fun w8 => ?_)
    refine S_ldcS 35 3 (by decide) rfl rfl dX5_readGroup_35 ?_
    refine S_callV (a' := 0) (b' := 0) (a := 0) (b := 0) 37 (As := [.ref (eK E 3)]) (ci := 6) rfl calX6_spells imX6_spells seX6_spells mkX5_36 rfl rfl rfl rfl rfl (by decide) rfl rfl dX5_readGroup_37 (CX6_spells E w8 3 h4) (fun v9 h10 => kqI ?_)
    refine S_join (fun jj => ∀ (v11 : Int32) (h12 : XH), XS E mX5_readGroup eI 0 0 120 [none, some (.ref w2), none, some (.int v11)] [] h12 (jj v11 h12)) (fun v11 h12 => ?_) (fun j120 hj120 => ?_)
    · skip
      refine S_aload_1 120 dX5_readGroup_120 ?_
      refine S_dup 121 dX5_readGroup_121 rfl ?_
      refine S_getI 122 fsX5_85 rfl dX5_readGroup_122 ?_
      refine S_iload_3 125 dX5_readGroup_125 ?_
      refine S_join (fun jj => ∀ (v13 : Int32) (h14 : XH), XS E mX5_readGroup eI 0 0 134 [none, none, none, some (.int v11)] [.int v13, .int (xi h12 w2 2), .ref w2] h14 (jj v13 h14)) (fun v13 h14 => ?_) (fun j134 hj134 => ?_)
      · skip
        refine S_iadd 134 dX5_readGroup_134 ?_
        refine S_putI 135 frX5_85 rfl (fun q => by cases q) dX5_readGroup_135 (fun h15 => ?_)
        refine S_iload_3 138 dX5_readGroup_138 ?_
        exact S_zret 139 dX5_readGroup_139 rfl
      refine S_ifeq 126 133 dX5_readGroup_126 (by decide) ?_ ?_
      · skip
        refine S_ic 133 0 dX5_readGroup_133 (by decide) ?_
        exact S_drop [1] rfl (hj134 _ _)
      · skip
        refine S_ic 129 1 dX5_readGroup_129 (by decide) ?_
        refine S_goto 130 134 dX5_readGroup_130 (by decide) ?_
        exact S_drop [1] rfl (hj134 _ _)
    refine S_ifeq 40 52 dX5_readGroup_40 (by decide) ?_ ?_
    · skip
      refine S_aload_0 52 dX5_readGroup_52 ?_
      refine S_getR 53 fsX5_15 rfl dX5_readGroup_53 (fun w16 => ?_)
      refine S_ldcS 56 4 (by decide) rfl rfl dX5_readGroup_56 ?_
      refine S_callV (a' := 0) (b' := 0) (a := 0) (b := 0) 58 (As := [.ref (eK E 4)]) (ci := 6) rfl calX6_spells imX6_spells seX6_spells mkX5_36 rfl rfl rfl rfl rfl (by decide) rfl rfl dX5_readGroup_58 (CX6_spells E w16 4 h10) (fun v17 h18 => kqI ?_)
      refine S_ifeq 61 73 dX5_readGroup_61 (by decide) ?_ ?_
      · skip
        refine S_aload_0 73 dX5_readGroup_73 ?_
        refine S_getR 74 fsX5_15 rfl dX5_readGroup_74 (fun w19 => ?_)
        refine S_ldcS 77 5 (by decide) rfl rfl dX5_readGroup_77 ?_
        refine S_callV (a' := 0) (b' := 0) (a := 0) (b := 0) 79 (As := [.ref (eK E 5)]) (ci := 6) rfl calX6_spells imX6_spells seX6_spells mkX5_36 rfl rfl rfl rfl rfl (by decide) rfl rfl dX5_readGroup_79 (CX6_spells E w19 5 h18) (fun v20 h21 => kqI ?_)
        refine S_ifeq 82 94 dX5_readGroup_82 (by decide) ?_ ?_
        · skip
          refine S_aload_0 94 dX5_readGroup_94 ?_
          refine S_getR 95 fsX5_15 rfl dX5_readGroup_95 (fun w22 => ?_)
          refine S_ldcS 98 6 (by decide) rfl rfl dX5_readGroup_98 ?_
          refine S_callV (a' := 0) (b' := 0) (a := 0) (b := 0) 100 (As := [.ref (eK E 6)]) (ci := 6) rfl calX6_spells imX6_spells seX6_spells mkX5_36 rfl rfl rfl rfl rfl (by decide) rfl rfl dX5_readGroup_100 (CX6_spells E w22 6 h21) (fun v23 h24 => kqI ?_)
          refine S_join (fun jj => ∀ (v25 : Int32) (h26 : XH), XS E mX5_readGroup eI 0 0 119 [none, some (.ref w2), none, none] [.int v25] h26 (jj v25 h26)) (fun v25 h26 => ?_) (fun j119 hj119 => ?_)
          · skip
            refine S_istore_3 119 dX5_readGroup_119 rfl ?_
            exact S_drop [] rfl (hj120 _ _)
          refine S_ifeq 103 114 dX5_readGroup_103 (by decide) ?_ ?_
          · skip
            refine S_aload_0 114 dX5_readGroup_114 ?_
            refine S_ic 115 1 dX5_readGroup_115 (by decide) ?_
            refine S_callV (a' := 0) (b' := 0) (a := 0) (b := 0) 116 (As := [.int 1]) (ci := 5) rfl calX5_refuse imX5_refuse seX5_refuse mkX5_40 rfl rfl rfl rfl rfl (by decide) rfl rfl dX5_readGroup_116 (CX5_refuse E t 1 h24) (fun v27 h28 => kqI ?_)
            exact S_drop [0, 2] rfl (hj119 _ _)
          · skip
            refine S_aload_0 106 dX5_readGroup_106 ?_
            refine S_aload_2 107 dX5_readGroup_107 ?_
            refine S_callV (a' := 0) (b' := 0) (a := 0) (b := 0) 108 (As := [.ref w7]) (ci := 5) rfl calX5_readProduct imX5_readProduct seX5_readProduct mkX5_108 rfl rfl rfl rfl rfl (by decide) rfl rfl dX5_readGroup_108 (CX5_readProduct E t w7 h24) (fun v29 h30 => kqI ?_)
            refine S_goto 111 119 dX5_readGroup_111 (by decide) ?_
            exact S_drop [0, 2] rfl (hj119 _ _)
        · skip
          refine S_aload_0 85 dX5_readGroup_85 ?_
          refine S_aload_2 86 dX5_readGroup_86 ?_
          refine S_callV (a' := 0) (b' := 0) (a := 0) (b := 0) 87 (As := [.ref w7]) (ci := 5) rfl calX5_readQuaternion imX5_readQuaternion seX5_readQuaternion mkX5_103 rfl rfl rfl rfl rfl (by decide) rfl rfl dX5_readGroup_87 (CX5_readQuaternion E t w7 h21) (fun v31 h32 => kqI ?_)
          refine S_istore_3 90 dX5_readGroup_90 rfl ?_
          refine S_goto 91 120 dX5_readGroup_91 (by decide) ?_
          exact S_drop [0, 2] rfl (hj120 _ _)
      · skip
        refine S_aload_0 64 dX5_readGroup_64 ?_
        refine S_aload_2 65 dX5_readGroup_65 ?_
        refine S_callV (a' := 0) (b' := 0) (a := 0) (b := 0) 66 (As := [.ref w7]) (ci := 5) rfl calX5_readDihedral imX5_readDihedral seX5_readDihedral mkX5_98 rfl rfl rfl rfl rfl (by decide) rfl rfl dX5_readGroup_66 (CX5_readDihedral E t w7 h18) (fun v33 h34 => kqI ?_)
        refine S_istore_3 69 dX5_readGroup_69 rfl ?_
        refine S_goto 70 120 dX5_readGroup_70 (by decide) ?_
        exact S_drop [0, 2] rfl (hj120 _ _)
    · skip
      refine S_aload_0 43 dX5_readGroup_43 ?_
      refine S_aload_2 44 dX5_readGroup_44 ?_
      refine S_callV (a' := 0) (b' := 0) (a := 0) (b := 0) 45 (As := [.ref w7]) (ci := 5) rfl calX5_readCyclic imX5_readCyclic seX5_readCyclic mkX5_92 rfl rfl rfl rfl rfl (by decide) rfl rfl dX5_readGroup_45 (CX5_readCyclic E t w7 h10) (fun v35 h36 => kqI ?_)
      refine S_istore_3 48 dX5_readGroup_48 rfl ?_
      refine S_goto 49 120 dX5_readGroup_49 (by decide) ?_
      exact S_drop [0, 2] rfl (hj120 _ _)
  · skip
    refine S_ic 16 0 dX5_readGroup_16 (by decide) ?_
    exact S_zret 17 dX5_readGroup_17 rfl
def FX5_readElements (E : XG) (t : Nat) (p1 : Nat) (p2 : Int32) (p3 : Nat) (p4 : Nat) (h : XH) : XP Int32 := xlp (fun again3 (s3 : Int32) h1 => xg (xk h1 p3 = 3) <| if ((xi h1 p3 3) : Int32) ≤ s3 then (xg ((1 : Int32) = 0 ∨ (1 : Int32) = 1) <| xv 1 h1) else (xg (xk h1 p4 = 3) <| xg (xk h1 t = 6) <| xb (FX5_isNumber E t 0 ((xi h1 p4 3) - 1) h1) fun v2 h3 => if (v2 : Int32) = 0 then (xg ((0 : Int32) = 0 ∨ (0 : Int32) = 1) <| xv 0 h3) else (xg (xk h3 t = 6) <| xnn (xr h3 t 0) fun w4 => xg (xk h3 w4 = 7) <| xb (FX8_put E p1 (p2 + s3) (xi h3 w4 6) h3) fun _ h5 => xg (xk h5 t = 6) <| xnn (xr h5 t 0) fun w6 => xg (xk h5 w6 = 7) <| xb (FX6_advance E w6  h5) fun _ h7 => again3 (s3 + 1) h7))) xfu 0 h
theorem CX5_readElements (E : XG) (t : Nat) (p1 : Nat) (p2 : Int32) (p3 : Nat) (p4 : Nat) (h : XH) : XN E mX5_readElements eI 0 0 [.ref t, .ref p1, .int p2, .ref p3, .ref p4] h (FX5_readElements E t p1 p2 p3 p4 h) := by
  unfold FX5_readElements
  refine S_enter (L := [some (.ref t), some (.ref p1), some (.int p2), some (.ref p3), some (.ref p4), none]) (by decide +kernel) rfl rfl rfl ?_
  refine S_ic 0 0 dX5_readElements_0 (by decide) ?_
  refine S_istore_5 1 dX5_readElements_1 rfl ?_
  refine S_loop (fun (s3 : Int32) => [some (.ref t), some (.ref p1), some (.int p2), some (.ref p3), some (.ref p4), some (.int s3)]) (fun again3 hg3 s3 h1 => ?_) xfu _ _
  refine S_iload_5 3 dX5_readElements_3 ?_
  refine S_aload_3 5 dX5_readElements_5 ?_
  refine S_getI 6 fsX5_137 rfl dX5_readElements_6 ?_
  refine S_icmpge 9 57 dX5_readElements_9 (by decide) ?_ ?_
  · skip
    refine S_ic 57 1 dX5_readElements_57 (by decide) ?_
    exact S_zret 58 dX5_readElements_58 rfl
  · skip
    refine S_aload_0 12 dX5_readElements_12 ?_
    refine S_ic 13 0 dX5_readElements_13 (by decide) ?_
    refine S_aload_4 14 dX5_readElements_14 ?_
    refine S_getI 16 fsX5_137 rfl dX5_readElements_16 ?_
    refine S_ic 19 1 dX5_readElements_19 (by decide) ?_
    refine S_isub 20 dX5_readElements_20 ?_
    refine S_callV (a' := 0) (b' := 0) (a := 0) (b := 0) 21 (As := [.int 0, .int ((xi h1 p4 3) - 1)]) (ci := 5) rfl calX5_isNumber imX5_isNumber seX5_isNumber mkX5_111 rfl rfl rfl rfl rfl (by decide) rfl rfl dX5_readElements_21 (CX5_isNumber E t 0 ((xi h1 p4 3) - 1) h1) (fun v2 h3 => kqI ?_)
    refine S_ifne 24 29 dX5_readElements_24 (by decide) ?_ ?_
    · skip
      refine S_aload_1 29 dX5_readElements_29 ?_
      refine S_iload_2 30 dX5_readElements_30 ?_
      refine S_iload_5 31 dX5_readElements_31 ?_
      refine S_iadd 33 dX5_readElements_33 ?_
      refine S_aload_0 34 dX5_readElements_34 ?_
      refine S_getR 35 fsX5_15 rfl dX5_readElements_35 (fun w4 => ?_)
      refine S_getI 38 fsX5_115 rfl dX5_readElements_38 ?_
      refine S_callSN (a' := 0) (b' := 0) (a := 0) (b := 0) 41 (As := [.ref p1, .int (p2 + s3), .int (xi h3 w4 6)]) rfl calX8_put stX8_put (List.mem_of_getElem? (i := 14) rfl) rfl rfl rfl rfl rfl dX5_readElements_41 (CX8_put E p1 (p2 + s3) (xi h3 w4 6) h3) (fun _ h5 => kqU ?_)
      refine S_aload_0 44 dX5_readElements_44 ?_
      refine S_getR 45 fsX5_15 rfl dX5_readElements_45 (fun w6 => ?_)
      refine S_callV (a' := 0) (b' := 0) (a := 0) (b := 0) 48 (As := []) (ci := 6) rfl calX6_advance imX6_advance seX6_advance mkX5_31 rfl rfl rfl rfl rfl (by decide) rfl rfl dX5_readElements_48 (CX6_advance E w6  h5) (fun _ h7 => kqU ?_)
      refine S_iinc_5 51 (s3 + 1) dX5_readElements_51 (by rfl) rfl ?_
      refine S_goto 54 3 dX5_readElements_54 (by decide) ?_
      exact S_drop [] rfl (hg3 _ _)
    · skip
      refine S_ic 27 0 dX5_readElements_27 (by decide) ?_
      exact S_zret 28 dX5_readElements_28 rfl
