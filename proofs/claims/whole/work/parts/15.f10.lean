/-! Methods as functions, 10. -/
set_option linter.unusedVariables false
set_option maxRecDepth 10000
def FX9_thrown (E : XG) (t : Nat) (h : XH) : XP Int32 := xg (xk h t = 10) <| xv (xi h t 0) h
theorem CX9_thrown (E : XG) (t : Nat) (h : XH) : XN E mX9_thrown eI 0 0 [.ref t] h (FX9_thrown E t h) := by
  unfold FX9_thrown
  refine S_enter (L := [some (.ref t)]) (by decide +kernel) rfl rfl rfl ?_
  refine S_aload_0 0 dX9_thrown_0 ?_
  refine S_getI 1 fsX9_87 rfl dX9_thrown_1 ?_
  exact S_iret 4 dX9_thrown_4 rfl
def FX9_in (E : XG) (p1 : Int32) (p2 : Int32) (p3 : Int32) (h : XH) : XP Int32 := xjn (fun (v1 : Int32) (h2 : XH) => xg ((v1 : Int32) = 0 ∨ (v1 : Int32) = 1) <| xv v1 h2) fun (j15 : Int32 → XH → XP Int32) => xjn (fun  (h3 : XH) => j15 0 h3) fun (j14 : XH → XP Int32) => if (p1 : Int32) < p2 then (j14 h) else (if (p3 : Int32) < p1 then (j14 h) else (j15 1 h))
theorem CX9_in (E : XG) (p1 : Int32) (p2 : Int32) (p3 : Int32) (h : XH) : XN E mX9_in eI 0 0 [.int p1, .int p2, .int p3] h (FX9_in E p1 p2 p3 h) := by
  unfold FX9_in
  refine S_enter (L := [some (.int p1), some (.int p2), some (.int p3)]) (by decide +kernel) rfl rfl rfl ?_
  refine S_iload_0 0 dX9_in_0 ?_
  refine S_iload_1 1 dX9_in_1 ?_
  refine S_join (fun jj => ∀ (v1 : Int32) (h2 : XH), XS E mX9_in eI 0 0 15 [none, none, none] [.int v1] h2 (jj v1 h2)) (fun v1 h2 => ?_) (fun j15 hj15 => ?_)
  · skip
    exact S_zret 15 dX9_in_15 rfl
  refine S_join (fun jj => ∀  (h3 : XH), XS E mX9_in eI 0 0 14 [none, none, none] [] h3 (jj  h3)) (fun  h3 => ?_) (fun j14 hj14 => ?_)
  · skip
    refine S_ic 14 0 dX9_in_14 (by decide) ?_
    exact S_drop [] rfl (hj15 _ _)
  refine S_icmplt 2 14 dX9_in_2 (by decide) ?_ ?_
  · skip
    exact S_drop [0, 1, 2] rfl (hj14 _)
  · skip
    refine S_iload_0 5 dX9_in_5 ?_
    refine S_iload_2 6 dX9_in_6 ?_
    refine S_icmpgt 7 14 dX9_in_7 (by decide) ?_ ?_
    · skip
      exact S_drop [0, 1, 2] rfl (hj14 _)
    · skip
      refine S_ic 10 1 dX9_in_10 (by decide) ?_
      refine S_goto 11 15 dX9_in_11 (by decide) ?_
      exact S_drop [0, 1, 2] rfl (hj15 _ _)
def FX9_has (E : XG) (p1 : Int32) (p2 : Int32) (h : XH) : XP Int32 := xjn (fun (v1 : Int32) (h2 : XH) => xg ((v1 : Int32) = 0 ∨ (v1 : Int32) = 1) <| xv v1 h2) fun (j14 : Int32 → XH → XP Int32) => if (((p1 >>> (p2 &&& 31)) &&& 1) : Int32) = 1 then (j14 1 h) else (j14 0 h)
theorem CX9_has (E : XG) (p1 : Int32) (p2 : Int32) (h : XH) : XN E mX9_has eI 0 0 [.int p1, .int p2] h (FX9_has E p1 p2 h) := by
  unfold FX9_has
  refine S_enter (L := [some (.int p1), some (.int p2)]) (by decide +kernel) rfl rfl rfl ?_
  refine S_iload_0 0 dX9_has_0 ?_
  refine S_iload_1 1 dX9_has_1 ?_
  refine S_ishr 2 dX9_has_2 ?_
  refine S_ic 3 1 dX9_has_3 (by decide) ?_
  refine S_iand 4 dX9_has_4 ?_
  refine S_ic 5 1 dX9_has_5 (by decide) ?_
  refine S_join (fun jj => ∀ (v1 : Int32) (h2 : XH), XS E mX9_has eI 0 0 14 [none, none] [.int v1] h2 (jj v1 h2)) (fun v1 h2 => ?_) (fun j14 hj14 => ?_)
  · skip
    exact S_zret 14 dX9_has_14 rfl
  refine S_icmpne 6 13 dX9_has_6 (by decide) ?_ ?_
  · skip
    refine S_ic 13 0 dX9_has_13 (by decide) ?_
    exact S_drop [0, 1] rfl (hj14 _ _)
  · skip
    refine S_ic 9 1 dX9_has_9 (by decide) ?_
    refine S_goto 10 14 dX9_has_10 (by decide) ?_
    exact S_drop [0, 1] rfl (hj14 _ _)
def FX9_flag (E : XG) (p1 : Int32) (h : XH) : XP Int32 := xjn (fun (v1 : Int32) (h2 : XH) => xv v1 h2) fun (j9 : Int32 → XH → XP Int32) => if (p1 : Int32) = 0 then (j9 0 h) else (j9 1 h)
theorem CX9_flag (E : XG) (p1 : Int32) (h : XH) : XN E mX9_flag eI 0 0 [.int p1] h (FX9_flag E p1 h) := by
  unfold FX9_flag
  refine S_enter (L := [some (.int p1)]) (by decide +kernel) rfl rfl rfl ?_
  refine S_iload_0 0 dX9_flag_0 ?_
  refine S_join (fun jj => ∀ (v1 : Int32) (h2 : XH), XS E mX9_flag eI 0 0 9 [none] [.int v1] h2 (jj v1 h2)) (fun v1 h2 => ?_) (fun j9 hj9 => ?_)
  · skip
    exact S_iret 9 dX9_flag_9 rfl
  refine S_ifeq 1 8 dX9_flag_1 (by decide) ?_ ?_
  · skip
    refine S_ic 8 0 dX9_flag_8 (by decide) ?_
    exact S_drop [0] rfl (hj9 _ _)
  · skip
    refine S_ic 4 1 dX9_flag_4 (by decide) ?_
    refine S_goto 5 9 dX9_flag_5 (by decide) ?_
    exact S_drop [0] rfl (hj9 _ _)
def FX9_ones (E : XG) (p1 : Int32) (h : XH) : XP Int32 := xlp (fun again4 (s4 : Int32 × Int32) h1 => if (8 : Int32) ≤ s4.2 then (xv s4.1 h1) else (xlt (s4.1 + ((p1 >>> (s4.2 &&& 31)) &&& 1)) fun v2 => again4 (v2, (s4.2 + 1)) h1)) xfu (0, 0) h
theorem CX9_ones (E : XG) (p1 : Int32) (h : XH) : XN E mX9_ones eI 0 0 [.int p1] h (FX9_ones E p1 h) := by
  unfold FX9_ones
  refine S_enter (L := [some (.int p1), none, none]) (by decide +kernel) rfl rfl rfl ?_
  refine S_ic 0 0 dX9_ones_0 (by decide) ?_
  refine S_istore_1 1 dX9_ones_1 rfl ?_
  refine S_ic 2 0 dX9_ones_2 (by decide) ?_
  refine S_istore_2 3 dX9_ones_3 rfl ?_
  refine S_loop (fun (s4 : Int32 × Int32) => [some (.int p1), some (.int s4.1), some (.int s4.2)]) (fun again4 hg4 s4 h1 => ?_) xfu _ _
  refine S_iload_2 4 dX9_ones_4 ?_
  refine S_bip 5 8 dX9_ones_5 (by decide) ?_
  refine S_icmpge 7 24 dX9_ones_7 (by decide) ?_ ?_
  · skip
    refine S_iload_1 24 dX9_ones_24 ?_
    exact S_iret 25 dX9_ones_25 rfl
  · skip
    refine S_iload_1 10 dX9_ones_10 ?_
    refine S_iload_0 11 dX9_ones_11 ?_
    refine S_iload_2 12 dX9_ones_12 ?_
    refine S_ishr 13 dX9_ones_13 ?_
    refine S_ic 14 1 dX9_ones_14 (by decide) ?_
    refine S_iand 15 dX9_ones_15 ?_
    refine S_iadd 16 dX9_ones_16 ?_
    refine S_gen (fun v2 => ?_)
    refine S_istore_1 17 dX9_ones_17 rfl ?_
    refine S_iinc_2 18 (s4.2 + 1) dX9_ones_18 (by rfl) rfl ?_
    refine S_goto 21 4 dX9_ones_21 (by decide) ?_
    exact S_drop [] rfl (hg4 _ _)
def FX9_refuse (E : XG) (t : Nat) (p1 : Int32) (p2 : Int32) (h : XH) : XP Int32 := xg (xk h t = 10) <| xjn (fun  (h1 : XH) => xg (xk h1 t = 10) <| xjn (fun (v2 : Int32) (h3 : XH) => xg ((v2 : Int32) = 0 ∨ (v2 : Int32) = 1) <| xv v2 h3) fun (j28 : Int32 → XH → XP Int32) => if ((xi h1 t 0) : Int32) = 0 then (j28 0 h1) else (j28 1 h1)) fun (j16 : XH → XP Int32) => if ((xi h t 0) : Int32) = 0 then (if (p1 : Int32) = 0 then (j16 h) else (xg (xk h t = 10) <| xlt (yi h t 0 p2) fun h4 => j16 h4)) else (j16 h)
theorem CX9_refuse (E : XG) (t : Nat) (p1 : Int32) (p2 : Int32) (h : XH) : XN E mX9_refuse eI 0 0 [.ref t, .int p1, .int p2] h (FX9_refuse E t p1 p2 h) := by
  unfold FX9_refuse
  refine S_enter (L := [some (.ref t), some (.int p1), some (.int p2)]) (by decide +kernel) rfl rfl rfl ?_
  refine S_aload_0 0 dX9_refuse_0 ?_
  refine S_getI 1 fsX9_87 rfl dX9_refuse_1 ?_
  refine S_join (fun jj => ∀  (h1 : XH), XS E mX9_refuse eI 0 0 16 [some (.ref t), none, none] [] h1 (jj  h1)) (fun  h1 => ?_) (fun j16 hj16 => ?_)
  · skip
    refine S_aload_0 16 dX9_refuse_16 ?_
    refine S_getI 17 fsX9_87 rfl dX9_refuse_17 ?_
    refine S_join (fun jj => ∀ (v2 : Int32) (h3 : XH), XS E mX9_refuse eI 0 0 28 [none, none, none] [.int v2] h3 (jj v2 h3)) (fun v2 h3 => ?_) (fun j28 hj28 => ?_)
    · skip
      exact S_zret 28 dX9_refuse_28 rfl
    refine S_ifeq 20 27 dX9_refuse_20 (by decide) ?_ ?_
    · skip
      refine S_ic 27 0 dX9_refuse_27 (by decide) ?_
      exact S_drop [0] rfl (hj28 _ _)
    · skip
      refine S_ic 23 1 dX9_refuse_23 (by decide) ?_
      refine S_goto 24 28 dX9_refuse_24 (by decide) ?_
      exact S_drop [0] rfl (hj28 _ _)
  refine S_ifne 4 16 dX9_refuse_4 (by decide) ?_ ?_
  · skip
    exact S_drop [1, 2] rfl (hj16 _)
  · skip
    refine S_iload_1 7 dX9_refuse_7 ?_
    refine S_ifeq 8 16 dX9_refuse_8 (by decide) ?_ ?_
    · skip
      exact S_drop [1, 2] rfl (hj16 _)
    · skip
      refine S_aload_0 11 dX9_refuse_11 ?_
      refine S_iload_2 12 dX9_refuse_12 ?_
      refine S_putI 13 frX9_87 rfl (fun q => by cases q) dX9_refuse_13 (fun h4 => ?_)
      exact S_drop [1, 2] rfl (hj16 _)
def FX9_notLoaded (E : XG) (t : Nat) (h : XH) : XP Int32 := xg (xk h t = 10) <| xlt (yi h t 0 0) fun h1 => xg (xk h1 t = 10) <| xjn (fun (v2 : Int32) (h3 : XH) => xg (xk h3 t = 10) <| xb (FX9_refuse E t v2 1 h3) fun v4 h5 => xg ((v4 : Int32) = 0 ∨ (v4 : Int32) = 1) <| xv v4 h5) fun (j18 : Int32 → XH → XP Int32) => if ((xi h1 t 1) : Int32) = 0 then (j18 1 h1) else (j18 0 h1)
theorem CX9_notLoaded (E : XG) (t : Nat) (h : XH) : XN E mX9_notLoaded eI 0 0 [.ref t] h (FX9_notLoaded E t h) := by
  unfold FX9_notLoaded
  refine S_enter (L := [some (.ref t)]) (by decide +kernel) rfl rfl rfl ?_
  refine S_aload_0 0 dX9_notLoaded_0 ?_
  refine S_ic 1 0 dX9_notLoaded_1 (by decide) ?_
  refine S_putI 2 frX9_87 rfl (fun q => by cases q) dX9_notLoaded_2 (fun h1 => ?_)
  refine S_aload_0 5 dX9_notLoaded_5 ?_
  refine S_aload_0 6 dX9_notLoaded_6 ?_
  refine S_getI 7 fsX9_90 rfl dX9_notLoaded_7 ?_
  refine S_join (fun jj => ∀ (v2 : Int32) (h3 : XH), XS E mX9_notLoaded eI 0 0 18 [none] [.int v2, .ref t] h3 (jj v2 h3)) (fun v2 h3 => ?_) (fun j18 hj18 => ?_)
  · skip
    refine S_ic 18 1 dX9_notLoaded_18 (by decide) ?_
    refine S_callV (a' := 0) (b' := 0) (a := 0) (b := 0) 19 (As := [.int v2, .int 1]) (ci := 9) rfl calX9_refuse imX9_refuse seX9_refuse mkX9_94 rfl rfl rfl rfl rfl (by decide) rfl rfl dX9_notLoaded_19 (CX9_refuse E t v2 1 h3) (fun v4 h5 => kqI ?_)
    exact S_zret 22 dX9_notLoaded_22 rfl
  refine S_ifne 10 17 dX9_notLoaded_10 (by decide) ?_ ?_
  · skip
    refine S_ic 17 0 dX9_notLoaded_17 (by decide) ?_
    exact S_drop [0] rfl (hj18 _ _)
  · skip
    refine S_ic 13 1 dX9_notLoaded_13 (by decide) ?_
    refine S_goto 14 18 dX9_notLoaded_14 (by decide) ?_
    exact S_drop [0] rfl (hj18 _ _)
def FX9_append (E : XG) (t : Nat) (p1 : Int32) (p2 : Int32) (p3 : Int32) (p4 : Int32) (p5 : Int32) (h : XH) : XP Int32 := xg (xk h t = 10) <| xlt (yi h t 0 0) fun h1 => xg (xk h1 t = 10) <| if (((xi h1 t 17) + 20) : Int32) ≤ 900 then (xlp (fun again23 (s23 : Int32) h2 => if (20 : Int32) ≤ s23 then (xg (xk h2 t = 10) <| xg (xk h2 t = 10) <| xlt (yi h2 t 17 ((xi h2 t 17) + 20)) fun h3 => xg (xk h3 t = 10) <| xv (xi h3 t 17) h3) else (xjn (fun (v4 : Int32) (h5 : XH) => xg (xk h5 t = 10) <| xnn (xr h5 t 16) fun w6 => xg (xk h5 t = 10) <| xg ((4 : Int32) ≠ 0) <| xg (xk h5 w6 = 12 ∧ xin ((xi h5 t 17) + s23) (xn h5 w6)) <| xlt (yi h5 w6 (((xi h5 t 17) + s23) : Int32).toNatClampNeg ((v4 >>> ((24 - (8 * (xrem s23 4))) &&& 31)) &&& 255)) fun h7 => again23 (s23 + 1) h7) fun (j76 : Int32 → XH → XP Int32) => if (4 : Int32) ≤ s23 then (if (8 : Int32) ≤ s23 then (if (12 : Int32) ≤ s23 then (if (16 : Int32) ≤ s23 then (j76 p5 h2) else (j76 p4 h2)) else (j76 p3 h2)) else (j76 p2 h2)) else (j76 p1 h2))) xfu 0 h1) else (xv (-1) h1)
theorem CX9_append (E : XG) (t : Nat) (p1 : Int32) (p2 : Int32) (p3 : Int32) (p4 : Int32) (p5 : Int32) (h : XH) : XN E mX9_append eI 0 0 [.ref t, .int p1, .int p2, .int p3, .int p4, .int p5] h (FX9_append E t p1 p2 p3 p4 p5 h) := by
  unfold FX9_append
  refine S_enter (L := [some (.ref t), some (.int p1), some (.int p2), some (.int p3), some (.int p4), some (.int p5), none, none]) (by decide +kernel) rfl rfl rfl ?_
  refine S_aload_0 0 dX9_append_0 ?_
  refine S_ic 1 0 dX9_append_1 (by decide) ?_
  refine S_putI 2 frX9_87 rfl (fun q => by cases q) dX9_append_2 (fun h1 => ?_)
  refine S_aload_0 5 dX9_append_5 ?_
  refine S_getI 6 fsX9_98 rfl dX9_append_6 ?_
  refine S_bip 9 20 dX9_append_9 (by decide) ?_
  refine S_iadd 11 dX9_append_11 ?_
  refine S_sip 12 900 dX9_append_12 (by decide) ?_
  refine S_icmple 15 20 dX9_append_15 (by decide) ?_ ?_
  · skip
    refine S_ic 20 0 dX9_append_20 (by decide) ?_
    refine S_istore_6 21 dX9_append_21 rfl ?_
    refine S_loop (fun (s23 : Int32) => [some (.ref t), some (.int p1), some (.int p2), some (.int p3), some (.int p4), some (.int p5), some (.int s23), none]) (fun again23 hg23 s23 h2 => ?_) xfu _ _
    refine S_iload_6 23 dX9_append_23 ?_
    refine S_bip 25 20 dX9_append_25 (by decide) ?_
    refine S_icmpge 27 113 dX9_append_27 (by decide) ?_ ?_
    · skip
      refine S_aload_0 113 dX9_append_113 ?_
      refine S_dup 114 dX9_append_114 rfl ?_
      refine S_getI 115 fsX9_98 rfl dX9_append_115 ?_
      refine S_bip 118 20 dX9_append_118 (by decide) ?_
      refine S_iadd 120 dX9_append_120 ?_
      refine S_putI 121 frX9_98 rfl (fun q => by cases q) dX9_append_121 (fun h3 => ?_)
      refine S_aload_0 124 dX9_append_124 ?_
      refine S_getI 125 fsX9_98 rfl dX9_append_125 ?_
      exact S_iret 128 dX9_append_128 rfl
    · skip
      refine S_iload_6 30 dX9_append_30 ?_
      refine S_ic 32 4 dX9_append_32 (by decide) ?_
      refine S_join (fun jj => ∀ (v4 : Int32) (h5 : XH), XS E mX9_append eI 0 0 76 [some (.ref t), some (.int p1), some (.int p2), some (.int p3), some (.int p4), some (.int p5), some (.int s23), none] [.int v4] h5 (jj v4 h5)) (fun v4 h5 => ?_) (fun j76 hj76 => ?_)
      · skip
        refine S_istore_7 76 dX9_append_76 rfl ?_
        refine S_aload_0 78 dX9_append_78 ?_
        refine S_getR 79 fsX9_41 rfl dX9_append_79 (fun w6 => ?_)
        refine S_aload_0 82 dX9_append_82 ?_
        refine S_getI 83 fsX9_98 rfl dX9_append_83 ?_
        refine S_iload_6 86 dX9_append_86 ?_
        refine S_iadd 88 dX9_append_88 ?_
        refine S_iload_7 89 dX9_append_89 ?_
        refine S_bip 91 24 dX9_append_91 (by decide) ?_
        refine S_bip 93 8 dX9_append_93 (by decide) ?_
        refine S_iload_6 95 dX9_append_95 ?_
        refine S_ic 97 4 dX9_append_97 (by decide) ?_
        refine S_irem 98 dX9_append_98 ?_
        refine S_imul 99 dX9_append_99 ?_
        refine S_isub 100 dX9_append_100 ?_
        refine S_ishr 101 dX9_append_101 ?_
        refine S_sip 102 255 dX9_append_102 (by decide) ?_
        refine S_iand 105 dX9_append_105 ?_
        refine S_iast 106 dX9_append_106 (fun h7 => ?_)
        refine S_iinc_6 107 (s23 + 1) dX9_append_107 (by rfl) rfl ?_
        refine S_goto 110 23 dX9_append_110 (by decide) ?_
        exact S_drop [7] rfl (hg23 _ _)
      refine S_icmpge 33 40 dX9_append_33 (by decide) ?_ ?_
      · skip
        refine S_iload_6 40 dX9_append_40 ?_
        refine S_bip 42 8 dX9_append_42 (by decide) ?_
        refine S_icmpge 44 51 dX9_append_44 (by decide) ?_ ?_
        · skip
          refine S_iload_6 51 dX9_append_51 ?_
          refine S_bip 53 12 dX9_append_53 (by decide) ?_
          refine S_icmpge 55 62 dX9_append_55 (by decide) ?_ ?_
          · skip
            refine S_iload_6 62 dX9_append_62 ?_
            refine S_bip 64 16 dX9_append_64 (by decide) ?_
            refine S_icmpge 66 74 dX9_append_66 (by decide) ?_ ?_
            · skip
              refine S_iload_5 74 dX9_append_74 ?_
              exact S_drop [] rfl (hj76 _ _)
            · skip
              refine S_iload_4 69 dX9_append_69 ?_
              refine S_goto 71 76 dX9_append_71 (by decide) ?_
              exact S_drop [] rfl (hj76 _ _)
          · skip
            refine S_iload_3 58 dX9_append_58 ?_
            refine S_goto 59 76 dX9_append_59 (by decide) ?_
            exact S_drop [] rfl (hj76 _ _)
        · skip
          refine S_iload_2 47 dX9_append_47 ?_
          refine S_goto 48 76 dX9_append_48 (by decide) ?_
          exact S_drop [] rfl (hj76 _ _)
      · skip
        refine S_iload_1 36 dX9_append_36 ?_
        refine S_goto 37 76 dX9_append_37 (by decide) ?_
        exact S_drop [] rfl (hj76 _ _)
  · skip
    refine S_ic 18 (-1) dX9_append_18 (by decide) ?_
    exact S_iret 19 dX9_append_19 rfl
def FX9_buffered (E : XG) (t : Nat) (h : XH) : XP Int32 := xg (xk h t = 10) <| xlt (yi h t 0 0) fun h1 => xg (xk h1 t = 10) <| xv (xi h1 t 17) h1
theorem CX9_buffered (E : XG) (t : Nat) (h : XH) : XN E mX9_buffered eI 0 0 [.ref t] h (FX9_buffered E t h) := by
  unfold FX9_buffered
  refine S_enter (L := [some (.ref t)]) (by decide +kernel) rfl rfl rfl ?_
  refine S_aload_0 0 dX9_buffered_0 ?_
  refine S_ic 1 0 dX9_buffered_1 (by decide) ?_
  refine S_putI 2 frX9_87 rfl (fun q => by cases q) dX9_buffered_2 (fun h1 => ?_)
  refine S_aload_0 5 dX9_buffered_5 ?_
  refine S_getI 6 fsX9_98 rfl dX9_buffered_6 ?_
  exact S_iret 9 dX9_buffered_9 rfl
def FX9_parseError (E : XG) (t : Nat) (h : XH) : XP Int32 := xg (xk h t = 10) <| xlt (yi h t 0 0) fun h1 => xg (xk h1 t = 10) <| xv (xi h1 t 18) h1
theorem CX9_parseError (E : XG) (t : Nat) (h : XH) : XN E mX9_parseError eI 0 0 [.ref t] h (FX9_parseError E t h) := by
  unfold FX9_parseError
  refine S_enter (L := [some (.ref t)]) (by decide +kernel) rfl rfl rfl ?_
  refine S_aload_0 0 dX9_parseError_0 ?_
  refine S_ic 1 0 dX9_parseError_1 (by decide) ?_
  refine S_putI 2 frX9_87 rfl (fun q => by cases q) dX9_parseError_2 (fun h1 => ?_)
  refine S_aload_0 5 dX9_parseError_5 ?_
  refine S_getI 6 fsX9_101 rfl dX9_parseError_6 ?_
  exact S_iret 9 dX9_parseError_9 rfl
def FX9_errorPosition (E : XG) (t : Nat) (h : XH) : XP Int32 := xg (xk h t = 10) <| xlt (yi h t 0 0) fun h1 => xg (xk h1 t = 10) <| xv (xi h1 t 19) h1
theorem CX9_errorPosition (E : XG) (t : Nat) (h : XH) : XN E mX9_errorPosition eI 0 0 [.ref t] h (FX9_errorPosition E t h) := by
  unfold FX9_errorPosition
  refine S_enter (L := [some (.ref t)]) (by decide +kernel) rfl rfl rfl ?_
  refine S_aload_0 0 dX9_errorPosition_0 ?_
  refine S_ic 1 0 dX9_errorPosition_1 (by decide) ?_
  refine S_putI 2 frX9_87 rfl (fun q => by cases q) dX9_errorPosition_2 (fun h1 => ?_)
  refine S_aload_0 5 dX9_errorPosition_5 ?_
  refine S_getI 6 fsX9_44 rfl dX9_errorPosition_6 ?_
  exact S_iret 9 dX9_errorPosition_9 rfl
def FX9_seen (E : XG) (t : Nat) (p1 : Int32) (h : XH) : XP Int32 := xg (xk h t = 10) <| xjn (fun (v1 : Int32) (h2 : XH) => xv v1 h2) fun (j18 : Int32 → XH → XP Int32) => if ((xi h t 20) : Int32) ≤ p1 then (j18 (-1) h) else (xg (xk h t = 10) <| xnn (xr h t 16) fun w3 => xg (xk h w3 = 12 ∧ xin p1 (xn h w3)) <| j18 (xi h w3 (p1 : Int32).toNatClampNeg) h)
theorem CX9_seen (E : XG) (t : Nat) (p1 : Int32) (h : XH) : XN E mX9_seen eI 0 0 [.ref t, .int p1] h (FX9_seen E t p1 h) := by
  unfold FX9_seen
  refine S_enter (L := [some (.ref t), some (.int p1)]) (by decide +kernel) rfl rfl rfl ?_
  refine S_iload_1 0 dX9_seen_0 ?_
  refine S_aload_0 1 dX9_seen_1 ?_
  refine S_getI 2 fsX9_104 rfl dX9_seen_2 ?_
  refine S_join (fun jj => ∀ (v1 : Int32) (h2 : XH), XS E mX9_seen eI 0 0 18 [none, none] [.int v1] h2 (jj v1 h2)) (fun v1 h2 => ?_) (fun j18 hj18 => ?_)
  · skip
    exact S_iret 18 dX9_seen_18 rfl
  refine S_icmpge 5 17 dX9_seen_5 (by decide) ?_ ?_
  · skip
    refine S_ic 17 (-1) dX9_seen_17 (by decide) ?_
    exact S_drop [0, 1] rfl (hj18 _ _)
  · skip
    refine S_aload_0 8 dX9_seen_8 ?_
    refine S_getR 9 fsX9_41 rfl dX9_seen_9 (fun w3 => ?_)
    refine S_iload_1 12 dX9_seen_12 ?_
    refine S_iald 13 dX9_seen_13 ?_
    refine S_goto 14 18 dX9_seen_14 (by decide) ?_
    exact S_drop [0, 1] rfl (hj18 _ _)
def FX9_isLetter (E : XG) (p1 : Int32) (h : XH) : XP Int32 := xjn (fun (v1 : Int32) (h2 : XH) => xg ((v1 : Int32) = 0 ∨ (v1 : Int32) = 1) <| xv v1 h2) fun (j17 : Int32 → XH → XP Int32) => xjn (fun  (h3 : XH) => j17 0 h3) fun (j16 : XH → XP Int32) => if (p1 : Int32) < 97 then (j16 h) else (if (122 : Int32) < p1 then (j16 h) else (j17 1 h))
theorem CX9_isLetter (E : XG) (p1 : Int32) (h : XH) : XN E mX9_isLetter eI 0 0 [.int p1] h (FX9_isLetter E p1 h) := by
  unfold FX9_isLetter
  refine S_enter (L := [some (.int p1)]) (by decide +kernel) rfl rfl rfl ?_
  refine S_iload_0 0 dX9_isLetter_0 ?_
  refine S_bip 1 97 dX9_isLetter_1 (by decide) ?_
  refine S_join (fun jj => ∀ (v1 : Int32) (h2 : XH), XS E mX9_isLetter eI 0 0 17 [none] [.int v1] h2 (jj v1 h2)) (fun v1 h2 => ?_) (fun j17 hj17 => ?_)
  · skip
    exact S_zret 17 dX9_isLetter_17 rfl
  refine S_join (fun jj => ∀  (h3 : XH), XS E mX9_isLetter eI 0 0 16 [none] [] h3 (jj  h3)) (fun  h3 => ?_) (fun j16 hj16 => ?_)
  · skip
    refine S_ic 16 0 dX9_isLetter_16 (by decide) ?_
    exact S_drop [] rfl (hj17 _ _)
  refine S_icmplt 3 16 dX9_isLetter_3 (by decide) ?_ ?_
  · skip
    exact S_drop [0] rfl (hj16 _)
  · skip
    refine S_iload_0 6 dX9_isLetter_6 ?_
    refine S_bip 7 122 dX9_isLetter_7 (by decide) ?_
    refine S_icmpgt 9 16 dX9_isLetter_9 (by decide) ?_ ?_
    · skip
      exact S_drop [0] rfl (hj16 _)
    · skip
      refine S_ic 12 1 dX9_isLetter_12 (by decide) ?_
      refine S_goto 13 17 dX9_isLetter_13 (by decide) ?_
      exact S_drop [0] rfl (hj17 _ _)
def FX9_isDigit (E : XG) (p1 : Int32) (h : XH) : XP Int32 := xjn (fun (v1 : Int32) (h2 : XH) => xg ((v1 : Int32) = 0 ∨ (v1 : Int32) = 1) <| xv v1 h2) fun (j17 : Int32 → XH → XP Int32) => xjn (fun  (h3 : XH) => j17 0 h3) fun (j16 : XH → XP Int32) => if (p1 : Int32) < 48 then (j16 h) else (if (57 : Int32) < p1 then (j16 h) else (j17 1 h))
theorem CX9_isDigit (E : XG) (p1 : Int32) (h : XH) : XN E mX9_isDigit eI 0 0 [.int p1] h (FX9_isDigit E p1 h) := by
  unfold FX9_isDigit
  refine S_enter (L := [some (.int p1)]) (by decide +kernel) rfl rfl rfl ?_
  refine S_iload_0 0 dX9_isDigit_0 ?_
  refine S_bip 1 48 dX9_isDigit_1 (by decide) ?_
  refine S_join (fun jj => ∀ (v1 : Int32) (h2 : XH), XS E mX9_isDigit eI 0 0 17 [none] [.int v1] h2 (jj v1 h2)) (fun v1 h2 => ?_) (fun j17 hj17 => ?_)
  · skip
    exact S_zret 17 dX9_isDigit_17 rfl
  refine S_join (fun jj => ∀  (h3 : XH), XS E mX9_isDigit eI 0 0 16 [none] [] h3 (jj  h3)) (fun  h3 => ?_) (fun j16 hj16 => ?_)
  · skip
    refine S_ic 16 0 dX9_isDigit_16 (by decide) ?_
    exact S_drop [] rfl (hj17 _ _)
  refine S_icmplt 3 16 dX9_isDigit_3 (by decide) ?_ ?_
  · skip
    exact S_drop [0] rfl (hj16 _)
  · skip
    refine S_iload_0 6 dX9_isDigit_6 ?_
    refine S_bip 7 57 dX9_isDigit_7 (by decide) ?_
    refine S_icmpgt 9 16 dX9_isDigit_9 (by decide) ?_ ?_
    · skip
      exact S_drop [0] rfl (hj16 _)
    · skip
      refine S_ic 12 1 dX9_isDigit_12 (by decide) ?_
      refine S_goto 13 17 dX9_isDigit_13 (by decide) ?_
      exact S_drop [0] rfl (hj17 _ _)
def FX9_token (E : XG) (t : Nat) (h : XH) : XP Unit := xlp (fun again0 (s0 : Unit) h1 => xg (xk h1 t = 10) <| xg (xk h1 t = 10) <| xb (FX9_seen E t (xi h1 t 21) h1) fun v2 h3 => if (v2 : Int32) = 32 then (xg (xk h3 t = 10) <| xg (xk h3 t = 10) <| xlt (yi h3 t 21 ((xi h3 t 21) + 1)) fun h41 => again0 () h41) else (xg (xk h3 t = 10) <| xg (xk h3 t = 10) <| xlt (yi h3 t 22 (xi h3 t 21)) fun h4 => xg (xk h4 t = 10) <| xg (xk h4 t = 10) <| xb (FX9_seen E t (xi h4 t 21) h4) fun v5 h6 => xjn (fun  (h7 : XH) => xv () h7) fun (j245 : XH → XP Unit) => if (v5 : Int32) = (-1) then (xg (xk h6 t = 10) <| xlt (yi h6 t 23 0) fun h40 => j245 h40) else (xb (FX9_isLetter E v5 h6) fun v8 h9 => if (v8 : Int32) = 0 then (xb (FX9_isDigit E v5 h9) fun v10 h11 => if (v10 : Int32) = 0 then (xjn (fun (v12 : Int32) (h13 : XH) => xg (xk h13 t = 10) <| xlt (yi h13 t 23 v12) fun h14 => xg (xk h14 t = 10) <| xg (xk h14 t = 10) <| xlt (yi h14 t 21 ((xi h14 t 21) + 1)) fun h15 => j245 h15) fun (j232 : Int32 → XH → XP Unit) => if (v5 : Int32) = 59 then (j232 3 h11) else (j232 4 h11)) else (xg (xk h11 t = 10) <| xlt (yi h11 t 24 0) fun h16 => xlp (fun again128 (s128 : Unit) h17 => xg (xk h17 t = 10) <| xg (xk h17 t = 10) <| xb (FX9_seen E t (xi h17 t 21) h17) fun v18 h19 => xb (FX9_isDigit E v18 h19) fun v20 h21 => if (v20 : Int32) = 0 then (xg (xk h21 t = 10) <| xg (xk h21 t = 10) <| xjn (fun (v22 : Int32) (h23 : XH) => xg (xk h23 t = 10) <| xlt (yi h23 t 23 v22) fun h24 => j245 h24) fun (j214 : Int32 → XH → XP Unit) => if (((xi h21 t 21) - (xi h21 t 22)) : Int32) ≤ 2 then (j214 2 h21) else (j214 4 h21)) else (xg (xk h21 t = 10) <| xg (xk h21 t = 10) <| xjn (fun (v25 : Int32) (h26 : XH) => xg (xk h26 t = 10) <| xlt (yi h26 t 24 v25) fun h27 => xg (xk h27 t = 10) <| xg (xk h27 t = 10) <| xlt (yi h27 t 21 ((xi h27 t 21) + 1)) fun h28 => again128 () h28) fun (j179 : Int32 → XH → XP Unit) => if (2 : Int32) ≤ ((xi h21 t 21) - (xi h21 t 22)) then (j179 0 h21) else (xg (xk h21 t = 10) <| xg (xk h21 t = 10) <| xg (xk h21 t = 10) <| xb (FX9_seen E t (xi h21 t 21) h21) fun v29 h30 => j179 (((10 * (xi h21 t 24)) + v29) - 48) h30))) xfu () h16)) else (xlp (fun again63 (s63 : Unit) h31 => xg (xk h31 t = 10) <| xg (xk h31 t = 10) <| xb (FX9_seen E t (xi h31 t 21) h31) fun v32 h33 => xb (FX9_isLetter E v32 h33) fun v34 h35 => if (v34 : Int32) = 0 then (xg (xk h35 t = 10) <| xg (xk h35 t = 10) <| xjn (fun (v36 : Int32) (h37 : XH) => xg (xk h37 t = 10) <| xlt (yi h37 t 23 v36) fun h38 => j245 h38) fun (j110 : Int32 → XH → XP Unit) => if (((xi h35 t 21) - (xi h35 t 22)) : Int32) ≤ 10 then (j110 1 h35) else (j110 4 h35)) else (xg (xk h35 t = 10) <| xg (xk h35 t = 10) <| xlt (yi h35 t 21 ((xi h35 t 21) + 1)) fun h39 => again63 () h39)) xfu () h9)))) xfu () h
theorem CX9_token (E : XG) (t : Nat) (h : XH) : XN E mX9_token eU 0 0 [.ref t] h (FX9_token E t h) := by
  unfold FX9_token
  refine S_enter (L := [some (.ref t), none]) (by decide +kernel) rfl rfl rfl ?_
  refine S_loop (fun (s0 : Unit) => [some (.ref t), none]) (fun again0 hg0 s0 h1 => ?_) xfu _ _
  refine S_aload_0 0 dX9_token_0 ?_
  refine S_aload_0 1 dX9_token_1 ?_
  refine S_getI 2 fsX9_107 rfl dX9_token_2 ?_
  refine S_callV (a' := 0) (b' := 0) (a := 0) (b := 0) 5 (As := [.int (xi h1 t 21)]) (ci := 9) rfl calX9_seen imX9_seen seX9_seen mkX9_110 rfl rfl rfl rfl rfl (by decide) rfl rfl dX9_token_5 (CX9_seen E t (xi h1 t 21) h1) (fun v2 h3 => kqI ?_)
  refine S_bip 8 32 dX9_token_8 (by decide) ?_
  refine S_icmpne 10 26 dX9_token_10 (by decide) ?_ ?_
  · skip
    refine S_aload_0 26 dX9_token_26 ?_
    refine S_aload_0 27 dX9_token_27 ?_
    refine S_getI 28 fsX9_107 rfl dX9_token_28 ?_
    refine S_putI 31 frX9_114 rfl (fun q => by cases q) dX9_token_31 (fun h4 => ?_)
    refine S_aload_0 34 dX9_token_34 ?_
    refine S_aload_0 35 dX9_token_35 ?_
    refine S_getI 36 fsX9_107 rfl dX9_token_36 ?_
    refine S_callV (a' := 0) (b' := 0) (a := 0) (b := 0) 39 (As := [.int (xi h4 t 21)]) (ci := 9) rfl calX9_seen imX9_seen seX9_seen mkX9_110 rfl rfl rfl rfl rfl (by decide) rfl rfl dX9_token_39 (CX9_seen E t (xi h4 t 21) h4) (fun v5 h6 => kqI ?_)
    refine S_istore_1 42 dX9_token_42 rfl ?_
    refine S_iload_1 43 dX9_token_43 ?_
    refine S_ic 44 (-1) dX9_token_44 (by decide) ?_
    refine S_join (fun jj => ∀  (h7 : XH), XS E mX9_token eU 0 0 245 [none, none] [] h7 (jj  h7)) (fun  h7 => ?_) (fun j245 hj245 => ?_)
    · skip
      exact S_ret 245 dX9_token_245 rfl
    refine S_icmpne 45 56 dX9_token_45 (by decide) ?_ ?_
    · skip
      refine S_iload_1 56 dX9_token_56 ?_
      refine S_callS (a' := 0) (b' := 0) (a := 0) (b := 0) 57 (As := [.int v5]) rfl calX9_isLetter stX9_isLetter mkX9_120 rfl rfl rfl rfl rfl dX9_token_57 (CX9_isLetter E v5 h6) (fun v8 h9 => kqI ?_)
      refine S_ifeq 60 116 dX9_token_60 (by decide) ?_ ?_
      · skip
        refine S_iload_1 116 dX9_token_116 ?_
        refine S_callS (a' := 0) (b' := 0) (a := 0) (b := 0) 117 (As := [.int v5]) rfl calX9_isDigit stX9_isDigit mkX9_124 rfl rfl rfl rfl rfl dX9_token_117 (CX9_isDigit E v5 h9) (fun v10 h11 => kqI ?_)
        refine S_ifeq 120 220 dX9_token_120 (by decide) ?_ ?_
        · skip
          refine S_aload_0 220 dX9_token_220 ?_
          refine S_iload_1 221 dX9_token_221 ?_
          refine S_bip 222 59 dX9_token_222 (by decide) ?_
          refine S_join (fun jj => ∀ (v12 : Int32) (h13 : XH), XS E mX9_token eU 0 0 232 [some (.ref t), none] [.int v12, .ref t] h13 (jj v12 h13)) (fun v12 h13 => ?_) (fun j232 hj232 => ?_)
          · skip
            refine S_putI 232 frX9_117 rfl (fun q => by cases q) dX9_token_232 (fun h14 => ?_)
            refine S_aload_0 235 dX9_token_235 ?_
            refine S_dup 236 dX9_token_236 rfl ?_
            refine S_getI 237 fsX9_107 rfl dX9_token_237 ?_
            refine S_ic 240 1 dX9_token_240 (by decide) ?_
            refine S_iadd 241 dX9_token_241 ?_
            refine S_putI 242 frX9_107 rfl (fun q => by cases q) dX9_token_242 (fun h15 => ?_)
            exact S_drop [0] rfl (hj245 _)
          refine S_icmpne 224 231 dX9_token_224 (by decide) ?_ ?_
          · skip
            refine S_ic 231 4 dX9_token_231 (by decide) ?_
            exact S_drop [1] rfl (hj232 _ _)
          · skip
            refine S_ic 227 3 dX9_token_227 (by decide) ?_
            refine S_goto 228 232 dX9_token_228 (by decide) ?_
            exact S_drop [1] rfl (hj232 _ _)
        · skip
          refine S_aload_0 123 dX9_token_123 ?_
          refine S_ic 124 0 dX9_token_124 (by decide) ?_
          refine S_putI 125 frX9_127 rfl (fun q => by cases q) dX9_token_125 (fun h16 => ?_)
          refine S_drop [1] rfl ?_
          refine S_loop (fun (s128 : Unit) => [some (.ref t), none]) (fun again128 hg128 s128 h17 => ?_) xfu _ _
          refine S_aload_0 128 dX9_token_128 ?_
          refine S_aload_0 129 dX9_token_129 ?_
          refine S_getI 130 fsX9_107 rfl dX9_token_130 ?_
          refine S_callV (a' := 0) (b' := 0) (a := 0) (b := 0) 133 (As := [.int (xi h17 t 21)]) (ci := 9) rfl calX9_seen imX9_seen seX9_seen mkX9_110 rfl rfl rfl rfl rfl (by decide) rfl rfl dX9_token_133 (CX9_seen E t (xi h17 t 21) h17) (fun v18 h19 => kqI ?_)
          refine S_callS (a' := 0) (b' := 0) (a := 0) (b := 0) 136 (As := [.int v18]) rfl calX9_isDigit stX9_isDigit mkX9_124 rfl rfl rfl rfl rfl dX9_token_136 (CX9_isDigit E v18 h19) (fun v20 h21 => kqI ?_)
          refine S_ifeq 139 195 dX9_token_139 (by decide) ?_ ?_
          · skip
            refine S_aload_0 195 dX9_token_195 ?_
            refine S_aload_0 196 dX9_token_196 ?_
            refine S_getI 197 fsX9_107 rfl dX9_token_197 ?_
            refine S_aload_0 200 dX9_token_200 ?_
            refine S_getI 201 fsX9_114 rfl dX9_token_201 ?_
            refine S_isub 204 dX9_token_204 ?_
            refine S_ic 205 2 dX9_token_205 (by decide) ?_
            refine S_join (fun jj => ∀ (v22 : Int32) (h23 : XH), XS E mX9_token eU 0 0 214 [none, none] [.int v22, .ref t] h23 (jj v22 h23)) (fun v22 h23 => ?_) (fun j214 hj214 => ?_)
            · skip
              refine S_putI 214 frX9_117 rfl (fun q => by cases q) dX9_token_214 (fun h24 => ?_)
              refine S_goto 217 245 dX9_token_217 (by decide) ?_
              exact S_drop [] rfl (hj245 _)
            refine S_icmple 206 213 dX9_token_206 (by decide) ?_ ?_
            · skip
              refine S_ic 213 2 dX9_token_213 (by decide) ?_
              exact S_drop [0] rfl (hj214 _ _)
            · skip
              refine S_ic 209 4 dX9_token_209 (by decide) ?_
              refine S_goto 210 214 dX9_token_210 (by decide) ?_
              exact S_drop [0] rfl (hj214 _ _)
          · skip
            refine S_aload_0 142 dX9_token_142 ?_
            refine S_aload_0 143 dX9_token_143 ?_
            refine S_getI 144 fsX9_107 rfl dX9_token_144 ?_
            refine S_aload_0 147 dX9_token_147 ?_
            refine S_getI 148 fsX9_114 rfl dX9_token_148 ?_
            refine S_isub 151 dX9_token_151 ?_
            refine S_ic 152 2 dX9_token_152 (by decide) ?_
            refine S_join (fun jj => ∀ (v25 : Int32) (h26 : XH), XS E mX9_token eU 0 0 179 [some (.ref t), none] [.int v25, .ref t] h26 (jj v25 h26)) (fun v25 h26 => ?_) (fun j179 hj179 => ?_)
            · skip
              refine S_putI 179 frX9_127 rfl (fun q => by cases q) dX9_token_179 (fun h27 => ?_)
              refine S_aload_0 182 dX9_token_182 ?_
              refine S_dup 183 dX9_token_183 rfl ?_
              refine S_getI 184 fsX9_107 rfl dX9_token_184 ?_
              refine S_ic 187 1 dX9_token_187 (by decide) ?_
              refine S_iadd 188 dX9_token_188 ?_
              refine S_putI 189 frX9_107 rfl (fun q => by cases q) dX9_token_189 (fun h28 => ?_)
              refine S_goto 192 128 dX9_token_192 (by decide) ?_
              exact S_drop [] rfl (hg128 _ _)
            refine S_icmpge 153 178 dX9_token_153 (by decide) ?_ ?_
            · skip
              refine S_ic 178 0 dX9_token_178 (by decide) ?_
              exact S_drop [] rfl (hj179 _ _)
            · skip
              refine S_bip 156 10 dX9_token_156 (by decide) ?_
              refine S_aload_0 158 dX9_token_158 ?_
              refine S_getI 159 fsX9_127 rfl dX9_token_159 ?_
              refine S_imul 162 dX9_token_162 ?_
              refine S_aload_0 163 dX9_token_163 ?_
              refine S_aload_0 164 dX9_token_164 ?_
              refine S_getI 165 fsX9_107 rfl dX9_token_165 ?_
              refine S_callV (a' := 0) (b' := 0) (a := 0) (b := 0) 168 (As := [.int (xi h21 t 21)]) (ci := 9) rfl calX9_seen imX9_seen seX9_seen mkX9_110 rfl rfl rfl rfl rfl (by decide) rfl rfl dX9_token_168 (CX9_seen E t (xi h21 t 21) h21) (fun v29 h30 => kqI ?_)
              refine S_iadd 171 dX9_token_171 ?_
              refine S_bip 172 48 dX9_token_172 (by decide) ?_
              refine S_isub 174 dX9_token_174 ?_
              refine S_goto 175 179 dX9_token_175 (by decide) ?_
              exact S_drop [] rfl (hj179 _ _)
      · skip
        refine S_drop [1] rfl ?_
        refine S_loop (fun (s63 : Unit) => [some (.ref t), none]) (fun again63 hg63 s63 h31 => ?_) xfu _ _
        refine S_aload_0 63 dX9_token_63 ?_
        refine S_aload_0 64 dX9_token_64 ?_
        refine S_getI 65 fsX9_107 rfl dX9_token_65 ?_
        refine S_callV (a' := 0) (b' := 0) (a := 0) (b := 0) 68 (As := [.int (xi h31 t 21)]) (ci := 9) rfl calX9_seen imX9_seen seX9_seen mkX9_110 rfl rfl rfl rfl rfl (by decide) rfl rfl dX9_token_68 (CX9_seen E t (xi h31 t 21) h31) (fun v32 h33 => kqI ?_)
        refine S_callS (a' := 0) (b' := 0) (a := 0) (b := 0) 71 (As := [.int v32]) rfl calX9_isLetter stX9_isLetter mkX9_120 rfl rfl rfl rfl rfl dX9_token_71 (CX9_isLetter E v32 h33) (fun v34 h35 => kqI ?_)
        refine S_ifeq 74 90 dX9_token_74 (by decide) ?_ ?_
        · skip
          refine S_aload_0 90 dX9_token_90 ?_
          refine S_aload_0 91 dX9_token_91 ?_
          refine S_getI 92 fsX9_107 rfl dX9_token_92 ?_
          refine S_aload_0 95 dX9_token_95 ?_
          refine S_getI 96 fsX9_114 rfl dX9_token_96 ?_
          refine S_isub 99 dX9_token_99 ?_
          refine S_bip 100 10 dX9_token_100 (by decide) ?_
          refine S_join (fun jj => ∀ (v36 : Int32) (h37 : XH), XS E mX9_token eU 0 0 110 [none, none] [.int v36, .ref t] h37 (jj v36 h37)) (fun v36 h37 => ?_) (fun j110 hj110 => ?_)
          · skip
            refine S_putI 110 frX9_117 rfl (fun q => by cases q) dX9_token_110 (fun h38 => ?_)
            refine S_goto 113 245 dX9_token_113 (by decide) ?_
            exact S_drop [] rfl (hj245 _)
          refine S_icmple 102 109 dX9_token_102 (by decide) ?_ ?_
          · skip
            refine S_ic 109 1 dX9_token_109 (by decide) ?_
            exact S_drop [0] rfl (hj110 _ _)
          · skip
            refine S_ic 105 4 dX9_token_105 (by decide) ?_
            refine S_goto 106 110 dX9_token_106 (by decide) ?_
            exact S_drop [0] rfl (hj110 _ _)
        · skip
          refine S_aload_0 77 dX9_token_77 ?_
          refine S_dup 78 dX9_token_78 rfl ?_
          refine S_getI 79 fsX9_107 rfl dX9_token_79 ?_
          refine S_ic 82 1 dX9_token_82 (by decide) ?_
          refine S_iadd 83 dX9_token_83 ?_
          refine S_putI 84 frX9_107 rfl (fun q => by cases q) dX9_token_84 (fun h39 => ?_)
          refine S_goto 87 63 dX9_token_87 (by decide) ?_
          exact S_drop [] rfl (hg63 _ _)
    · skip
      refine S_aload_0 48 dX9_token_48 ?_
      refine S_ic 49 0 dX9_token_49 (by decide) ?_
      refine S_putI 50 frX9_117 rfl (fun q => by cases q) dX9_token_50 (fun h40 => ?_)
      refine S_goto 53 245 dX9_token_53 (by decide) ?_
      exact S_drop [0, 1] rfl (hj245 _)
  · skip
    refine S_aload_0 13 dX9_token_13 ?_
    refine S_dup 14 dX9_token_14 rfl ?_
    refine S_getI 15 fsX9_107 rfl dX9_token_15 ?_
    refine S_ic 18 1 dX9_token_18 (by decide) ?_
    refine S_iadd 19 dX9_token_19 ?_
    refine S_putI 20 frX9_107 rfl (fun q => by cases q) dX9_token_20 (fun h41 => ?_)
    refine S_goto 23 0 dX9_token_23 (by decide) ?_
    exact S_drop [] rfl (hg0 _ _)
def FX9_fails (E : XG) (t : Nat) (p1 : Int32) (h : XH) : XP Unit := xg (xk h t = 10) <| xjn (fun  (h1 : XH) => xv () h1) fun (j20 : XH → XP Unit) => if ((xi h t 25) : Int32) = 0 then (xg (xk h t = 10) <| xlt (yi h t 25 p1) fun h2 => xg (xk h2 t = 10) <| xg (xk h2 t = 10) <| xlt (yi h2 t 26 (xi h2 t 22)) fun h3 => j20 h3) else (j20 h)
theorem CX9_fails (E : XG) (t : Nat) (p1 : Int32) (h : XH) : XN E mX9_fails eU 0 0 [.ref t, .int p1] h (FX9_fails E t p1 h) := by
  unfold FX9_fails
  refine S_enter (L := [some (.ref t), some (.int p1)]) (by decide +kernel) rfl rfl rfl ?_
  refine S_aload_0 0 dX9_fails_0 ?_
  refine S_getI 1 fsX9_130 rfl dX9_fails_1 ?_
  refine S_join (fun jj => ∀  (h1 : XH), XS E mX9_fails eU 0 0 20 [none, none] [] h1 (jj  h1)) (fun  h1 => ?_) (fun j20 hj20 => ?_)
  · skip
    exact S_ret 20 dX9_fails_20 rfl
  refine S_ifne 4 20 dX9_fails_4 (by decide) ?_ ?_
  · skip
    exact S_drop [0, 1] rfl (hj20 _)
  · skip
    refine S_aload_0 7 dX9_fails_7 ?_
    refine S_iload_1 8 dX9_fails_8 ?_
    refine S_putI 9 frX9_130 rfl (fun q => by cases q) dX9_fails_9 (fun h2 => ?_)
    refine S_aload_0 12 dX9_fails_12 ?_
    refine S_aload_0 13 dX9_fails_13 ?_
    refine S_getI 14 fsX9_114 rfl dX9_fails_14 ?_
    refine S_putI 17 frX9_133 rfl (fun q => by cases q) dX9_fails_17 (fun h3 => ?_)
    exact S_drop [0, 1] rfl (hj20 _)
def FX9_failsIf (E : XG) (t : Nat) (p1 : Int32) (p2 : Int32) (h : XH) : XP Unit := xjn (fun  (h1 : XH) => xv () h1) fun (j9 : XH → XP Unit) => if (p1 : Int32) = 0 then (j9 h) else (xg (xk h t = 10) <| xb (FX9_fails E t p2 h) fun _ h2 => j9 h2)
theorem CX9_failsIf (E : XG) (t : Nat) (p1 : Int32) (p2 : Int32) (h : XH) : XN E mX9_failsIf eU 0 0 [.ref t, .int p1, .int p2] h (FX9_failsIf E t p1 p2 h) := by
  unfold FX9_failsIf
  refine S_enter (L := [some (.ref t), some (.int p1), some (.int p2)]) (by decide +kernel) rfl rfl rfl ?_
  refine S_iload_1 0 dX9_failsIf_0 ?_
  refine S_join (fun jj => ∀  (h1 : XH), XS E mX9_failsIf eU 0 0 9 [none, none, none] [] h1 (jj  h1)) (fun  h1 => ?_) (fun j9 hj9 => ?_)
  · skip
    exact S_ret 9 dX9_failsIf_9 rfl
  refine S_ifeq 1 9 dX9_failsIf_1 (by decide) ?_ ?_
  · skip
    exact S_drop [0, 1, 2] rfl (hj9 _)
  · skip
    refine S_aload_0 4 dX9_failsIf_4 ?_
    refine S_iload_2 5 dX9_failsIf_5 ?_
    refine S_callV (a' := 0) (b' := 0) (a := 0) (b := 0) 6 (As := [.int p2]) (ci := 9) rfl calX9_fails imX9_fails seX9_fails mkX9_136 rfl rfl rfl rfl rfl (by decide) rfl rfl dX9_failsIf_6 (CX9_fails E t p2 h) (fun _ h2 => kqU ?_)
    exact S_drop [0, 1, 2] rfl (hj9 _)
def FX9_goesOn (E : XG) (t : Nat) (h : XH) : XP Unit := xg (xk h t = 10) <| xjn (fun  (h1 : XH) => xv () h1) fun (j11 : XH → XP Unit) => if ((xi h t 25) : Int32) = 0 then (xg (xk h t = 10) <| xb (FX9_token E t  h) fun _ h2 => j11 h2) else (j11 h)
theorem CX9_goesOn (E : XG) (t : Nat) (h : XH) : XN E mX9_goesOn eU 0 0 [.ref t] h (FX9_goesOn E t h) := by
  unfold FX9_goesOn
  refine S_enter (L := [some (.ref t)]) (by decide +kernel) rfl rfl rfl ?_
  refine S_aload_0 0 dX9_goesOn_0 ?_
  refine S_getI 1 fsX9_130 rfl dX9_goesOn_1 ?_
  refine S_join (fun jj => ∀  (h1 : XH), XS E mX9_goesOn eU 0 0 11 [none] [] h1 (jj  h1)) (fun  h1 => ?_) (fun j11 hj11 => ?_)
  · skip
    exact S_ret 11 dX9_goesOn_11 rfl
  refine S_ifne 4 11 dX9_goesOn_4 (by decide) ?_ ?_
  · skip
    exact S_drop [0] rfl (hj11 _)
  · skip
    refine S_aload_0 7 dX9_goesOn_7 ?_
    refine S_callV (a' := 0) (b' := 0) (a := 0) (b := 0) 8 (As := []) (ci := 9) rfl calX9_token imX9_token seX9_token mkX9_140 rfl rfl rfl rfl rfl (by decide) rfl rfl dX9_goesOn_8 (CX9_token E t  h) (fun _ h2 => kqU ?_)
    exact S_drop [0] rfl (hj11 _)
def FX9_isWord (E : XG) (t : Nat) (p1 : Nat) (h : XH) : XP Int32 := xg (xk h t = 10) <| xjn (fun  (h1 : XH) => xg ((0 : Int32) = 0 ∨ (0 : Int32) = 1) <| xv 0 h1) fun (j31 : XH → XP Int32) => if ((xi h t 25) : Int32) = 0 then (xg (xk h t = 10) <| if ((xi h t 23) : Int32) = 1 then (xg (xk h t = 10) <| xg (xk h t = 10) <| xg (p1 < nJS) <| xb (FJ0_length p1  h) fun v2 h3 => if (((xi h t 21) - (xi h t 22)) : Int32) = v2 then (xlp (fun again35 (s35 : Int32) h4 => xg (p1 < nJS) <| xb (FJ0_length p1  h4) fun v5 h6 => if (v5 : Int32) ≤ s35 then (xg ((1 : Int32) = 0 ∨ (1 : Int32) = 1) <| xv 1 h6) else (xg (xk h6 t = 10) <| xg (xk h6 t = 10) <| xb (FX9_seen E t ((xi h6 t 22) + s35) h6) fun v7 h8 => xg (p1 < nJS) <| xb (FJ0_charAt p1 s35 h8) fun v9 h10 => if (v7 : Int32) = v9 then (again35 (s35 + 1) h10) else (xg ((0 : Int32) = 0 ∨ (0 : Int32) = 1) <| xv 0 h10))) xfu 0 h3) else (j31 h3)) else (j31 h)) else (j31 h)
theorem CX9_isWord (E : XG) (t : Nat) (p1 : Nat) (h : XH) : XN E mX9_isWord eI 0 0 [.ref t, .ref (eK E p1)] h (FX9_isWord E t p1 h) := by
  unfold FX9_isWord
  refine S_enter (L := [some (.ref t), some (.ref (eK E p1)), none]) (by decide +kernel) rfl rfl rfl ?_
  refine S_aload_0 0 dX9_isWord_0 ?_
  refine S_getI 1 fsX9_130 rfl dX9_isWord_1 ?_
  refine S_join (fun jj => ∀  (h1 : XH), XS E mX9_isWord eI 0 0 31 [none, none, none] [] h1 (jj  h1)) (fun  h1 => ?_) (fun j31 hj31 => ?_)
  · skip
    refine S_ic 31 0 dX9_isWord_31 (by decide) ?_
    exact S_zret 32 dX9_isWord_32 rfl
  refine S_ifne 4 31 dX9_isWord_4 (by decide) ?_ ?_
  · skip
    exact S_drop [0, 1] rfl (hj31 _)
  · skip
    refine S_aload_0 7 dX9_isWord_7 ?_
    refine S_getI 8 fsX9_117 rfl dX9_isWord_8 ?_
    refine S_ic 11 1 dX9_isWord_11 (by decide) ?_
    refine S_icmpne 12 31 dX9_isWord_12 (by decide) ?_ ?_
    · skip
      exact S_drop [0, 1] rfl (hj31 _)
    · skip
      refine S_aload_0 15 dX9_isWord_15 ?_
      refine S_getI 16 fsX9_107 rfl dX9_isWord_16 ?_
      refine S_aload_0 19 dX9_isWord_19 ?_
      refine S_getI 20 fsX9_114 rfl dX9_isWord_20 ?_
      refine S_isub 23 dX9_isWord_23 ?_
      refine S_aload_1 24 dX9_isWord_24 ?_
      refine S_g (fun hi9 => S_callVS (a' := 0) (b' := 0) (a := 0) (b := 0) 25 p1 (As := []) rfl hi9 calJ0_length_8abf5 rfl imJ0_length_8abf5 seJ0_length_8abf5 mkX9_143 rfl rfl rfl rfl rfl dX9_isWord_25 (CJ0_length E p1  h) (fun v2 h3 => kqI ?_))
      refine S_icmpeq 28 33 dX9_isWord_28 (by decide) ?_ ?_
      · skip
        refine S_ic 33 0 dX9_isWord_33 (by decide) ?_
        refine S_istore_2 34 dX9_isWord_34 rfl ?_
        refine S_loop (fun (s35 : Int32) => [some (.ref t), some (.ref (eK E p1)), some (.int s35)]) (fun again35 hg35 s35 h4 => ?_) xfu _ _
        refine S_iload_2 35 dX9_isWord_35 ?_
        refine S_aload_1 36 dX9_isWord_36 ?_
        refine S_g (fun hi9 => S_callVS (a' := 0) (b' := 0) (a := 0) (b := 0) 37 p1 (As := []) rfl hi9 calJ0_length_8abf5 rfl imJ0_length_8abf5 seJ0_length_8abf5 mkX9_143 rfl rfl rfl rfl rfl dX9_isWord_37 (CJ0_length E p1  h4) (fun v5 h6 => kqI ?_))
        refine S_icmpge 40 69 dX9_isWord_40 (by decide) ?_ ?_
        · skip
          refine S_ic 69 1 dX9_isWord_69 (by decide) ?_
          exact S_zret 70 dX9_isWord_70 rfl
        · skip
          refine S_aload_0 43 dX9_isWord_43 ?_
          refine S_aload_0 44 dX9_isWord_44 ?_
          refine S_getI 45 fsX9_114 rfl dX9_isWord_45 ?_
          refine S_iload_2 48 dX9_isWord_48 ?_
          refine S_iadd 49 dX9_isWord_49 ?_
          refine S_callV (a' := 0) (b' := 0) (a := 0) (b := 0) 50 (As := [.int ((xi h6 t 22) + s35)]) (ci := 9) rfl calX9_seen imX9_seen seX9_seen mkX9_110 rfl rfl rfl rfl rfl (by decide) rfl rfl dX9_isWord_50 (CX9_seen E t ((xi h6 t 22) + s35) h6) (fun v7 h8 => kqI ?_)
          refine S_aload_1 53 dX9_isWord_53 ?_
          refine S_iload_2 54 dX9_isWord_54 ?_
          refine S_g (fun hi9 => S_callVS (a' := 0) (b' := 0) (a := 0) (b := 0) 55 p1 (As := [.int s35]) rfl hi9 calJ0_charAt_5068e rfl imJ0_charAt_5068e seJ0_charAt_5068e mkX9_148 rfl rfl rfl rfl rfl dX9_isWord_55 (CJ0_charAt E p1 s35 h8) (fun v9 h10 => kqI ?_))
          refine S_icmpeq 58 63 dX9_isWord_58 (by decide) ?_ ?_
          · skip
            refine S_iinc_2 63 (s35 + 1) dX9_isWord_63 (by rfl) rfl ?_
            refine S_goto 66 35 dX9_isWord_66 (by decide) ?_
            exact S_drop [] rfl (hg35 _ _)
          · skip
            refine S_ic 61 0 dX9_isWord_61 (by decide) ?_
            exact S_zret 62 dX9_isWord_62 rfl
      · skip
        exact S_drop [0, 1] rfl (hj31 _)
def FX9_takes (E : XG) (t : Nat) (p1 : Int32) (p2 : Int32) (h : XH) : XP Int32 := xg (xk h t = 10) <| xjn (fun  (h1 : XH) => xg (xk h1 t = 10) <| xjn (fun (v2 : Int32) (h3 : XH) => xg (xk h3 t = 10) <| xb (FX9_goesOn E t  h3) fun _ h4 => xv v2 h4) fun (j48 : Int32 → XH → XP Int32) => if ((xi h1 t 25) : Int32) = 0 then (xg (xk h1 t = 10) <| j48 (xi h1 t 24) h1) else (j48 p1 h1)) fun (j33 : XH → XP Int32) => if ((xi h t 23) : Int32) = 2 then (xg (xk h t = 10) <| xb (FX9_in E (xi h t 24) p1 p2 h) fun v5 h6 => if (v5 : Int32) = 0 then (xg (xk h6 t = 10) <| xb (FX9_fails E t 2 h6) fun _ h7 => j33 h7) else (j33 h6)) else (xg (xk h t = 10) <| xb (FX9_fails E t 1 h) fun _ h8 => j33 h8)
theorem CX9_takes (E : XG) (t : Nat) (p1 : Int32) (p2 : Int32) (h : XH) : XN E mX9_takes eI 0 0 [.ref t, .int p1, .int p2] h (FX9_takes E t p1 p2 h) := by
  unfold FX9_takes
  refine S_enter (L := [some (.ref t), some (.int p1), some (.int p2), none]) (by decide +kernel) rfl rfl rfl ?_
  refine S_aload_0 0 dX9_takes_0 ?_
  refine S_getI 1 fsX9_117 rfl dX9_takes_1 ?_
  refine S_ic 4 2 dX9_takes_4 (by decide) ?_
  refine S_join (fun jj => ∀  (h1 : XH), XS E mX9_takes eI 0 0 33 [some (.ref t), some (.int p1), none, none] [] h1 (jj  h1)) (fun  h1 => ?_) (fun j33 hj33 => ?_)
  · skip
    refine S_aload_0 33 dX9_takes_33 ?_
    refine S_getI 34 fsX9_130 rfl dX9_takes_34 ?_
    refine S_join (fun jj => ∀ (v2 : Int32) (h3 : XH), XS E mX9_takes eI 0 0 48 [some (.ref t), none, none, none] [.int v2] h3 (jj v2 h3)) (fun v2 h3 => ?_) (fun j48 hj48 => ?_)
    · skip
      refine S_istore_3 48 dX9_takes_48 rfl ?_
      refine S_aload_0 49 dX9_takes_49 ?_
      refine S_callV (a' := 0) (b' := 0) (a := 0) (b := 0) 50 (As := []) (ci := 9) rfl calX9_goesOn imX9_goesOn seX9_goesOn mkX9_156 rfl rfl rfl rfl rfl (by decide) rfl rfl dX9_takes_50 (CX9_goesOn E t  h3) (fun _ h4 => kqU ?_)
      refine S_iload_3 53 dX9_takes_53 ?_
      exact S_iret 54 dX9_takes_54 rfl
    refine S_ifeq 37 44 dX9_takes_37 (by decide) ?_ ?_
    · skip
      refine S_aload_0 44 dX9_takes_44 ?_
      refine S_getI 45 fsX9_127 rfl dX9_takes_45 ?_
      exact S_drop [1] rfl (hj48 _ _)
    · skip
      refine S_iload_1 40 dX9_takes_40 ?_
      refine S_goto 41 48 dX9_takes_41 (by decide) ?_
      exact S_drop [1] rfl (hj48 _ _)
  refine S_icmpeq 5 16 dX9_takes_5 (by decide) ?_ ?_
  · skip
    refine S_aload_0 16 dX9_takes_16 ?_
    refine S_getI 17 fsX9_127 rfl dX9_takes_17 ?_
    refine S_iload_1 20 dX9_takes_20 ?_
    refine S_iload_2 21 dX9_takes_21 ?_
    refine S_callS (a' := 0) (b' := 0) (a := 0) (b := 0) 22 (As := [.int (xi h t 24), .int p1, .int p2]) rfl calX9_in stX9_in mkX9_152 rfl rfl rfl rfl rfl dX9_takes_22 (CX9_in E (xi h t 24) p1 p2 h) (fun v5 h6 => kqI ?_)
    refine S_ifne 25 33 dX9_takes_25 (by decide) ?_ ?_
    · skip
      exact S_drop [2] rfl (hj33 _)
    · skip
      refine S_aload_0 28 dX9_takes_28 ?_
      refine S_ic 29 2 dX9_takes_29 (by decide) ?_
      refine S_callV (a' := 0) (b' := 0) (a := 0) (b := 0) 30 (As := [.int 2]) (ci := 9) rfl calX9_fails imX9_fails seX9_fails mkX9_136 rfl rfl rfl rfl rfl (by decide) rfl rfl dX9_takes_30 (CX9_fails E t 2 h6) (fun _ h7 => kqU ?_)
      exact S_drop [2] rfl (hj33 _)
  · skip
    refine S_aload_0 8 dX9_takes_8 ?_
    refine S_ic 9 1 dX9_takes_9 (by decide) ?_
    refine S_callV (a' := 0) (b' := 0) (a := 0) (b := 0) 10 (As := [.int 1]) (ci := 9) rfl calX9_fails imX9_fails seX9_fails mkX9_136 rfl rfl rfl rfl rfl (by decide) rfl rfl dX9_takes_10 (CX9_fails E t 1 h) (fun _ h8 => kqU ?_)
    refine S_goto 13 33 dX9_takes_13 (by decide) ?_
    exact S_drop [2] rfl (hj33 _)
def FX9_named (E : XG) (t : Nat) (p1 : Int32) (p2 : Int32) (h : XH) : XP Int32 := xlp (fun again2 (s2 : Int32) h1 => if (p2 : Int32) ≤ s2 then (xv (-1) h1) else (xg (xk h1 t = 10) <| xjn (fun (v2 : Int32) (h3 : XH) => xlp (fun again25 (s25 : Int32 × Int32) h4 => xjn (fun  (h5 : XH) => if (s25.1 : Int32) = 0 then (again2 (s2 + 1) h5) else (xv s2 h5)) fun (j96 : XH → XP Int32) => if (10 : Int32) ≤ s25.2 then (j96 h4) else (if (s25.1 : Int32) = 0 then (j96 h4) else (xg (xk h4 t = 10) <| xnn (xr h4 t 34) fun w6 => xg (xk h4 w6 = 12 ∧ xin ((10 * (p1 + s2)) + s25.2) (xn h4 w6)) <| xg (xk h4 t = 10) <| xg (xk h4 t = 10) <| xjn (fun (v7 : Int32) (h8 : XH) => xjn (fun (v9 : Int32) (h10 : XH) => again25 (v9, (s25.2 + 1)) h10) fun (j88 : Int32 → XH → XP Int32) => if ((xi h4 w6 (((10 * (p1 + s2)) + s25.2) : Int32).toNatClampNeg) : Int32) = v7 then (j88 1 h8) else (j88 0 h8)) fun (j80 : Int32 → XH → XP Int32) => if ((xi h4 t 21) : Int32) ≤ ((xi h4 t 22) + s25.2) then (j80 0 h4) else (xg (xk h4 t = 10) <| xg (xk h4 t = 10) <| xb (FX9_seen E t ((xi h4 t 22) + s25.2) h4) fun v11 h12 => j80 v11 h12)))) xfu (v2, 0) h3) fun (j20 : Int32 → XH → XP Int32) => if ((xi h1 t 23) : Int32) = 1 then (j20 1 h1) else (j20 0 h1))) xfu 0 h
theorem CX9_named (E : XG) (t : Nat) (p1 : Int32) (p2 : Int32) (h : XH) : XN E mX9_named eI 0 0 [.ref t, .int p1, .int p2] h (FX9_named E t p1 p2 h) := by
  unfold FX9_named
  refine S_enter (L := [some (.ref t), some (.int p1), some (.int p2), none, none, none]) (by decide +kernel) rfl rfl rfl ?_
  refine S_ic 0 0 dX9_named_0 (by decide) ?_
  refine S_istore_3 1 dX9_named_1 rfl ?_
  refine S_loop (fun (s2 : Int32) => [some (.ref t), some (.int p1), some (.int p2), some (.int s2), none, none]) (fun again2 hg2 s2 h1 => ?_) xfu _ _
  refine S_iload_3 2 dX9_named_2 ?_
  refine S_iload_2 3 dX9_named_3 ?_
  refine S_icmpge 4 109 dX9_named_4 (by decide) ?_ ?_
  · skip
    refine S_ic 109 (-1) dX9_named_109 (by decide) ?_
    exact S_iret 110 dX9_named_110 rfl
  · skip
    refine S_aload_0 7 dX9_named_7 ?_
    refine S_getI 8 fsX9_117 rfl dX9_named_8 ?_
    refine S_ic 11 1 dX9_named_11 (by decide) ?_
    refine S_join (fun jj => ∀ (v2 : Int32) (h3 : XH), XS E mX9_named eI 0 0 20 [some (.ref t), some (.int p1), some (.int p2), some (.int s2), none, none] [.int v2] h3 (jj v2 h3)) (fun v2 h3 => ?_) (fun j20 hj20 => ?_)
    · skip
      refine S_istore_4 20 dX9_named_20 rfl ?_
      refine S_ic 22 0 dX9_named_22 (by decide) ?_
      refine S_istore_5 23 dX9_named_23 rfl ?_
      refine S_loop (fun (s25 : Int32 × Int32) => [some (.ref t), some (.int p1), some (.int p2), some (.int s2), some (.int s25.1), some (.int s25.2)]) (fun again25 hg25 s25 h4 => ?_) xfu _ _
      refine S_iload_5 25 dX9_named_25 ?_
      refine S_bip 27 10 dX9_named_27 (by decide) ?_
      refine S_join (fun jj => ∀  (h5 : XH), XS E mX9_named eI 0 0 96 [some (.ref t), some (.int p1), some (.int p2), some (.int s2), some (.int s25.1), none] [] h5 (jj  h5)) (fun  h5 => ?_) (fun j96 hj96 => ?_)
      · skip
        refine S_iload_4 96 dX9_named_96 ?_
        refine S_ifeq 98 103 dX9_named_98 (by decide) ?_ ?_
        · skip
          refine S_iinc_3 103 (s2 + 1) dX9_named_103 (by rfl) rfl ?_
          refine S_goto 106 2 dX9_named_106 (by decide) ?_
          exact S_drop [4] rfl (hg2 _ _)
        · skip
          refine S_iload_3 101 dX9_named_101 ?_
          exact S_iret 102 dX9_named_102 rfl
      refine S_icmpge 29 96 dX9_named_29 (by decide) ?_ ?_
      · skip
        exact S_drop [5] rfl (hj96 _)
      · skip
        refine S_iload_4 32 dX9_named_32 ?_
        refine S_ifeq 34 96 dX9_named_34 (by decide) ?_ ?_
        · skip
          exact S_drop [5] rfl (hj96 _)
        · skip
          refine S_aload_0 37 dX9_named_37 ?_
          refine S_getR 38 fsX9_69 rfl dX9_named_38 (fun w6 => ?_)
          refine S_bip 41 10 dX9_named_41 (by decide) ?_
          refine S_iload_1 43 dX9_named_43 ?_
          refine S_iload_3 44 dX9_named_44 ?_
          refine S_iadd 45 dX9_named_45 ?_
          refine S_imul 46 dX9_named_46 ?_
          refine S_iload_5 47 dX9_named_47 ?_
          refine S_iadd 49 dX9_named_49 ?_
          refine S_iald 50 dX9_named_50 ?_
          refine S_aload_0 51 dX9_named_51 ?_
          refine S_getI 52 fsX9_114 rfl dX9_named_52 ?_
          refine S_iload_5 55 dX9_named_55 ?_
          refine S_iadd 57 dX9_named_57 ?_
          refine S_aload_0 58 dX9_named_58 ?_
          refine S_getI 59 fsX9_107 rfl dX9_named_59 ?_
          refine S_join (fun jj => ∀ (v7 : Int32) (h8 : XH), XS E mX9_named eI 0 0 80 [some (.ref t), some (.int p1), some (.int p2), some (.int s2), none, some (.int s25.2)] [.int v7, .int (xi h4 w6 (((10 * (p1 + s2)) + s25.2) : Int32).toNatClampNeg)] h8 (jj v7 h8)) (fun v7 h8 => ?_) (fun j80 hj80 => ?_)
          · skip
            refine S_join (fun jj => ∀ (v9 : Int32) (h10 : XH), XS E mX9_named eI 0 0 88 [some (.ref t), some (.int p1), some (.int p2), some (.int s2), none, some (.int s25.2)] [.int v9] h10 (jj v9 h10)) (fun v9 h10 => ?_) (fun j88 hj88 => ?_)
            · skip
              refine S_istore_4 88 dX9_named_88 rfl ?_
              refine S_iinc_5 90 (s25.2 + 1) dX9_named_90 (by rfl) rfl ?_
              refine S_goto 93 25 dX9_named_93 (by decide) ?_
              exact S_drop [] rfl (hg25 _ _)
            refine S_icmpne 80 87 dX9_named_80 (by decide) ?_ ?_
            · skip
              refine S_ic 87 0 dX9_named_87 (by decide) ?_
              exact S_drop [] rfl (hj88 _ _)
            · skip
              refine S_ic 83 1 dX9_named_83 (by decide) ?_
              refine S_goto 84 88 dX9_named_84 (by decide) ?_
              exact S_drop [] rfl (hj88 _ _)
          refine S_icmpge 62 79 dX9_named_62 (by decide) ?_ ?_
          · skip
            refine S_ic 79 0 dX9_named_79 (by decide) ?_
            exact S_drop [4] rfl (hj80 _ _)
          · skip
            refine S_aload_0 65 dX9_named_65 ?_
            refine S_aload_0 66 dX9_named_66 ?_
            refine S_getI 67 fsX9_114 rfl dX9_named_67 ?_
            refine S_iload_5 70 dX9_named_70 ?_
            refine S_iadd 72 dX9_named_72 ?_
            refine S_callV (a' := 0) (b' := 0) (a := 0) (b := 0) 73 (As := [.int ((xi h4 t 22) + s25.2)]) (ci := 9) rfl calX9_seen imX9_seen seX9_seen mkX9_110 rfl rfl rfl rfl rfl (by decide) rfl rfl dX9_named_73 (CX9_seen E t ((xi h4 t 22) + s25.2) h4) (fun v11 h12 => kqI ?_)
            refine S_goto 76 80 dX9_named_76 (by decide) ?_
            exact S_drop [4] rfl (hj80 _ _)
    refine S_icmpne 12 19 dX9_named_12 (by decide) ?_ ?_
    · skip
      refine S_ic 19 0 dX9_named_19 (by decide) ?_
      exact S_drop [] rfl (hj20 _ _)
    · skip
      refine S_ic 15 1 dX9_named_15 (by decide) ?_
      refine S_goto 16 20 dX9_named_16 (by decide) ?_
      exact S_drop [] rfl (hj20 _ _)
def FX9_newName (E : XG) (t : Nat) (p1 : Int32) (p2 : Int32) (h : XH) : XP Unit := xg (xk h t = 10) <| xjn (fun (v1 : Int32) (h2 : XH) => xg (xk h2 t = 10) <| xb (FX9_failsIf E t v1 1 h2) fun _ h3 => xg (xk h3 t = 10) <| xb (FX9_named E t p1 p2 h3) fun v4 h5 => xjn (fun (v6 : Int32) (h7 : XH) => xg (xk h7 t = 10) <| xb (FX9_failsIf E t v6 3 h7) fun _ h8 => xlp (fun again40 (s40 : Int32) h9 => xjn (fun  (h10 : XH) => xg (xk h10 t = 10) <| xb (FX9_goesOn E t  h10) fun _ h11 => xv () h11) fun (j99 : XH → XP Unit) => if (10 : Int32) ≤ s40 then (j99 h9) else (xg (xk h9 t = 10) <| if ((xi h9 t 25) : Int32) = 0 then (xg (xk h9 t = 10) <| xnn (xr h9 t 34) fun w12 => xg (xk h9 t = 10) <| xg (xk h9 t = 10) <| xjn (fun (v13 : Int32) (h14 : XH) => xg (xk h14 w12 = 12 ∧ xin ((10 * (p1 + p2)) + s40) (xn h14 w12)) <| xlt (yi h14 w12 (((10 * (p1 + p2)) + s40) : Int32).toNatClampNeg v13) fun h15 => again40 (s40 + 1) h15) fun (j92 : Int32 → XH → XP Unit) => if ((xi h9 t 21) : Int32) ≤ ((xi h9 t 22) + s40) then (j92 0 h9) else (xg (xk h9 t = 10) <| xg (xk h9 t = 10) <| xb (FX9_seen E t ((xi h9 t 22) + s40) h9) fun v16 h17 => j92 v16 h17)) else (j99 h9))) xfu 0 h8) fun (j34 : Int32 → XH → XP Unit) => if (v4 : Int32) = (-1) then (j34 0 h5) else (j34 1 h5)) fun (j14 : Int32 → XH → XP Unit) => if ((xi h t 23) : Int32) = 1 then (j14 0 h) else (j14 1 h)
theorem CX9_newName (E : XG) (t : Nat) (p1 : Int32) (p2 : Int32) (h : XH) : XN E mX9_newName eU 0 0 [.ref t, .int p1, .int p2] h (FX9_newName E t p1 p2 h) := by
  unfold FX9_newName
  refine S_enter (L := [some (.ref t), some (.int p1), some (.int p2), none]) (by decide +kernel) rfl rfl rfl ?_
  refine S_aload_0 0 dX9_newName_0 ?_
  refine S_aload_0 1 dX9_newName_1 ?_
  refine S_getI 2 fsX9_117 rfl dX9_newName_2 ?_
  refine S_ic 5 1 dX9_newName_5 (by decide) ?_
  refine S_join (fun jj => ∀ (v1 : Int32) (h2 : XH), XS E mX9_newName eU 0 0 14 [some (.ref t), some (.int p1), some (.int p2), none] [.int v1, .ref t] h2 (jj v1 h2)) (fun v1 h2 => ?_) (fun j14 hj14 => ?_)
  · skip
    refine S_ic 14 1 dX9_newName_14 (by decide) ?_
    refine S_callV (a' := 0) (b' := 0) (a := 0) (b := 0) 15 (As := [.int v1, .int 1]) (ci := 9) rfl calX9_failsIf imX9_failsIf seX9_failsIf mkX9_159 rfl rfl rfl rfl rfl (by decide) rfl rfl dX9_newName_15 (CX9_failsIf E t v1 1 h2) (fun _ h3 => kqU ?_)
    refine S_aload_0 18 dX9_newName_18 ?_
    refine S_aload_0 19 dX9_newName_19 ?_
    refine S_iload_1 20 dX9_newName_20 ?_
    refine S_iload_2 21 dX9_newName_21 ?_
    refine S_callV (a' := 0) (b' := 0) (a := 0) (b := 0) 22 (As := [.int p1, .int p2]) (ci := 9) rfl calX9_named imX9_named seX9_named mkX9_163 rfl rfl rfl rfl rfl (by decide) rfl rfl dX9_newName_22 (CX9_named E t p1 p2 h3) (fun v4 h5 => kqI ?_)
    refine S_ic 25 (-1) dX9_newName_25 (by decide) ?_
    refine S_join (fun jj => ∀ (v6 : Int32) (h7 : XH), XS E mX9_newName eU 0 0 34 [some (.ref t), some (.int p1), some (.int p2), none] [.int v6, .ref t] h7 (jj v6 h7)) (fun v6 h7 => ?_) (fun j34 hj34 => ?_)
    · skip
      refine S_ic 34 3 dX9_newName_34 (by decide) ?_
      refine S_callV (a' := 0) (b' := 0) (a := 0) (b := 0) 35 (As := [.int v6, .int 3]) (ci := 9) rfl calX9_failsIf imX9_failsIf seX9_failsIf mkX9_159 rfl rfl rfl rfl rfl (by decide) rfl rfl dX9_newName_35 (CX9_failsIf E t v6 3 h7) (fun _ h8 => kqU ?_)
      refine S_ic 38 0 dX9_newName_38 (by decide) ?_
      refine S_istore_3 39 dX9_newName_39 rfl ?_
      refine S_loop (fun (s40 : Int32) => [some (.ref t), some (.int p1), some (.int p2), some (.int s40)]) (fun again40 hg40 s40 h9 => ?_) xfu _ _
      refine S_iload_3 40 dX9_newName_40 ?_
      refine S_bip 41 10 dX9_newName_41 (by decide) ?_
      refine S_join (fun jj => ∀  (h10 : XH), XS E mX9_newName eU 0 0 99 [some (.ref t), none, none, none] [] h10 (jj  h10)) (fun  h10 => ?_) (fun j99 hj99 => ?_)
      · skip
        refine S_aload_0 99 dX9_newName_99 ?_
        refine S_callV (a' := 0) (b' := 0) (a := 0) (b := 0) 100 (As := []) (ci := 9) rfl calX9_goesOn imX9_goesOn seX9_goesOn mkX9_156 rfl rfl rfl rfl rfl (by decide) rfl rfl dX9_newName_100 (CX9_goesOn E t  h10) (fun _ h11 => kqU ?_)
        exact S_ret 103 dX9_newName_103 rfl
      refine S_icmpge 43 99 dX9_newName_43 (by decide) ?_ ?_
      · skip
        exact S_drop [1, 2, 3] rfl (hj99 _)
      · skip
        refine S_aload_0 46 dX9_newName_46 ?_
        refine S_getI 47 fsX9_130 rfl dX9_newName_47 ?_
        refine S_ifne 50 99 dX9_newName_50 (by decide) ?_ ?_
        · skip
          exact S_drop [1, 2, 3] rfl (hj99 _)
        · skip
          refine S_aload_0 53 dX9_newName_53 ?_
          refine S_getR 54 fsX9_69 rfl dX9_newName_54 (fun w12 => ?_)
          refine S_bip 57 10 dX9_newName_57 (by decide) ?_
          refine S_iload_1 59 dX9_newName_59 ?_
          refine S_iload_2 60 dX9_newName_60 ?_
          refine S_iadd 61 dX9_newName_61 ?_
          refine S_imul 62 dX9_newName_62 ?_
          refine S_iload_3 63 dX9_newName_63 ?_
          refine S_iadd 64 dX9_newName_64 ?_
          refine S_aload_0 65 dX9_newName_65 ?_
          refine S_getI 66 fsX9_114 rfl dX9_newName_66 ?_
          refine S_iload_3 69 dX9_newName_69 ?_
          refine S_iadd 70 dX9_newName_70 ?_
          refine S_aload_0 71 dX9_newName_71 ?_
          refine S_getI 72 fsX9_107 rfl dX9_newName_72 ?_
          refine S_join (fun jj => ∀ (v13 : Int32) (h14 : XH), XS E mX9_newName eU 0 0 92 [some (.ref t), some (.int p1), some (.int p2), some (.int s40)] [.int v13, .int ((10 * (p1 + p2)) + s40), .ref w12] h14 (jj v13 h14)) (fun v13 h14 => ?_) (fun j92 hj92 => ?_)
          · skip
            refine S_iast 92 dX9_newName_92 (fun h15 => ?_)
            refine S_iinc_3 93 (s40 + 1) dX9_newName_93 (by rfl) rfl ?_
            refine S_goto 96 40 dX9_newName_96 (by decide) ?_
            exact S_drop [] rfl (hg40 _ _)
          refine S_icmpge 75 91 dX9_newName_75 (by decide) ?_ ?_
          · skip
            refine S_ic 91 0 dX9_newName_91 (by decide) ?_
            exact S_drop [] rfl (hj92 _ _)
          · skip
            refine S_aload_0 78 dX9_newName_78 ?_
            refine S_aload_0 79 dX9_newName_79 ?_
            refine S_getI 80 fsX9_114 rfl dX9_newName_80 ?_
            refine S_iload_3 83 dX9_newName_83 ?_
            refine S_iadd 84 dX9_newName_84 ?_
            refine S_callV (a' := 0) (b' := 0) (a := 0) (b := 0) 85 (As := [.int ((xi h9 t 22) + s40)]) (ci := 9) rfl calX9_seen imX9_seen seX9_seen mkX9_110 rfl rfl rfl rfl rfl (by decide) rfl rfl dX9_newName_85 (CX9_seen E t ((xi h9 t 22) + s40) h9) (fun v16 h17 => kqI ?_)
            refine S_goto 88 92 dX9_newName_88 (by decide) ?_
            exact S_drop [] rfl (hj92 _ _)
    refine S_icmpeq 26 33 dX9_newName_26 (by decide) ?_ ?_
    · skip
      refine S_ic 33 0 dX9_newName_33 (by decide) ?_
      exact S_drop [] rfl (hj34 _ _)
    · skip
      refine S_ic 29 1 dX9_newName_29 (by decide) ?_
      refine S_goto 30 34 dX9_newName_30 (by decide) ?_
      exact S_drop [] rfl (hj34 _ _)
  refine S_icmpeq 6 13 dX9_newName_6 (by decide) ?_ ?_
  · skip
    refine S_ic 13 0 dX9_newName_13 (by decide) ?_
    exact S_drop [] rfl (hj14 _ _)
  · skip
    refine S_ic 9 1 dX9_newName_9 (by decide) ?_
    refine S_goto 10 14 dX9_newName_10 (by decide) ?_
    exact S_drop [] rfl (hj14 _ _)
