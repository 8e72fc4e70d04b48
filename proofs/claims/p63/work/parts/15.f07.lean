/-! Methods as functions, 7. -/
set_option linter.unusedVariables false
set_option maxRecDepth 10000
def FX8_append (E : XG) (t : Nat) (p1 : Int32) (p2 : Int32) (p3 : Int32) (p4 : Int32) (p5 : Int32) (h : XH) : XP Int32 := xg (xk h t = 9) <| if (((xi h t 1) + 20) : Int32) ≤ 900 then (xg (xk h t = 9) <| xb (FX8_appendWord E t p1 h) fun _ h1 => xg (xk h1 t = 9) <| xb (FX8_appendWord E t p2 h1) fun _ h2 => xg (xk h2 t = 9) <| xb (FX8_appendWord E t p3 h2) fun _ h3 => xg (xk h3 t = 9) <| xb (FX8_appendWord E t p4 h3) fun _ h4 => xg (xk h4 t = 9) <| xb (FX8_appendWord E t p5 h4) fun _ h5 => xg (xk h5 t = 9) <| xv (xi h5 t 1) h5) else (xv (-1) h)
theorem CX8_append (E : XG) (t : Nat) (p1 : Int32) (p2 : Int32) (p3 : Int32) (p4 : Int32) (p5 : Int32) (h : XH) : XN E mX8_append eI 0 0 [.ref t, .int p1, .int p2, .int p3, .int p4, .int p5] h (FX8_append E t p1 p2 p3 p4 p5 h) := by
  unfold FX8_append
  refine S_enter (L := [some (.ref t), some (.int p1), some (.int p2), some (.int p3), some (.int p4), some (.int p5)]) (by decide +kernel) rfl rfl rfl ?_
  refine S_aload_0 0 dX8_append_0 ?_
  refine S_getI 1 fsX8_38 rfl dX8_append_1 ?_
  refine S_bip 4 20 dX8_append_4 (by decide) ?_
  refine S_iadd 6 dX8_append_6 ?_
  refine S_sip 7 900 dX8_append_7 (by decide) ?_
  refine S_icmple 10 15 dX8_append_10 (by decide) ?_ ?_
  · skip
    refine S_aload_0 15 dX8_append_15 ?_
    refine S_iload_1 16 dX8_append_16 ?_
    refine S_callV (a' := 0) (b' := 0) (a := 0) (b := 0) 17 (As := [.int p1]) (ci := 8) rfl calX8_appendWord imX8_appendWord seX8_appendWord mkX8_41 rfl rfl rfl rfl rfl (by decide) rfl rfl dX8_append_17 (CX8_appendWord E t p1 h) (fun _ h1 => kqU ?_)
    refine S_aload_0 20 dX8_append_20 ?_
    refine S_iload_2 21 dX8_append_21 ?_
    refine S_callV (a' := 0) (b' := 0) (a := 0) (b := 0) 22 (As := [.int p2]) (ci := 8) rfl calX8_appendWord imX8_appendWord seX8_appendWord mkX8_41 rfl rfl rfl rfl rfl (by decide) rfl rfl dX8_append_22 (CX8_appendWord E t p2 h1) (fun _ h2 => kqU ?_)
    refine S_aload_0 25 dX8_append_25 ?_
    refine S_iload_3 26 dX8_append_26 ?_
    refine S_callV (a' := 0) (b' := 0) (a := 0) (b := 0) 27 (As := [.int p3]) (ci := 8) rfl calX8_appendWord imX8_appendWord seX8_appendWord mkX8_41 rfl rfl rfl rfl rfl (by decide) rfl rfl dX8_append_27 (CX8_appendWord E t p3 h2) (fun _ h3 => kqU ?_)
    refine S_aload_0 30 dX8_append_30 ?_
    refine S_iload_4 31 dX8_append_31 ?_
    refine S_callV (a' := 0) (b' := 0) (a := 0) (b := 0) 33 (As := [.int p4]) (ci := 8) rfl calX8_appendWord imX8_appendWord seX8_appendWord mkX8_41 rfl rfl rfl rfl rfl (by decide) rfl rfl dX8_append_33 (CX8_appendWord E t p4 h3) (fun _ h4 => kqU ?_)
    refine S_aload_0 36 dX8_append_36 ?_
    refine S_iload_5 37 dX8_append_37 ?_
    refine S_callV (a' := 0) (b' := 0) (a := 0) (b := 0) 39 (As := [.int p5]) (ci := 8) rfl calX8_appendWord imX8_appendWord seX8_appendWord mkX8_41 rfl rfl rfl rfl rfl (by decide) rfl rfl dX8_append_39 (CX8_appendWord E t p5 h4) (fun _ h5 => kqU ?_)
    refine S_aload_0 42 dX8_append_42 ?_
    refine S_getI 43 fsX8_38 rfl dX8_append_43 ?_
    exact S_iret 46 dX8_append_46 rfl
  · skip
    refine S_ic 13 (-1) dX8_append_13 (by decide) ?_
    exact S_iret 14 dX8_append_14 rfl
def FX8_demandThere (E : XG) (p1 : Int32) (h : XH) : XP Unit := if (p1 : Int32) = 0 then (xx 1 h) else (xv () h)
theorem CX8_demandThere (E : XG) (p1 : Int32) (h : XH) : XN E mX8_demandThere eU 0 0 [.int p1] h (FX8_demandThere E p1 h) := by
  unfold FX8_demandThere
  refine S_enter (L := [some (.int p1)]) (by decide +kernel) rfl rfl rfl ?_
  refine S_iload_0 0 dX8_demandThere_0 ?_
  refine S_ifne 1 15 dX8_demandThere_1 (by decide) ?_ ?_
  · skip
    exact S_ret 15 dX8_demandThere_15 rfl
  · skip
    exact S_throw 4 0 1 th1_369 rfl (by decide) rfl rfl rfl (by decide) rfl (by decide +kernel) (by decide +kernel) dX8_demandThere_4 dX8_demandThere_7 dX8_demandThere_8 dX8_demandThere_11 dX8_demandThere_14
def FX8_demandFit (E : XG) (p1 : Int32) (h : XH) : XP Unit := if (p1 : Int32) = 0 then (xx 2 h) else (xv () h)
theorem CX8_demandFit (E : XG) (p1 : Int32) (h : XH) : XN E mX8_demandFit eU 0 0 [.int p1] h (FX8_demandFit E p1 h) := by
  unfold FX8_demandFit
  refine S_enter (L := [some (.int p1)]) (by decide +kernel) rfl rfl rfl ?_
  refine S_iload_0 0 dX8_demandFit_0 ?_
  refine S_ifne 1 15 dX8_demandFit_1 (by decide) ?_ ?_
  · skip
    exact S_ret 15 dX8_demandFit_15 rfl
  · skip
    exact S_throw 4 10 2 th2_374 rfl (by decide) rfl rfl rfl (by decide) rfl (by decide +kernel) (by decide +kernel) dX8_demandFit_4 dX8_demandFit_7 dX8_demandFit_8 dX8_demandFit_11 dX8_demandFit_14
def FX8_forgetChanges (E : XG) (t : Nat) (h : XH) : XP Unit := xg (xk h t = 9) <| xlt (yi h t 8 0) fun h1 => xg (xk h1 t = 9) <| xlt (yi h1 t 9 0) fun h2 => xv () h2
theorem CX8_forgetChanges (E : XG) (t : Nat) (h : XH) : XN E mX8_forgetChanges eU 0 0 [.ref t] h (FX8_forgetChanges E t h) := by
  unfold FX8_forgetChanges
  refine S_enter (L := [some (.ref t)]) (by decide +kernel) rfl rfl rfl ?_
  refine S_aload_0 0 dX8_forgetChanges_0 ?_
  refine S_ic 1 0 dX8_forgetChanges_1 (by decide) ?_
  refine S_putI 2 frX8_391 rfl (fun q => by cases q) dX8_forgetChanges_2 (fun h1 => ?_)
  refine S_aload_0 5 dX8_forgetChanges_5 ?_
  refine S_ic 6 0 dX8_forgetChanges_6 (by decide) ?_
  refine S_putI 7 frX8_334 rfl (fun q => by cases q) dX8_forgetChanges_7 (fun h2 => ?_)
  exact S_ret 10 dX8_forgetChanges_10 rfl
def FX8_load (E : XG) (t : Nat) (p1 : Int32) (h : XH) : XP Int32 := xjn (fun (v1 : Int32) (h2 : XH) => xb (FX8_demandThere E v1 h2) fun _ h3 => xg (xk h3 t = 9) <| xnn (xr h3 t 6) fun w4 => xg (xk h3 w4 = 8) <| xb (FX7_clear E w4  h3) fun _ h5 => xg (xk h5 t ≠ 0) <| xal h5 6 0 fun w6 h7 => xg (xk h7 t ≠ 0) <| xal h7 7 0 fun w8 h9 => xg (xk h9 t = 9) <| xnn (xr h9 t 0) fun w10 => xb (FX6_init E w8 w10 p1 h9) fun _ h11 => xg (xk h11 t = 9) <| xnn (xr h11 t 6) fun w12 => xb (FX5_init E w6 w8 w12 h11) fun _ h13 => xg (xk h13 w6 = 6) <| xb (FX5_readText E w6  h13) fun v14 h15 => xg (xk h15 t = 9) <| xlt (yi h15 t 1 0) fun h16 => xg (xk h16 w6 = 6) <| xg (xk h16 t = 9) <| xlt (yi h16 t 2 (xi h16 w6 2)) fun h17 => xg (xk h17 w6 = 6) <| xg (xk h17 t = 9) <| xlt (yi h17 t 3 (xi h17 w6 3)) fun h18 => xb (FX8_demandFit E v14 h18) fun _ h19 => xg (xk h19 t = 9) <| xnn (xr h19 t 5) fun w20 => xg (xk h19 t = 9) <| xnn (xr h19 t 6) fun w21 => xg (xk h19 t = 9) <| xlt (yr h19 t 5 (some w21)) fun h22 => xg (xk h22 t = 9) <| xlt (yr h22 t 6 (some w20)) fun h23 => xg (xk h23 t = 9) <| xnn (xr h23 t 5) fun w24 => xg (xk h23 w24 = 8) <| xb (FX7_settle E w24  h23) fun _ h25 => xg (xk h25 t = 9 ∧ ((1 : Int32) = 0 ∨ (1 : Int32) = 1)) <| xlt (yi h25 t 4 1) fun h26 => xg (xk h26 t = 9) <| xb (FX8_forgetChanges E t  h26) fun _ h27 => xg (xk h27 t = 9) <| xlt (yi h27 t 11 0) fun h28 => xg (xk h28 t = 9) <| xnn (xr h28 t 5) fun w29 => xg (xk h28 w29 = 8) <| xnn (xr h28 w29 1) fun w30 => xg (xk h28 w30 = 4) <| xv (xi h28 w30 2) h28) fun (j17 : Int32 → XH → XP Int32) => xjn (fun  (h31 : XH) => j17 0 h31) fun (j16 : XH → XP Int32) => if (p1 : Int32) < 0 then (j16 h) else (xg (xk h t = 9) <| if ((xi h t 1) : Int32) < p1 then (j16 h) else (j17 1 h))
theorem CX8_load (E : XG) (t : Nat) (p1 : Int32) (h : XH) : XN E mX8_load eI 2 11 [.ref t, .int p1] h (FX8_load E t p1 h) := by
  unfold FX8_load
  refine S_enter (L := [some (.ref t), some (.int p1), none, none, none]) (by decide +kernel) rfl rfl rfl ?_
  refine S_iload_1 0 dX8_load_0 ?_
  refine S_join (fun jj => ∀ (v1 : Int32) (h2 : XH), XS E mX8_load eI 2 11 17 [some (.ref t), some (.int p1), none, none, none] [.int v1] h2 (jj v1 h2)) (fun v1 h2 => ?_) (fun j17 hj17 => ?_)
  · skip
    refine S_callS (a' := 0) (b' := 0) (a := 2) (b := 11) 17 (As := [.int v1]) rfl calX8_demandThere stX8_demandThere mkX8_45 rfl rfl rfl rfl rfl dX8_load_17 (CX8_demandThere E v1 h2) (fun _ h3 => kqU ?_)
    refine S_aload_0 20 dX8_load_20 ?_
    refine S_getR 21 fsX8_24 rfl dX8_load_21 (fun w4 => ?_)
    refine S_callV (a' := 0) (b' := 0) (a := 2) (b := 11) 24 (As := []) (ci := 7) rfl calX7_clear imX7_clear seX7_clear mkX8_49 rfl rfl rfl rfl rfl (by decide) rfl rfl dX8_load_24 (CX7_clear E w4  h3) (fun _ h5 => kqU ?_)
    refine S_new (a := 1) (b := 7) 27 t (ci := 5) (N := 4) xok5 rfl nwX8_52 inst5 ini5 dv5 dX8_load_27 (fun w6 h7 => ?_)
    refine S_dup 30 dX8_load_30 rfl ?_
    refine S_new (a := 0) (b := 0) 31 t (ci := 6) (N := 7) xok6 rfl nwX8_54 inst6 ini6 dv6 dX8_load_31 (fun w8 h9 => ?_)
    refine S_dup 34 dX8_load_34 rfl ?_
    refine S_aload_0 35 dX8_load_35 ?_
    refine S_getR 36 fsX8_9 rfl dX8_load_36 (fun w10 => ?_)
    refine S_iload_1 39 dX8_load_39 ?_
    refine S_callI (a' := 0) (b' := 0) (a := 0) (b := 0) 40 (As := [.ref w10, .int p1]) rfl calX6_init rfl rfl imX6_init mkX8_56 rfl rfl rfl rfl rfl dX8_load_40 (CX6_init E w8 w10 p1 h9) (fun _ h11 => kqU ?_)
    refine S_aload_0 43 dX8_load_43 ?_
    refine S_getR 44 fsX8_24 rfl dX8_load_44 (fun w12 => ?_)
    refine S_callI (a' := 0) (b' := 0) (a := 0) (b := 0) 47 (As := [.ref w8, .ref w12]) rfl calX5_init rfl rfl imX5_init mkX8_59 rfl rfl rfl rfl rfl dX8_load_47 (CX5_init E w6 w8 w12 h11) (fun _ h13 => kqU ?_)
    refine S_astore_2 50 dX8_load_50 rfl ?_
    refine S_aload_2 51 dX8_load_51 ?_
    refine S_callV (a' := 0) (b' := 0) (a := 0) (b := 0) 52 (As := []) (ci := 5) rfl calX5_readText imX5_readText seX5_readText mkX8_62 rfl rfl rfl rfl rfl (by decide) rfl rfl dX8_load_52 (CX5_readText E w6  h13) (fun v14 h15 => kqI ?_)
    refine S_istore_3 55 dX8_load_55 rfl ?_
    refine S_aload_0 56 dX8_load_56 ?_
    refine S_ic 57 0 dX8_load_57 (by decide) ?_
    refine S_putI 58 frX8_38 rfl (fun q => by cases q) dX8_load_58 (fun h16 => ?_)
    refine S_aload_0 61 dX8_load_61 ?_
    refine S_aload_2 62 dX8_load_62 ?_
    refine S_getI 63 fsX8_66 rfl dX8_load_63 ?_
    refine S_putI 66 frX8_69 rfl (fun q => by cases q) dX8_load_66 (fun h17 => ?_)
    refine S_aload_0 69 dX8_load_69 ?_
    refine S_aload_2 70 dX8_load_70 ?_
    refine S_getI 71 fsX8_72 rfl dX8_load_71 ?_
    refine S_putI 74 frX8_13 rfl (fun q => by cases q) dX8_load_74 (fun h18 => ?_)
    refine S_iload_3 77 dX8_load_77 ?_
    refine S_callS (a' := 0) (b' := 0) (a := 0) (b := 0) 78 (As := [.int v14]) rfl calX8_demandFit stX8_demandFit mkX8_75 rfl rfl rfl rfl rfl dX8_load_78 (CX8_demandFit E v14 h18) (fun _ h19 => kqU ?_)
    refine S_aload_0 81 dX8_load_81 ?_
    refine S_getR 82 fsX8_20 rfl dX8_load_82 (fun w20 => ?_)
    refine S_astore_4 85 dX8_load_85 rfl ?_
    refine S_aload_0 87 dX8_load_87 ?_
    refine S_aload_0 88 dX8_load_88 ?_
    refine S_getR 89 fsX8_24 rfl dX8_load_89 (fun w21 => ?_)
    refine S_putR 92 frX8_20 rfl rfl (fun q => by cases q) dX8_load_92 (fun h22 => ?_)
    refine S_aload_0 95 dX8_load_95 ?_
    refine S_aload_4 96 dX8_load_96 ?_
    refine S_putR 98 frX8_24 rfl rfl (fun q => by cases q) dX8_load_98 (fun h23 => ?_)
    refine S_aload_0 101 dX8_load_101 ?_
    refine S_getR 102 fsX8_20 rfl dX8_load_102 (fun w24 => ?_)
    refine S_callV (a' := 0) (b' := 0) (a := 0) (b := 0) 105 (As := []) (ci := 7) rfl calX7_settle imX7_settle seX7_settle mkX8_78 rfl rfl rfl rfl rfl (by decide) rfl rfl dX8_load_105 (CX7_settle E w24  h23) (fun _ h25 => kqU ?_)
    refine S_aload_0 108 dX8_load_108 ?_
    refine S_ic 109 1 dX8_load_109 (by decide) ?_
    refine S_putZ 110 frX8_81 rfl (fun q => by cases q) dX8_load_110 (fun h26 => ?_)
    refine S_aload_0 113 dX8_load_113 ?_
    refine S_callV (a' := 0) (b' := 0) (a := 0) (b := 0) 114 (As := []) (ci := 8) rfl calX8_forgetChanges imX8_forgetChanges seX8_forgetChanges mkX8_85 rfl rfl rfl rfl rfl (by decide) rfl rfl dX8_load_114 (CX8_forgetChanges E t  h26) (fun _ h27 => kqU ?_)
    refine S_aload_0 117 dX8_load_117 ?_
    refine S_ic 118 0 dX8_load_118 (by decide) ?_
    refine S_putI 119 frX8_88 rfl (fun q => by cases q) dX8_load_119 (fun h28 => ?_)
    refine S_aload_0 122 dX8_load_122 ?_
    refine S_getR 123 fsX8_20 rfl dX8_load_123 (fun w29 => ?_)
    refine S_getR 126 fsX8_91 rfl dX8_load_126 (fun w30 => ?_)
    refine S_getI 129 fsX8_95 rfl dX8_load_129 ?_
    exact S_iret 132 dX8_load_132 rfl
  refine S_join (fun jj => ∀  (h31 : XH), XS E mX8_load eI 2 11 16 [some (.ref t), some (.int p1), none, none, none] [] h31 (jj  h31)) (fun  h31 => ?_) (fun j16 hj16 => ?_)
  · skip
    refine S_ic 16 0 dX8_load_16 (by decide) ?_
    exact S_drop [] rfl (hj17 _ _)
  refine S_iflt 1 16 dX8_load_1 (by decide) ?_ ?_
  · skip
    exact S_drop [] rfl (hj16 _)
  · skip
    refine S_iload_1 4 dX8_load_4 ?_
    refine S_aload_0 5 dX8_load_5 ?_
    refine S_getI 6 fsX8_38 rfl dX8_load_6 ?_
    refine S_icmpgt 9 16 dX8_load_9 (by decide) ?_ ?_
    · skip
      exact S_drop [] rfl (hj16 _)
    · skip
      refine S_ic 12 1 dX8_load_12 (by decide) ?_
      refine S_goto 13 17 dX8_load_13 (by decide) ?_
      exact S_drop [] rfl (hj17 _ _)
def FX8_parseError (E : XG) (t : Nat) (h : XH) : XP Int32 := xg (xk h t = 9) <| xv (xi h t 2) h
theorem CX8_parseError (E : XG) (t : Nat) (h : XH) : XN E mX8_parseError eI 0 0 [.ref t] h (FX8_parseError E t h) := by
  unfold FX8_parseError
  refine S_enter (L := [some (.ref t)]) (by decide +kernel) rfl rfl rfl ?_
  refine S_aload_0 0 dX8_parseError_0 ?_
  refine S_getI 1 fsX8_69 rfl dX8_parseError_1 ?_
  exact S_iret 4 dX8_parseError_4 rfl
def FX8_errorPosition (E : XG) (t : Nat) (h : XH) : XP Int32 := xg (xk h t = 9) <| xv (xi h t 3) h
theorem CX8_errorPosition (E : XG) (t : Nat) (h : XH) : XN E mX8_errorPosition eI 0 0 [.ref t] h (FX8_errorPosition E t h) := by
  unfold FX8_errorPosition
  refine S_enter (L := [some (.ref t)]) (by decide +kernel) rfl rfl rfl ?_
  refine S_aload_0 0 dX8_errorPosition_0 ?_
  refine S_getI 1 fsX8_13 rfl dX8_errorPosition_1 ?_
  exact S_iret 4 dX8_errorPosition_4 rfl
def FX8_demandText (E : XG) (t : Nat) (h : XH) : XP Unit := xg (xk h t = 9) <| if ((xi h t 4) : Int32) = 0 then (xx 0 h) else (xv () h)
theorem CX8_demandText (E : XG) (t : Nat) (h : XH) : XN E mX8_demandText eU 0 0 [.ref t] h (FX8_demandText E t h) := by
  unfold FX8_demandText
  refine S_enter (L := [some (.ref t)]) (by decide +kernel) rfl rfl rfl ?_
  refine S_aload_0 0 dX8_demandText_0 ?_
  refine S_getI 1 fsX8_81 rfl dX8_demandText_1 ?_
  refine S_ifne 4 18 dX8_demandText_4 (by decide) ?_ ?_
  · skip
    exact S_ret 18 dX8_demandText_18 rfl
  · skip
    exact S_throw 7 11 0 th0_365 rfl (by decide) rfl rfl rfl (by decide) rfl (by decide +kernel) (by decide +kernel) dX8_demandText_7 dX8_demandText_10 dX8_demandText_11 dX8_demandText_14 dX8_demandText_17
def FX8_count (E : XG) (t : Nat) (p1 : Int32) (h : XH) : XP Int32 := xg (xk h t = 9) <| xb (FX8_demandText E t  h) fun _ h1 => xjn (fun (v2 : Int32) (h3 : XH) => xb (FX8_demandFit E v2 h3) fun _ h4 => xg (xk h4 t = 9) <| xnn (xr h4 t 5) fun w5 => xg (xk h4 w5 = 8) <| xb (FX7_namesOf E w5 p1 h4) fun v6 h7 => xg (xk h7 v6 = 4) <| xv (xi h7 v6 2) h7) fun (j18 : Int32 → XH → XP Int32) => xjn (fun  (h8 : XH) => j18 0 h8) fun (j17 : XH → XP Int32) => if (p1 : Int32) < 0 then (j17 h1) else (if (3 : Int32) ≤ p1 then (j17 h1) else (j18 1 h1))
theorem CX8_count (E : XG) (t : Nat) (p1 : Int32) (h : XH) : XN E mX8_count eI 0 0 [.ref t, .int p1] h (FX8_count E t p1 h) := by
  unfold FX8_count
  refine S_enter (L := [some (.ref t), some (.int p1)]) (by decide +kernel) rfl rfl rfl ?_
  refine S_aload_0 0 dX8_count_0 ?_
  refine S_callV (a' := 0) (b' := 0) (a := 0) (b := 0) 1 (As := []) (ci := 8) rfl calX8_demandText imX8_demandText seX8_demandText mkX8_100 rfl rfl rfl rfl rfl (by decide) rfl rfl dX8_count_1 (CX8_demandText E t  h) (fun _ h1 => kqU ?_)
  refine S_iload_1 4 dX8_count_4 ?_
  refine S_join (fun jj => ∀ (v2 : Int32) (h3 : XH), XS E mX8_count eI 0 0 18 [some (.ref t), some (.int p1)] [.int v2] h3 (jj v2 h3)) (fun v2 h3 => ?_) (fun j18 hj18 => ?_)
  · skip
    refine S_callS (a' := 0) (b' := 0) (a := 0) (b := 0) 18 (As := [.int v2]) rfl calX8_demandFit stX8_demandFit mkX8_75 rfl rfl rfl rfl rfl dX8_count_18 (CX8_demandFit E v2 h3) (fun _ h4 => kqU ?_)
    refine S_aload_0 21 dX8_count_21 ?_
    refine S_getR 22 fsX8_20 rfl dX8_count_22 (fun w5 => ?_)
    refine S_iload_1 25 dX8_count_25 ?_
    refine S_callV (a' := 0) (b' := 0) (a := 0) (b := 0) 26 (As := [.int p1]) (ci := 7) rfl calX7_namesOf imX7_namesOf seX7_namesOf mkX8_103 rfl rfl rfl rfl rfl (by decide) rfl rfl dX8_count_26 (CX7_namesOf E w5 p1 h4) (fun v6 h7 => kqR ?_)
    refine S_getI 29 fsX8_95 rfl dX8_count_29 ?_
    exact S_iret 32 dX8_count_32 rfl
  refine S_join (fun jj => ∀  (h8 : XH), XS E mX8_count eI 0 0 17 [some (.ref t), some (.int p1)] [] h8 (jj  h8)) (fun  h8 => ?_) (fun j17 hj17 => ?_)
  · skip
    refine S_ic 17 0 dX8_count_17 (by decide) ?_
    exact S_drop [] rfl (hj18 _ _)
  refine S_iflt 5 17 dX8_count_5 (by decide) ?_ ?_
  · skip
    exact S_drop [] rfl (hj17 _)
  · skip
    refine S_iload_1 8 dX8_count_8 ?_
    refine S_ic 9 3 dX8_count_9 (by decide) ?_
    refine S_icmpge 10 17 dX8_count_10 (by decide) ?_ ?_
    · skip
      exact S_drop [] rfl (hj17 _)
    · skip
      refine S_ic 13 1 dX8_count_13 (by decide) ?_
      refine S_goto 14 18 dX8_count_14 (by decide) ?_
      exact S_drop [] rfl (hj18 _ _)
def FX8_letter (E : XG) (t : Nat) (p1 : Int32) (p2 : Int32) (p3 : Int32) (h : XH) : XP Int32 := xg (xk h t = 9) <| xb (FX8_demandText E t  h) fun _ h1 => xjn (fun (v2 : Int32) (h3 : XH) => xb (FX8_demandFit E v2 h3) fun _ h4 => xg (xk h4 t = 9) <| xnn (xr h4 t 5) fun w5 => xg (xk h4 w5 = 8) <| xb (FX7_namesOf E w5 p1 h4) fun v6 h7 => xg (xk h7 v6 = 4) <| xb (FX3_has E v6 p2 h7) fun v8 h9 => xjn (fun (v10 : Int32) (h11 : XH) => xb (FX8_demandThere E v10 h11) fun _ h12 => xg (xk h12 v6 = 4) <| xb (FX3_letterOf E v6 p2 p3 h12) fun v13 h14 => xv v13 h14) fun (j59 : Int32 → XH → XP Int32) => xjn (fun  (h15 : XH) => j59 0 h15) fun (j58 : XH → XP Int32) => if (v8 : Int32) = 0 then (j58 h9) else (if (p3 : Int32) < 0 then (j58 h9) else (xg (xk h9 v6 = 4) <| xb (FX3_lengthOf E v6 p2 h9) fun v16 h17 => if (v16 : Int32) ≤ p3 then (j58 h17) else (j59 1 h17)))) fun (j18 : Int32 → XH → XP Int32) => xjn (fun  (h18 : XH) => j18 0 h18) fun (j17 : XH → XP Int32) => if (p1 : Int32) < 0 then (j17 h1) else (if (3 : Int32) ≤ p1 then (j17 h1) else (j18 1 h1))
theorem CX8_letter (E : XG) (t : Nat) (p1 : Int32) (p2 : Int32) (p3 : Int32) (h : XH) : XN E mX8_letter eI 0 0 [.ref t, .int p1, .int p2, .int p3] h (FX8_letter E t p1 p2 p3 h) := by
  unfold FX8_letter
  refine S_enter (L := [some (.ref t), some (.int p1), some (.int p2), some (.int p3), none]) (by decide +kernel) rfl rfl rfl ?_
  refine S_aload_0 0 dX8_letter_0 ?_
  refine S_callV (a' := 0) (b' := 0) (a := 0) (b := 0) 1 (As := []) (ci := 8) rfl calX8_demandText imX8_demandText seX8_demandText mkX8_100 rfl rfl rfl rfl rfl (by decide) rfl rfl dX8_letter_1 (CX8_demandText E t  h) (fun _ h1 => kqU ?_)
  refine S_iload_1 4 dX8_letter_4 ?_
  refine S_join (fun jj => ∀ (v2 : Int32) (h3 : XH), XS E mX8_letter eI 0 0 18 [some (.ref t), some (.int p1), some (.int p2), some (.int p3), none] [.int v2] h3 (jj v2 h3)) (fun v2 h3 => ?_) (fun j18 hj18 => ?_)
  · skip
    refine S_callS (a' := 0) (b' := 0) (a := 0) (b := 0) 18 (As := [.int v2]) rfl calX8_demandFit stX8_demandFit mkX8_75 rfl rfl rfl rfl rfl dX8_letter_18 (CX8_demandFit E v2 h3) (fun _ h4 => kqU ?_)
    refine S_aload_0 21 dX8_letter_21 ?_
    refine S_getR 22 fsX8_20 rfl dX8_letter_22 (fun w5 => ?_)
    refine S_iload_1 25 dX8_letter_25 ?_
    refine S_callV (a' := 0) (b' := 0) (a := 0) (b := 0) 26 (As := [.int p1]) (ci := 7) rfl calX7_namesOf imX7_namesOf seX7_namesOf mkX8_103 rfl rfl rfl rfl rfl (by decide) rfl rfl dX8_letter_26 (CX7_namesOf E w5 p1 h4) (fun v6 h7 => kqR ?_)
    refine S_astore_4 29 dX8_letter_29 rfl ?_
    refine S_aload_4 31 dX8_letter_31 ?_
    refine S_iload_2 33 dX8_letter_33 ?_
    refine S_callV (a' := 0) (b' := 0) (a := 0) (b := 0) 34 (As := [.int p2]) (ci := 3) rfl calX3_has imX3_has seX3_has mkX8_107 rfl rfl rfl rfl rfl (by decide) rfl rfl dX8_letter_34 (CX3_has E v6 p2 h7) (fun v8 h9 => kqI ?_)
    refine S_join (fun jj => ∀ (v10 : Int32) (h11 : XH), XS E mX8_letter eI 0 0 59 [none, none, some (.int p2), some (.int p3), some (.ref v6)] [.int v10] h11 (jj v10 h11)) (fun v10 h11 => ?_) (fun j59 hj59 => ?_)
    · skip
      refine S_callS (a' := 0) (b' := 0) (a := 0) (b := 0) 59 (As := [.int v10]) rfl calX8_demandThere stX8_demandThere mkX8_45 rfl rfl rfl rfl rfl dX8_letter_59 (CX8_demandThere E v10 h11) (fun _ h12 => kqU ?_)
      refine S_aload_4 62 dX8_letter_62 ?_
      refine S_iload_2 64 dX8_letter_64 ?_
      refine S_iload_3 65 dX8_letter_65 ?_
      refine S_callV (a' := 0) (b' := 0) (a := 0) (b := 0) 66 (As := [.int p2, .int p3]) (ci := 3) rfl calX3_letterOf imX3_letterOf seX3_letterOf mkX8_115 rfl rfl rfl rfl rfl (by decide) rfl rfl dX8_letter_66 (CX3_letterOf E v6 p2 p3 h12) (fun v13 h14 => kqI ?_)
      exact S_iret 69 dX8_letter_69 rfl
    refine S_join (fun jj => ∀  (h15 : XH), XS E mX8_letter eI 0 0 58 [none, none, some (.int p2), some (.int p3), some (.ref v6)] [] h15 (jj  h15)) (fun  h15 => ?_) (fun j58 hj58 => ?_)
    · skip
      refine S_ic 58 0 dX8_letter_58 (by decide) ?_
      exact S_drop [] rfl (hj59 _ _)
    refine S_ifeq 37 58 dX8_letter_37 (by decide) ?_ ?_
    · skip
      exact S_drop [0, 1] rfl (hj58 _)
    · skip
      refine S_iload_3 40 dX8_letter_40 ?_
      refine S_iflt 41 58 dX8_letter_41 (by decide) ?_ ?_
      · skip
        exact S_drop [0, 1] rfl (hj58 _)
      · skip
        refine S_iload_3 44 dX8_letter_44 ?_
        refine S_aload_4 45 dX8_letter_45 ?_
        refine S_iload_2 47 dX8_letter_47 ?_
        refine S_callV (a' := 0) (b' := 0) (a := 0) (b := 0) 48 (As := [.int p2]) (ci := 3) rfl calX3_lengthOf imX3_lengthOf seX3_lengthOf mkX8_111 rfl rfl rfl rfl rfl (by decide) rfl rfl dX8_letter_48 (CX3_lengthOf E v6 p2 h9) (fun v16 h17 => kqI ?_)
        refine S_icmpge 51 58 dX8_letter_51 (by decide) ?_ ?_
        · skip
          exact S_drop [0, 1] rfl (hj58 _)
        · skip
          refine S_ic 54 1 dX8_letter_54 (by decide) ?_
          refine S_goto 55 59 dX8_letter_55 (by decide) ?_
          exact S_drop [0, 1] rfl (hj59 _ _)
  refine S_join (fun jj => ∀  (h18 : XH), XS E mX8_letter eI 0 0 17 [some (.ref t), some (.int p1), some (.int p2), some (.int p3), none] [] h18 (jj  h18)) (fun  h18 => ?_) (fun j17 hj17 => ?_)
  · skip
    refine S_ic 17 0 dX8_letter_17 (by decide) ?_
    exact S_drop [] rfl (hj18 _ _)
  refine S_iflt 5 17 dX8_letter_5 (by decide) ?_ ?_
  · skip
    exact S_drop [] rfl (hj17 _)
  · skip
    refine S_iload_1 8 dX8_letter_8 ?_
    refine S_ic 9 3 dX8_letter_9 (by decide) ?_
    refine S_icmpge 10 17 dX8_letter_10 (by decide) ?_ ?_
    · skip
      exact S_drop [] rfl (hj17 _)
    · skip
      refine S_ic 13 1 dX8_letter_13 (by decide) ?_
      refine S_goto 14 18 dX8_letter_14 (by decide) ?_
      exact S_drop [] rfl (hj18 _ _)
def FX8_groupAt (E : XG) (t : Nat) (p1 : Int32) (h : XH) : XP Nat := xg (xk h t = 9) <| xb (FX8_demandText E t  h) fun _ h1 => xg (xk h1 t = 9) <| xnn (xr h1 t 5) fun w2 => xg (xk h1 w2 = 8) <| xnn (xr h1 w2 0) fun w3 => xg (xk h1 w3 = 4) <| xb (FX3_has E w3 p1 h1) fun v4 h5 => xb (FX8_demandThere E v4 h5) fun _ h6 => xg (xk h6 t = 9) <| xnn (xr h6 t 5) fun w7 => xg (xk h6 w7 = 8) <| xnn (xr h6 w7 3) fun w8 => xg (xk h6 w8 = 17 ∧ xin p1 (xn h6 w8)) <| xnn (xr h6 w8 (p1 : Int32).toNatClampNeg) fun w9 => xv w9 h6
theorem CX8_groupAt (E : XG) (t : Nat) (p1 : Int32) (h : XH) : XN E mX8_groupAt eR 0 0 [.ref t, .int p1] h (FX8_groupAt E t p1 h) := by
  unfold FX8_groupAt
  refine S_enter (L := [some (.ref t), some (.int p1)]) (by decide +kernel) rfl rfl rfl ?_
  refine S_aload_0 0 dX8_groupAt_0 ?_
  refine S_callV (a' := 0) (b' := 0) (a := 0) (b := 0) 1 (As := []) (ci := 8) rfl calX8_demandText imX8_demandText seX8_demandText mkX8_100 rfl rfl rfl rfl rfl (by decide) rfl rfl dX8_groupAt_1 (CX8_demandText E t  h) (fun _ h1 => kqU ?_)
  refine S_aload_0 4 dX8_groupAt_4 ?_
  refine S_getR 5 fsX8_20 rfl dX8_groupAt_5 (fun w2 => ?_)
  refine S_getR 8 fsX8_377 rfl dX8_groupAt_8 (fun w3 => ?_)
  refine S_iload_1 11 dX8_groupAt_11 ?_
  refine S_callV (a' := 0) (b' := 0) (a := 0) (b := 0) 12 (As := [.int p1]) (ci := 3) rfl calX3_has imX3_has seX3_has mkX8_107 rfl rfl rfl rfl rfl (by decide) rfl rfl dX8_groupAt_12 (CX3_has E w3 p1 h1) (fun v4 h5 => kqI ?_)
  refine S_callS (a' := 0) (b' := 0) (a := 0) (b := 0) 15 (As := [.int v4]) rfl calX8_demandThere stX8_demandThere mkX8_45 rfl rfl rfl rfl rfl dX8_groupAt_15 (CX8_demandThere E v4 h5) (fun _ h6 => kqU ?_)
  refine S_aload_0 18 dX8_groupAt_18 ?_
  refine S_getR 19 fsX8_20 rfl dX8_groupAt_19 (fun w7 => ?_)
  refine S_getR 22 fsX8_380 rfl dX8_groupAt_22 (fun w8 => ?_)
  refine S_iload_1 25 dX8_groupAt_25 ?_
  refine S_aald 26 17 6 (by decide) rfl rfl dX8_groupAt_26 (fun w9 => ?_)
  exact S_aret 27 dX8_groupAt_27 rfl
def FX8_size (E : XG) (t : Nat) (p1 : Int32) (h : XH) : XP Int32 := xg (xk h t = 9) <| xb (FX8_groupAt E t p1 h) fun v1 h2 => xg (xk h2 v1 = 3) <| xv (xi h2 v1 3) h2
theorem CX8_size (E : XG) (t : Nat) (p1 : Int32) (h : XH) : XN E mX8_size eI 0 0 [.ref t, .int p1] h (FX8_size E t p1 h) := by
  unfold FX8_size
  refine S_enter (L := [some (.ref t), some (.int p1)]) (by decide +kernel) rfl rfl rfl ?_
  refine S_aload_0 0 dX8_size_0 ?_
  refine S_iload_1 1 dX8_size_1 ?_
  refine S_callV (a' := 0) (b' := 0) (a := 0) (b := 0) 2 (As := [.int p1]) (ci := 8) rfl calX8_groupAt imX8_groupAt seX8_groupAt mkX8_119 rfl rfl rfl rfl rfl (by decide) rfl rfl dX8_size_2 (CX8_groupAt E t p1 h) (fun v1 h2 => kqR ?_)
  refine S_getI 5 fsX8_123 rfl dX8_size_5 ?_
  exact S_iret 8 dX8_size_8 rfl
def FX8_times (E : XG) (t : Nat) (p1 : Int32) (p2 : Int32) (p3 : Int32) (h : XH) : XP Int32 := xg (xk h t = 9) <| xb (FX8_groupAt E t p1 h) fun v1 h2 => xg (xk h2 v1 = 3) <| xb (FX2_has E v1 p2 h2) fun v3 h4 => xjn (fun (v5 : Int32) (h6 : XH) => xb (FX8_demandThere E v5 h6) fun _ h7 => xg (xk h7 v1 = 3) <| xb (FX2_product E v1 p2 p3 h7) fun v8 h9 => xv v8 h9) fun (j30 : Int32 → XH → XP Int32) => xjn (fun  (h10 : XH) => j30 0 h10) fun (j29 : XH → XP Int32) => if (v3 : Int32) = 0 then (j29 h4) else (xg (xk h4 v1 = 3) <| xb (FX2_has E v1 p3 h4) fun v11 h12 => if (v11 : Int32) = 0 then (j29 h12) else (j30 1 h12))
theorem CX8_times (E : XG) (t : Nat) (p1 : Int32) (p2 : Int32) (p3 : Int32) (h : XH) : XN E mX8_times eI 0 0 [.ref t, .int p1, .int p2, .int p3] h (FX8_times E t p1 p2 p3 h) := by
  unfold FX8_times
  refine S_enter (L := [some (.ref t), some (.int p1), some (.int p2), some (.int p3), none]) (by decide +kernel) rfl rfl rfl ?_
  refine S_aload_0 0 dX8_times_0 ?_
  refine S_iload_1 1 dX8_times_1 ?_
  refine S_callV (a' := 0) (b' := 0) (a := 0) (b := 0) 2 (As := [.int p1]) (ci := 8) rfl calX8_groupAt imX8_groupAt seX8_groupAt mkX8_119 rfl rfl rfl rfl rfl (by decide) rfl rfl dX8_times_2 (CX8_groupAt E t p1 h) (fun v1 h2 => kqR ?_)
  refine S_astore_4 5 dX8_times_5 rfl ?_
  refine S_aload_4 7 dX8_times_7 ?_
  refine S_iload_2 9 dX8_times_9 ?_
  refine S_callV (a' := 0) (b' := 0) (a := 0) (b := 0) 10 (As := [.int p2]) (ci := 2) rfl calX2_has imX2_has seX2_has mkX8_128 rfl rfl rfl rfl rfl (by decide) rfl rfl dX8_times_10 (CX2_has E v1 p2 h2) (fun v3 h4 => kqI ?_)
  refine S_join (fun jj => ∀ (v5 : Int32) (h6 : XH), XS E mX8_times eI 0 0 30 [none, none, some (.int p2), some (.int p3), some (.ref v1)] [.int v5] h6 (jj v5 h6)) (fun v5 h6 => ?_) (fun j30 hj30 => ?_)
  · skip
    refine S_callS (a' := 0) (b' := 0) (a := 0) (b := 0) 30 (As := [.int v5]) rfl calX8_demandThere stX8_demandThere mkX8_45 rfl rfl rfl rfl rfl dX8_times_30 (CX8_demandThere E v5 h6) (fun _ h7 => kqU ?_)
    refine S_aload_4 33 dX8_times_33 ?_
    refine S_iload_2 35 dX8_times_35 ?_
    refine S_iload_3 36 dX8_times_36 ?_
    refine S_callV (a' := 0) (b' := 0) (a := 0) (b := 0) 37 (As := [.int p2, .int p3]) (ci := 2) rfl calX2_product imX2_product seX2_product mkX8_129 rfl rfl rfl rfl rfl (by decide) rfl rfl dX8_times_37 (CX2_product E v1 p2 p3 h7) (fun v8 h9 => kqI ?_)
    exact S_iret 40 dX8_times_40 rfl
  refine S_join (fun jj => ∀  (h10 : XH), XS E mX8_times eI 0 0 29 [none, none, some (.int p2), some (.int p3), some (.ref v1)] [] h10 (jj  h10)) (fun  h10 => ?_) (fun j29 hj29 => ?_)
  · skip
    refine S_ic 29 0 dX8_times_29 (by decide) ?_
    exact S_drop [] rfl (hj30 _ _)
  refine S_ifeq 13 29 dX8_times_13 (by decide) ?_ ?_
  · skip
    exact S_drop [0, 1] rfl (hj29 _)
  · skip
    refine S_aload_4 16 dX8_times_16 ?_
    refine S_iload_3 18 dX8_times_18 ?_
    refine S_callV (a' := 0) (b' := 0) (a := 0) (b := 0) 19 (As := [.int p3]) (ci := 2) rfl calX2_has imX2_has seX2_has mkX8_128 rfl rfl rfl rfl rfl (by decide) rfl rfl dX8_times_19 (CX2_has E v1 p3 h4) (fun v11 h12 => kqI ?_)
    refine S_ifeq 22 29 dX8_times_22 (by decide) ?_ ?_
    · skip
      exact S_drop [0, 1] rfl (hj29 _)
    · skip
      refine S_ic 25 1 dX8_times_25 (by decide) ?_
      refine S_goto 26 30 dX8_times_26 (by decide) ?_
      exact S_drop [0, 1] rfl (hj30 _ _)
def FX8_inverse (E : XG) (t : Nat) (p1 : Int32) (p2 : Int32) (h : XH) : XP Int32 := xg (xk h t = 9) <| xb (FX8_groupAt E t p1 h) fun v1 h2 => xg (xk h2 v1 = 3) <| xb (FX2_has E v1 p2 h2) fun v3 h4 => xb (FX8_demandThere E v3 h4) fun _ h5 => xg (xk h5 v1 = 3) <| xb (FX2_opposite E v1 p2 h5) fun v6 h7 => xv v6 h7
theorem CX8_inverse (E : XG) (t : Nat) (p1 : Int32) (p2 : Int32) (h : XH) : XN E mX8_inverse eI 0 0 [.ref t, .int p1, .int p2] h (FX8_inverse E t p1 p2 h) := by
  unfold FX8_inverse
  refine S_enter (L := [some (.ref t), some (.int p1), some (.int p2), none]) (by decide +kernel) rfl rfl rfl ?_
  refine S_aload_0 0 dX8_inverse_0 ?_
  refine S_iload_1 1 dX8_inverse_1 ?_
  refine S_callV (a' := 0) (b' := 0) (a := 0) (b := 0) 2 (As := [.int p1]) (ci := 8) rfl calX8_groupAt imX8_groupAt seX8_groupAt mkX8_119 rfl rfl rfl rfl rfl (by decide) rfl rfl dX8_inverse_2 (CX8_groupAt E t p1 h) (fun v1 h2 => kqR ?_)
  refine S_astore_3 5 dX8_inverse_5 rfl ?_
  refine S_aload_3 6 dX8_inverse_6 ?_
  refine S_iload_2 7 dX8_inverse_7 ?_
  refine S_callV (a' := 0) (b' := 0) (a := 0) (b := 0) 8 (As := [.int p2]) (ci := 2) rfl calX2_has imX2_has seX2_has mkX8_128 rfl rfl rfl rfl rfl (by decide) rfl rfl dX8_inverse_8 (CX2_has E v1 p2 h2) (fun v3 h4 => kqI ?_)
  refine S_callS (a' := 0) (b' := 0) (a := 0) (b := 0) 11 (As := [.int v3]) rfl calX8_demandThere stX8_demandThere mkX8_45 rfl rfl rfl rfl rfl dX8_inverse_11 (CX8_demandThere E v3 h4) (fun _ h5 => kqU ?_)
  refine S_aload_3 14 dX8_inverse_14 ?_
  refine S_iload_2 15 dX8_inverse_15 ?_
  refine S_callV (a' := 0) (b' := 0) (a := 0) (b := 0) 16 (As := [.int p2]) (ci := 2) rfl calX2_opposite imX2_opposite seX2_opposite mkX8_132 rfl rfl rfl rfl rfl (by decide) rfl rfl dX8_inverse_16 (CX2_opposite E v1 p2 h5) (fun v6 h7 => kqI ?_)
  exact S_iret 19 dX8_inverse_19 rfl
def FX8_orderOf (E : XG) (t : Nat) (p1 : Int32) (p2 : Int32) (h : XH) : XP Int32 := xg (xk h t = 9) <| xb (FX8_groupAt E t p1 h) fun v1 h2 => xg (xk h2 v1 = 3) <| xb (FX2_has E v1 p2 h2) fun v3 h4 => xb (FX8_demandThere E v3 h4) fun _ h5 => xg (xk h5 v1 = 3) <| xb (FX2_period E v1 p2 h5) fun v6 h7 => xv v6 h7
theorem CX8_orderOf (E : XG) (t : Nat) (p1 : Int32) (p2 : Int32) (h : XH) : XN E mX8_orderOf eI 0 0 [.ref t, .int p1, .int p2] h (FX8_orderOf E t p1 p2 h) := by
  unfold FX8_orderOf
  refine S_enter (L := [some (.ref t), some (.int p1), some (.int p2), none]) (by decide +kernel) rfl rfl rfl ?_
  refine S_aload_0 0 dX8_orderOf_0 ?_
  refine S_iload_1 1 dX8_orderOf_1 ?_
  refine S_callV (a' := 0) (b' := 0) (a := 0) (b := 0) 2 (As := [.int p1]) (ci := 8) rfl calX8_groupAt imX8_groupAt seX8_groupAt mkX8_119 rfl rfl rfl rfl rfl (by decide) rfl rfl dX8_orderOf_2 (CX8_groupAt E t p1 h) (fun v1 h2 => kqR ?_)
  refine S_astore_3 5 dX8_orderOf_5 rfl ?_
  refine S_aload_3 6 dX8_orderOf_6 ?_
  refine S_iload_2 7 dX8_orderOf_7 ?_
  refine S_callV (a' := 0) (b' := 0) (a := 0) (b := 0) 8 (As := [.int p2]) (ci := 2) rfl calX2_has imX2_has seX2_has mkX8_128 rfl rfl rfl rfl rfl (by decide) rfl rfl dX8_orderOf_8 (CX2_has E v1 p2 h2) (fun v3 h4 => kqI ?_)
  refine S_callS (a' := 0) (b' := 0) (a := 0) (b := 0) 11 (As := [.int v3]) rfl calX8_demandThere stX8_demandThere mkX8_45 rfl rfl rfl rfl rfl dX8_orderOf_11 (CX8_demandThere E v3 h4) (fun _ h5 => kqU ?_)
  refine S_aload_3 14 dX8_orderOf_14 ?_
  refine S_iload_2 15 dX8_orderOf_15 ?_
  refine S_callV (a' := 0) (b' := 0) (a := 0) (b := 0) 16 (As := [.int p2]) (ci := 2) rfl calX2_period imX2_period seX2_period mkX8_135 rfl rfl rfl rfl rfl (by decide) rfl rfl dX8_orderOf_16 (CX2_period E v1 p2 h5) (fun v6 h7 => kqI ?_)
  exact S_iret 19 dX8_orderOf_19 rfl
def FX8_centre (E : XG) (t : Nat) (p1 : Int32) (h : XH) : XP Int32 := xg (xk h t = 9) <| xb (FX8_groupAt E t p1 h) fun v1 h2 => xg (xk h2 v1 = 3) <| xb (FX2_middle E v1  h2) fun v3 h4 => xv v3 h4
theorem CX8_centre (E : XG) (t : Nat) (p1 : Int32) (h : XH) : XN E mX8_centre eI 0 0 [.ref t, .int p1] h (FX8_centre E t p1 h) := by
  unfold FX8_centre
  refine S_enter (L := [some (.ref t), some (.int p1)]) (by decide +kernel) rfl rfl rfl ?_
  refine S_aload_0 0 dX8_centre_0 ?_
  refine S_iload_1 1 dX8_centre_1 ?_
  refine S_callV (a' := 0) (b' := 0) (a := 0) (b := 0) 2 (As := [.int p1]) (ci := 8) rfl calX8_groupAt imX8_groupAt seX8_groupAt mkX8_119 rfl rfl rfl rfl rfl (by decide) rfl rfl dX8_centre_2 (CX8_groupAt E t p1 h) (fun v1 h2 => kqR ?_)
  refine S_callV (a' := 0) (b' := 0) (a := 0) (b := 0) 5 (As := []) (ci := 2) rfl calX2_middle imX2_middle seX2_middle mkX8_138 rfl rfl rfl rfl rfl (by decide) rfl rfl dX8_centre_5 (CX2_middle E v1  h2) (fun v3 h4 => kqI ?_)
  exact S_iret 8 dX8_centre_8 rfl
def FX8_generated (E : XG) (t : Nat) (p1 : Int32) (p2 : Int32) (h : XH) : XP Int32 := xg (xk h t = 9) <| xb (FX8_groupAt E t p1 h) fun v1 h2 => xg (xk h2 v1 = 3) <| xb (FX2_hasAll E v1 p2 h2) fun v3 h4 => xb (FX8_demandFit E v3 h4) fun _ h5 => xg (xk h5 v1 = 3) <| xb (FX2_closure E v1 p2 h5) fun v6 h7 => xv v6 h7
theorem CX8_generated (E : XG) (t : Nat) (p1 : Int32) (p2 : Int32) (h : XH) : XN E mX8_generated eI 0 0 [.ref t, .int p1, .int p2] h (FX8_generated E t p1 p2 h) := by
  unfold FX8_generated
  refine S_enter (L := [some (.ref t), some (.int p1), some (.int p2), none]) (by decide +kernel) rfl rfl rfl ?_
  refine S_aload_0 0 dX8_generated_0 ?_
  refine S_iload_1 1 dX8_generated_1 ?_
  refine S_callV (a' := 0) (b' := 0) (a := 0) (b := 0) 2 (As := [.int p1]) (ci := 8) rfl calX8_groupAt imX8_groupAt seX8_groupAt mkX8_119 rfl rfl rfl rfl rfl (by decide) rfl rfl dX8_generated_2 (CX8_groupAt E t p1 h) (fun v1 h2 => kqR ?_)
  refine S_astore_3 5 dX8_generated_5 rfl ?_
  refine S_aload_3 6 dX8_generated_6 ?_
  refine S_iload_2 7 dX8_generated_7 ?_
  refine S_callV (a' := 0) (b' := 0) (a := 0) (b := 0) 8 (As := [.int p2]) (ci := 2) rfl calX2_hasAll imX2_hasAll seX2_hasAll mkX8_145 rfl rfl rfl rfl rfl (by decide) rfl rfl dX8_generated_8 (CX2_hasAll E v1 p2 h2) (fun v3 h4 => kqI ?_)
  refine S_callS (a' := 0) (b' := 0) (a := 0) (b := 0) 11 (As := [.int v3]) rfl calX8_demandFit stX8_demandFit mkX8_75 rfl rfl rfl rfl rfl dX8_generated_11 (CX8_demandFit E v3 h4) (fun _ h5 => kqU ?_)
  refine S_aload_3 14 dX8_generated_14 ?_
  refine S_iload_2 15 dX8_generated_15 ?_
  refine S_callV (a' := 0) (b' := 0) (a := 0) (b := 0) 16 (As := [.int p2]) (ci := 2) rfl calX2_closure imX2_closure seX2_closure mkX8_148 rfl rfl rfl rfl rfl (by decide) rfl rfl dX8_generated_16 (CX2_closure E v1 p2 h5) (fun v6 h7 => kqI ?_)
  exact S_iret 19 dX8_generated_19 rfl
def FX8_moduleAt (E : XG) (t : Nat) (p1 : Int32) (h : XH) : XP Nat := xg (xk h t = 9) <| xb (FX8_demandText E t  h) fun _ h1 => xg (xk h1 t = 9) <| xnn (xr h1 t 5) fun w2 => xg (xk h1 w2 = 8) <| xnn (xr h1 w2 1) fun w3 => xg (xk h1 w3 = 4) <| xb (FX3_has E w3 p1 h1) fun v4 h5 => xb (FX8_demandThere E v4 h5) fun _ h6 => xg (xk h6 t = 9) <| xnn (xr h6 t 5) fun w7 => xg (xk h6 w7 = 8) <| xnn (xr h6 w7 4) fun w8 => xg (xk h6 w8 = 16 ∧ xin p1 (xn h6 w8)) <| xnn (xr h6 w8 (p1 : Int32).toNatClampNeg) fun w9 => xv w9 h6
theorem CX8_moduleAt (E : XG) (t : Nat) (p1 : Int32) (h : XH) : XN E mX8_moduleAt eR 0 0 [.ref t, .int p1] h (FX8_moduleAt E t p1 h) := by
  unfold FX8_moduleAt
  refine S_enter (L := [some (.ref t), some (.int p1)]) (by decide +kernel) rfl rfl rfl ?_
  refine S_aload_0 0 dX8_moduleAt_0 ?_
  refine S_callV (a' := 0) (b' := 0) (a := 0) (b := 0) 1 (As := []) (ci := 8) rfl calX8_demandText imX8_demandText seX8_demandText mkX8_100 rfl rfl rfl rfl rfl (by decide) rfl rfl dX8_moduleAt_1 (CX8_demandText E t  h) (fun _ h1 => kqU ?_)
  refine S_aload_0 4 dX8_moduleAt_4 ?_
  refine S_getR 5 fsX8_20 rfl dX8_moduleAt_5 (fun w2 => ?_)
  refine S_getR 8 fsX8_91 rfl dX8_moduleAt_8 (fun w3 => ?_)
  refine S_iload_1 11 dX8_moduleAt_11 ?_
  refine S_callV (a' := 0) (b' := 0) (a := 0) (b := 0) 12 (As := [.int p1]) (ci := 3) rfl calX3_has imX3_has seX3_has mkX8_107 rfl rfl rfl rfl rfl (by decide) rfl rfl dX8_moduleAt_12 (CX3_has E w3 p1 h1) (fun v4 h5 => kqI ?_)
  refine S_callS (a' := 0) (b' := 0) (a := 0) (b := 0) 15 (As := [.int v4]) rfl calX8_demandThere stX8_demandThere mkX8_45 rfl rfl rfl rfl rfl dX8_moduleAt_15 (CX8_demandThere E v4 h5) (fun _ h6 => kqU ?_)
  refine S_aload_0 18 dX8_moduleAt_18 ?_
  refine S_getR 19 fsX8_20 rfl dX8_moduleAt_19 (fun w7 => ?_)
  refine S_getR 22 fsX8_231 rfl dX8_moduleAt_22 (fun w8 => ?_)
  refine S_iload_1 25 dX8_moduleAt_25 ?_
  refine S_aald 26 16 5 (by decide) rfl rfl dX8_moduleAt_26 (fun w9 => ?_)
  exact S_aret 27 dX8_moduleAt_27 rfl
def FX8_groupOf (E : XG) (t : Nat) (p1 : Int32) (p2 : Int32) (h : XH) : XP Int32 := xg (xk h t = 9) <| xb (FX8_moduleAt E t p1 h) fun v1 h2 => xjn (fun (v3 : Int32) (h4 : XH) => xv v3 h4) fun (j27 : Int32 → XH → XP Int32) => if (p2 : Int32) = 0 then (xg (xk h2 v1 = 2) <| xnn (xr h2 v1 1) fun w5 => xg (xk h2 w5 = 3) <| j27 (xi h2 w5 0) h2) else (xg (xk h2 v1 = 2) <| xnn (xr h2 v1 2) fun w6 => xg (xk h2 w6 = 3) <| j27 (xi h2 w6 0) h2)
theorem CX8_groupOf (E : XG) (t : Nat) (p1 : Int32) (p2 : Int32) (h : XH) : XN E mX8_groupOf eI 0 0 [.ref t, .int p1, .int p2] h (FX8_groupOf E t p1 p2 h) := by
  unfold FX8_groupOf
  refine S_enter (L := [some (.ref t), some (.int p1), some (.int p2), none]) (by decide +kernel) rfl rfl rfl ?_
  refine S_aload_0 0 dX8_groupOf_0 ?_
  refine S_iload_1 1 dX8_groupOf_1 ?_
  refine S_callV (a' := 0) (b' := 0) (a := 0) (b := 0) 2 (As := [.int p1]) (ci := 8) rfl calX8_moduleAt imX8_moduleAt seX8_moduleAt mkX8_154 rfl rfl rfl rfl rfl (by decide) rfl rfl dX8_groupOf_2 (CX8_moduleAt E t p1 h) (fun v1 h2 => kqR ?_)
  refine S_astore_3 5 dX8_groupOf_5 rfl ?_
  refine S_iload_2 6 dX8_groupOf_6 ?_
  refine S_join (fun jj => ∀ (v3 : Int32) (h4 : XH), XS E mX8_groupOf eI 0 0 27 [none, none, none, none] [.int v3] h4 (jj v3 h4)) (fun v3 h4 => ?_) (fun j27 hj27 => ?_)
  · skip
    exact S_iret 27 dX8_groupOf_27 rfl
  refine S_ifeq 7 20 dX8_groupOf_7 (by decide) ?_ ?_
  · skip
    refine S_aload_3 20 dX8_groupOf_20 ?_
    refine S_getR 21 fsX8_167 rfl dX8_groupOf_21 (fun w5 => ?_)
    refine S_getI 24 fsX8_164 rfl dX8_groupOf_24 ?_
    exact S_drop [0, 1, 2, 3] rfl (hj27 _ _)
  · skip
    refine S_aload_3 10 dX8_groupOf_10 ?_
    refine S_getR 11 fsX8_158 rfl dX8_groupOf_11 (fun w6 => ?_)
    refine S_getI 14 fsX8_164 rfl dX8_groupOf_14 ?_
    refine S_goto 17 27 dX8_groupOf_17 (by decide) ?_
    exact S_drop [0, 1, 2, 3] rfl (hj27 _ _)
def FX8_boundary (E : XG) (t : Nat) (p1 : Int32) (p2 : Int32) (h : XH) : XP Int32 := xg (xk h t = 9) <| xb (FX8_moduleAt E t p1 h) fun v1 h2 => xg (xk h2 v1 = 2) <| xnn (xr h2 v1 1) fun w3 => xg (xk h2 w3 = 3) <| xb (FX2_has E w3 p2 h2) fun v4 h5 => xb (FX8_demandThere E v4 h5) fun _ h6 => xg (xk h6 v1 = 2) <| xb (FX1_boundaryOf E v1 p2 h6) fun v7 h8 => xv v7 h8
theorem CX8_boundary (E : XG) (t : Nat) (p1 : Int32) (p2 : Int32) (h : XH) : XN E mX8_boundary eI 0 0 [.ref t, .int p1, .int p2] h (FX8_boundary E t p1 p2 h) := by
  unfold FX8_boundary
  refine S_enter (L := [some (.ref t), some (.int p1), some (.int p2), none]) (by decide +kernel) rfl rfl rfl ?_
  refine S_aload_0 0 dX8_boundary_0 ?_
  refine S_iload_1 1 dX8_boundary_1 ?_
  refine S_callV (a' := 0) (b' := 0) (a := 0) (b := 0) 2 (As := [.int p1]) (ci := 8) rfl calX8_moduleAt imX8_moduleAt seX8_moduleAt mkX8_154 rfl rfl rfl rfl rfl (by decide) rfl rfl dX8_boundary_2 (CX8_moduleAt E t p1 h) (fun v1 h2 => kqR ?_)
  refine S_astore_3 5 dX8_boundary_5 rfl ?_
  refine S_aload_3 6 dX8_boundary_6 ?_
  refine S_getR 7 fsX8_167 rfl dX8_boundary_7 (fun w3 => ?_)
  refine S_iload_2 10 dX8_boundary_10 ?_
  refine S_callV (a' := 0) (b' := 0) (a := 0) (b := 0) 11 (As := [.int p2]) (ci := 2) rfl calX2_has imX2_has seX2_has mkX8_128 rfl rfl rfl rfl rfl (by decide) rfl rfl dX8_boundary_11 (CX2_has E w3 p2 h2) (fun v4 h5 => kqI ?_)
  refine S_callS (a' := 0) (b' := 0) (a := 0) (b := 0) 14 (As := [.int v4]) rfl calX8_demandThere stX8_demandThere mkX8_45 rfl rfl rfl rfl rfl dX8_boundary_14 (CX8_demandThere E v4 h5) (fun _ h6 => kqU ?_)
  refine S_aload_3 17 dX8_boundary_17 ?_
  refine S_iload_2 18 dX8_boundary_18 ?_
  refine S_callV (a' := 0) (b' := 0) (a := 0) (b := 0) 19 (As := [.int p2]) (ci := 1) rfl calX1_boundaryOf imX1_boundaryOf seX1_boundaryOf mkX8_170 rfl rfl rfl rfl rfl (by decide) rfl rfl dX8_boundary_19 (CX1_boundaryOf E v1 p2 h6) (fun v7 h8 => kqI ?_)
  exact S_iret 22 dX8_boundary_22 rfl
def FX8_act (E : XG) (t : Nat) (p1 : Int32) (p2 : Int32) (p3 : Int32) (h : XH) : XP Int32 := xg (xk h t = 9) <| xb (FX8_moduleAt E t p1 h) fun v1 h2 => xg (xk h2 v1 = 2) <| xnn (xr h2 v1 2) fun w3 => xg (xk h2 w3 = 3) <| xb (FX2_has E w3 p2 h2) fun v4 h5 => xjn (fun (v6 : Int32) (h7 : XH) => xb (FX8_demandThere E v6 h7) fun _ h8 => xg (xk h8 v1 = 2) <| xb (FX1_actionOf E v1 p2 p3 h8) fun v9 h10 => xv v9 h10) fun (j36 : Int32 → XH → XP Int32) => xjn (fun  (h11 : XH) => j36 0 h11) fun (j35 : XH → XP Int32) => if (v4 : Int32) = 0 then (j35 h5) else (xg (xk h5 v1 = 2) <| xnn (xr h5 v1 1) fun w12 => xg (xk h5 w12 = 3) <| xb (FX2_has E w12 p3 h5) fun v13 h14 => if (v13 : Int32) = 0 then (j35 h14) else (j36 1 h14))
theorem CX8_act (E : XG) (t : Nat) (p1 : Int32) (p2 : Int32) (p3 : Int32) (h : XH) : XN E mX8_act eI 0 0 [.ref t, .int p1, .int p2, .int p3] h (FX8_act E t p1 p2 p3 h) := by
  unfold FX8_act
  refine S_enter (L := [some (.ref t), some (.int p1), some (.int p2), some (.int p3), none]) (by decide +kernel) rfl rfl rfl ?_
  refine S_aload_0 0 dX8_act_0 ?_
  refine S_iload_1 1 dX8_act_1 ?_
  refine S_callV (a' := 0) (b' := 0) (a := 0) (b := 0) 2 (As := [.int p1]) (ci := 8) rfl calX8_moduleAt imX8_moduleAt seX8_moduleAt mkX8_154 rfl rfl rfl rfl rfl (by decide) rfl rfl dX8_act_2 (CX8_moduleAt E t p1 h) (fun v1 h2 => kqR ?_)
  refine S_astore_4 5 dX8_act_5 rfl ?_
  refine S_aload_4 7 dX8_act_7 ?_
  refine S_getR 9 fsX8_158 rfl dX8_act_9 (fun w3 => ?_)
  refine S_iload_2 12 dX8_act_12 ?_
  refine S_callV (a' := 0) (b' := 0) (a := 0) (b := 0) 13 (As := [.int p2]) (ci := 2) rfl calX2_has imX2_has seX2_has mkX8_128 rfl rfl rfl rfl rfl (by decide) rfl rfl dX8_act_13 (CX2_has E w3 p2 h2) (fun v4 h5 => kqI ?_)
  refine S_join (fun jj => ∀ (v6 : Int32) (h7 : XH), XS E mX8_act eI 0 0 36 [none, none, some (.int p2), some (.int p3), some (.ref v1)] [.int v6] h7 (jj v6 h7)) (fun v6 h7 => ?_) (fun j36 hj36 => ?_)
  · skip
    refine S_callS (a' := 0) (b' := 0) (a := 0) (b := 0) 36 (As := [.int v6]) rfl calX8_demandThere stX8_demandThere mkX8_45 rfl rfl rfl rfl rfl dX8_act_36 (CX8_demandThere E v6 h7) (fun _ h8 => kqU ?_)
    refine S_aload_4 39 dX8_act_39 ?_
    refine S_iload_2 41 dX8_act_41 ?_
    refine S_iload_3 42 dX8_act_42 ?_
    refine S_callV (a' := 0) (b' := 0) (a := 0) (b := 0) 43 (As := [.int p2, .int p3]) (ci := 1) rfl calX1_actionOf imX1_actionOf seX1_actionOf mkX8_173 rfl rfl rfl rfl rfl (by decide) rfl rfl dX8_act_43 (CX1_actionOf E v1 p2 p3 h8) (fun v9 h10 => kqI ?_)
    exact S_iret 46 dX8_act_46 rfl
  refine S_join (fun jj => ∀  (h11 : XH), XS E mX8_act eI 0 0 35 [none, none, some (.int p2), some (.int p3), some (.ref v1)] [] h11 (jj  h11)) (fun  h11 => ?_) (fun j35 hj35 => ?_)
  · skip
    refine S_ic 35 0 dX8_act_35 (by decide) ?_
    exact S_drop [] rfl (hj36 _ _)
  refine S_ifeq 16 35 dX8_act_16 (by decide) ?_ ?_
  · skip
    exact S_drop [0, 1] rfl (hj35 _)
  · skip
    refine S_aload_4 19 dX8_act_19 ?_
    refine S_getR 21 fsX8_167 rfl dX8_act_21 (fun w12 => ?_)
    refine S_iload_3 24 dX8_act_24 ?_
    refine S_callV (a' := 0) (b' := 0) (a := 0) (b := 0) 25 (As := [.int p3]) (ci := 2) rfl calX2_has imX2_has seX2_has mkX8_128 rfl rfl rfl rfl rfl (by decide) rfl rfl dX8_act_25 (CX2_has E w12 p3 h5) (fun v13 h14 => kqI ?_)
    refine S_ifeq 28 35 dX8_act_28 (by decide) ?_ ?_
    · skip
      exact S_drop [0, 1] rfl (hj35 _)
    · skip
      refine S_ic 31 1 dX8_act_31 (by decide) ?_
      refine S_goto 32 36 dX8_act_32 (by decide) ?_
      exact S_drop [0, 1] rfl (hj36 _ _)
def FX8_why (E : XG) (t : Nat) (p1 : Int32) (h : XH) : XP Int32 := xg (xk h t = 9) <| xb (FX8_moduleAt E t p1 h) fun v1 h2 => xg (xk h2 v1 = 2) <| xv (xi h2 v1 7) h2
theorem CX8_why (E : XG) (t : Nat) (p1 : Int32) (h : XH) : XN E mX8_why eI 0 0 [.ref t, .int p1] h (FX8_why E t p1 h) := by
  unfold FX8_why
  refine S_enter (L := [some (.ref t), some (.int p1)]) (by decide +kernel) rfl rfl rfl ?_
  refine S_aload_0 0 dX8_why_0 ?_
  refine S_iload_1 1 dX8_why_1 ?_
  refine S_callV (a' := 0) (b' := 0) (a := 0) (b := 0) 2 (As := [.int p1]) (ci := 8) rfl calX8_moduleAt imX8_moduleAt seX8_moduleAt mkX8_154 rfl rfl rfl rfl rfl (by decide) rfl rfl dX8_why_2 (CX8_moduleAt E t p1 h) (fun v1 h2 => kqR ?_)
  refine S_getI 5 fsX8_176 rfl dX8_why_5 ?_
  exact S_iret 8 dX8_why_8 rfl
def FX8_lawful (E : XG) (t : Nat) (h : XH) : XP Int32 := xg (xk h t = 9) <| xb (FX8_demandText E t  h) fun _ h1 => xg (xk h1 t = 9) <| xnn (xr h1 t 5) fun w2 => xg (xk h1 w2 = 8) <| xb (FX7_lawfulModules E w2  h1) fun v3 h4 => xv v3 h4
theorem CX8_lawful (E : XG) (t : Nat) (h : XH) : XN E mX8_lawful eI 0 0 [.ref t] h (FX8_lawful E t h) := by
  unfold FX8_lawful
  refine S_enter (L := [some (.ref t)]) (by decide +kernel) rfl rfl rfl ?_
  refine S_aload_0 0 dX8_lawful_0 ?_
  refine S_callV (a' := 0) (b' := 0) (a := 0) (b := 0) 1 (As := []) (ci := 8) rfl calX8_demandText imX8_demandText seX8_demandText mkX8_100 rfl rfl rfl rfl rfl (by decide) rfl rfl dX8_lawful_1 (CX8_demandText E t  h) (fun _ h1 => kqU ?_)
  refine S_aload_0 4 dX8_lawful_4 ?_
  refine S_getR 5 fsX8_20 rfl dX8_lawful_5 (fun w2 => ?_)
  refine S_callV (a' := 0) (b' := 0) (a := 0) (b := 0) 8 (As := []) (ci := 7) rfl calX7_lawfulModules imX7_lawfulModules seX7_lawfulModules mkX8_179 rfl rfl rfl rfl rfl (by decide) rfl rfl dX8_lawful_8 (CX7_lawfulModules E w2  h1) (fun v3 h4 => kqI ?_)
  exact S_iret 11 dX8_lawful_11 rfl
def FX8_kernel (E : XG) (t : Nat) (p1 : Int32) (h : XH) : XP Int32 := xg (xk h t = 9) <| xb (FX8_moduleAt E t p1 h) fun v1 h2 => xg (xk h2 v1 = 2) <| xb (FX1_kernelSet E v1  h2) fun v3 h4 => xv v3 h4
theorem CX8_kernel (E : XG) (t : Nat) (p1 : Int32) (h : XH) : XN E mX8_kernel eI 0 0 [.ref t, .int p1] h (FX8_kernel E t p1 h) := by
  unfold FX8_kernel
  refine S_enter (L := [some (.ref t), some (.int p1)]) (by decide +kernel) rfl rfl rfl ?_
  refine S_aload_0 0 dX8_kernel_0 ?_
  refine S_iload_1 1 dX8_kernel_1 ?_
  refine S_callV (a' := 0) (b' := 0) (a := 0) (b := 0) 2 (As := [.int p1]) (ci := 8) rfl calX8_moduleAt imX8_moduleAt seX8_moduleAt mkX8_154 rfl rfl rfl rfl rfl (by decide) rfl rfl dX8_kernel_2 (CX8_moduleAt E t p1 h) (fun v1 h2 => kqR ?_)
  refine S_callV (a' := 0) (b' := 0) (a := 0) (b := 0) 5 (As := []) (ci := 1) rfl calX1_kernelSet imX1_kernelSet seX1_kernelSet mkX8_182 rfl rfl rfl rfl rfl (by decide) rfl rfl dX8_kernel_5 (CX1_kernelSet E v1  h2) (fun v3 h4 => kqI ?_)
  exact S_iret 8 dX8_kernel_8 rfl
def FX8_image (E : XG) (t : Nat) (p1 : Int32) (h : XH) : XP Int32 := xg (xk h t = 9) <| xb (FX8_moduleAt E t p1 h) fun v1 h2 => xg (xk h2 v1 = 2) <| xb (FX1_imageSet E v1  h2) fun v3 h4 => xv v3 h4
theorem CX8_image (E : XG) (t : Nat) (p1 : Int32) (h : XH) : XN E mX8_image eI 0 0 [.ref t, .int p1] h (FX8_image E t p1 h) := by
  unfold FX8_image
  refine S_enter (L := [some (.ref t), some (.int p1)]) (by decide +kernel) rfl rfl rfl ?_
  refine S_aload_0 0 dX8_image_0 ?_
  refine S_iload_1 1 dX8_image_1 ?_
  refine S_callV (a' := 0) (b' := 0) (a := 0) (b := 0) 2 (As := [.int p1]) (ci := 8) rfl calX8_moduleAt imX8_moduleAt seX8_moduleAt mkX8_154 rfl rfl rfl rfl rfl (by decide) rfl rfl dX8_image_2 (CX8_moduleAt E t p1 h) (fun v1 h2 => kqR ?_)
  refine S_callV (a' := 0) (b' := 0) (a := 0) (b := 0) 5 (As := []) (ci := 1) rfl calX1_imageSet imX1_imageSet seX1_imageSet mkX8_185 rfl rfl rfl rfl rfl (by decide) rfl rfl dX8_image_5 (CX1_imageSet E v1  h2) (fun v3 h4 => kqI ?_)
  exact S_iret 8 dX8_image_8 rfl
def FX8_isCentral (E : XG) (t : Nat) (p1 : Int32) (h : XH) : XP Int32 := xg (xk h t = 9) <| xb (FX8_moduleAt E t p1 h) fun v1 h2 => xg (xk h2 v1 = 2) <| xb (FX1_kernelSet E v1  h2) fun v3 h4 => xg (xk h4 v1 = 2) <| xnn (xr h4 v1 1) fun w5 => xg (xk h4 w5 = 3) <| xb (FX2_middle E w5  h4) fun v6 h7 => xjn (fun (v8 : Int32) (h9 : XH) => xg ((v8 : Int32) = 0 ∨ (v8 : Int32) = 1) <| xv v8 h9) fun (j28 : Int32 → XH → XP Int32) => if ((v3 &&& (v6 ^^^ (-1))) : Int32) = 0 then (j28 1 h7) else (j28 0 h7)
theorem CX8_isCentral (E : XG) (t : Nat) (p1 : Int32) (h : XH) : XN E mX8_isCentral eI 0 0 [.ref t, .int p1] h (FX8_isCentral E t p1 h) := by
  unfold FX8_isCentral
  refine S_enter (L := [some (.ref t), some (.int p1), none]) (by decide +kernel) rfl rfl rfl ?_
  refine S_aload_0 0 dX8_isCentral_0 ?_
  refine S_iload_1 1 dX8_isCentral_1 ?_
  refine S_callV (a' := 0) (b' := 0) (a := 0) (b := 0) 2 (As := [.int p1]) (ci := 8) rfl calX8_moduleAt imX8_moduleAt seX8_moduleAt mkX8_154 rfl rfl rfl rfl rfl (by decide) rfl rfl dX8_isCentral_2 (CX8_moduleAt E t p1 h) (fun v1 h2 => kqR ?_)
  refine S_astore_2 5 dX8_isCentral_5 rfl ?_
  refine S_aload_2 6 dX8_isCentral_6 ?_
  refine S_callV (a' := 0) (b' := 0) (a := 0) (b := 0) 7 (As := []) (ci := 1) rfl calX1_kernelSet imX1_kernelSet seX1_kernelSet mkX8_182 rfl rfl rfl rfl rfl (by decide) rfl rfl dX8_isCentral_7 (CX1_kernelSet E v1  h2) (fun v3 h4 => kqI ?_)
  refine S_aload_2 10 dX8_isCentral_10 ?_
  refine S_getR 11 fsX8_167 rfl dX8_isCentral_11 (fun w5 => ?_)
  refine S_callV (a' := 0) (b' := 0) (a := 0) (b := 0) 14 (As := []) (ci := 2) rfl calX2_middle imX2_middle seX2_middle mkX8_138 rfl rfl rfl rfl rfl (by decide) rfl rfl dX8_isCentral_14 (CX2_middle E w5  h4) (fun v6 h7 => kqI ?_)
  refine S_ic 17 (-1) dX8_isCentral_17 (by decide) ?_
  refine S_ixor 18 dX8_isCentral_18 ?_
  refine S_iand 19 dX8_isCentral_19 ?_
  refine S_join (fun jj => ∀ (v8 : Int32) (h9 : XH), XS E mX8_isCentral eI 0 0 28 [none, none, none] [.int v8] h9 (jj v8 h9)) (fun v8 h9 => ?_) (fun j28 hj28 => ?_)
  · skip
    exact S_zret 28 dX8_isCentral_28 rfl
  refine S_ifne 20 27 dX8_isCentral_20 (by decide) ?_ ?_
  · skip
    refine S_ic 27 0 dX8_isCentral_27 (by decide) ?_
    exact S_drop [0, 1, 2] rfl (hj28 _ _)
  · skip
    refine S_ic 23 1 dX8_isCentral_23 (by decide) ?_
    refine S_goto 24 28 dX8_isCentral_24 (by decide) ?_
    exact S_drop [0, 1, 2] rfl (hj28 _ _)
def FX8_fixed (E : XG) (t : Nat) (p1 : Int32) (p2 : Int32) (h : XH) : XP Int32 := xg (xk h t = 9) <| xb (FX8_moduleAt E t p1 h) fun v1 h2 => xg (xk h2 v1 = 2) <| xnn (xr h2 v1 1) fun w3 => xg (xk h2 w3 = 3) <| xb (FX2_has E w3 p2 h2) fun v4 h5 => xb (FX8_demandThere E v4 h5) fun _ h6 => xg (xk h6 v1 = 2) <| xb (FX1_stabilizer E v1 p2 h6) fun v7 h8 => xv v7 h8
theorem CX8_fixed (E : XG) (t : Nat) (p1 : Int32) (p2 : Int32) (h : XH) : XN E mX8_fixed eI 0 0 [.ref t, .int p1, .int p2] h (FX8_fixed E t p1 p2 h) := by
  unfold FX8_fixed
  refine S_enter (L := [some (.ref t), some (.int p1), some (.int p2), none]) (by decide +kernel) rfl rfl rfl ?_
  refine S_aload_0 0 dX8_fixed_0 ?_
  refine S_iload_1 1 dX8_fixed_1 ?_
  refine S_callV (a' := 0) (b' := 0) (a := 0) (b := 0) 2 (As := [.int p1]) (ci := 8) rfl calX8_moduleAt imX8_moduleAt seX8_moduleAt mkX8_154 rfl rfl rfl rfl rfl (by decide) rfl rfl dX8_fixed_2 (CX8_moduleAt E t p1 h) (fun v1 h2 => kqR ?_)
  refine S_astore_3 5 dX8_fixed_5 rfl ?_
  refine S_aload_3 6 dX8_fixed_6 ?_
  refine S_getR 7 fsX8_167 rfl dX8_fixed_7 (fun w3 => ?_)
  refine S_iload_2 10 dX8_fixed_10 ?_
  refine S_callV (a' := 0) (b' := 0) (a := 0) (b := 0) 11 (As := [.int p2]) (ci := 2) rfl calX2_has imX2_has seX2_has mkX8_128 rfl rfl rfl rfl rfl (by decide) rfl rfl dX8_fixed_11 (CX2_has E w3 p2 h2) (fun v4 h5 => kqI ?_)
  refine S_callS (a' := 0) (b' := 0) (a := 0) (b := 0) 14 (As := [.int v4]) rfl calX8_demandThere stX8_demandThere mkX8_45 rfl rfl rfl rfl rfl dX8_fixed_14 (CX8_demandThere E v4 h5) (fun _ h6 => kqU ?_)
  refine S_aload_3 17 dX8_fixed_17 ?_
  refine S_iload_2 18 dX8_fixed_18 ?_
  refine S_callV (a' := 0) (b' := 0) (a := 0) (b := 0) 19 (As := [.int p2]) (ci := 1) rfl calX1_stabilizer imX1_stabilizer seX1_stabilizer mkX8_188 rfl rfl rfl rfl rfl (by decide) rfl rfl dX8_fixed_19 (CX1_stabilizer E v1 p2 h6) (fun v7 h8 => kqI ?_)
  exact S_iret 22 dX8_fixed_22 rfl
def FX8_orbit (E : XG) (t : Nat) (p1 : Int32) (p2 : Int32) (h : XH) : XP Int32 := xg (xk h t = 9) <| xb (FX8_moduleAt E t p1 h) fun v1 h2 => xg (xk h2 v1 = 2) <| xnn (xr h2 v1 1) fun w3 => xg (xk h2 w3 = 3) <| xb (FX2_has E w3 p2 h2) fun v4 h5 => xb (FX8_demandThere E v4 h5) fun _ h6 => xg (xk h6 v1 = 2) <| xb (FX1_orbitSet E v1 p2 h6) fun v7 h8 => xv v7 h8
theorem CX8_orbit (E : XG) (t : Nat) (p1 : Int32) (p2 : Int32) (h : XH) : XN E mX8_orbit eI 0 0 [.ref t, .int p1, .int p2] h (FX8_orbit E t p1 p2 h) := by
  unfold FX8_orbit
  refine S_enter (L := [some (.ref t), some (.int p1), some (.int p2), none]) (by decide +kernel) rfl rfl rfl ?_
  refine S_aload_0 0 dX8_orbit_0 ?_
  refine S_iload_1 1 dX8_orbit_1 ?_
  refine S_callV (a' := 0) (b' := 0) (a := 0) (b := 0) 2 (As := [.int p1]) (ci := 8) rfl calX8_moduleAt imX8_moduleAt seX8_moduleAt mkX8_154 rfl rfl rfl rfl rfl (by decide) rfl rfl dX8_orbit_2 (CX8_moduleAt E t p1 h) (fun v1 h2 => kqR ?_)
  refine S_astore_3 5 dX8_orbit_5 rfl ?_
  refine S_aload_3 6 dX8_orbit_6 ?_
  refine S_getR 7 fsX8_167 rfl dX8_orbit_7 (fun w3 => ?_)
  refine S_iload_2 10 dX8_orbit_10 ?_
  refine S_callV (a' := 0) (b' := 0) (a := 0) (b := 0) 11 (As := [.int p2]) (ci := 2) rfl calX2_has imX2_has seX2_has mkX8_128 rfl rfl rfl rfl rfl (by decide) rfl rfl dX8_orbit_11 (CX2_has E w3 p2 h2) (fun v4 h5 => kqI ?_)
  refine S_callS (a' := 0) (b' := 0) (a := 0) (b := 0) 14 (As := [.int v4]) rfl calX8_demandThere stX8_demandThere mkX8_45 rfl rfl rfl rfl rfl dX8_orbit_14 (CX8_demandThere E v4 h5) (fun _ h6 => kqU ?_)
  refine S_aload_3 17 dX8_orbit_17 ?_
  refine S_iload_2 18 dX8_orbit_18 ?_
  refine S_callV (a' := 0) (b' := 0) (a := 0) (b := 0) 19 (As := [.int p2]) (ci := 1) rfl calX1_orbitSet imX1_orbitSet seX1_orbitSet mkX8_191 rfl rfl rfl rfl rfl (by decide) rfl rfl dX8_orbit_19 (CX1_orbitSet E v1 p2 h6) (fun v7 h8 => kqI ?_)
  exact S_iret 22 dX8_orbit_22 rfl
def FX8_lawfulModuleAt (E : XG) (t : Nat) (p1 : Int32) (h : XH) : XP Nat := xg (xk h t = 9) <| xb (FX8_moduleAt E t p1 h) fun v1 h2 => xg (xk h2 v1 = 2) <| xjn (fun (v3 : Int32) (h4 : XH) => xb (FX8_demandFit E v3 h4) fun _ h5 => xv v1 h5) fun (j18 : Int32 → XH → XP Nat) => if ((xi h2 v1 7) : Int32) = 0 then (j18 1 h2) else (j18 0 h2)
theorem CX8_lawfulModuleAt (E : XG) (t : Nat) (p1 : Int32) (h : XH) : XN E mX8_lawfulModuleAt eR 0 0 [.ref t, .int p1] h (FX8_lawfulModuleAt E t p1 h) := by
  unfold FX8_lawfulModuleAt
  refine S_enter (L := [some (.ref t), some (.int p1), none]) (by decide +kernel) rfl rfl rfl ?_
  refine S_aload_0 0 dX8_lawfulModuleAt_0 ?_
  refine S_iload_1 1 dX8_lawfulModuleAt_1 ?_
  refine S_callV (a' := 0) (b' := 0) (a := 0) (b := 0) 2 (As := [.int p1]) (ci := 8) rfl calX8_moduleAt imX8_moduleAt seX8_moduleAt mkX8_154 rfl rfl rfl rfl rfl (by decide) rfl rfl dX8_lawfulModuleAt_2 (CX8_moduleAt E t p1 h) (fun v1 h2 => kqR ?_)
  refine S_astore_2 5 dX8_lawfulModuleAt_5 rfl ?_
  refine S_aload_2 6 dX8_lawfulModuleAt_6 ?_
  refine S_getI 7 fsX8_176 rfl dX8_lawfulModuleAt_7 ?_
  refine S_join (fun jj => ∀ (v3 : Int32) (h4 : XH), XS E mX8_lawfulModuleAt eR 0 0 18 [none, none, some (.ref v1)] [.int v3] h4 (jj v3 h4)) (fun v3 h4 => ?_) (fun j18 hj18 => ?_)
  · skip
    refine S_callS (a' := 0) (b' := 0) (a := 0) (b := 0) 18 (As := [.int v3]) rfl calX8_demandFit stX8_demandFit mkX8_75 rfl rfl rfl rfl rfl dX8_lawfulModuleAt_18 (CX8_demandFit E v3 h4) (fun _ h5 => kqU ?_)
    refine S_aload_2 21 dX8_lawfulModuleAt_21 ?_
    exact S_aret 22 dX8_lawfulModuleAt_22 rfl
  refine S_ifne 10 17 dX8_lawfulModuleAt_10 (by decide) ?_ ?_
  · skip
    refine S_ic 17 0 dX8_lawfulModuleAt_17 (by decide) ?_
    exact S_drop [0, 1] rfl (hj18 _ _)
  · skip
    refine S_ic 13 1 dX8_lawfulModuleAt_13 (by decide) ?_
    refine S_goto 14 18 dX8_lawfulModuleAt_14 (by decide) ?_
    exact S_drop [0, 1] rfl (hj18 _ _)
def FX8_classes (E : XG) (t : Nat) (p1 : Int32) (h : XH) : XP Int32 := xg (xk h t = 9) <| xb (FX8_lawfulModuleAt E t p1 h) fun v1 h2 => xg (xk h2 v1 = 2) <| xb (FX1_freshPair E v1  h2) fun v3 h4 => xg (xk h4 v3 = 5) <| xv (xi h4 v3 4) h4
theorem CX8_classes (E : XG) (t : Nat) (p1 : Int32) (h : XH) : XN E mX8_classes eI 0 0 [.ref t, .int p1] h (FX8_classes E t p1 h) := by
  unfold FX8_classes
  refine S_enter (L := [some (.ref t), some (.int p1)]) (by decide +kernel) rfl rfl rfl ?_
  refine S_aload_0 0 dX8_classes_0 ?_
  refine S_iload_1 1 dX8_classes_1 ?_
  refine S_callV (a' := 0) (b' := 0) (a := 0) (b := 0) 2 (As := [.int p1]) (ci := 8) rfl calX8_lawfulModuleAt imX8_lawfulModuleAt seX8_lawfulModuleAt mkX8_194 rfl rfl rfl rfl rfl (by decide) rfl rfl dX8_classes_2 (CX8_lawfulModuleAt E t p1 h) (fun v1 h2 => kqR ?_)
  refine S_callV (a' := 0) (b' := 0) (a := 0) (b := 0) 5 (As := []) (ci := 1) rfl calX1_freshPair imX1_freshPair seX1_freshPair mkX8_197 rfl rfl rfl rfl rfl (by decide) rfl rfl dX8_classes_5 (CX1_freshPair E v1  h2) (fun v3 h4 => kqR ?_)
  refine S_getI 8 fsX8_201 rfl dX8_classes_8 ?_
  exact S_iret 11 dX8_classes_11 rfl
def FX8_classOf (E : XG) (t : Nat) (p1 : Int32) (p2 : Int32) (h : XH) : XP Int32 := xg (xk h t = 9) <| xb (FX8_moduleAt E t p1 h) fun v1 h2 => xg (xk h2 v1 = 2) <| xnn (xr h2 v1 2) fun w3 => xg (xk h2 w3 = 3) <| xb (FX2_has E w3 p2 h2) fun v4 h5 => xb (FX8_demandThere E v4 h5) fun _ h6 => xg (xk h6 v1 = 2) <| xjn (fun (v7 : Int32) (h8 : XH) => xb (FX8_demandFit E v7 h8) fun _ h9 => xg (xk h9 v1 = 2) <| xb (FX1_freshPair E v1  h9) fun v10 h11 => xg (xk h11 v10 = 5) <| xb (FX4_classHolding E v10 p2 h11) fun v12 h13 => xv v12 h13) fun (j29 : Int32 → XH → XP Int32) => if ((xi h6 v1 7) : Int32) = 0 then (j29 1 h6) else (j29 0 h6)
theorem CX8_classOf (E : XG) (t : Nat) (p1 : Int32) (p2 : Int32) (h : XH) : XN E mX8_classOf eI 0 0 [.ref t, .int p1, .int p2] h (FX8_classOf E t p1 p2 h) := by
  unfold FX8_classOf
  refine S_enter (L := [some (.ref t), some (.int p1), some (.int p2), none]) (by decide +kernel) rfl rfl rfl ?_
  refine S_aload_0 0 dX8_classOf_0 ?_
  refine S_iload_1 1 dX8_classOf_1 ?_
  refine S_callV (a' := 0) (b' := 0) (a := 0) (b := 0) 2 (As := [.int p1]) (ci := 8) rfl calX8_moduleAt imX8_moduleAt seX8_moduleAt mkX8_154 rfl rfl rfl rfl rfl (by decide) rfl rfl dX8_classOf_2 (CX8_moduleAt E t p1 h) (fun v1 h2 => kqR ?_)
  refine S_astore_3 5 dX8_classOf_5 rfl ?_
  refine S_aload_3 6 dX8_classOf_6 ?_
  refine S_getR 7 fsX8_158 rfl dX8_classOf_7 (fun w3 => ?_)
  refine S_iload_2 10 dX8_classOf_10 ?_
  refine S_callV (a' := 0) (b' := 0) (a := 0) (b := 0) 11 (As := [.int p2]) (ci := 2) rfl calX2_has imX2_has seX2_has mkX8_128 rfl rfl rfl rfl rfl (by decide) rfl rfl dX8_classOf_11 (CX2_has E w3 p2 h2) (fun v4 h5 => kqI ?_)
  refine S_callS (a' := 0) (b' := 0) (a := 0) (b := 0) 14 (As := [.int v4]) rfl calX8_demandThere stX8_demandThere mkX8_45 rfl rfl rfl rfl rfl dX8_classOf_14 (CX8_demandThere E v4 h5) (fun _ h6 => kqU ?_)
  refine S_aload_3 17 dX8_classOf_17 ?_
  refine S_getI 18 fsX8_176 rfl dX8_classOf_18 ?_
  refine S_join (fun jj => ∀ (v7 : Int32) (h8 : XH), XS E mX8_classOf eI 0 0 29 [none, none, some (.int p2), some (.ref v1)] [.int v7] h8 (jj v7 h8)) (fun v7 h8 => ?_) (fun j29 hj29 => ?_)
  · skip
    refine S_callS (a' := 0) (b' := 0) (a := 0) (b := 0) 29 (As := [.int v7]) rfl calX8_demandFit stX8_demandFit mkX8_75 rfl rfl rfl rfl rfl dX8_classOf_29 (CX8_demandFit E v7 h8) (fun _ h9 => kqU ?_)
    refine S_aload_3 32 dX8_classOf_32 ?_
    refine S_callV (a' := 0) (b' := 0) (a := 0) (b := 0) 33 (As := []) (ci := 1) rfl calX1_freshPair imX1_freshPair seX1_freshPair mkX8_197 rfl rfl rfl rfl rfl (by decide) rfl rfl dX8_classOf_33 (CX1_freshPair E v1  h9) (fun v10 h11 => kqR ?_)
    refine S_iload_2 36 dX8_classOf_36 ?_
    refine S_callV (a' := 0) (b' := 0) (a := 0) (b := 0) 37 (As := [.int p2]) (ci := 4) rfl calX4_classHolding imX4_classHolding seX4_classHolding mkX8_206 rfl rfl rfl rfl rfl (by decide) rfl rfl dX8_classOf_37 (CX4_classHolding E v10 p2 h11) (fun v12 h13 => kqI ?_)
    exact S_iret 40 dX8_classOf_40 rfl
  refine S_ifne 21 28 dX8_classOf_21 (by decide) ?_ ?_
  · skip
    refine S_ic 28 0 dX8_classOf_28 (by decide) ?_
    exact S_drop [0, 1] rfl (hj29 _ _)
  · skip
    refine S_ic 24 1 dX8_classOf_24 (by decide) ?_
    refine S_goto 25 29 dX8_classOf_25 (by decide) ?_
    exact S_drop [0, 1] rfl (hj29 _ _)
