/-! Methods as functions, 19. -/
set_option linter.unusedVariables false
set_option maxRecDepth 10000
def FX9_setBottom (E : XG) (t : Nat) (p1 : Int32) (p2 : Int32) (p3 : Int32) (h : XH) : XP Int32 := xg (xk h t = 10) <| xb (FX9_noBottom E t p1 p2 h) fun v1 h2 => xjn (fun  (h3 : XH) => xv 0 h3) fun (j42 : XH → XP Int32) => if (v1 : Int32) = 0 then (xg (xk h2 t = 10) <| xnn (xr h2 t 10) fun w4 => xg (xk h2 w4 = 12 ∧ xin p1 (xn h2 w4)) <| xg (xk h2 t = 10) <| xb (FX9_lowers E t (xi h2 w4 (p1 : Int32).toNatClampNeg) h2) fun v5 h6 => xb (FX9_in E p3 0 (v5 - 1) h6) fun v7 h8 => xjn (fun (v9 : Int32) (h10 : XH) => xg (xk h10 t = 10) <| xb (FX9_refuse E t v9 2 h10) fun v11 h12 => if (v11 : Int32) = 0 then (xg (xk h12 t = 10) <| xb (FX9_begins E t  h12) fun _ h13 => xg (xk h13 t = 10) <| xb (FX9_bottomOf E t p1 p2 h13) fun v14 h15 => xg (xk h15 t = 10) <| xnn (xr h15 t 12) fun w16 => xg (xk h15 w16 = 12 ∧ xin ((496 + (8 * p1)) + p2) (xn h15 w16)) <| xlt (yi h15 w16 (((496 + (8 * p1)) + p2) : Int32).toNatClampNeg p3) fun h17 => xv v14 h17) else (j42 h12)) fun (j35 : Int32 → XH → XP Int32) => if (v7 : Int32) = 0 then (j35 1 h8) else (j35 0 h8)) else (j42 h2)
theorem CX9_setBottom (E : XG) (t : Nat) (p1 : Int32) (p2 : Int32) (p3 : Int32) (h : XH) : XN E mX9_setBottom eI 0 0 [.ref t, .int p1, .int p2, .int p3] h (FX9_setBottom E t p1 p2 p3 h) := by
  unfold FX9_setBottom
  refine S_enter (L := [some (.ref t), some (.int p1), some (.int p2), some (.int p3), none]) (by decide +kernel) rfl rfl rfl ?_
  refine S_aload_0 0 dX9_setBottom_0 ?_
  refine S_iload_1 1 dX9_setBottom_1 ?_
  refine S_iload_2 2 dX9_setBottom_2 ?_
  refine S_callV (a' := 0) (b' := 0) (a := 0) (b := 0) 3 (As := [.int p1, .int p2]) (ci := 9) rfl calX9_noBottom imX9_noBottom seX9_noBottom mkX9_399 rfl rfl rfl rfl rfl (by decide) rfl rfl dX9_setBottom_3 (CX9_noBottom E t p1 p2 h) (fun v1 h2 => kqI ?_)
  refine S_join (fun jj => ∀  (h3 : XH), XS E mX9_setBottom eI 0 0 42 [none, none, none, none, none] [] h3 (jj  h3)) (fun  h3 => ?_) (fun j42 hj42 => ?_)
  · skip
    refine S_ic 42 0 dX9_setBottom_42 (by decide) ?_
    exact S_iret 43 dX9_setBottom_43 rfl
  refine S_ifne 6 42 dX9_setBottom_6 (by decide) ?_ ?_
  · skip
    exact S_drop [0, 1, 2, 3] rfl (hj42 _)
  · skip
    refine S_aload_0 9 dX9_setBottom_9 ?_
    refine S_iload_3 10 dX9_setBottom_10 ?_
    refine S_ic 11 0 dX9_setBottom_11 (by decide) ?_
    refine S_aload_0 12 dX9_setBottom_12 ?_
    refine S_aload_0 13 dX9_setBottom_13 ?_
    refine S_getR 14 fsX9_25 rfl dX9_setBottom_14 (fun w4 => ?_)
    refine S_iload_1 17 dX9_setBottom_17 ?_
    refine S_iald 18 dX9_setBottom_18 ?_
    refine S_callV (a' := 0) (b' := 0) (a := 0) (b := 0) 19 (As := [.int (xi h2 w4 (p1 : Int32).toNatClampNeg)]) (ci := 9) rfl calX9_lowers imX9_lowers seX9_lowers mkX9_332 rfl rfl rfl rfl rfl (by decide) rfl rfl dX9_setBottom_19 (CX9_lowers E t (xi h2 w4 (p1 : Int32).toNatClampNeg) h2) (fun v5 h6 => kqI ?_)
    refine S_ic 22 1 dX9_setBottom_22 (by decide) ?_
    refine S_isub 23 dX9_setBottom_23 ?_
    refine S_callS (a' := 0) (b' := 0) (a := 0) (b := 0) 24 (As := [.int p3, .int 0, .int (v5 - 1)]) rfl calX9_in stX9_in mkX9_152 rfl rfl rfl rfl rfl dX9_setBottom_24 (CX9_in E p3 0 (v5 - 1) h6) (fun v7 h8 => kqI ?_)
    refine S_join (fun jj => ∀ (v9 : Int32) (h10 : XH), XS E mX9_setBottom eI 0 0 35 [some (.ref t), some (.int p1), some (.int p2), some (.int p3), none] [.int v9, .ref t] h10 (jj v9 h10)) (fun v9 h10 => ?_) (fun j35 hj35 => ?_)
    · skip
      refine S_ic 35 2 dX9_setBottom_35 (by decide) ?_
      refine S_callV (a' := 0) (b' := 0) (a := 0) (b := 0) 36 (As := [.int v9, .int 2]) (ci := 9) rfl calX9_refuse imX9_refuse seX9_refuse mkX9_94 rfl rfl rfl rfl rfl (by decide) rfl rfl dX9_setBottom_36 (CX9_refuse E t v9 2 h10) (fun v11 h12 => kqI ?_)
      refine S_ifeq 39 44 dX9_setBottom_39 (by decide) ?_ ?_
      · skip
        refine S_aload_0 44 dX9_setBottom_44 ?_
        refine S_callV (a' := 0) (b' := 0) (a := 0) (b := 0) 45 (As := []) (ci := 9) rfl calX9_begins imX9_begins seX9_begins mkX9_441 rfl rfl rfl rfl rfl (by decide) rfl rfl dX9_setBottom_45 (CX9_begins E t  h12) (fun _ h13 => kqU ?_)
        refine S_aload_0 48 dX9_setBottom_48 ?_
        refine S_iload_1 49 dX9_setBottom_49 ?_
        refine S_iload_2 50 dX9_setBottom_50 ?_
        refine S_callV (a' := 0) (b' := 0) (a := 0) (b := 0) 51 (As := [.int p1, .int p2]) (ci := 9) rfl calX9_bottomOf imX9_bottomOf seX9_bottomOf mkX9_402 rfl rfl rfl rfl rfl (by decide) rfl rfl dX9_setBottom_51 (CX9_bottomOf E t p1 p2 h13) (fun v14 h15 => kqI ?_)
        refine S_istore_4 54 dX9_setBottom_54 rfl ?_
        refine S_aload_0 56 dX9_setBottom_56 ?_
        refine S_getR 57 fsX9_31 rfl dX9_setBottom_57 (fun w16 => ?_)
        refine S_sip 60 496 dX9_setBottom_60 (by decide) ?_
        refine S_bip 63 8 dX9_setBottom_63 (by decide) ?_
        refine S_iload_1 65 dX9_setBottom_65 ?_
        refine S_imul 66 dX9_setBottom_66 ?_
        refine S_iadd 67 dX9_setBottom_67 ?_
        refine S_iload_2 68 dX9_setBottom_68 ?_
        refine S_iadd 69 dX9_setBottom_69 ?_
        refine S_iload_3 70 dX9_setBottom_70 ?_
        refine S_iast 71 dX9_setBottom_71 (fun h17 => ?_)
        refine S_iload_4 72 dX9_setBottom_72 ?_
        exact S_iret 74 dX9_setBottom_74 rfl
      · skip
        exact S_drop [0, 1, 2, 3] rfl (hj42 _)
    refine S_ifne 27 34 dX9_setBottom_27 (by decide) ?_ ?_
    · skip
      refine S_ic 34 0 dX9_setBottom_34 (by decide) ?_
      exact S_drop [] rfl (hj35 _ _)
    · skip
      refine S_ic 30 1 dX9_setBottom_30 (by decide) ?_
      refine S_goto 31 35 dX9_setBottom_31 (by decide) ?_
      exact S_drop [] rfl (hj35 _ _)
def FX9_undo (E : XG) (t : Nat) (h : XH) : XP Int32 := xg (xk h t = 10) <| xlt (yi h t 0 0) fun h1 => xg (xk h1 t = 10) <| xjn (fun (v2 : Int32) (h3 : XH) => xg (xk h3 t = 10) <| xb (FX9_refuse E t v2 1 h3) fun v4 h5 => if (v4 : Int32) = 0 then (xg (xk h5 t = 10) <| xg (xk h5 t = 10) <| xlt (yi h5 t 14 ((xi h5 t 14) - 1)) fun h6 => xg (xk h6 t = 10) <| xg (xk h6 t = 10) <| xb (FX9_fetches E t (xi h6 t 14) h6) fun _ h7 => xg (xk h7 t = 10) <| xv (xi h7 t 14) h7) else (xv 0 h5)) fun (j18 : Int32 → XH → XP Int32) => if ((xi h1 t 14) : Int32) = 0 then (j18 1 h1) else (j18 0 h1)
theorem CX9_undo (E : XG) (t : Nat) (h : XH) : XN E mX9_undo eI 0 0 [.ref t] h (FX9_undo E t h) := by
  unfold FX9_undo
  refine S_enter (L := [some (.ref t)]) (by decide +kernel) rfl rfl rfl ?_
  refine S_aload_0 0 dX9_undo_0 ?_
  refine S_ic 1 0 dX9_undo_1 (by decide) ?_
  refine S_putI 2 frX9_87 rfl (fun q => by cases q) dX9_undo_2 (fun h1 => ?_)
  refine S_aload_0 5 dX9_undo_5 ?_
  refine S_aload_0 6 dX9_undo_6 ?_
  refine S_getI 7 fsX9_269 rfl dX9_undo_7 ?_
  refine S_join (fun jj => ∀ (v2 : Int32) (h3 : XH), XS E mX9_undo eI 0 0 18 [some (.ref t)] [.int v2, .ref t] h3 (jj v2 h3)) (fun v2 h3 => ?_) (fun j18 hj18 => ?_)
  · skip
    refine S_ic 18 1 dX9_undo_18 (by decide) ?_
    refine S_callV (a' := 0) (b' := 0) (a := 0) (b := 0) 19 (As := [.int v2, .int 1]) (ci := 9) rfl calX9_refuse imX9_refuse seX9_refuse mkX9_94 rfl rfl rfl rfl rfl (by decide) rfl rfl dX9_undo_19 (CX9_refuse E t v2 1 h3) (fun v4 h5 => kqI ?_)
    refine S_ifeq 22 27 dX9_undo_22 (by decide) ?_ ?_
    · skip
      refine S_aload_0 27 dX9_undo_27 ?_
      refine S_dup 28 dX9_undo_28 rfl ?_
      refine S_getI 29 fsX9_269 rfl dX9_undo_29 ?_
      refine S_ic 32 1 dX9_undo_32 (by decide) ?_
      refine S_isub 33 dX9_undo_33 ?_
      refine S_putI 34 frX9_269 rfl (fun q => by cases q) dX9_undo_34 (fun h6 => ?_)
      refine S_aload_0 37 dX9_undo_37 ?_
      refine S_aload_0 38 dX9_undo_38 ?_
      refine S_getI 39 fsX9_269 rfl dX9_undo_39 ?_
      refine S_callV (a' := 0) (b' := 0) (a := 0) (b := 0) 42 (As := [.int (xi h6 t 14)]) (ci := 9) rfl calX9_fetches imX9_fetches seX9_fetches mkX9_457 rfl rfl rfl rfl rfl (by decide) rfl rfl dX9_undo_42 (CX9_fetches E t (xi h6 t 14) h6) (fun _ h7 => kqU ?_)
      refine S_aload_0 45 dX9_undo_45 ?_
      refine S_getI 46 fsX9_269 rfl dX9_undo_46 ?_
      exact S_iret 49 dX9_undo_49 rfl
    · skip
      refine S_ic 25 0 dX9_undo_25 (by decide) ?_
      exact S_iret 26 dX9_undo_26 rfl
  refine S_ifne 10 17 dX9_undo_10 (by decide) ?_ ?_
  · skip
    refine S_ic 17 0 dX9_undo_17 (by decide) ?_
    exact S_drop [] rfl (hj18 _ _)
  · skip
    refine S_ic 13 1 dX9_undo_13 (by decide) ?_
    refine S_goto 14 18 dX9_undo_14 (by decide) ?_
    exact S_drop [] rfl (hj18 _ _)
def FX9_undoable (E : XG) (t : Nat) (h : XH) : XP Int32 := xg (xk h t = 10) <| xlt (yi h t 0 0) fun h1 => xg (xk h1 t = 10) <| xjn (fun (v2 : Int32) (h3 : XH) => xv v2 h3) fun (j20 : Int32 → XH → XP Int32) => if ((xi h1 t 1) : Int32) = 0 then (j20 0 h1) else (xg (xk h1 t = 10) <| j20 (xi h1 t 14) h1)
theorem CX9_undoable (E : XG) (t : Nat) (h : XH) : XN E mX9_undoable eI 0 0 [.ref t] h (FX9_undoable E t h) := by
  unfold FX9_undoable
  refine S_enter (L := [some (.ref t)]) (by decide +kernel) rfl rfl rfl ?_
  refine S_aload_0 0 dX9_undoable_0 ?_
  refine S_ic 1 0 dX9_undoable_1 (by decide) ?_
  refine S_putI 2 frX9_87 rfl (fun q => by cases q) dX9_undoable_2 (fun h1 => ?_)
  refine S_aload_0 5 dX9_undoable_5 ?_
  refine S_getI 6 fsX9_90 rfl dX9_undoable_6 ?_
  refine S_join (fun jj => ∀ (v2 : Int32) (h3 : XH), XS E mX9_undoable eI 0 0 20 [none] [.int v2] h3 (jj v2 h3)) (fun v2 h3 => ?_) (fun j20 hj20 => ?_)
  · skip
    exact S_iret 20 dX9_undoable_20 rfl
  refine S_ifeq 9 19 dX9_undoable_9 (by decide) ?_ ?_
  · skip
    refine S_ic 19 0 dX9_undoable_19 (by decide) ?_
    exact S_drop [0] rfl (hj20 _ _)
  · skip
    refine S_aload_0 12 dX9_undoable_12 ?_
    refine S_getI 13 fsX9_269 rfl dX9_undoable_13 ?_
    refine S_goto 16 20 dX9_undoable_16 (by decide) ?_
    exact S_drop [0] rfl (hj20 _ _)
def FX9_save (E : XG) (t : Nat) (p1 : Int32) (h : XH) : XP Int32 := xg (xk h t = 10) <| xb (FX9_notLoaded E t  h) fun v1 h2 => xjn (fun  (h3 : XH) => xv 0 h3) fun (j29 : XH → XP Int32) => if (v1 : Int32) = 0 then (xb (FX9_in E p1 0 1 h2) fun v4 h5 => xjn (fun (v6 : Int32) (h7 : XH) => xg (xk h7 t = 10) <| xb (FX9_refuse E t v6 2 h7) fun v8 h9 => if (v8 : Int32) = 0 then (xg (xk h9 t = 10) <| xb (FX9_keeps E t (8 + p1) h9) fun _ h10 => xg (xk h10 t = 10) <| xnn (xr h10 t 15) fun w11 => xg (xk h10 w11 = 14 ∧ xin p1 (xn h10 w11)) <| xlt (yi h10 w11 (p1 : Int32).toNatClampNeg (vp_nar .boolean 1)) fun h12 => xg (xk h12 t = 10) <| xb (FX9_lawfulNow E t  h12) fun v13 h14 => xb (FX9_ones E v13 h14) fun v15 h16 => xv v15 h16) else (j29 h9)) fun (j22 : Int32 → XH → XP Int32) => if (v4 : Int32) = 0 then (j22 1 h5) else (j22 0 h5)) else (j29 h2)
theorem CX9_save (E : XG) (t : Nat) (p1 : Int32) (h : XH) : XN E mX9_save eI 0 0 [.ref t, .int p1] h (FX9_save E t p1 h) := by
  unfold FX9_save
  refine S_enter (L := [some (.ref t), some (.int p1)]) (by decide +kernel) rfl rfl rfl ?_
  refine S_aload_0 0 dX9_save_0 ?_
  refine S_callV (a' := 0) (b' := 0) (a := 0) (b := 0) 1 (As := []) (ci := 9) rfl calX9_notLoaded imX9_notLoaded seX9_notLoaded mkX9_272 rfl rfl rfl rfl rfl (by decide) rfl rfl dX9_save_1 (CX9_notLoaded E t  h) (fun v1 h2 => kqI ?_)
  refine S_join (fun jj => ∀  (h3 : XH), XS E mX9_save eI 0 0 29 [none, none] [] h3 (jj  h3)) (fun  h3 => ?_) (fun j29 hj29 => ?_)
  · skip
    refine S_ic 29 0 dX9_save_29 (by decide) ?_
    exact S_iret 30 dX9_save_30 rfl
  refine S_ifne 4 29 dX9_save_4 (by decide) ?_ ?_
  · skip
    exact S_drop [0, 1] rfl (hj29 _)
  · skip
    refine S_aload_0 7 dX9_save_7 ?_
    refine S_iload_1 8 dX9_save_8 ?_
    refine S_ic 9 0 dX9_save_9 (by decide) ?_
    refine S_ic 10 1 dX9_save_10 (by decide) ?_
    refine S_callS (a' := 0) (b' := 0) (a := 0) (b := 0) 11 (As := [.int p1, .int 0, .int 1]) rfl calX9_in stX9_in mkX9_152 rfl rfl rfl rfl rfl dX9_save_11 (CX9_in E p1 0 1 h2) (fun v4 h5 => kqI ?_)
    refine S_join (fun jj => ∀ (v6 : Int32) (h7 : XH), XS E mX9_save eI 0 0 22 [some (.ref t), some (.int p1)] [.int v6, .ref t] h7 (jj v6 h7)) (fun v6 h7 => ?_) (fun j22 hj22 => ?_)
    · skip
      refine S_ic 22 2 dX9_save_22 (by decide) ?_
      refine S_callV (a' := 0) (b' := 0) (a := 0) (b := 0) 23 (As := [.int v6, .int 2]) (ci := 9) rfl calX9_refuse imX9_refuse seX9_refuse mkX9_94 rfl rfl rfl rfl rfl (by decide) rfl rfl dX9_save_23 (CX9_refuse E t v6 2 h7) (fun v8 h9 => kqI ?_)
      refine S_ifeq 26 31 dX9_save_26 (by decide) ?_ ?_
      · skip
        refine S_aload_0 31 dX9_save_31 ?_
        refine S_bip 32 8 dX9_save_32 (by decide) ?_
        refine S_iload_1 34 dX9_save_34 ?_
        refine S_iadd 35 dX9_save_35 ?_
        refine S_callV (a' := 0) (b' := 0) (a := 0) (b := 0) 36 (As := [.int (8 + p1)]) (ci := 9) rfl calX9_keeps imX9_keeps seX9_keeps mkX9_438 rfl rfl rfl rfl rfl (by decide) rfl rfl dX9_save_36 (CX9_keeps E t (8 + p1) h9) (fun _ h10 => kqU ?_)
        refine S_aload_0 39 dX9_save_39 ?_
        refine S_getR 40 fsX9_37 rfl dX9_save_40 (fun w11 => ?_)
        refine S_iload_1 43 dX9_save_43 ?_
        refine S_ic 44 1 dX9_save_44 (by decide) ?_
        refine S_zast 45 dX9_save_45 (fun h12 => ?_)
        refine S_aload_0 46 dX9_save_46 ?_
        refine S_callV (a' := 0) (b' := 0) (a := 0) (b := 0) 47 (As := []) (ci := 9) rfl calX9_lawfulNow imX9_lawfulNow seX9_lawfulNow mkX9_353 rfl rfl rfl rfl rfl (by decide) rfl rfl dX9_save_47 (CX9_lawfulNow E t  h12) (fun v13 h14 => kqI ?_)
        refine S_callS (a' := 0) (b' := 0) (a := 0) (b := 0) 50 (As := [.int v13]) rfl calX9_ones stX9_ones mkX9_420 rfl rfl rfl rfl rfl dX9_save_50 (CX9_ones E v13 h14) (fun v15 h16 => kqI ?_)
        exact S_iret 53 dX9_save_53 rfl
      · skip
        exact S_drop [0, 1] rfl (hj29 _)
    refine S_ifne 14 21 dX9_save_14 (by decide) ?_ ?_
    · skip
      refine S_ic 21 0 dX9_save_21 (by decide) ?_
      exact S_drop [] rfl (hj22 _ _)
    · skip
      refine S_ic 17 1 dX9_save_17 (by decide) ?_
      refine S_goto 18 22 dX9_save_18 (by decide) ?_
      exact S_drop [] rfl (hj22 _ _)
def FX9_restore (E : XG) (t : Nat) (p1 : Int32) (h : XH) : XP Int32 := xg (xk h t = 10) <| xlt (yi h t 0 0) fun h1 => xb (FX9_in E p1 0 1 h1) fun v2 h3 => xjn (fun (v4 : Int32) (h5 : XH) => xg (xk h5 t = 10) <| xb (FX9_refuse E t v4 1 h5) fun v6 h7 => xjn (fun  (h8 : XH) => xv 0 h8) fun (j49 : XH → XP Int32) => if (v6 : Int32) = 0 then (xg (xk h7 t = 10) <| xnn (xr h7 t 15) fun w9 => xg (xk h7 w9 = 14 ∧ xin p1 (xn h7 w9)) <| xjn (fun (v10 : Int32) (h11 : XH) => xg (xk h11 t = 10) <| xb (FX9_refuse E t v10 2 h11) fun v12 h13 => if (v12 : Int32) = 0 then (xg (xk h13 t = 10) <| xb (FX9_fetches E t (8 + p1) h13) fun _ h14 => xg (xk h14 t = 10) <| xlt (yi h14 t 14 0) fun h15 => xg (xk h15 t = 10) <| xb (FX9_lawfulNow E t  h15) fun v16 h17 => xb (FX9_ones E v16 h17) fun v18 h19 => xv v18 h19) else (j49 h13)) fun (j42 : Int32 → XH → XP Int32) => if ((xi h7 w9 (p1 : Int32).toNatClampNeg) : Int32) = 0 then (j42 1 h7) else (j42 0 h7)) else (j49 h7)) fun (j20 : Int32 → XH → XP Int32) => if (v2 : Int32) = 0 then (j20 1 h3) else (j20 0 h3)
theorem CX9_restore (E : XG) (t : Nat) (p1 : Int32) (h : XH) : XN E mX9_restore eI 0 0 [.ref t, .int p1] h (FX9_restore E t p1 h) := by
  unfold FX9_restore
  refine S_enter (L := [some (.ref t), some (.int p1)]) (by decide +kernel) rfl rfl rfl ?_
  refine S_aload_0 0 dX9_restore_0 ?_
  refine S_ic 1 0 dX9_restore_1 (by decide) ?_
  refine S_putI 2 frX9_87 rfl (fun q => by cases q) dX9_restore_2 (fun h1 => ?_)
  refine S_aload_0 5 dX9_restore_5 ?_
  refine S_iload_1 6 dX9_restore_6 ?_
  refine S_ic 7 0 dX9_restore_7 (by decide) ?_
  refine S_ic 8 1 dX9_restore_8 (by decide) ?_
  refine S_callS (a' := 0) (b' := 0) (a := 0) (b := 0) 9 (As := [.int p1, .int 0, .int 1]) rfl calX9_in stX9_in mkX9_152 rfl rfl rfl rfl rfl dX9_restore_9 (CX9_in E p1 0 1 h1) (fun v2 h3 => kqI ?_)
  refine S_join (fun jj => ∀ (v4 : Int32) (h5 : XH), XS E mX9_restore eI 0 0 20 [some (.ref t), some (.int p1)] [.int v4, .ref t] h5 (jj v4 h5)) (fun v4 h5 => ?_) (fun j20 hj20 => ?_)
  · skip
    refine S_ic 20 1 dX9_restore_20 (by decide) ?_
    refine S_callV (a' := 0) (b' := 0) (a := 0) (b := 0) 21 (As := [.int v4, .int 1]) (ci := 9) rfl calX9_refuse imX9_refuse seX9_refuse mkX9_94 rfl rfl rfl rfl rfl (by decide) rfl rfl dX9_restore_21 (CX9_refuse E t v4 1 h5) (fun v6 h7 => kqI ?_)
    refine S_join (fun jj => ∀  (h8 : XH), XS E mX9_restore eI 0 0 49 [none, none] [] h8 (jj  h8)) (fun  h8 => ?_) (fun j49 hj49 => ?_)
    · skip
      refine S_ic 49 0 dX9_restore_49 (by decide) ?_
      exact S_iret 50 dX9_restore_50 rfl
    refine S_ifne 24 49 dX9_restore_24 (by decide) ?_ ?_
    · skip
      exact S_drop [0, 1] rfl (hj49 _)
    · skip
      refine S_aload_0 27 dX9_restore_27 ?_
      refine S_aload_0 28 dX9_restore_28 ?_
      refine S_getR 29 fsX9_37 rfl dX9_restore_29 (fun w9 => ?_)
      refine S_iload_1 32 dX9_restore_32 ?_
      refine S_zald 33 dX9_restore_33 ?_
      refine S_join (fun jj => ∀ (v10 : Int32) (h11 : XH), XS E mX9_restore eI 0 0 42 [some (.ref t), some (.int p1)] [.int v10, .ref t] h11 (jj v10 h11)) (fun v10 h11 => ?_) (fun j42 hj42 => ?_)
      · skip
        refine S_ic 42 2 dX9_restore_42 (by decide) ?_
        refine S_callV (a' := 0) (b' := 0) (a := 0) (b := 0) 43 (As := [.int v10, .int 2]) (ci := 9) rfl calX9_refuse imX9_refuse seX9_refuse mkX9_94 rfl rfl rfl rfl rfl (by decide) rfl rfl dX9_restore_43 (CX9_refuse E t v10 2 h11) (fun v12 h13 => kqI ?_)
        refine S_ifeq 46 51 dX9_restore_46 (by decide) ?_ ?_
        · skip
          refine S_aload_0 51 dX9_restore_51 ?_
          refine S_bip 52 8 dX9_restore_52 (by decide) ?_
          refine S_iload_1 54 dX9_restore_54 ?_
          refine S_iadd 55 dX9_restore_55 ?_
          refine S_callV (a' := 0) (b' := 0) (a := 0) (b := 0) 56 (As := [.int (8 + p1)]) (ci := 9) rfl calX9_fetches imX9_fetches seX9_fetches mkX9_457 rfl rfl rfl rfl rfl (by decide) rfl rfl dX9_restore_56 (CX9_fetches E t (8 + p1) h13) (fun _ h14 => kqU ?_)
          refine S_aload_0 59 dX9_restore_59 ?_
          refine S_ic 60 0 dX9_restore_60 (by decide) ?_
          refine S_putI 61 frX9_269 rfl (fun q => by cases q) dX9_restore_61 (fun h15 => ?_)
          refine S_aload_0 64 dX9_restore_64 ?_
          refine S_callV (a' := 0) (b' := 0) (a := 0) (b := 0) 65 (As := []) (ci := 9) rfl calX9_lawfulNow imX9_lawfulNow seX9_lawfulNow mkX9_353 rfl rfl rfl rfl rfl (by decide) rfl rfl dX9_restore_65 (CX9_lawfulNow E t  h15) (fun v16 h17 => kqI ?_)
          refine S_callS (a' := 0) (b' := 0) (a := 0) (b := 0) 68 (As := [.int v16]) rfl calX9_ones stX9_ones mkX9_420 rfl rfl rfl rfl rfl dX9_restore_68 (CX9_ones E v16 h17) (fun v18 h19 => kqI ?_)
          exact S_iret 71 dX9_restore_71 rfl
        · skip
          exact S_drop [0, 1] rfl (hj49 _)
      refine S_ifne 34 41 dX9_restore_34 (by decide) ?_ ?_
      · skip
        refine S_ic 41 0 dX9_restore_41 (by decide) ?_
        exact S_drop [] rfl (hj42 _ _)
      · skip
        refine S_ic 37 1 dX9_restore_37 (by decide) ?_
        refine S_goto 38 42 dX9_restore_38 (by decide) ?_
        exact S_drop [] rfl (hj42 _ _)
  refine S_ifne 12 19 dX9_restore_12 (by decide) ?_ ?_
  · skip
    refine S_ic 19 0 dX9_restore_19 (by decide) ?_
    exact S_drop [] rfl (hj20 _ _)
  · skip
    refine S_ic 15 1 dX9_restore_15 (by decide) ?_
    refine S_goto 16 20 dX9_restore_16 (by decide) ?_
    exact S_drop [] rfl (hj20 _ _)
