/-! Methods as functions, 11. -/
set_option linter.unusedVariables false
set_option maxRecDepth 10000
def FX9_oldName (E : XG) (t : Nat) (p1 : Int32) (p2 : Int32) (h : XH) : XP Int32 := xg (xk h t = 10) <| xjn (fun (v1 : Int32) (h2 : XH) => xg (xk h2 t = 10) <| xb (FX9_failsIf E t v1 1 h2) fun _ h3 => xg (xk h3 t = 10) <| xb (FX9_named E t p1 p2 h3) fun v4 h5 => xjn (fun (v6 : Int32) (h7 : XH) => xg (xk h7 t = 10) <| xb (FX9_failsIf E t v6 3 h7) fun _ h8 => xg (xk h8 t = 10) <| xjn (fun (v9 : Int32) (h10 : XH) => xv v9 h10) fun (j52 : Int32 → XH → XP Int32) => if ((xi h8 t 25) : Int32) = 0 then (j52 v4 h8) else (j52 0 h8)) fun (j36 : Int32 → XH → XP Int32) => if (v4 : Int32) = (-1) then (j36 1 h5) else (j36 0 h5)) fun (j14 : Int32 → XH → XP Int32) => if ((xi h t 23) : Int32) = 1 then (j14 0 h) else (j14 1 h)
theorem CX9_oldName (E : XG) (t : Nat) (p1 : Int32) (p2 : Int32) (h : XH) : XN E mX9_oldName eI 0 0 [.ref t, .int p1, .int p2] h (FX9_oldName E t p1 p2 h) := by
  unfold FX9_oldName
  refine S_enter (L := [some (.ref t), some (.int p1), some (.int p2), none]) (by decide +kernel) rfl rfl rfl ?_
  refine S_aload_0 0 dX9_oldName_0 ?_
  refine S_aload_0 1 dX9_oldName_1 ?_
  refine S_getI 2 fsX9_117 rfl dX9_oldName_2 ?_
  refine S_ic 5 1 dX9_oldName_5 (by decide) ?_
  refine S_join (fun jj => ∀ (v1 : Int32) (h2 : XH), XS E mX9_oldName eI 0 0 14 [some (.ref t), some (.int p1), some (.int p2), none] [.int v1, .ref t] h2 (jj v1 h2)) (fun v1 h2 => ?_) (fun j14 hj14 => ?_)
  · skip
    refine S_ic 14 1 dX9_oldName_14 (by decide) ?_
    refine S_callV (a' := 0) (b' := 0) (a := 0) (b := 0) 15 (As := [.int v1, .int 1]) (ci := 9) rfl calX9_failsIf imX9_failsIf seX9_failsIf mkX9_159 rfl rfl rfl rfl rfl (by decide) rfl rfl dX9_oldName_15 (CX9_failsIf E t v1 1 h2) (fun _ h3 => kqU ?_)
    refine S_aload_0 18 dX9_oldName_18 ?_
    refine S_iload_1 19 dX9_oldName_19 ?_
    refine S_iload_2 20 dX9_oldName_20 ?_
    refine S_callV (a' := 0) (b' := 0) (a := 0) (b := 0) 21 (As := [.int p1, .int p2]) (ci := 9) rfl calX9_named imX9_named seX9_named mkX9_163 rfl rfl rfl rfl rfl (by decide) rfl rfl dX9_oldName_21 (CX9_named E t p1 p2 h3) (fun v4 h5 => kqI ?_)
    refine S_istore_3 24 dX9_oldName_24 rfl ?_
    refine S_aload_0 25 dX9_oldName_25 ?_
    refine S_iload_3 26 dX9_oldName_26 ?_
    refine S_ic 27 (-1) dX9_oldName_27 (by decide) ?_
    refine S_join (fun jj => ∀ (v6 : Int32) (h7 : XH), XS E mX9_oldName eI 0 0 36 [some (.ref t), none, none, some (.int v4)] [.int v6, .ref t] h7 (jj v6 h7)) (fun v6 h7 => ?_) (fun j36 hj36 => ?_)
    · skip
      refine S_ic 36 3 dX9_oldName_36 (by decide) ?_
      refine S_callV (a' := 0) (b' := 0) (a := 0) (b := 0) 37 (As := [.int v6, .int 3]) (ci := 9) rfl calX9_failsIf imX9_failsIf seX9_failsIf mkX9_159 rfl rfl rfl rfl rfl (by decide) rfl rfl dX9_oldName_37 (CX9_failsIf E t v6 3 h7) (fun _ h8 => kqU ?_)
      refine S_aload_0 40 dX9_oldName_40 ?_
      refine S_getI 41 fsX9_130 rfl dX9_oldName_41 ?_
      refine S_join (fun jj => ∀ (v9 : Int32) (h10 : XH), XS E mX9_oldName eI 0 0 52 [none, none, none, none] [.int v9] h10 (jj v9 h10)) (fun v9 h10 => ?_) (fun j52 hj52 => ?_)
      · skip
        exact S_iret 52 dX9_oldName_52 rfl
      refine S_ifeq 44 51 dX9_oldName_44 (by decide) ?_ ?_
      · skip
        refine S_iload_3 51 dX9_oldName_51 ?_
        exact S_drop [0, 3] rfl (hj52 _ _)
      · skip
        refine S_ic 47 0 dX9_oldName_47 (by decide) ?_
        refine S_goto 48 52 dX9_oldName_48 (by decide) ?_
        exact S_drop [0, 3] rfl (hj52 _ _)
    refine S_icmpne 28 35 dX9_oldName_28 (by decide) ?_ ?_
    · skip
      refine S_ic 35 0 dX9_oldName_35 (by decide) ?_
      exact S_drop [1, 2] rfl (hj36 _ _)
    · skip
      refine S_ic 31 1 dX9_oldName_31 (by decide) ?_
      refine S_goto 32 36 dX9_oldName_32 (by decide) ?_
      exact S_drop [1, 2] rfl (hj36 _ _)
  refine S_icmpeq 6 13 dX9_oldName_6 (by decide) ?_ ?_
  · skip
    refine S_ic 13 0 dX9_oldName_13 (by decide) ?_
    exact S_drop [] rfl (hj14 _ _)
  · skip
    refine S_ic 9 1 dX9_oldName_9 (by decide) ?_
    refine S_goto 10 14 dX9_oldName_10 (by decide) ?_
    exact S_drop [] rfl (hj14 _ _)
def FX9_takesName (E : XG) (t : Nat) (p1 : Int32) (p2 : Int32) (h : XH) : XP Int32 := xg (xk h t = 10) <| xb (FX9_oldName E t p1 p2 h) fun v1 h2 => xg (xk h2 t = 10) <| xb (FX9_goesOn E t  h2) fun _ h3 => xv v1 h3
theorem CX9_takesName (E : XG) (t : Nat) (p1 : Int32) (p2 : Int32) (h : XH) : XN E mX9_takesName eI 0 0 [.ref t, .int p1, .int p2] h (FX9_takesName E t p1 p2 h) := by
  unfold FX9_takesName
  refine S_enter (L := [some (.ref t), some (.int p1), some (.int p2), none]) (by decide +kernel) rfl rfl rfl ?_
  refine S_aload_0 0 dX9_takesName_0 ?_
  refine S_iload_1 1 dX9_takesName_1 ?_
  refine S_iload_2 2 dX9_takesName_2 ?_
  refine S_callV (a' := 0) (b' := 0) (a := 0) (b := 0) 3 (As := [.int p1, .int p2]) (ci := 9) rfl calX9_oldName imX9_oldName seX9_oldName mkX9_167 rfl rfl rfl rfl rfl (by decide) rfl rfl dX9_takesName_3 (CX9_oldName E t p1 p2 h) (fun v1 h2 => kqI ?_)
  refine S_istore_3 6 dX9_takesName_6 rfl ?_
  refine S_aload_0 7 dX9_takesName_7 ?_
  refine S_callV (a' := 0) (b' := 0) (a := 0) (b := 0) 8 (As := []) (ci := 9) rfl calX9_goesOn imX9_goesOn seX9_goesOn mkX9_156 rfl rfl rfl rfl rfl (by decide) rfl rfl dX9_takesName_8 (CX9_goesOn E t  h2) (fun _ h3 => kqU ?_)
  refine S_iload_3 11 dX9_takesName_11 ?_
  exact S_iret 12 dX9_takesName_12 rfl
def FX9_lays (E : XG) (t : Nat) (p1 : Int32) (p2 : Int32) (p3 : Int32) (h : XH) : XP Unit := xg (xk h t = 10) <| xnn (xr h t 29) fun w1 => xg (xk h t = 10) <| xg (xk h w1 = 12 ∧ xin (((64 * (xi h t 35)) + (8 * p1)) + p2) (xn h w1)) <| xlt (yi h w1 ((((64 * (xi h t 35)) + (8 * p1)) + p2) : Int32).toNatClampNeg p3) fun h2 => xv () h2
theorem CX9_lays (E : XG) (t : Nat) (p1 : Int32) (p2 : Int32) (p3 : Int32) (h : XH) : XN E mX9_lays eU 0 0 [.ref t, .int p1, .int p2, .int p3] h (FX9_lays E t p1 p2 p3 h) := by
  unfold FX9_lays
  refine S_enter (L := [some (.ref t), some (.int p1), some (.int p2), some (.int p3)]) (by decide +kernel) rfl rfl rfl ?_
  refine S_aload_0 0 dX9_lays_0 ?_
  refine S_getR 1 fsX9_54 rfl dX9_lays_1 (fun w1 => ?_)
  refine S_bip 4 64 dX9_lays_4 (by decide) ?_
  refine S_aload_0 6 dX9_lays_6 ?_
  refine S_getI 7 fsX9_170 rfl dX9_lays_7 ?_
  refine S_imul 10 dX9_lays_10 ?_
  refine S_bip 11 8 dX9_lays_11 (by decide) ?_
  refine S_iload_1 13 dX9_lays_13 ?_
  refine S_imul 14 dX9_lays_14 ?_
  refine S_iadd 15 dX9_lays_15 ?_
  refine S_iload_2 16 dX9_lays_16 ?_
  refine S_iadd 17 dX9_lays_17 ?_
  refine S_iload_3 18 dX9_lays_18 ?_
  refine S_iast 19 dX9_lays_19 (fun h2 => ?_)
  exact S_ret 20 dX9_lays_20 rfl
def FX9_laysCyclic (E : XG) (t : Nat) (p1 : Int32) (h : XH) : XP Unit := xg (xk h t = 10) <| if ((xi h t 25) : Int32) = 0 then (xg (xk h t = 10) <| xnn (xr h t 28) fun w1 => xg (xk h t = 10) <| xg (xk h w1 = 12 ∧ xin (xi h t 35) (xn h w1)) <| xlt (yi h w1 ((xi h t 35) : Int32).toNatClampNeg p1) fun h2 => xlp (fun again20 (s20 : Int32) h3 => if (p1 : Int32) ≤ s20 then (xv () h3) else (xlp (fun again27 (s27 : Int32) h4 => if (p1 : Int32) ≤ s27 then (again20 (s20 + 1) h4) else (xg ((p1 : Int32) ≠ 0) <| xg (xk h4 t = 10) <| xb (FX9_lays E t s20 s27 (xrem (s20 + s27) p1) h4) fun _ h5 => again27 (s27 + 1) h5)) xfu 0 h3)) xfu 0 h2) else (xv () h)
theorem CX9_laysCyclic (E : XG) (t : Nat) (p1 : Int32) (h : XH) : XN E mX9_laysCyclic eU 0 0 [.ref t, .int p1] h (FX9_laysCyclic E t p1 h) := by
  unfold FX9_laysCyclic
  refine S_enter (L := [some (.ref t), some (.int p1), none, none]) (by decide +kernel) rfl rfl rfl ?_
  refine S_aload_0 0 dX9_laysCyclic_0 ?_
  refine S_getI 1 fsX9_130 rfl dX9_laysCyclic_1 ?_
  refine S_ifeq 4 8 dX9_laysCyclic_4 (by decide) ?_ ?_
  · skip
    refine S_aload_0 8 dX9_laysCyclic_8 ?_
    refine S_getR 9 fsX9_51 rfl dX9_laysCyclic_9 (fun w1 => ?_)
    refine S_aload_0 12 dX9_laysCyclic_12 ?_
    refine S_getI 13 fsX9_170 rfl dX9_laysCyclic_13 ?_
    refine S_iload_1 16 dX9_laysCyclic_16 ?_
    refine S_iast 17 dX9_laysCyclic_17 (fun h2 => ?_)
    refine S_ic 18 0 dX9_laysCyclic_18 (by decide) ?_
    refine S_istore_2 19 dX9_laysCyclic_19 rfl ?_
    refine S_loop (fun (s20 : Int32) => [some (.ref t), some (.int p1), some (.int s20), none]) (fun again20 hg20 s20 h3 => ?_) xfu _ _
    refine S_iload_2 20 dX9_laysCyclic_20 ?_
    refine S_iload_1 21 dX9_laysCyclic_21 ?_
    refine S_icmpge 22 55 dX9_laysCyclic_22 (by decide) ?_ ?_
    · skip
      exact S_ret 55 dX9_laysCyclic_55 rfl
    · skip
      refine S_ic 25 0 dX9_laysCyclic_25 (by decide) ?_
      refine S_istore_3 26 dX9_laysCyclic_26 rfl ?_
      refine S_loop (fun (s27 : Int32) => [some (.ref t), some (.int p1), some (.int s20), some (.int s27)]) (fun again27 hg27 s27 h4 => ?_) xfu _ _
      refine S_iload_3 27 dX9_laysCyclic_27 ?_
      refine S_iload_1 28 dX9_laysCyclic_28 ?_
      refine S_icmpge 29 49 dX9_laysCyclic_29 (by decide) ?_ ?_
      · skip
        refine S_iinc_2 49 (s20 + 1) dX9_laysCyclic_49 (by rfl) rfl ?_
        refine S_goto 52 20 dX9_laysCyclic_52 (by decide) ?_
        exact S_drop [3] rfl (hg20 _ _)
      · skip
        refine S_aload_0 32 dX9_laysCyclic_32 ?_
        refine S_iload_2 33 dX9_laysCyclic_33 ?_
        refine S_iload_3 34 dX9_laysCyclic_34 ?_
        refine S_iload_2 35 dX9_laysCyclic_35 ?_
        refine S_iload_3 36 dX9_laysCyclic_36 ?_
        refine S_iadd 37 dX9_laysCyclic_37 ?_
        refine S_iload_1 38 dX9_laysCyclic_38 ?_
        refine S_irem 39 dX9_laysCyclic_39 ?_
        refine S_callV (a' := 0) (b' := 0) (a := 0) (b := 0) 40 (As := [.int s20, .int s27, .int (xrem (s20 + s27) p1)]) (ci := 9) rfl calX9_lays imX9_lays seX9_lays mkX9_211 rfl rfl rfl rfl rfl (by decide) rfl rfl dX9_laysCyclic_40 (CX9_lays E t s20 s27 (xrem (s20 + s27) p1) h4) (fun _ h5 => kqU ?_)
        refine S_iinc_3 43 (s27 + 1) dX9_laysCyclic_43 (by rfl) rfl ?_
        refine S_goto 46 27 dX9_laysCyclic_46 (by decide) ?_
        exact S_drop [] rfl (hg27 _ _)
  · skip
    exact S_ret 7 dX9_laysCyclic_7 rfl
def FX9_laysDihedral (E : XG) (t : Nat) (p1 : Int32) (h : XH) : XP Unit := xg (xk h t = 10) <| if ((xi h t 25) : Int32) = 0 then (xg (xk h t = 10) <| xnn (xr h t 28) fun w1 => xg (xk h t = 10) <| xg (xk h w1 = 12 ∧ xin (xi h t 35) (xn h w1)) <| xlt (yi h w1 ((xi h t 35) : Int32).toNatClampNeg (2 * p1)) fun h2 => xlp (fun again22 (s22 : Int32) h3 => if (p1 : Int32) ≤ s22 then (xv () h3) else (xlp (fun again29 (s29 : Int32) h4 => if (p1 : Int32) ≤ s29 then (again22 (s22 + 1) h4) else (xg ((p1 : Int32) ≠ 0) <| xg (xk h4 t = 10) <| xb (FX9_lays E t s22 s29 (xrem (s22 + s29) p1) h4) fun _ h5 => xg ((p1 : Int32) ≠ 0) <| xg (xk h5 t = 10) <| xb (FX9_lays E t s22 (p1 + s29) (p1 + (xrem (s22 + s29) p1)) h5) fun _ h6 => xg ((p1 : Int32) ≠ 0) <| xg (xk h6 t = 10) <| xb (FX9_lays E t (p1 + s22) s29 (p1 + (xrem ((p1 + s22) - s29) p1)) h6) fun _ h7 => xg ((p1 : Int32) ≠ 0) <| xg (xk h7 t = 10) <| xb (FX9_lays E t (p1 + s22) (p1 + s29) (xrem ((p1 + s22) - s29) p1) h7) fun _ h8 => again29 (s29 + 1) h8)) xfu 0 h3)) xfu 0 h2) else (xv () h)
theorem CX9_laysDihedral (E : XG) (t : Nat) (p1 : Int32) (h : XH) : XN E mX9_laysDihedral eU 0 0 [.ref t, .int p1] h (FX9_laysDihedral E t p1 h) := by
  unfold FX9_laysDihedral
  refine S_enter (L := [some (.ref t), some (.int p1), none, none]) (by decide +kernel) rfl rfl rfl ?_
  refine S_aload_0 0 dX9_laysDihedral_0 ?_
  refine S_getI 1 fsX9_130 rfl dX9_laysDihedral_1 ?_
  refine S_ifeq 4 8 dX9_laysDihedral_4 (by decide) ?_ ?_
  · skip
    refine S_aload_0 8 dX9_laysDihedral_8 ?_
    refine S_getR 9 fsX9_51 rfl dX9_laysDihedral_9 (fun w1 => ?_)
    refine S_aload_0 12 dX9_laysDihedral_12 ?_
    refine S_getI 13 fsX9_170 rfl dX9_laysDihedral_13 ?_
    refine S_ic 16 2 dX9_laysDihedral_16 (by decide) ?_
    refine S_iload_1 17 dX9_laysDihedral_17 ?_
    refine S_imul 18 dX9_laysDihedral_18 ?_
    refine S_iast 19 dX9_laysDihedral_19 (fun h2 => ?_)
    refine S_ic 20 0 dX9_laysDihedral_20 (by decide) ?_
    refine S_istore_2 21 dX9_laysDihedral_21 rfl ?_
    refine S_loop (fun (s22 : Int32) => [some (.ref t), some (.int p1), some (.int s22), none]) (fun again22 hg22 s22 h3 => ?_) xfu _ _
    refine S_iload_2 22 dX9_laysDihedral_22 ?_
    refine S_iload_1 23 dX9_laysDihedral_23 ?_
    refine S_icmpge 24 106 dX9_laysDihedral_24 (by decide) ?_ ?_
    · skip
      exact S_ret 106 dX9_laysDihedral_106 rfl
    · skip
      refine S_ic 27 0 dX9_laysDihedral_27 (by decide) ?_
      refine S_istore_3 28 dX9_laysDihedral_28 rfl ?_
      refine S_loop (fun (s29 : Int32) => [some (.ref t), some (.int p1), some (.int s22), some (.int s29)]) (fun again29 hg29 s29 h4 => ?_) xfu _ _
      refine S_iload_3 29 dX9_laysDihedral_29 ?_
      refine S_iload_1 30 dX9_laysDihedral_30 ?_
      refine S_icmpge 31 100 dX9_laysDihedral_31 (by decide) ?_ ?_
      · skip
        refine S_iinc_2 100 (s22 + 1) dX9_laysDihedral_100 (by rfl) rfl ?_
        refine S_goto 103 22 dX9_laysDihedral_103 (by decide) ?_
        exact S_drop [3] rfl (hg22 _ _)
      · skip
        refine S_aload_0 34 dX9_laysDihedral_34 ?_
        refine S_iload_2 35 dX9_laysDihedral_35 ?_
        refine S_iload_3 36 dX9_laysDihedral_36 ?_
        refine S_iload_2 37 dX9_laysDihedral_37 ?_
        refine S_iload_3 38 dX9_laysDihedral_38 ?_
        refine S_iadd 39 dX9_laysDihedral_39 ?_
        refine S_iload_1 40 dX9_laysDihedral_40 ?_
        refine S_irem 41 dX9_laysDihedral_41 ?_
        refine S_callV (a' := 0) (b' := 0) (a := 0) (b := 0) 42 (As := [.int s22, .int s29, .int (xrem (s22 + s29) p1)]) (ci := 9) rfl calX9_lays imX9_lays seX9_lays mkX9_211 rfl rfl rfl rfl rfl (by decide) rfl rfl dX9_laysDihedral_42 (CX9_lays E t s22 s29 (xrem (s22 + s29) p1) h4) (fun _ h5 => kqU ?_)
        refine S_aload_0 45 dX9_laysDihedral_45 ?_
        refine S_iload_2 46 dX9_laysDihedral_46 ?_
        refine S_iload_1 47 dX9_laysDihedral_47 ?_
        refine S_iload_3 48 dX9_laysDihedral_48 ?_
        refine S_iadd 49 dX9_laysDihedral_49 ?_
        refine S_iload_1 50 dX9_laysDihedral_50 ?_
        refine S_iload_2 51 dX9_laysDihedral_51 ?_
        refine S_iload_3 52 dX9_laysDihedral_52 ?_
        refine S_iadd 53 dX9_laysDihedral_53 ?_
        refine S_iload_1 54 dX9_laysDihedral_54 ?_
        refine S_irem 55 dX9_laysDihedral_55 ?_
        refine S_iadd 56 dX9_laysDihedral_56 ?_
        refine S_callV (a' := 0) (b' := 0) (a := 0) (b := 0) 57 (As := [.int s22, .int (p1 + s29), .int (p1 + (xrem (s22 + s29) p1))]) (ci := 9) rfl calX9_lays imX9_lays seX9_lays mkX9_211 rfl rfl rfl rfl rfl (by decide) rfl rfl dX9_laysDihedral_57 (CX9_lays E t s22 (p1 + s29) (p1 + (xrem (s22 + s29) p1)) h5) (fun _ h6 => kqU ?_)
        refine S_aload_0 60 dX9_laysDihedral_60 ?_
        refine S_iload_1 61 dX9_laysDihedral_61 ?_
        refine S_iload_2 62 dX9_laysDihedral_62 ?_
        refine S_iadd 63 dX9_laysDihedral_63 ?_
        refine S_iload_3 64 dX9_laysDihedral_64 ?_
        refine S_iload_1 65 dX9_laysDihedral_65 ?_
        refine S_iload_1 66 dX9_laysDihedral_66 ?_
        refine S_iload_2 67 dX9_laysDihedral_67 ?_
        refine S_iadd 68 dX9_laysDihedral_68 ?_
        refine S_iload_3 69 dX9_laysDihedral_69 ?_
        refine S_isub 70 dX9_laysDihedral_70 ?_
        refine S_iload_1 71 dX9_laysDihedral_71 ?_
        refine S_irem 72 dX9_laysDihedral_72 ?_
        refine S_iadd 73 dX9_laysDihedral_73 ?_
        refine S_callV (a' := 0) (b' := 0) (a := 0) (b := 0) 74 (As := [.int (p1 + s22), .int s29, .int (p1 + (xrem ((p1 + s22) - s29) p1))]) (ci := 9) rfl calX9_lays imX9_lays seX9_lays mkX9_211 rfl rfl rfl rfl rfl (by decide) rfl rfl dX9_laysDihedral_74 (CX9_lays E t (p1 + s22) s29 (p1 + (xrem ((p1 + s22) - s29) p1)) h6) (fun _ h7 => kqU ?_)
        refine S_aload_0 77 dX9_laysDihedral_77 ?_
        refine S_iload_1 78 dX9_laysDihedral_78 ?_
        refine S_iload_2 79 dX9_laysDihedral_79 ?_
        refine S_iadd 80 dX9_laysDihedral_80 ?_
        refine S_iload_1 81 dX9_laysDihedral_81 ?_
        refine S_iload_3 82 dX9_laysDihedral_82 ?_
        refine S_iadd 83 dX9_laysDihedral_83 ?_
        refine S_iload_1 84 dX9_laysDihedral_84 ?_
        refine S_iload_2 85 dX9_laysDihedral_85 ?_
        refine S_iadd 86 dX9_laysDihedral_86 ?_
        refine S_iload_3 87 dX9_laysDihedral_87 ?_
        refine S_isub 88 dX9_laysDihedral_88 ?_
        refine S_iload_1 89 dX9_laysDihedral_89 ?_
        refine S_irem 90 dX9_laysDihedral_90 ?_
        refine S_callV (a' := 0) (b' := 0) (a := 0) (b := 0) 91 (As := [.int (p1 + s22), .int (p1 + s29), .int (xrem ((p1 + s22) - s29) p1)]) (ci := 9) rfl calX9_lays imX9_lays seX9_lays mkX9_211 rfl rfl rfl rfl rfl (by decide) rfl rfl dX9_laysDihedral_91 (CX9_lays E t (p1 + s22) (p1 + s29) (xrem ((p1 + s22) - s29) p1) h7) (fun _ h8 => kqU ?_)
        refine S_iinc_3 94 (s29 + 1) dX9_laysDihedral_94 (by rfl) rfl ?_
        refine S_goto 97 29 dX9_laysDihedral_97 (by decide) ?_
        exact S_drop [] rfl (hg29 _ _)
  · skip
    exact S_ret 7 dX9_laysDihedral_7 rfl
def FX9_ofUnits (E : XG) (p1 : Int32) (p2 : Int32) (h : XH) : XP Int32 := xjn (fun  (h1 : XH) => xv (p1 + p2) h1) fun (j8 : XH → XP Int32) => if (p1 : Int32) = 0 then (j8 h) else (if (p2 : Int32) = 0 then (j8 h) else (if (p1 : Int32) = p2 then (xv 4 h) else (xlt ((6 - p1) - p2) fun v2 => xg ((3 : Int32) ≠ 0) <| xjn (fun (v3 : Int32) (h4 : XH) => xv v3 h4) fun (j42 : Int32 → XH → XP Int32) => if (p2 : Int32) = ((xrem p1 3) + 1) then (j42 v2 h) else (j42 (v2 + 4) h))))
theorem CX9_ofUnits (E : XG) (p1 : Int32) (p2 : Int32) (h : XH) : XN E mX9_ofUnits eI 0 0 [.int p1, .int p2] h (FX9_ofUnits E p1 p2 h) := by
  unfold FX9_ofUnits
  refine S_enter (L := [some (.int p1), some (.int p2), none]) (by decide +kernel) rfl rfl rfl ?_
  refine S_iload_0 0 dX9_ofUnits_0 ?_
  refine S_join (fun jj => ∀  (h1 : XH), XS E mX9_ofUnits eI 0 0 8 [some (.int p1), some (.int p2), none] [] h1 (jj  h1)) (fun  h1 => ?_) (fun j8 hj8 => ?_)
  · skip
    refine S_iload_0 8 dX9_ofUnits_8 ?_
    refine S_iload_1 9 dX9_ofUnits_9 ?_
    refine S_iadd 10 dX9_ofUnits_10 ?_
    exact S_iret 11 dX9_ofUnits_11 rfl
  refine S_ifeq 1 8 dX9_ofUnits_1 (by decide) ?_ ?_
  · skip
    exact S_drop [] rfl (hj8 _)
  · skip
    refine S_iload_1 4 dX9_ofUnits_4 ?_
    refine S_ifne 5 12 dX9_ofUnits_5 (by decide) ?_ ?_
    · skip
      refine S_iload_0 12 dX9_ofUnits_12 ?_
      refine S_iload_1 13 dX9_ofUnits_13 ?_
      refine S_icmpne 14 19 dX9_ofUnits_14 (by decide) ?_ ?_
      · skip
        refine S_bip 19 6 dX9_ofUnits_19 (by decide) ?_
        refine S_iload_0 21 dX9_ofUnits_21 ?_
        refine S_isub 22 dX9_ofUnits_22 ?_
        refine S_iload_1 23 dX9_ofUnits_23 ?_
        refine S_isub 24 dX9_ofUnits_24 ?_
        refine S_gen (fun v2 => ?_)
        refine S_istore_2 25 dX9_ofUnits_25 rfl ?_
        refine S_iload_1 26 dX9_ofUnits_26 ?_
        refine S_iload_0 27 dX9_ofUnits_27 ?_
        refine S_ic 28 3 dX9_ofUnits_28 (by decide) ?_
        refine S_irem 29 dX9_ofUnits_29 ?_
        refine S_ic 30 1 dX9_ofUnits_30 (by decide) ?_
        refine S_iadd 31 dX9_ofUnits_31 ?_
        refine S_join (fun jj => ∀ (v3 : Int32) (h4 : XH), XS E mX9_ofUnits eI 0 0 42 [none, none, none] [.int v3] h4 (jj v3 h4)) (fun v3 h4 => ?_) (fun j42 hj42 => ?_)
        · skip
          exact S_iret 42 dX9_ofUnits_42 rfl
        refine S_icmpne 32 39 dX9_ofUnits_32 (by decide) ?_ ?_
        · skip
          refine S_iload_2 39 dX9_ofUnits_39 ?_
          refine S_ic 40 4 dX9_ofUnits_40 (by decide) ?_
          refine S_iadd 41 dX9_ofUnits_41 ?_
          exact S_drop [0, 1, 2] rfl (hj42 _ _)
        · skip
          refine S_iload_2 35 dX9_ofUnits_35 ?_
          refine S_goto 36 42 dX9_ofUnits_36 (by decide) ?_
          exact S_drop [0, 1, 2] rfl (hj42 _ _)
      · skip
        refine S_ic 17 4 dX9_ofUnits_17 (by decide) ?_
        exact S_iret 18 dX9_ofUnits_18 rfl
    · skip
      exact S_drop [] rfl (hj8 _)
def FX9_laysQuaternion (E : XG) (t : Nat) (h : XH) : XP Unit := xg (xk h t = 10) <| if ((xi h t 25) : Int32) = 0 then (xg (xk h t = 10) <| xnn (xr h t 28) fun w1 => xg (xk h t = 10) <| xg (xk h w1 = 12 ∧ xin (xi h t 35) (xn h w1)) <| xlt (yi h w1 ((xi h t 35) : Int32).toNatClampNeg 8) fun h2 => xlp (fun again21 (s21 : Int32) h3 => if (8 : Int32) ≤ s21 then (xv () h3) else (xlp (fun again29 (s29 : Int32) h4 => if (8 : Int32) ≤ s29 then (again21 (s21 + 1) h4) else (xg ((4 : Int32) ≠ 0) <| xg ((4 : Int32) ≠ 0) <| xb (FX9_ofUnits E (xrem s21 4) (xrem s29 4) h4) fun v5 h6 => xg ((4 : Int32) ≠ 0) <| xg ((4 : Int32) ≠ 0) <| xg ((8 : Int32) ≠ 0) <| xg (xk h6 t = 10) <| xb (FX9_lays E t s21 s29 (xrem ((v5 + ((s21 / 4) * 4)) + ((s29 / 4) * 4)) 8) h6) fun _ h7 => again29 (s29 + 1) h7)) xfu 0 h3)) xfu 0 h2) else (xv () h)
theorem CX9_laysQuaternion (E : XG) (t : Nat) (h : XH) : XN E mX9_laysQuaternion eU 0 0 [.ref t] h (FX9_laysQuaternion E t h) := by
  unfold FX9_laysQuaternion
  refine S_enter (L := [some (.ref t), none, none]) (by decide +kernel) rfl rfl rfl ?_
  refine S_aload_0 0 dX9_laysQuaternion_0 ?_
  refine S_getI 1 fsX9_130 rfl dX9_laysQuaternion_1 ?_
  refine S_ifeq 4 8 dX9_laysQuaternion_4 (by decide) ?_ ?_
  · skip
    refine S_aload_0 8 dX9_laysQuaternion_8 ?_
    refine S_getR 9 fsX9_51 rfl dX9_laysQuaternion_9 (fun w1 => ?_)
    refine S_aload_0 12 dX9_laysQuaternion_12 ?_
    refine S_getI 13 fsX9_170 rfl dX9_laysQuaternion_13 ?_
    refine S_bip 16 8 dX9_laysQuaternion_16 (by decide) ?_
    refine S_iast 18 dX9_laysQuaternion_18 (fun h2 => ?_)
    refine S_ic 19 0 dX9_laysQuaternion_19 (by decide) ?_
    refine S_istore_1 20 dX9_laysQuaternion_20 rfl ?_
    refine S_loop (fun (s21 : Int32) => [some (.ref t), some (.int s21), none]) (fun again21 hg21 s21 h3 => ?_) xfu _ _
    refine S_iload_1 21 dX9_laysQuaternion_21 ?_
    refine S_bip 22 8 dX9_laysQuaternion_22 (by decide) ?_
    refine S_icmpge 24 77 dX9_laysQuaternion_24 (by decide) ?_ ?_
    · skip
      exact S_ret 77 dX9_laysQuaternion_77 rfl
    · skip
      refine S_ic 27 0 dX9_laysQuaternion_27 (by decide) ?_
      refine S_istore_2 28 dX9_laysQuaternion_28 rfl ?_
      refine S_loop (fun (s29 : Int32) => [some (.ref t), some (.int s21), some (.int s29)]) (fun again29 hg29 s29 h4 => ?_) xfu _ _
      refine S_iload_2 29 dX9_laysQuaternion_29 ?_
      refine S_bip 30 8 dX9_laysQuaternion_30 (by decide) ?_
      refine S_icmpge 32 71 dX9_laysQuaternion_32 (by decide) ?_ ?_
      · skip
        refine S_iinc_1 71 (s21 + 1) dX9_laysQuaternion_71 (by rfl) rfl ?_
        refine S_goto 74 21 dX9_laysQuaternion_74 (by decide) ?_
        exact S_drop [2] rfl (hg21 _ _)
      · skip
        refine S_aload_0 35 dX9_laysQuaternion_35 ?_
        refine S_iload_1 36 dX9_laysQuaternion_36 ?_
        refine S_iload_2 37 dX9_laysQuaternion_37 ?_
        refine S_iload_1 38 dX9_laysQuaternion_38 ?_
        refine S_ic 39 4 dX9_laysQuaternion_39 (by decide) ?_
        refine S_irem 40 dX9_laysQuaternion_40 ?_
        refine S_iload_2 41 dX9_laysQuaternion_41 ?_
        refine S_ic 42 4 dX9_laysQuaternion_42 (by decide) ?_
        refine S_irem 43 dX9_laysQuaternion_43 ?_
        refine S_callS (a' := 0) (b' := 0) (a := 0) (b := 0) 44 (As := [.int (xrem s21 4), .int (xrem s29 4)]) rfl calX9_ofUnits stX9_ofUnits mkX9_215 rfl rfl rfl rfl rfl dX9_laysQuaternion_44 (CX9_ofUnits E (xrem s21 4) (xrem s29 4) h4) (fun v5 h6 => kqI ?_)
        refine S_iload_1 47 dX9_laysQuaternion_47 ?_
        refine S_ic 48 4 dX9_laysQuaternion_48 (by decide) ?_
        refine S_idiv 49 dX9_laysQuaternion_49 ?_
        refine S_ic 50 4 dX9_laysQuaternion_50 (by decide) ?_
        refine S_imul 51 dX9_laysQuaternion_51 ?_
        refine S_iadd 52 dX9_laysQuaternion_52 ?_
        refine S_iload_2 53 dX9_laysQuaternion_53 ?_
        refine S_ic 54 4 dX9_laysQuaternion_54 (by decide) ?_
        refine S_idiv 55 dX9_laysQuaternion_55 ?_
        refine S_ic 56 4 dX9_laysQuaternion_56 (by decide) ?_
        refine S_imul 57 dX9_laysQuaternion_57 ?_
        refine S_iadd 58 dX9_laysQuaternion_58 ?_
        refine S_bip 59 8 dX9_laysQuaternion_59 (by decide) ?_
        refine S_irem 61 dX9_laysQuaternion_61 ?_
        refine S_callV (a' := 0) (b' := 0) (a := 0) (b := 0) 62 (As := [.int s21, .int s29, .int (xrem ((v5 + ((s21 / 4) * 4)) + ((s29 / 4) * 4)) 8)]) (ci := 9) rfl calX9_lays imX9_lays seX9_lays mkX9_211 rfl rfl rfl rfl rfl (by decide) rfl rfl dX9_laysQuaternion_62 (CX9_lays E t s21 s29 (xrem ((v5 + ((s21 / 4) * 4)) + ((s29 / 4) * 4)) 8) h6) (fun _ h7 => kqU ?_)
        refine S_iinc_2 65 (s29 + 1) dX9_laysQuaternion_65 (by rfl) rfl ?_
        refine S_goto 68 29 dX9_laysQuaternion_68 (by decide) ?_
        exact S_drop [] rfl (hg29 _ _)
  · skip
    exact S_ret 7 dX9_laysQuaternion_7 rfl
def FX9_laysProduct (E : XG) (t : Nat) (p1 : Int32) (p2 : Int32) (h : XH) : XP Unit := xg (xk h t = 10) <| xnn (xr h t 28) fun w1 => xg (xk h w1 = 12 ∧ xin p2 (xn h w1)) <| xlt (xi h w1 (p2 : Int32).toNatClampNeg) fun v2 => xg (xk h t = 10) <| xnn (xr h t 28) fun w3 => xg (xk h t = 10) <| xg (xk h t = 10) <| xnn (xr h t 28) fun w4 => xg (xk h w4 = 12 ∧ xin p1 (xn h w4)) <| xg (xk h w3 = 12 ∧ xin (xi h t 35) (xn h w3)) <| xlt (yi h w3 ((xi h t 35) : Int32).toNatClampNeg ((xi h w4 (p1 : Int32).toNatClampNeg) * v2)) fun h5 => xlp (fun again27 (s27 : Int32) h6 => xg (xk h6 t = 10) <| xnn (xr h6 t 28) fun w7 => xg (xk h6 w7 = 12 ∧ xin p1 (xn h6 w7)) <| if (((xi h6 w7 (p1 : Int32).toNatClampNeg) * v2) : Int32) ≤ s27 then (xv () h6) else (xlp (fun again43 (s43 : Int32) h8 => xg (xk h8 t = 10) <| xnn (xr h8 t 28) fun w9 => xg (xk h8 w9 = 12 ∧ xin p1 (xn h8 w9)) <| if (((xi h8 w9 (p1 : Int32).toNatClampNeg) * v2) : Int32) ≤ s43 then (again27 (s27 + 1) h8) else (xg (xk h8 t = 10) <| xnn (xr h8 t 29) fun w10 => xg ((v2 : Int32) ≠ 0) <| xg ((v2 : Int32) ≠ 0) <| xg (xk h8 w10 = 12 ∧ xin (((64 * p1) + (8 * (s27 / v2))) + (s43 / v2)) (xn h8 w10)) <| xg (xk h8 t = 10) <| xnn (xr h8 t 29) fun w11 => xg ((v2 : Int32) ≠ 0) <| xg ((v2 : Int32) ≠ 0) <| xg (xk h8 w11 = 12 ∧ xin (((64 * p2) + (8 * (xrem s27 v2))) + (xrem s43 v2)) (xn h8 w11)) <| xg (xk h8 t = 10) <| xb (FX9_lays E t s27 s43 (((xi h8 w10 ((((64 * p1) + (8 * (s27 / v2))) + (s43 / v2)) : Int32).toNatClampNeg) * v2) + (xi h8 w11 ((((64 * p2) + (8 * (xrem s27 v2))) + (xrem s43 v2)) : Int32).toNatClampNeg)) h8) fun _ h12 => again43 (s43 + 1) h12)) xfu 0 h6)) xfu 0 h5
theorem CX9_laysProduct (E : XG) (t : Nat) (p1 : Int32) (p2 : Int32) (h : XH) : XN E mX9_laysProduct eU 0 0 [.ref t, .int p1, .int p2] h (FX9_laysProduct E t p1 p2 h) := by
  unfold FX9_laysProduct
  refine S_enter (L := [some (.ref t), some (.int p1), some (.int p2), none, none, none]) (by decide +kernel) rfl rfl rfl ?_
  refine S_aload_0 0 dX9_laysProduct_0 ?_
  refine S_getR 1 fsX9_51 rfl dX9_laysProduct_1 (fun w1 => ?_)
  refine S_iload_2 4 dX9_laysProduct_4 ?_
  refine S_iald 5 dX9_laysProduct_5 ?_
  refine S_gen (fun v2 => ?_)
  refine S_istore_3 6 dX9_laysProduct_6 rfl ?_
  refine S_aload_0 7 dX9_laysProduct_7 ?_
  refine S_getR 8 fsX9_51 rfl dX9_laysProduct_8 (fun w3 => ?_)
  refine S_aload_0 11 dX9_laysProduct_11 ?_
  refine S_getI 12 fsX9_170 rfl dX9_laysProduct_12 ?_
  refine S_aload_0 15 dX9_laysProduct_15 ?_
  refine S_getR 16 fsX9_51 rfl dX9_laysProduct_16 (fun w4 => ?_)
  refine S_iload_1 19 dX9_laysProduct_19 ?_
  refine S_iald 20 dX9_laysProduct_20 ?_
  refine S_iload_3 21 dX9_laysProduct_21 ?_
  refine S_imul 22 dX9_laysProduct_22 ?_
  refine S_iast 23 dX9_laysProduct_23 (fun h5 => ?_)
  refine S_ic 24 0 dX9_laysProduct_24 (by decide) ?_
  refine S_istore_4 25 dX9_laysProduct_25 rfl ?_
  refine S_loop (fun (s27 : Int32) => [some (.ref t), some (.int p1), some (.int p2), some (.int v2), some (.int s27), none]) (fun again27 hg27 s27 h6 => ?_) xfu _ _
  refine S_iload_4 27 dX9_laysProduct_27 ?_
  refine S_aload_0 29 dX9_laysProduct_29 ?_
  refine S_getR 30 fsX9_51 rfl dX9_laysProduct_30 (fun w7 => ?_)
  refine S_iload_1 33 dX9_laysProduct_33 ?_
  refine S_iald 34 dX9_laysProduct_34 ?_
  refine S_iload_3 35 dX9_laysProduct_35 ?_
  refine S_imul 36 dX9_laysProduct_36 ?_
  refine S_icmpge 37 123 dX9_laysProduct_37 (by decide) ?_ ?_
  · skip
    exact S_ret 123 dX9_laysProduct_123 rfl
  · skip
    refine S_ic 40 0 dX9_laysProduct_40 (by decide) ?_
    refine S_istore_5 41 dX9_laysProduct_41 rfl ?_
    refine S_loop (fun (s43 : Int32) => [some (.ref t), some (.int p1), some (.int p2), some (.int v2), some (.int s27), some (.int s43)]) (fun again43 hg43 s43 h8 => ?_) xfu _ _
    refine S_iload_5 43 dX9_laysProduct_43 ?_
    refine S_aload_0 45 dX9_laysProduct_45 ?_
    refine S_getR 46 fsX9_51 rfl dX9_laysProduct_46 (fun w9 => ?_)
    refine S_iload_1 49 dX9_laysProduct_49 ?_
    refine S_iald 50 dX9_laysProduct_50 ?_
    refine S_iload_3 51 dX9_laysProduct_51 ?_
    refine S_imul 52 dX9_laysProduct_52 ?_
    refine S_icmpge 53 117 dX9_laysProduct_53 (by decide) ?_ ?_
    · skip
      refine S_iinc_4 117 (s27 + 1) dX9_laysProduct_117 (by rfl) rfl ?_
      refine S_goto 120 27 dX9_laysProduct_120 (by decide) ?_
      exact S_drop [5] rfl (hg27 _ _)
    · skip
      refine S_aload_0 56 dX9_laysProduct_56 ?_
      refine S_iload_4 57 dX9_laysProduct_57 ?_
      refine S_iload_5 59 dX9_laysProduct_59 ?_
      refine S_aload_0 61 dX9_laysProduct_61 ?_
      refine S_getR 62 fsX9_54 rfl dX9_laysProduct_62 (fun w10 => ?_)
      refine S_bip 65 64 dX9_laysProduct_65 (by decide) ?_
      refine S_iload_1 67 dX9_laysProduct_67 ?_
      refine S_imul 68 dX9_laysProduct_68 ?_
      refine S_bip 69 8 dX9_laysProduct_69 (by decide) ?_
      refine S_iload_4 71 dX9_laysProduct_71 ?_
      refine S_iload_3 73 dX9_laysProduct_73 ?_
      refine S_idiv 74 dX9_laysProduct_74 ?_
      refine S_imul 75 dX9_laysProduct_75 ?_
      refine S_iadd 76 dX9_laysProduct_76 ?_
      refine S_iload_5 77 dX9_laysProduct_77 ?_
      refine S_iload_3 79 dX9_laysProduct_79 ?_
      refine S_idiv 80 dX9_laysProduct_80 ?_
      refine S_iadd 81 dX9_laysProduct_81 ?_
      refine S_iald 82 dX9_laysProduct_82 ?_
      refine S_iload_3 83 dX9_laysProduct_83 ?_
      refine S_imul 84 dX9_laysProduct_84 ?_
      refine S_aload_0 85 dX9_laysProduct_85 ?_
      refine S_getR 86 fsX9_54 rfl dX9_laysProduct_86 (fun w11 => ?_)
      refine S_bip 89 64 dX9_laysProduct_89 (by decide) ?_
      refine S_iload_2 91 dX9_laysProduct_91 ?_
      refine S_imul 92 dX9_laysProduct_92 ?_
      refine S_bip 93 8 dX9_laysProduct_93 (by decide) ?_
      refine S_iload_4 95 dX9_laysProduct_95 ?_
      refine S_iload_3 97 dX9_laysProduct_97 ?_
      refine S_irem 98 dX9_laysProduct_98 ?_
      refine S_imul 99 dX9_laysProduct_99 ?_
      refine S_iadd 100 dX9_laysProduct_100 ?_
      refine S_iload_5 101 dX9_laysProduct_101 ?_
      refine S_iload_3 103 dX9_laysProduct_103 ?_
      refine S_irem 104 dX9_laysProduct_104 ?_
      refine S_iadd 105 dX9_laysProduct_105 ?_
      refine S_iald 106 dX9_laysProduct_106 ?_
      refine S_iadd 107 dX9_laysProduct_107 ?_
      refine S_callV (a' := 0) (b' := 0) (a := 0) (b := 0) 108 (As := [.int s27, .int s43, .int (((xi h8 w10 ((((64 * p1) + (8 * (s27 / v2))) + (s43 / v2)) : Int32).toNatClampNeg) * v2) + (xi h8 w11 ((((64 * p2) + (8 * (xrem s27 v2))) + (xrem s43 v2)) : Int32).toNatClampNeg))]) (ci := 9) rfl calX9_lays imX9_lays seX9_lays mkX9_211 rfl rfl rfl rfl rfl (by decide) rfl rfl dX9_laysProduct_108 (CX9_lays E t s27 s43 (((xi h8 w10 ((((64 * p1) + (8 * (s27 / v2))) + (s43 / v2)) : Int32).toNatClampNeg) * v2) + (xi h8 w11 ((((64 * p2) + (8 * (xrem s27 v2))) + (xrem s43 v2)) : Int32).toNatClampNeg)) h8) (fun _ h12 => kqU ?_)
      refine S_iinc_5 111 (s43 + 1) dX9_laysProduct_111 (by rfl) rfl ?_
      refine S_goto 114 43 dX9_laysProduct_114 (by decide) ?_
      exact S_drop [] rfl (hg43 _ _)
def FX9_groupLine (E : XG) (t : Nat) (h : XH) : XP Unit := xg (xk h t = 10) <| xjn (fun (v1 : Int32) (h2 : XH) => xg (xk h2 t = 10) <| xb (FX9_failsIf E t v1 4 h2) fun _ h3 => xg (xk h3 t = 10) <| xb (FX9_goesOn E t  h3) fun _ h4 => xg (xk h4 t = 10) <| xg (xk h4 t = 10) <| xb (FX9_newName E t 0 (xi h4 t 35) h4) fun _ h5 => xg (xk h5 t = 10) <| xb (FX9_isWord E t 16 h5) fun v6 h7 => xjn (fun  (h8 : XH) => xg (xk h8 t = 10) <| xg (xk h8 t = 10) <| xjn (fun (v9 : Int32) (h10 : XH) => xb (FX9_flag E v9 h10) fun v11 h12 => xg (xk h12 t = 10) <| xlt (yi h12 t 35 ((xi h8 t 35) + v11)) fun h13 => xv () h13) fun (j215 : Int32 → XH → XP Unit) => if ((xi h8 t 25) : Int32) = 0 then (j215 1 h8) else (j215 0 h8)) fun (j198 : XH → XP Unit) => if (v6 : Int32) = 0 then (xg (xk h7 t = 10) <| xb (FX9_isWord E t 17 h7) fun v14 h15 => if (v14 : Int32) = 0 then (xg (xk h15 t = 10) <| xb (FX9_isWord E t 18 h15) fun v16 h17 => if (v16 : Int32) = 0 then (xg (xk h17 t = 10) <| xb (FX9_isWord E t 19 h17) fun v18 h19 => if (v18 : Int32) = 0 then (xg (xk h19 t = 10) <| xb (FX9_fails E t 1 h19) fun _ h20 => j198 h20) else (xg (xk h19 t = 10) <| xb (FX9_goesOn E t  h19) fun _ h21 => xg (xk h21 t = 10) <| xg (xk h21 t = 10) <| xb (FX9_takesName E t 0 (xi h21 t 35) h21) fun v22 h23 => xg (xk h23 t = 10) <| xg (xk h23 t = 10) <| xb (FX9_oldName E t 0 (xi h23 t 35) h23) fun v24 h25 => xg (xk h25 t = 10) <| xjn (fun (v26 : Int32) (h27 : XH) => xg (xk h27 t = 10) <| xb (FX9_failsIf E t v26 4 h27) fun _ h28 => xg (xk h28 t = 10) <| xb (FX9_goesOn E t  h28) fun _ h29 => xg (xk h29 t = 10) <| xjn (fun  (h30 : XH) => j198 h30) fun (j190 : XH → XP Unit) => if ((xi h29 t 25) : Int32) = 0 then (xg (xk h29 t = 10) <| xb (FX9_laysProduct E t v22 v24 h29) fun _ h31 => j190 h31) else (j190 h29)) fun (j169 : Int32 → XH → XP Unit) => xjn (fun  (h32 : XH) => j169 0 h32) fun (j168 : XH → XP Unit) => if ((xi h25 t 25) : Int32) = 0 then (xg (xk h25 t = 10) <| xnn (xr h25 t 28) fun w33 => xg (xk h25 w33 = 12 ∧ xin v22 (xn h25 w33)) <| xg (xk h25 t = 10) <| xnn (xr h25 t 28) fun w34 => xg (xk h25 w34 = 12 ∧ xin v24 (xn h25 w34)) <| if (((xi h25 w33 (v22 : Int32).toNatClampNeg) * (xi h25 w34 (v24 : Int32).toNatClampNeg)) : Int32) ≤ 8 then (j168 h25) else (j169 1 h25)) else (j168 h25))) else (xg (xk h17 t = 10) <| xb (FX9_goesOn E t  h17) fun _ h35 => xg (xk h35 t = 10) <| xb (FX9_laysQuaternion E t  h35) fun _ h36 => j198 h36)) else (xg (xk h15 t = 10) <| xb (FX9_goesOn E t  h15) fun _ h37 => xg (xk h37 t = 10) <| xb (FX9_takes E t 3 4 h37) fun v38 h39 => xg (xk h39 t = 10) <| xb (FX9_laysDihedral E t v38 h39) fun _ h40 => j198 h40)) else (xg (xk h7 t = 10) <| xb (FX9_goesOn E t  h7) fun _ h41 => xg (xk h41 t = 10) <| xb (FX9_takes E t 1 8 h41) fun v42 h43 => xg (xk h43 t = 10) <| xb (FX9_laysCyclic E t v42 h43) fun _ h44 => j198 h44)) fun (j15 : Int32 → XH → XP Unit) => if ((xi h t 35) : Int32) = 6 then (j15 1 h) else (j15 0 h)
theorem CX9_groupLine (E : XG) (t : Nat) (h : XH) : XN E mX9_groupLine eU 0 0 [.ref t] h (FX9_groupLine E t h) := by
  unfold FX9_groupLine
  refine S_enter (L := [some (.ref t), none, none]) (by decide +kernel) rfl rfl rfl ?_
  refine S_aload_0 0 dX9_groupLine_0 ?_
  refine S_aload_0 1 dX9_groupLine_1 ?_
  refine S_getI 2 fsX9_170 rfl dX9_groupLine_2 ?_
  refine S_bip 5 6 dX9_groupLine_5 (by decide) ?_
  refine S_join (fun jj => ∀ (v1 : Int32) (h2 : XH), XS E mX9_groupLine eU 0 0 15 [some (.ref t), none, none] [.int v1, .ref t] h2 (jj v1 h2)) (fun v1 h2 => ?_) (fun j15 hj15 => ?_)
  · skip
    refine S_ic 15 4 dX9_groupLine_15 (by decide) ?_
    refine S_callV (a' := 0) (b' := 0) (a := 0) (b := 0) 16 (As := [.int v1, .int 4]) (ci := 9) rfl calX9_failsIf imX9_failsIf seX9_failsIf mkX9_159 rfl rfl rfl rfl rfl (by decide) rfl rfl dX9_groupLine_16 (CX9_failsIf E t v1 4 h2) (fun _ h3 => kqU ?_)
    refine S_aload_0 19 dX9_groupLine_19 ?_
    refine S_callV (a' := 0) (b' := 0) (a := 0) (b := 0) 20 (As := []) (ci := 9) rfl calX9_goesOn imX9_goesOn seX9_goesOn mkX9_156 rfl rfl rfl rfl rfl (by decide) rfl rfl dX9_groupLine_20 (CX9_goesOn E t  h3) (fun _ h4 => kqU ?_)
    refine S_aload_0 23 dX9_groupLine_23 ?_
    refine S_ic 24 0 dX9_groupLine_24 (by decide) ?_
    refine S_aload_0 25 dX9_groupLine_25 ?_
    refine S_getI 26 fsX9_170 rfl dX9_groupLine_26 ?_
    refine S_callV (a' := 0) (b' := 0) (a := 0) (b := 0) 29 (As := [.int 0, .int (xi h4 t 35)]) (ci := 9) rfl calX9_newName imX9_newName seX9_newName mkX9_173 rfl rfl rfl rfl rfl (by decide) rfl rfl dX9_groupLine_29 (CX9_newName E t 0 (xi h4 t 35) h4) (fun _ h5 => kqU ?_)
    refine S_aload_0 32 dX9_groupLine_32 ?_
    refine S_ldcS 33 16 (by decide) rfl rfl dX9_groupLine_33 ?_
    refine S_callV (a' := 0) (b' := 0) (a := 0) (b := 0) 35 (As := [.ref (eK E 16)]) (ci := 9) rfl calX9_isWord imX9_isWord seX9_isWord mkX9_179 rfl rfl rfl rfl rfl (by decide) rfl rfl dX9_groupLine_35 (CX9_isWord E t 16 h5) (fun v6 h7 => kqI ?_)
    refine S_join (fun jj => ∀  (h8 : XH), XS E mX9_groupLine eU 0 0 198 [some (.ref t), none, none] [] h8 (jj  h8)) (fun  h8 => ?_) (fun j198 hj198 => ?_)
    · skip
      refine S_aload_0 198 dX9_groupLine_198 ?_
      refine S_dup 199 dX9_groupLine_199 rfl ?_
      refine S_getI 200 fsX9_170 rfl dX9_groupLine_200 ?_
      refine S_aload_0 203 dX9_groupLine_203 ?_
      refine S_getI 204 fsX9_130 rfl dX9_groupLine_204 ?_
      refine S_join (fun jj => ∀ (v9 : Int32) (h10 : XH), XS E mX9_groupLine eU 0 0 215 [none, none, none] [.int v9, .int (xi h8 t 35), .ref t] h10 (jj v9 h10)) (fun v9 h10 => ?_) (fun j215 hj215 => ?_)
      · skip
        refine S_callS (a' := 0) (b' := 0) (a := 0) (b := 0) 215 (As := [.int v9]) rfl calX9_flag stX9_flag mkX9_207 rfl rfl rfl rfl rfl dX9_groupLine_215 (CX9_flag E v9 h10) (fun v11 h12 => kqI ?_)
        refine S_iadd 218 dX9_groupLine_218 ?_
        refine S_putI 219 frX9_170 rfl (fun q => by cases q) dX9_groupLine_219 (fun h13 => ?_)
        exact S_ret 222 dX9_groupLine_222 rfl
      refine S_ifne 207 214 dX9_groupLine_207 (by decide) ?_ ?_
      · skip
        refine S_ic 214 0 dX9_groupLine_214 (by decide) ?_
        exact S_drop [0] rfl (hj215 _ _)
      · skip
        refine S_ic 210 1 dX9_groupLine_210 (by decide) ?_
        refine S_goto 211 215 dX9_groupLine_211 (by decide) ?_
        exact S_drop [0] rfl (hj215 _ _)
    refine S_ifeq 38 59 dX9_groupLine_38 (by decide) ?_ ?_
    · skip
      refine S_aload_0 59 dX9_groupLine_59 ?_
      refine S_ldcS 60 17 (by decide) rfl rfl dX9_groupLine_60 ?_
      refine S_callV (a' := 0) (b' := 0) (a := 0) (b := 0) 62 (As := [.ref (eK E 17)]) (ci := 9) rfl calX9_isWord imX9_isWord seX9_isWord mkX9_179 rfl rfl rfl rfl rfl (by decide) rfl rfl dX9_groupLine_62 (CX9_isWord E t 17 h7) (fun v14 h15 => kqI ?_)
      refine S_ifeq 65 85 dX9_groupLine_65 (by decide) ?_ ?_
      · skip
        refine S_aload_0 85 dX9_groupLine_85 ?_
        refine S_ldcS 86 18 (by decide) rfl rfl dX9_groupLine_86 ?_
        refine S_callV (a' := 0) (b' := 0) (a := 0) (b := 0) 88 (As := [.ref (eK E 18)]) (ci := 9) rfl calX9_isWord imX9_isWord seX9_isWord mkX9_179 rfl rfl rfl rfl rfl (by decide) rfl rfl dX9_groupLine_88 (CX9_isWord E t 18 h15) (fun v16 h17 => kqI ?_)
        refine S_ifeq 91 105 dX9_groupLine_91 (by decide) ?_ ?_
        · skip
          refine S_aload_0 105 dX9_groupLine_105 ?_
          refine S_ldcS 106 19 (by decide) rfl rfl dX9_groupLine_106 ?_
          refine S_callV (a' := 0) (b' := 0) (a := 0) (b := 0) 108 (As := [.ref (eK E 19)]) (ci := 9) rfl calX9_isWord imX9_isWord seX9_isWord mkX9_179 rfl rfl rfl rfl rfl (by decide) rfl rfl dX9_groupLine_108 (CX9_isWord E t 19 h17) (fun v18 h19 => kqI ?_)
          refine S_ifeq 111 193 dX9_groupLine_111 (by decide) ?_ ?_
          · skip
            refine S_aload_0 193 dX9_groupLine_193 ?_
            refine S_ic 194 1 dX9_groupLine_194 (by decide) ?_
            refine S_callV (a' := 0) (b' := 0) (a := 0) (b := 0) 195 (As := [.int 1]) (ci := 9) rfl calX9_fails imX9_fails seX9_fails mkX9_136 rfl rfl rfl rfl rfl (by decide) rfl rfl dX9_groupLine_195 (CX9_fails E t 1 h19) (fun _ h20 => kqU ?_)
            exact S_drop [] rfl (hj198 _)
          · skip
            refine S_aload_0 114 dX9_groupLine_114 ?_
            refine S_callV (a' := 0) (b' := 0) (a := 0) (b := 0) 115 (As := []) (ci := 9) rfl calX9_goesOn imX9_goesOn seX9_goesOn mkX9_156 rfl rfl rfl rfl rfl (by decide) rfl rfl dX9_groupLine_115 (CX9_goesOn E t  h19) (fun _ h21 => kqU ?_)
            refine S_aload_0 118 dX9_groupLine_118 ?_
            refine S_ic 119 0 dX9_groupLine_119 (by decide) ?_
            refine S_aload_0 120 dX9_groupLine_120 ?_
            refine S_getI 121 fsX9_170 rfl dX9_groupLine_121 ?_
            refine S_callV (a' := 0) (b' := 0) (a := 0) (b := 0) 124 (As := [.int 0, .int (xi h21 t 35)]) (ci := 9) rfl calX9_takesName imX9_takesName seX9_takesName mkX9_201 rfl rfl rfl rfl rfl (by decide) rfl rfl dX9_groupLine_124 (CX9_takesName E t 0 (xi h21 t 35) h21) (fun v22 h23 => kqI ?_)
            refine S_istore_1 127 dX9_groupLine_127 rfl ?_
            refine S_aload_0 128 dX9_groupLine_128 ?_
            refine S_ic 129 0 dX9_groupLine_129 (by decide) ?_
            refine S_aload_0 130 dX9_groupLine_130 ?_
            refine S_getI 131 fsX9_170 rfl dX9_groupLine_131 ?_
            refine S_callV (a' := 0) (b' := 0) (a := 0) (b := 0) 134 (As := [.int 0, .int (xi h23 t 35)]) (ci := 9) rfl calX9_oldName imX9_oldName seX9_oldName mkX9_167 rfl rfl rfl rfl rfl (by decide) rfl rfl dX9_groupLine_134 (CX9_oldName E t 0 (xi h23 t 35) h23) (fun v24 h25 => kqI ?_)
            refine S_istore_2 137 dX9_groupLine_137 rfl ?_
            refine S_aload_0 138 dX9_groupLine_138 ?_
            refine S_aload_0 139 dX9_groupLine_139 ?_
            refine S_getI 140 fsX9_130 rfl dX9_groupLine_140 ?_
            refine S_join (fun jj => ∀ (v26 : Int32) (h27 : XH), XS E mX9_groupLine eU 0 0 169 [some (.ref t), some (.int v22), some (.int v24)] [.int v26, .ref t] h27 (jj v26 h27)) (fun v26 h27 => ?_) (fun j169 hj169 => ?_)
            · skip
              refine S_ic 169 4 dX9_groupLine_169 (by decide) ?_
              refine S_callV (a' := 0) (b' := 0) (a := 0) (b := 0) 170 (As := [.int v26, .int 4]) (ci := 9) rfl calX9_failsIf imX9_failsIf seX9_failsIf mkX9_159 rfl rfl rfl rfl rfl (by decide) rfl rfl dX9_groupLine_170 (CX9_failsIf E t v26 4 h27) (fun _ h28 => kqU ?_)
              refine S_aload_0 173 dX9_groupLine_173 ?_
              refine S_callV (a' := 0) (b' := 0) (a := 0) (b := 0) 174 (As := []) (ci := 9) rfl calX9_goesOn imX9_goesOn seX9_goesOn mkX9_156 rfl rfl rfl rfl rfl (by decide) rfl rfl dX9_groupLine_174 (CX9_goesOn E t  h28) (fun _ h29 => kqU ?_)
              refine S_aload_0 177 dX9_groupLine_177 ?_
              refine S_getI 178 fsX9_130 rfl dX9_groupLine_178 ?_
              refine S_join (fun jj => ∀  (h30 : XH), XS E mX9_groupLine eU 0 0 190 [some (.ref t), none, none] [] h30 (jj  h30)) (fun  h30 => ?_) (fun j190 hj190 => ?_)
              · skip
                refine S_goto 190 198 dX9_groupLine_190 (by decide) ?_
                exact S_drop [] rfl (hj198 _)
              refine S_ifne 181 190 dX9_groupLine_181 (by decide) ?_ ?_
              · skip
                exact S_drop [1, 2] rfl (hj190 _)
              · skip
                refine S_aload_0 184 dX9_groupLine_184 ?_
                refine S_iload_1 185 dX9_groupLine_185 ?_
                refine S_iload_2 186 dX9_groupLine_186 ?_
                refine S_callV (a' := 0) (b' := 0) (a := 0) (b := 0) 187 (As := [.int v22, .int v24]) (ci := 9) rfl calX9_laysProduct imX9_laysProduct seX9_laysProduct mkX9_204 rfl rfl rfl rfl rfl (by decide) rfl rfl dX9_groupLine_187 (CX9_laysProduct E t v22 v24 h29) (fun _ h31 => kqU ?_)
                exact S_drop [1, 2] rfl (hj190 _)
            refine S_join (fun jj => ∀  (h32 : XH), XS E mX9_groupLine eU 0 0 168 [some (.ref t), some (.int v22), some (.int v24)] [.ref t] h32 (jj  h32)) (fun  h32 => ?_) (fun j168 hj168 => ?_)
            · skip
              refine S_ic 168 0 dX9_groupLine_168 (by decide) ?_
              exact S_drop [] rfl (hj169 _ _)
            refine S_ifne 143 168 dX9_groupLine_143 (by decide) ?_ ?_
            · skip
              exact S_drop [] rfl (hj168 _)
            · skip
              refine S_aload_0 146 dX9_groupLine_146 ?_
              refine S_getR 147 fsX9_51 rfl dX9_groupLine_147 (fun w33 => ?_)
              refine S_iload_1 150 dX9_groupLine_150 ?_
              refine S_iald 151 dX9_groupLine_151 ?_
              refine S_aload_0 152 dX9_groupLine_152 ?_
              refine S_getR 153 fsX9_51 rfl dX9_groupLine_153 (fun w34 => ?_)
              refine S_iload_2 156 dX9_groupLine_156 ?_
              refine S_iald 157 dX9_groupLine_157 ?_
              refine S_imul 158 dX9_groupLine_158 ?_
              refine S_bip 159 8 dX9_groupLine_159 (by decide) ?_
              refine S_icmple 161 168 dX9_groupLine_161 (by decide) ?_ ?_
              · skip
                exact S_drop [] rfl (hj168 _)
              · skip
                refine S_ic 164 1 dX9_groupLine_164 (by decide) ?_
                refine S_goto 165 169 dX9_groupLine_165 (by decide) ?_
                exact S_drop [] rfl (hj169 _ _)
        · skip
          refine S_aload_0 94 dX9_groupLine_94 ?_
          refine S_callV (a' := 0) (b' := 0) (a := 0) (b := 0) 95 (As := []) (ci := 9) rfl calX9_goesOn imX9_goesOn seX9_goesOn mkX9_156 rfl rfl rfl rfl rfl (by decide) rfl rfl dX9_groupLine_95 (CX9_goesOn E t  h17) (fun _ h35 => kqU ?_)
          refine S_aload_0 98 dX9_groupLine_98 ?_
          refine S_callV (a' := 0) (b' := 0) (a := 0) (b := 0) 99 (As := []) (ci := 9) rfl calX9_laysQuaternion imX9_laysQuaternion seX9_laysQuaternion mkX9_196 rfl rfl rfl rfl rfl (by decide) rfl rfl dX9_groupLine_99 (CX9_laysQuaternion E t  h35) (fun _ h36 => kqU ?_)
          refine S_goto 102 198 dX9_groupLine_102 (by decide) ?_
          exact S_drop [] rfl (hj198 _)
      · skip
        refine S_aload_0 68 dX9_groupLine_68 ?_
        refine S_callV (a' := 0) (b' := 0) (a := 0) (b := 0) 69 (As := []) (ci := 9) rfl calX9_goesOn imX9_goesOn seX9_goesOn mkX9_156 rfl rfl rfl rfl rfl (by decide) rfl rfl dX9_groupLine_69 (CX9_goesOn E t  h15) (fun _ h37 => kqU ?_)
        refine S_aload_0 72 dX9_groupLine_72 ?_
        refine S_aload_0 73 dX9_groupLine_73 ?_
        refine S_ic 74 3 dX9_groupLine_74 (by decide) ?_
        refine S_ic 75 4 dX9_groupLine_75 (by decide) ?_
        refine S_callV (a' := 0) (b' := 0) (a := 0) (b := 0) 76 (As := [.int 3, .int 4]) (ci := 9) rfl calX9_takes imX9_takes seX9_takes mkX9_183 rfl rfl rfl rfl rfl (by decide) rfl rfl dX9_groupLine_76 (CX9_takes E t 3 4 h37) (fun v38 h39 => kqI ?_)
        refine S_callV (a' := 0) (b' := 0) (a := 0) (b := 0) 79 (As := [.int v38]) (ci := 9) rfl calX9_laysDihedral imX9_laysDihedral seX9_laysDihedral mkX9_191 rfl rfl rfl rfl rfl (by decide) rfl rfl dX9_groupLine_79 (CX9_laysDihedral E t v38 h39) (fun _ h40 => kqU ?_)
        refine S_goto 82 198 dX9_groupLine_82 (by decide) ?_
        exact S_drop [] rfl (hj198 _)
    · skip
      refine S_aload_0 41 dX9_groupLine_41 ?_
      refine S_callV (a' := 0) (b' := 0) (a := 0) (b := 0) 42 (As := []) (ci := 9) rfl calX9_goesOn imX9_goesOn seX9_goesOn mkX9_156 rfl rfl rfl rfl rfl (by decide) rfl rfl dX9_groupLine_42 (CX9_goesOn E t  h7) (fun _ h41 => kqU ?_)
      refine S_aload_0 45 dX9_groupLine_45 ?_
      refine S_aload_0 46 dX9_groupLine_46 ?_
      refine S_ic 47 1 dX9_groupLine_47 (by decide) ?_
      refine S_bip 48 8 dX9_groupLine_48 (by decide) ?_
      refine S_callV (a' := 0) (b' := 0) (a := 0) (b := 0) 50 (As := [.int 1, .int 8]) (ci := 9) rfl calX9_takes imX9_takes seX9_takes mkX9_183 rfl rfl rfl rfl rfl (by decide) rfl rfl dX9_groupLine_50 (CX9_takes E t 1 8 h41) (fun v42 h43 => kqI ?_)
      refine S_callV (a' := 0) (b' := 0) (a := 0) (b := 0) 53 (As := [.int v42]) (ci := 9) rfl calX9_laysCyclic imX9_laysCyclic seX9_laysCyclic mkX9_186 rfl rfl rfl rfl rfl (by decide) rfl rfl dX9_groupLine_53 (CX9_laysCyclic E t v42 h43) (fun _ h44 => kqU ?_)
      refine S_goto 56 198 dX9_groupLine_56 (by decide) ?_
      exact S_drop [] rfl (hj198 _)
  refine S_icmpne 7 14 dX9_groupLine_7 (by decide) ?_ ?_
  · skip
    refine S_ic 14 0 dX9_groupLine_14 (by decide) ?_
    exact S_drop [] rfl (hj15 _ _)
  · skip
    refine S_ic 10 1 dX9_groupLine_10 (by decide) ?_
    refine S_goto 11 15 dX9_groupLine_11 (by decide) ?_
    exact S_drop [] rfl (hj15 _ _)
def FX9_moduleLine (E : XG) (t : Nat) (h : XH) : XP Unit := xg (xk h t = 10) <| xlt (xi h t 36) fun v1 => xjn (fun (v2 : Int32) (h3 : XH) => xg (xk h3 t = 10) <| xb (FX9_failsIf E t v2 4 h3) fun _ h4 => xg (xk h4 t = 10) <| xb (FX9_goesOn E t  h4) fun _ h5 => xg (xk h5 t = 10) <| xb (FX9_newName E t 6 v1 h5) fun _ h6 => xg (xk h6 t = 10) <| xg (xk h6 t = 10) <| xb (FX9_takesName E t 0 (xi h6 t 35) h6) fun v7 h8 => xg (xk h8 t = 10) <| xg (xk h8 t = 10) <| xb (FX9_takesName E t 0 (xi h8 t 35) h8) fun v9 h10 => xlp (fun again55 (s55 : Int32) h11 => xg (xk h11 t = 10) <| xjn (fun  (h12 : XH) => xg (xk h12 t = 10) <| if ((xi h12 t 25) : Int32) = 0 then (xg (xk h12 t = 10) <| xnn (xr h12 t 30) fun w13 => xg (xk h12 w13 = 12 ∧ xin v1 (xn h12 w13)) <| xlt (yi h12 w13 (v1 : Int32).toNatClampNeg v7) fun h14 => xg (xk h14 t = 10) <| xnn (xr h14 t 31) fun w15 => xg (xk h14 w15 = 12 ∧ xin v1 (xn h14 w15)) <| xlt (yi h14 w15 (v1 : Int32).toNatClampNeg v9) fun h16 => xg (xk h16 t = 10) <| xnn (xr h16 t 38) fun w17 => xg (xk h16 w17 = 12 ∧ xin v1 (xn h16 w17)) <| xlt (yi h16 w17 (v1 : Int32).toNatClampNeg 0) fun h18 => xlp (fun again138 (s138 : Int32) h19 => if (64 : Int32) ≤ s138 then (xg (xk h19 t = 10) <| xg (xk h19 t = 10) <| xlt (yi h19 t 36 ((xi h19 t 36) + 1)) fun h20 => xv () h20) else (xg (xk h19 t = 10) <| xnn (xr h19 t 27) fun w21 => xg ((8 : Int32) ≠ 0) <| xg (xk h19 w21 = 12 ∧ xin ((48 + (64 * v1)) + s138) (xn h19 w21)) <| xlt (yi h19 w21 (((48 + (64 * v1)) + s138) : Int32).toNatClampNeg (xrem s138 8)) fun h22 => again138 (s138 + 1) h22)) xfu 0 h18) else (xv () h12)) fun (j106 : XH → XP Unit) => if ((xi h11 t 25) : Int32) = 0 then (xg (xk h11 t = 10) <| xnn (xr h11 t 28) fun w23 => xg (xk h11 w23 = 12 ∧ xin v7 (xn h11 w23)) <| if ((xi h11 w23 (v7 : Int32).toNatClampNeg) : Int32) ≤ s55 then (j106 h11) else (xg (xk h11 t = 10) <| xnn (xr h11 t 27) fun w24 => xg (xk h11 t = 10) <| xnn (xr h11 t 28) fun w25 => xg (xk h11 w25 = 12 ∧ xin v9 (xn h11 w25)) <| xg (xk h11 t = 10) <| xb (FX9_takes E t 0 ((xi h11 w25 (v9 : Int32).toNatClampNeg) - 1) h11) fun v26 h27 => xg (xk h27 w24 = 12 ∧ xin ((0 + (8 * v1)) + s55) (xn h27 w24)) <| xlt (yi h27 w24 (((0 + (8 * v1)) + s55) : Int32).toNatClampNeg v26) fun h28 => again55 (s55 + 1) h28)) else (j106 h11)) xfu 0 h10) fun (j17 : Int32 → XH → XP Unit) => if (v1 : Int32) = 6 then (j17 1 h) else (j17 0 h)
theorem CX9_moduleLine (E : XG) (t : Nat) (h : XH) : XN E mX9_moduleLine eU 0 0 [.ref t] h (FX9_moduleLine E t h) := by
  unfold FX9_moduleLine
  refine S_enter (L := [some (.ref t), none, none, none, none]) (by decide +kernel) rfl rfl rfl ?_
  refine S_aload_0 0 dX9_moduleLine_0 ?_
  refine S_getI 1 fsX9_218 rfl dX9_moduleLine_1 ?_
  refine S_gen (fun v1 => ?_)
  refine S_istore_1 4 dX9_moduleLine_4 rfl ?_
  refine S_aload_0 5 dX9_moduleLine_5 ?_
  refine S_iload_1 6 dX9_moduleLine_6 ?_
  refine S_bip 7 6 dX9_moduleLine_7 (by decide) ?_
  refine S_join (fun jj => ∀ (v2 : Int32) (h3 : XH), XS E mX9_moduleLine eU 0 0 17 [some (.ref t), some (.int v1), none, none, none] [.int v2, .ref t] h3 (jj v2 h3)) (fun v2 h3 => ?_) (fun j17 hj17 => ?_)
  · skip
    refine S_ic 17 4 dX9_moduleLine_17 (by decide) ?_
    refine S_callV (a' := 0) (b' := 0) (a := 0) (b := 0) 18 (As := [.int v2, .int 4]) (ci := 9) rfl calX9_failsIf imX9_failsIf seX9_failsIf mkX9_159 rfl rfl rfl rfl rfl (by decide) rfl rfl dX9_moduleLine_18 (CX9_failsIf E t v2 4 h3) (fun _ h4 => kqU ?_)
    refine S_aload_0 21 dX9_moduleLine_21 ?_
    refine S_callV (a' := 0) (b' := 0) (a := 0) (b := 0) 22 (As := []) (ci := 9) rfl calX9_goesOn imX9_goesOn seX9_goesOn mkX9_156 rfl rfl rfl rfl rfl (by decide) rfl rfl dX9_moduleLine_22 (CX9_goesOn E t  h4) (fun _ h5 => kqU ?_)
    refine S_aload_0 25 dX9_moduleLine_25 ?_
    refine S_bip 26 6 dX9_moduleLine_26 (by decide) ?_
    refine S_iload_1 28 dX9_moduleLine_28 ?_
    refine S_callV (a' := 0) (b' := 0) (a := 0) (b := 0) 29 (As := [.int 6, .int v1]) (ci := 9) rfl calX9_newName imX9_newName seX9_newName mkX9_173 rfl rfl rfl rfl rfl (by decide) rfl rfl dX9_moduleLine_29 (CX9_newName E t 6 v1 h5) (fun _ h6 => kqU ?_)
    refine S_aload_0 32 dX9_moduleLine_32 ?_
    refine S_ic 33 0 dX9_moduleLine_33 (by decide) ?_
    refine S_aload_0 34 dX9_moduleLine_34 ?_
    refine S_getI 35 fsX9_170 rfl dX9_moduleLine_35 ?_
    refine S_callV (a' := 0) (b' := 0) (a := 0) (b := 0) 38 (As := [.int 0, .int (xi h6 t 35)]) (ci := 9) rfl calX9_takesName imX9_takesName seX9_takesName mkX9_201 rfl rfl rfl rfl rfl (by decide) rfl rfl dX9_moduleLine_38 (CX9_takesName E t 0 (xi h6 t 35) h6) (fun v7 h8 => kqI ?_)
    refine S_istore_2 41 dX9_moduleLine_41 rfl ?_
    refine S_aload_0 42 dX9_moduleLine_42 ?_
    refine S_ic 43 0 dX9_moduleLine_43 (by decide) ?_
    refine S_aload_0 44 dX9_moduleLine_44 ?_
    refine S_getI 45 fsX9_170 rfl dX9_moduleLine_45 ?_
    refine S_callV (a' := 0) (b' := 0) (a := 0) (b := 0) 48 (As := [.int 0, .int (xi h8 t 35)]) (ci := 9) rfl calX9_takesName imX9_takesName seX9_takesName mkX9_201 rfl rfl rfl rfl rfl (by decide) rfl rfl dX9_moduleLine_48 (CX9_takesName E t 0 (xi h8 t 35) h8) (fun v9 h10 => kqI ?_)
    refine S_istore_3 51 dX9_moduleLine_51 rfl ?_
    refine S_ic 52 0 dX9_moduleLine_52 (by decide) ?_
    refine S_istore_4 53 dX9_moduleLine_53 rfl ?_
    refine S_loop (fun (s55 : Int32) => [some (.ref t), some (.int v1), some (.int v7), some (.int v9), some (.int s55)]) (fun again55 hg55 s55 h11 => ?_) xfu _ _
    refine S_aload_0 55 dX9_moduleLine_55 ?_
    refine S_getI 56 fsX9_130 rfl dX9_moduleLine_56 ?_
    refine S_join (fun jj => ∀  (h12 : XH), XS E mX9_moduleLine eU 0 0 106 [some (.ref t), some (.int v1), some (.int v7), some (.int v9), none] [] h12 (jj  h12)) (fun  h12 => ?_) (fun j106 hj106 => ?_)
    · skip
      refine S_aload_0 106 dX9_moduleLine_106 ?_
      refine S_getI 107 fsX9_130 rfl dX9_moduleLine_107 ?_
      refine S_ifeq 110 114 dX9_moduleLine_110 (by decide) ?_ ?_
      · skip
        refine S_aload_0 114 dX9_moduleLine_114 ?_
        refine S_getR 115 fsX9_57 rfl dX9_moduleLine_115 (fun w13 => ?_)
        refine S_iload_1 118 dX9_moduleLine_118 ?_
        refine S_iload_2 119 dX9_moduleLine_119 ?_
        refine S_iast 120 dX9_moduleLine_120 (fun h14 => ?_)
        refine S_aload_0 121 dX9_moduleLine_121 ?_
        refine S_getR 122 fsX9_60 rfl dX9_moduleLine_122 (fun w15 => ?_)
        refine S_iload_1 125 dX9_moduleLine_125 ?_
        refine S_iload_3 126 dX9_moduleLine_126 ?_
        refine S_iast 127 dX9_moduleLine_127 (fun h16 => ?_)
        refine S_aload_0 128 dX9_moduleLine_128 ?_
        refine S_getR 129 fsX9_72 rfl dX9_moduleLine_129 (fun w17 => ?_)
        refine S_iload_1 132 dX9_moduleLine_132 ?_
        refine S_ic 133 0 dX9_moduleLine_133 (by decide) ?_
        refine S_iast 134 dX9_moduleLine_134 (fun h18 => ?_)
        refine S_ic 135 0 dX9_moduleLine_135 (by decide) ?_
        refine S_istore_4 136 dX9_moduleLine_136 rfl ?_
        refine S_drop [2, 3] rfl ?_
        refine S_loop (fun (s138 : Int32) => [some (.ref t), some (.int v1), none, none, some (.int s138)]) (fun again138 hg138 s138 h19 => ?_) xfu _ _
        refine S_iload_4 138 dX9_moduleLine_138 ?_
        refine S_bip 140 64 dX9_moduleLine_140 (by decide) ?_
        refine S_icmpge 142 171 dX9_moduleLine_142 (by decide) ?_ ?_
        · skip
          refine S_aload_0 171 dX9_moduleLine_171 ?_
          refine S_dup 172 dX9_moduleLine_172 rfl ?_
          refine S_getI 173 fsX9_218 rfl dX9_moduleLine_173 ?_
          refine S_ic 176 1 dX9_moduleLine_176 (by decide) ?_
          refine S_iadd 177 dX9_moduleLine_177 ?_
          refine S_putI 178 frX9_218 rfl (fun q => by cases q) dX9_moduleLine_178 (fun h20 => ?_)
          exact S_ret 181 dX9_moduleLine_181 rfl
        · skip
          refine S_aload_0 145 dX9_moduleLine_145 ?_
          refine S_getR 146 fsX9_48 rfl dX9_moduleLine_146 (fun w21 => ?_)
          refine S_bip 149 48 dX9_moduleLine_149 (by decide) ?_
          refine S_bip 151 64 dX9_moduleLine_151 (by decide) ?_
          refine S_iload_1 153 dX9_moduleLine_153 ?_
          refine S_imul 154 dX9_moduleLine_154 ?_
          refine S_iadd 155 dX9_moduleLine_155 ?_
          refine S_iload_4 156 dX9_moduleLine_156 ?_
          refine S_iadd 158 dX9_moduleLine_158 ?_
          refine S_iload_4 159 dX9_moduleLine_159 ?_
          refine S_bip 161 8 dX9_moduleLine_161 (by decide) ?_
          refine S_irem 163 dX9_moduleLine_163 ?_
          refine S_iast 164 dX9_moduleLine_164 (fun h22 => ?_)
          refine S_iinc_4 165 (s138 + 1) dX9_moduleLine_165 (by rfl) rfl ?_
          refine S_goto 168 138 dX9_moduleLine_168 (by decide) ?_
          exact S_drop [] rfl (hg138 _ _)
      · skip
        exact S_ret 113 dX9_moduleLine_113 rfl
    refine S_ifne 59 106 dX9_moduleLine_59 (by decide) ?_ ?_
    · skip
      exact S_drop [4] rfl (hj106 _)
    · skip
      refine S_iload_4 62 dX9_moduleLine_62 ?_
      refine S_aload_0 64 dX9_moduleLine_64 ?_
      refine S_getR 65 fsX9_51 rfl dX9_moduleLine_65 (fun w23 => ?_)
      refine S_iload_2 68 dX9_moduleLine_68 ?_
      refine S_iald 69 dX9_moduleLine_69 ?_
      refine S_icmpge 70 106 dX9_moduleLine_70 (by decide) ?_ ?_
      · skip
        exact S_drop [4] rfl (hj106 _)
      · skip
        refine S_aload_0 73 dX9_moduleLine_73 ?_
        refine S_getR 74 fsX9_48 rfl dX9_moduleLine_74 (fun w24 => ?_)
        refine S_ic 77 0 dX9_moduleLine_77 (by decide) ?_
        refine S_bip 78 8 dX9_moduleLine_78 (by decide) ?_
        refine S_iload_1 80 dX9_moduleLine_80 ?_
        refine S_imul 81 dX9_moduleLine_81 ?_
        refine S_iadd 82 dX9_moduleLine_82 ?_
        refine S_iload_4 83 dX9_moduleLine_83 ?_
        refine S_iadd 85 dX9_moduleLine_85 ?_
        refine S_aload_0 86 dX9_moduleLine_86 ?_
        refine S_ic 87 0 dX9_moduleLine_87 (by decide) ?_
        refine S_aload_0 88 dX9_moduleLine_88 ?_
        refine S_getR 89 fsX9_51 rfl dX9_moduleLine_89 (fun w25 => ?_)
        refine S_iload_3 92 dX9_moduleLine_92 ?_
        refine S_iald 93 dX9_moduleLine_93 ?_
        refine S_ic 94 1 dX9_moduleLine_94 (by decide) ?_
        refine S_isub 95 dX9_moduleLine_95 ?_
        refine S_callV (a' := 0) (b' := 0) (a := 0) (b := 0) 96 (As := [.int 0, .int ((xi h11 w25 (v9 : Int32).toNatClampNeg) - 1)]) (ci := 9) rfl calX9_takes imX9_takes seX9_takes mkX9_183 rfl rfl rfl rfl rfl (by decide) rfl rfl dX9_moduleLine_96 (CX9_takes E t 0 ((xi h11 w25 (v9 : Int32).toNatClampNeg) - 1) h11) (fun v26 h27 => kqI ?_)
        refine S_iast 99 dX9_moduleLine_99 (fun h28 => ?_)
        refine S_iinc_4 100 (s55 + 1) dX9_moduleLine_100 (by rfl) rfl ?_
        refine S_goto 103 55 dX9_moduleLine_103 (by decide) ?_
        exact S_drop [] rfl (hg55 _ _)
  refine S_icmpne 9 16 dX9_moduleLine_9 (by decide) ?_ ?_
  · skip
    refine S_ic 16 0 dX9_moduleLine_16 (by decide) ?_
    exact S_drop [] rfl (hj17 _ _)
  · skip
    refine S_ic 12 1 dX9_moduleLine_12 (by decide) ?_
    refine S_goto 13 17 dX9_moduleLine_13 (by decide) ?_
    exact S_drop [] rfl (hj17 _ _)
def FX9_actLine (E : XG) (t : Nat) (h : XH) : XP Unit := xg (xk h t = 10) <| xb (FX9_goesOn E t  h) fun _ h1 => xg (xk h1 t = 10) <| xg (xk h1 t = 10) <| xb (FX9_takesName E t 6 (xi h1 t 36) h1) fun v2 h3 => xg (xk h3 t = 10) <| if ((xi h3 t 25) : Int32) = 0 then (xg (xk h3 t = 10) <| xjn (fun  (h4 : XH) => xg (xk h4 t = 10) <| xnn (xr h4 t 28) fun w5 => xg (xk h4 t = 10) <| xnn (xr h4 t 31) fun w6 => xg (xk h4 w6 = 12 ∧ xin v2 (xn h4 w6)) <| xg (xk h4 w5 = 12 ∧ xin (xi h4 w6 (v2 : Int32).toNatClampNeg) (xn h4 w5)) <| xg (xk h4 t = 10) <| xb (FX9_takes E t 0 ((xi h4 w5 ((xi h4 w6 (v2 : Int32).toNatClampNeg) : Int32).toNatClampNeg) - 1) h4) fun v7 h8 => xg (xk h8 t = 10) <| xnn (xr h8 t 28) fun w9 => xg (xk h8 t = 10) <| xnn (xr h8 t 30) fun w10 => xg (xk h8 w10 = 12 ∧ xin v2 (xn h8 w10)) <| xg (xk h8 w9 = 12 ∧ xin (xi h8 w10 (v2 : Int32).toNatClampNeg) (xn h8 w9)) <| xlt (xi h8 w9 ((xi h8 w10 (v2 : Int32).toNatClampNeg) : Int32).toNatClampNeg) fun v11 => xlp (fun again107 (s107 : Int32) h12 => xg (xk h12 t = 10) <| xjn (fun  (h13 : XH) => xg (xk h13 t = 10) <| xnn (xr h13 t 38) fun w14 => xg (xk h13 w14 = 12 ∧ xin v2 (xn h13 w14)) <| xg (xk h13 w14 = 12 ∧ xin v2 (xn h13 w14)) <| xlt (yi h13 w14 (v2 : Int32).toNatClampNeg ((xi h13 w14 (v2 : Int32).toNatClampNeg) ||| (1 <<< (v7 &&& 31)))) fun h15 => xv () h15) fun (j154 : XH → XP Unit) => if ((xi h12 t 25) : Int32) = 0 then (if (v11 : Int32) ≤ s107 then (j154 h12) else (xg (xk h12 t = 10) <| xnn (xr h12 t 27) fun w16 => xg (xk h12 t = 10) <| xb (FX9_takes E t 0 (v11 - 1) h12) fun v17 h18 => xg (xk h18 w16 = 12 ∧ xin (((48 + (64 * v2)) + (8 * v7)) + s107) (xn h18 w16)) <| xlt (yi h18 w16 ((((48 + (64 * v2)) + (8 * v7)) + s107) : Int32).toNatClampNeg v17) fun h19 => again107 (s107 + 1) h19)) else (j154 h12)) xfu 0 h8) fun (j73 : XH → XP Unit) => if ((xi h3 t 23) : Int32) = 2 then (xg (xk h3 t = 10) <| xg (xk h3 t = 10) <| xnn (xr h3 t 28) fun w20 => xg (xk h3 t = 10) <| xnn (xr h3 t 31) fun w21 => xg (xk h3 w21 = 12 ∧ xin v2 (xn h3 w21)) <| xg (xk h3 w20 = 12 ∧ xin (xi h3 w21 (v2 : Int32).toNatClampNeg) (xn h3 w20)) <| xb (FX9_in E (xi h3 t 24) 0 ((xi h3 w20 ((xi h3 w21 (v2 : Int32).toNatClampNeg) : Int32).toNatClampNeg) - 1) h3) fun v22 h23 => if (v22 : Int32) = 0 then (j73 h23) else (xg (xk h23 t = 10) <| xnn (xr h23 t 38) fun w24 => xg (xk h23 w24 = 12 ∧ xin v2 (xn h23 w24)) <| xg (xk h23 t = 10) <| xb (FX9_has E (xi h23 w24 (v2 : Int32).toNatClampNeg) (xi h23 t 24) h23) fun v25 h26 => xg (xk h26 t = 10) <| xb (FX9_failsIf E t v25 3 h26) fun _ h27 => j73 h27)) else (j73 h3)) else (xv () h3)
theorem CX9_actLine (E : XG) (t : Nat) (h : XH) : XN E mX9_actLine eU 0 0 [.ref t] h (FX9_actLine E t h) := by
  unfold FX9_actLine
  refine S_enter (L := [some (.ref t), none, none, none, none]) (by decide +kernel) rfl rfl rfl ?_
  refine S_aload_0 0 dX9_actLine_0 ?_
  refine S_callV (a' := 0) (b' := 0) (a := 0) (b := 0) 1 (As := []) (ci := 9) rfl calX9_goesOn imX9_goesOn seX9_goesOn mkX9_156 rfl rfl rfl rfl rfl (by decide) rfl rfl dX9_actLine_1 (CX9_goesOn E t  h) (fun _ h1 => kqU ?_)
  refine S_aload_0 4 dX9_actLine_4 ?_
  refine S_bip 5 6 dX9_actLine_5 (by decide) ?_
  refine S_aload_0 7 dX9_actLine_7 ?_
  refine S_getI 8 fsX9_218 rfl dX9_actLine_8 ?_
  refine S_callV (a' := 0) (b' := 0) (a := 0) (b := 0) 11 (As := [.int 6, .int (xi h1 t 36)]) (ci := 9) rfl calX9_takesName imX9_takesName seX9_takesName mkX9_201 rfl rfl rfl rfl rfl (by decide) rfl rfl dX9_actLine_11 (CX9_takesName E t 6 (xi h1 t 36) h1) (fun v2 h3 => kqI ?_)
  refine S_istore_1 14 dX9_actLine_14 rfl ?_
  refine S_aload_0 15 dX9_actLine_15 ?_
  refine S_getI 16 fsX9_130 rfl dX9_actLine_16 ?_
  refine S_ifeq 19 23 dX9_actLine_19 (by decide) ?_ ?_
  · skip
    refine S_aload_0 23 dX9_actLine_23 ?_
    refine S_getI 24 fsX9_117 rfl dX9_actLine_24 ?_
    refine S_ic 27 2 dX9_actLine_27 (by decide) ?_
    refine S_join (fun jj => ∀  (h4 : XH), XS E mX9_actLine eU 0 0 73 [some (.ref t), some (.int v2), none, none, none] [] h4 (jj  h4)) (fun  h4 => ?_) (fun j73 hj73 => ?_)
    · skip
      refine S_aload_0 73 dX9_actLine_73 ?_
      refine S_ic 74 0 dX9_actLine_74 (by decide) ?_
      refine S_aload_0 75 dX9_actLine_75 ?_
      refine S_getR 76 fsX9_51 rfl dX9_actLine_76 (fun w5 => ?_)
      refine S_aload_0 79 dX9_actLine_79 ?_
      refine S_getR 80 fsX9_60 rfl dX9_actLine_80 (fun w6 => ?_)
      refine S_iload_1 83 dX9_actLine_83 ?_
      refine S_iald 84 dX9_actLine_84 ?_
      refine S_iald 85 dX9_actLine_85 ?_
      refine S_ic 86 1 dX9_actLine_86 (by decide) ?_
      refine S_isub 87 dX9_actLine_87 ?_
      refine S_callV (a' := 0) (b' := 0) (a := 0) (b := 0) 88 (As := [.int 0, .int ((xi h4 w5 ((xi h4 w6 (v2 : Int32).toNatClampNeg) : Int32).toNatClampNeg) - 1)]) (ci := 9) rfl calX9_takes imX9_takes seX9_takes mkX9_183 rfl rfl rfl rfl rfl (by decide) rfl rfl dX9_actLine_88 (CX9_takes E t 0 ((xi h4 w5 ((xi h4 w6 (v2 : Int32).toNatClampNeg) : Int32).toNatClampNeg) - 1) h4) (fun v7 h8 => kqI ?_)
      refine S_istore_2 91 dX9_actLine_91 rfl ?_
      refine S_aload_0 92 dX9_actLine_92 ?_
      refine S_getR 93 fsX9_51 rfl dX9_actLine_93 (fun w9 => ?_)
      refine S_aload_0 96 dX9_actLine_96 ?_
      refine S_getR 97 fsX9_57 rfl dX9_actLine_97 (fun w10 => ?_)
      refine S_iload_1 100 dX9_actLine_100 ?_
      refine S_iald 101 dX9_actLine_101 ?_
      refine S_iald 102 dX9_actLine_102 ?_
      refine S_gen (fun v11 => ?_)
      refine S_istore_3 103 dX9_actLine_103 rfl ?_
      refine S_ic 104 0 dX9_actLine_104 (by decide) ?_
      refine S_istore_4 105 dX9_actLine_105 rfl ?_
      refine S_loop (fun (s107 : Int32) => [some (.ref t), some (.int v2), some (.int v7), some (.int v11), some (.int s107)]) (fun again107 hg107 s107 h12 => ?_) xfu _ _
      refine S_aload_0 107 dX9_actLine_107 ?_
      refine S_getI 108 fsX9_130 rfl dX9_actLine_108 ?_
      refine S_join (fun jj => ∀  (h13 : XH), XS E mX9_actLine eU 0 0 154 [some (.ref t), some (.int v2), some (.int v7), none, none] [] h13 (jj  h13)) (fun  h13 => ?_) (fun j154 hj154 => ?_)
      · skip
        refine S_aload_0 154 dX9_actLine_154 ?_
        refine S_getR 155 fsX9_72 rfl dX9_actLine_155 (fun w14 => ?_)
        refine S_iload_1 158 dX9_actLine_158 ?_
        refine S_dup2 159 dX9_actLine_159 rfl rfl ?_
        refine S_iald 160 dX9_actLine_160 ?_
        refine S_ic 161 1 dX9_actLine_161 (by decide) ?_
        refine S_iload_2 162 dX9_actLine_162 ?_
        refine S_ishl 163 dX9_actLine_163 ?_
        refine S_ior 164 dX9_actLine_164 ?_
        refine S_iast 165 dX9_actLine_165 (fun h15 => ?_)
        exact S_ret 166 dX9_actLine_166 rfl
      refine S_ifne 111 154 dX9_actLine_111 (by decide) ?_ ?_
      · skip
        exact S_drop [3, 4] rfl (hj154 _)
      · skip
        refine S_iload_4 114 dX9_actLine_114 ?_
        refine S_iload_3 116 dX9_actLine_116 ?_
        refine S_icmpge 117 154 dX9_actLine_117 (by decide) ?_ ?_
        · skip
          exact S_drop [3, 4] rfl (hj154 _)
        · skip
          refine S_aload_0 120 dX9_actLine_120 ?_
          refine S_getR 121 fsX9_48 rfl dX9_actLine_121 (fun w16 => ?_)
          refine S_bip 124 48 dX9_actLine_124 (by decide) ?_
          refine S_bip 126 64 dX9_actLine_126 (by decide) ?_
          refine S_iload_1 128 dX9_actLine_128 ?_
          refine S_imul 129 dX9_actLine_129 ?_
          refine S_iadd 130 dX9_actLine_130 ?_
          refine S_bip 131 8 dX9_actLine_131 (by decide) ?_
          refine S_iload_2 133 dX9_actLine_133 ?_
          refine S_imul 134 dX9_actLine_134 ?_
          refine S_iadd 135 dX9_actLine_135 ?_
          refine S_iload_4 136 dX9_actLine_136 ?_
          refine S_iadd 138 dX9_actLine_138 ?_
          refine S_aload_0 139 dX9_actLine_139 ?_
          refine S_ic 140 0 dX9_actLine_140 (by decide) ?_
          refine S_iload_3 141 dX9_actLine_141 ?_
          refine S_ic 142 1 dX9_actLine_142 (by decide) ?_
          refine S_isub 143 dX9_actLine_143 ?_
          refine S_callV (a' := 0) (b' := 0) (a := 0) (b := 0) 144 (As := [.int 0, .int (v11 - 1)]) (ci := 9) rfl calX9_takes imX9_takes seX9_takes mkX9_183 rfl rfl rfl rfl rfl (by decide) rfl rfl dX9_actLine_144 (CX9_takes E t 0 (v11 - 1) h12) (fun v17 h18 => kqI ?_)
          refine S_iast 147 dX9_actLine_147 (fun h19 => ?_)
          refine S_iinc_4 148 (s107 + 1) dX9_actLine_148 (by rfl) rfl ?_
          refine S_goto 151 107 dX9_actLine_151 (by decide) ?_
          exact S_drop [] rfl (hg107 _ _)
    refine S_icmpne 28 73 dX9_actLine_28 (by decide) ?_ ?_
    · skip
      exact S_drop [] rfl (hj73 _)
    · skip
      refine S_aload_0 31 dX9_actLine_31 ?_
      refine S_getI 32 fsX9_127 rfl dX9_actLine_32 ?_
      refine S_ic 35 0 dX9_actLine_35 (by decide) ?_
      refine S_aload_0 36 dX9_actLine_36 ?_
      refine S_getR 37 fsX9_51 rfl dX9_actLine_37 (fun w20 => ?_)
      refine S_aload_0 40 dX9_actLine_40 ?_
      refine S_getR 41 fsX9_60 rfl dX9_actLine_41 (fun w21 => ?_)
      refine S_iload_1 44 dX9_actLine_44 ?_
      refine S_iald 45 dX9_actLine_45 ?_
      refine S_iald 46 dX9_actLine_46 ?_
      refine S_ic 47 1 dX9_actLine_47 (by decide) ?_
      refine S_isub 48 dX9_actLine_48 ?_
      refine S_callS (a' := 0) (b' := 0) (a := 0) (b := 0) 49 (As := [.int (xi h3 t 24), .int 0, .int ((xi h3 w20 ((xi h3 w21 (v2 : Int32).toNatClampNeg) : Int32).toNatClampNeg) - 1)]) rfl calX9_in stX9_in mkX9_152 rfl rfl rfl rfl rfl dX9_actLine_49 (CX9_in E (xi h3 t 24) 0 ((xi h3 w20 ((xi h3 w21 (v2 : Int32).toNatClampNeg) : Int32).toNatClampNeg) - 1) h3) (fun v22 h23 => kqI ?_)
      refine S_ifeq 52 73 dX9_actLine_52 (by decide) ?_ ?_
      · skip
        exact S_drop [] rfl (hj73 _)
      · skip
        refine S_aload_0 55 dX9_actLine_55 ?_
        refine S_aload_0 56 dX9_actLine_56 ?_
        refine S_getR 57 fsX9_72 rfl dX9_actLine_57 (fun w24 => ?_)
        refine S_iload_1 60 dX9_actLine_60 ?_
        refine S_iald 61 dX9_actLine_61 ?_
        refine S_aload_0 62 dX9_actLine_62 ?_
        refine S_getI 63 fsX9_127 rfl dX9_actLine_63 ?_
        refine S_callS (a' := 0) (b' := 0) (a := 0) (b := 0) 66 (As := [.int (xi h23 w24 (v2 : Int32).toNatClampNeg), .int (xi h23 t 24)]) rfl calX9_has stX9_has mkX9_221 rfl rfl rfl rfl rfl dX9_actLine_66 (CX9_has E (xi h23 w24 (v2 : Int32).toNatClampNeg) (xi h23 t 24) h23) (fun v25 h26 => kqI ?_)
        refine S_ic 69 3 dX9_actLine_69 (by decide) ?_
        refine S_callV (a' := 0) (b' := 0) (a := 0) (b := 0) 70 (As := [.int v25, .int 3]) (ci := 9) rfl calX9_failsIf imX9_failsIf seX9_failsIf mkX9_159 rfl rfl rfl rfl rfl (by decide) rfl rfl dX9_actLine_70 (CX9_failsIf E t v25 3 h26) (fun _ h27 => kqU ?_)
        exact S_drop [] rfl (hj73 _)
  · skip
    exact S_ret 22 dX9_actLine_22 rfl
