/-! Methods as functions, 3. -/
set_option linter.unusedVariables false
set_option maxRecDepth 10000
def FX2_becomeQuaternion (E : XG) (t : Nat) (h : XH) : XP Unit := xg (xk h t = 3) <| xlt (yi h t 3 8) fun h1 => xlp (fun again8 (s8 : Int32) h2 => if (8 : Int32) ≤ s8 then (xv () h2) else (xlp (fun again16 (s16 : Int32) h3 => if (8 : Int32) ≤ s16 then (again8 (s8 + 1) h3) else (xb (FX2_productOfUnits E (s8 &&& 3) (s16 &&& 3) h3) fun v4 h5 => xg (xk h5 t = 3) <| xb (FX2_setProduct E t s8 s16 (((s8 &&& 4) ^^^ (s16 &&& 4)) ^^^ v4) h5) fun _ h6 => again16 (s16 + 1) h6)) xfu 0 h2)) xfu 0 h1
theorem CX2_becomeQuaternion (E : XG) (t : Nat) (h : XH) : XN E mX2_becomeQuaternion eU 0 0 [.ref t] h (FX2_becomeQuaternion E t h) := by
  unfold FX2_becomeQuaternion
  refine S_enter (L := [some (.ref t), none, none]) (by decide +kernel) rfl rfl rfl ?_
  refine S_aload_0 0 dX2_becomeQuaternion_0 ?_
  refine S_bip 1 8 dX2_becomeQuaternion_1 (by decide) ?_
  refine S_putI 3 frX2_18 rfl (fun q => by cases q) dX2_becomeQuaternion_3 (fun h1 => ?_)
  refine S_ic 6 0 dX2_becomeQuaternion_6 (by decide) ?_
  refine S_istore_1 7 dX2_becomeQuaternion_7 rfl ?_
  refine S_loop (fun (s8 : Int32) => [some (.ref t), some (.int s8), none]) (fun again8 hg8 s8 h2 => ?_) xfu _ _
  refine S_iload_1 8 dX2_becomeQuaternion_8 ?_
  refine S_bip 9 8 dX2_becomeQuaternion_9 (by decide) ?_
  refine S_icmpge 11 57 dX2_becomeQuaternion_11 (by decide) ?_ ?_
  · skip
    exact S_ret 57 dX2_becomeQuaternion_57 rfl
  · skip
    refine S_ic 14 0 dX2_becomeQuaternion_14 (by decide) ?_
    refine S_istore_2 15 dX2_becomeQuaternion_15 rfl ?_
    refine S_loop (fun (s16 : Int32) => [some (.ref t), some (.int s8), some (.int s16)]) (fun again16 hg16 s16 h3 => ?_) xfu _ _
    refine S_iload_2 16 dX2_becomeQuaternion_16 ?_
    refine S_bip 17 8 dX2_becomeQuaternion_17 (by decide) ?_
    refine S_icmpge 19 51 dX2_becomeQuaternion_19 (by decide) ?_ ?_
    · skip
      refine S_iinc_1 51 (s8 + 1) dX2_becomeQuaternion_51 (by rfl) rfl ?_
      refine S_goto 54 8 dX2_becomeQuaternion_54 (by decide) ?_
      exact S_drop [2] rfl (hg8 _ _)
    · skip
      refine S_aload_0 22 dX2_becomeQuaternion_22 ?_
      refine S_iload_1 23 dX2_becomeQuaternion_23 ?_
      refine S_iload_2 24 dX2_becomeQuaternion_24 ?_
      refine S_iload_1 25 dX2_becomeQuaternion_25 ?_
      refine S_ic 26 4 dX2_becomeQuaternion_26 (by decide) ?_
      refine S_iand 27 dX2_becomeQuaternion_27 ?_
      refine S_iload_2 28 dX2_becomeQuaternion_28 ?_
      refine S_ic 29 4 dX2_becomeQuaternion_29 (by decide) ?_
      refine S_iand 30 dX2_becomeQuaternion_30 ?_
      refine S_ixor 31 dX2_becomeQuaternion_31 ?_
      refine S_iload_1 32 dX2_becomeQuaternion_32 ?_
      refine S_ic 33 3 dX2_becomeQuaternion_33 (by decide) ?_
      refine S_iand 34 dX2_becomeQuaternion_34 ?_
      refine S_iload_2 35 dX2_becomeQuaternion_35 ?_
      refine S_ic 36 3 dX2_becomeQuaternion_36 (by decide) ?_
      refine S_iand 37 dX2_becomeQuaternion_37 ?_
      refine S_callS (a' := 0) (b' := 0) (a := 0) (b := 0) 38 (As := [.int (s8 &&& 3), .int (s16 &&& 3)]) rfl calX2_productOfUnits stX2_productOfUnits mkX2_46 rfl rfl rfl rfl rfl dX2_becomeQuaternion_38 (CX2_productOfUnits E (s8 &&& 3) (s16 &&& 3) h3) (fun v4 h5 => kqI ?_)
      refine S_ixor 41 dX2_becomeQuaternion_41 ?_
      refine S_callV (a' := 0) (b' := 0) (a := 0) (b := 0) 42 (As := [.int s8, .int s16, .int (((s8 &&& 4) ^^^ (s16 &&& 4)) ^^^ v4)]) (ci := 2) rfl calX2_setProduct imX2_setProduct seX2_setProduct mkX2_42 rfl rfl rfl rfl rfl (by decide) rfl rfl dX2_becomeQuaternion_42 (CX2_setProduct E t s8 s16 (((s8 &&& 4) ^^^ (s16 &&& 4)) ^^^ v4) h5) (fun _ h6 => kqU ?_)
      refine S_iinc_2 45 (s16 + 1) dX2_becomeQuaternion_45 (by rfl) rfl ?_
      refine S_goto 48 16 dX2_becomeQuaternion_48 (by decide) ?_
      exact S_drop [] rfl (hg16 _ _)
def FJ9_floorDiv_7cf53 (E : XG) (p1 : Int32) (p2 : Int32) (h : XH) : XP Int32 := xg ((p2 : Int32) ≠ 0) <| xlt (p1 / p2) fun v1 => xjn (fun  (h2 : XH) => xv v1 h2) fun (j21 : XH → XP Int32) => if (0 : Int32) ≤ (p1 ^^^ p2) then (j21 h) else (if ((v1 * p2) : Int32) = p1 then (j21 h) else (xv (v1 - 1) h))
theorem CJ9_floorDiv_7cf53 (E : XG) (p1 : Int32) (p2 : Int32) (h : XH) : XN E mJ9_floorDiv_7cf53 eI 0 0 [.int p1, .int p2] h (FJ9_floorDiv_7cf53 E p1 p2 h) := by
  unfold FJ9_floorDiv_7cf53
  refine S_enterF (L := [some (.int p1), some (.int p2), none]) (by decide +kernel) rfl rfl rfl ?_
  refine S_iload_0 0 dJ9_floorDiv_7cf53_0 ?_
  refine S_iload_1 1 dJ9_floorDiv_7cf53_1 ?_
  refine S_idiv 2 dJ9_floorDiv_7cf53_2 ?_
  refine S_gen (fun v1 => ?_)
  refine S_istore_2 3 dJ9_floorDiv_7cf53_3 rfl ?_
  refine S_iload_0 4 dJ9_floorDiv_7cf53_4 ?_
  refine S_iload_1 5 dJ9_floorDiv_7cf53_5 ?_
  refine S_ixor 6 dJ9_floorDiv_7cf53_6 ?_
  refine S_join (fun jj => ∀  (h2 : XH), XS E mJ9_floorDiv_7cf53 eI 0 0 21 [none, none, some (.int v1)] [] h2 (jj  h2)) (fun  h2 => ?_) (fun j21 hj21 => ?_)
  · skip
    refine S_iload_2 21 dJ9_floorDiv_7cf53_21 ?_
    exact S_iret 22 dJ9_floorDiv_7cf53_22 rfl
  refine S_ifge 7 21 dJ9_floorDiv_7cf53_7 (by decide) ?_ ?_
  · skip
    exact S_drop [0, 1] rfl (hj21 _)
  · skip
    refine S_iload_2 10 dJ9_floorDiv_7cf53_10 ?_
    refine S_iload_1 11 dJ9_floorDiv_7cf53_11 ?_
    refine S_imul 12 dJ9_floorDiv_7cf53_12 ?_
    refine S_iload_0 13 dJ9_floorDiv_7cf53_13 ?_
    refine S_icmpeq 14 21 dJ9_floorDiv_7cf53_14 (by decide) ?_ ?_
    · skip
      exact S_drop [0, 1] rfl (hj21 _)
    · skip
      refine S_iload_2 17 dJ9_floorDiv_7cf53_17 ?_
      refine S_ic 18 1 dJ9_floorDiv_7cf53_18 (by decide) ?_
      refine S_isub 19 dJ9_floorDiv_7cf53_19 ?_
      exact S_iret 20 dJ9_floorDiv_7cf53_20 rfl
def FX2_becomeProduct (E : XG) (t : Nat) (p1 : Nat) (p2 : Nat) (h : XH) : XP Unit := xg (xk h p2 = 3) <| xlt (xi h p2 3) fun v1 => xg (xk h p1 = 3) <| xg (xk h t = 3) <| xlt (yi h t 3 ((xi h p1 3) * v1)) fun h2 => xlp (fun again18 (s18 : Int32) h3 => xg (xk h3 t = 3) <| if ((xi h3 t 3) : Int32) ≤ s18 then (xv () h3) else (xlp (fun again30 (s30 : Int32) h4 => xg (xk h4 t = 3) <| if ((xi h4 t 3) : Int32) ≤ s30 then (again18 (s18 + 1) h4) else (xb (FJ9_floorDiv_7cf53 E s18 v1 h4) fun v5 h6 => xb (FJ9_floorDiv_7cf53 E s30 v1 h6) fun v7 h8 => xg (xk h8 p1 = 3) <| xb (FX2_product E p1 v5 v7 h8) fun v9 h10 => xb (FJ9_floorMod_7cf53 E s18 v1 h10) fun v11 h12 => xb (FJ9_floorMod_7cf53 E s30 v1 h12) fun v13 h14 => xg (xk h14 p2 = 3) <| xb (FX2_product E p2 v11 v13 h14) fun v15 h16 => xg (xk h16 t = 3) <| xb (FX2_setProduct E t s18 s30 ((v9 * v1) + v15) h16) fun _ h17 => again30 (s30 + 1) h17)) xfu 0 h3)) xfu 0 h2
theorem CX2_becomeProduct (E : XG) (t : Nat) (p1 : Nat) (p2 : Nat) (h : XH) : XN E mX2_becomeProduct eU 0 0 [.ref t, .ref p1, .ref p2] h (FX2_becomeProduct E t p1 p2 h) := by
  unfold FX2_becomeProduct
  refine S_enter (L := [some (.ref t), some (.ref p1), some (.ref p2), none, none, none, none, none]) (by decide +kernel) rfl rfl rfl ?_
  refine S_aload_2 0 dX2_becomeProduct_0 ?_
  refine S_getI 1 fsX2_18 rfl dX2_becomeProduct_1 ?_
  refine S_gen (fun v1 => ?_)
  refine S_istore_3 4 dX2_becomeProduct_4 rfl ?_
  refine S_aload_0 5 dX2_becomeProduct_5 ?_
  refine S_aload_1 6 dX2_becomeProduct_6 ?_
  refine S_getI 7 fsX2_18 rfl dX2_becomeProduct_7 ?_
  refine S_iload_3 10 dX2_becomeProduct_10 ?_
  refine S_imul 11 dX2_becomeProduct_11 ?_
  refine S_putI 12 frX2_18 rfl (fun q => by cases q) dX2_becomeProduct_12 (fun h2 => ?_)
  refine S_ic 15 0 dX2_becomeProduct_15 (by decide) ?_
  refine S_istore_4 16 dX2_becomeProduct_16 rfl ?_
  refine S_loop (fun (s18 : Int32) => [some (.ref t), some (.ref p1), some (.ref p2), some (.int v1), some (.int s18), none, none, none]) (fun again18 hg18 s18 h3 => ?_) xfu _ _
  refine S_iload_4 18 dX2_becomeProduct_18 ?_
  refine S_aload_0 20 dX2_becomeProduct_20 ?_
  refine S_getI 21 fsX2_18 rfl dX2_becomeProduct_21 ?_
  refine S_icmpge 24 102 dX2_becomeProduct_24 (by decide) ?_ ?_
  · skip
    exact S_ret 102 dX2_becomeProduct_102 rfl
  · skip
    refine S_ic 27 0 dX2_becomeProduct_27 (by decide) ?_
    refine S_istore_5 28 dX2_becomeProduct_28 rfl ?_
    refine S_loop (fun (s30 : Int32) => [some (.ref t), some (.ref p1), some (.ref p2), some (.int v1), some (.int s18), some (.int s30), none, none]) (fun again30 hg30 s30 h4 => ?_) xfu _ _
    refine S_iload_5 30 dX2_becomeProduct_30 ?_
    refine S_aload_0 32 dX2_becomeProduct_32 ?_
    refine S_getI 33 fsX2_18 rfl dX2_becomeProduct_33 ?_
    refine S_icmpge 36 96 dX2_becomeProduct_36 (by decide) ?_ ?_
    · skip
      refine S_iinc_4 96 (s18 + 1) dX2_becomeProduct_96 (by rfl) rfl ?_
      refine S_goto 99 18 dX2_becomeProduct_99 (by decide) ?_
      exact S_drop [5] rfl (hg18 _ _)
    · skip
      refine S_aload_1 39 dX2_becomeProduct_39 ?_
      refine S_iload_4 40 dX2_becomeProduct_40 ?_
      refine S_iload_3 42 dX2_becomeProduct_42 ?_
      refine S_callS (a' := 0) (b' := 0) (a := 0) (b := 0) 43 (As := [.int s18, .int v1]) rfl calJ9_floorDiv_7cf53 stJ9_floorDiv_7cf53 mkX2_49 rfl rfl rfl rfl rfl dX2_becomeProduct_43 (CJ9_floorDiv_7cf53 E s18 v1 h4) (fun v5 h6 => kqI ?_)
      refine S_iload_5 46 dX2_becomeProduct_46 ?_
      refine S_iload_3 48 dX2_becomeProduct_48 ?_
      refine S_callS (a' := 0) (b' := 0) (a := 0) (b := 0) 49 (As := [.int s30, .int v1]) rfl calJ9_floorDiv_7cf53 stJ9_floorDiv_7cf53 mkX2_49 rfl rfl rfl rfl rfl dX2_becomeProduct_49 (CJ9_floorDiv_7cf53 E s30 v1 h6) (fun v7 h8 => kqI ?_)
      refine S_callV (a' := 0) (b' := 0) (a := 0) (b := 0) 52 (As := [.int v5, .int v7]) (ci := 2) rfl calX2_product imX2_product seX2_product mkX2_29 rfl rfl rfl rfl rfl (by decide) rfl rfl dX2_becomeProduct_52 (CX2_product E p1 v5 v7 h8) (fun v9 h10 => kqI ?_)
      refine S_istore_6 55 dX2_becomeProduct_55 rfl ?_
      refine S_aload_2 57 dX2_becomeProduct_57 ?_
      refine S_iload_4 58 dX2_becomeProduct_58 ?_
      refine S_iload_3 60 dX2_becomeProduct_60 ?_
      refine S_callS (a' := 0) (b' := 0) (a := 0) (b := 0) 61 (As := [.int s18, .int v1]) rfl calJ9_floorMod_7cf53 stJ9_floorMod_7cf53 mkX2_37 rfl rfl rfl rfl rfl dX2_becomeProduct_61 (CJ9_floorMod_7cf53 E s18 v1 h10) (fun v11 h12 => kqI ?_)
      refine S_iload_5 64 dX2_becomeProduct_64 ?_
      refine S_iload_3 66 dX2_becomeProduct_66 ?_
      refine S_callS (a' := 0) (b' := 0) (a := 0) (b := 0) 67 (As := [.int s30, .int v1]) rfl calJ9_floorMod_7cf53 stJ9_floorMod_7cf53 mkX2_37 rfl rfl rfl rfl rfl dX2_becomeProduct_67 (CJ9_floorMod_7cf53 E s30 v1 h12) (fun v13 h14 => kqI ?_)
      refine S_callV (a' := 0) (b' := 0) (a := 0) (b := 0) 70 (As := [.int v11, .int v13]) (ci := 2) rfl calX2_product imX2_product seX2_product mkX2_29 rfl rfl rfl rfl rfl (by decide) rfl rfl dX2_becomeProduct_70 (CX2_product E p2 v11 v13 h14) (fun v15 h16 => kqI ?_)
      refine S_istore_7 73 dX2_becomeProduct_73 rfl ?_
      refine S_aload_0 75 dX2_becomeProduct_75 ?_
      refine S_iload_4 76 dX2_becomeProduct_76 ?_
      refine S_iload_5 78 dX2_becomeProduct_78 ?_
      refine S_iload_6 80 dX2_becomeProduct_80 ?_
      refine S_iload_3 82 dX2_becomeProduct_82 ?_
      refine S_imul 83 dX2_becomeProduct_83 ?_
      refine S_iload_7 84 dX2_becomeProduct_84 ?_
      refine S_iadd 86 dX2_becomeProduct_86 ?_
      refine S_callV (a' := 0) (b' := 0) (a := 0) (b := 0) 87 (As := [.int s18, .int s30, .int ((v9 * v1) + v15)]) (ci := 2) rfl calX2_setProduct imX2_setProduct seX2_setProduct mkX2_42 rfl rfl rfl rfl rfl (by decide) rfl rfl dX2_becomeProduct_87 (CX2_setProduct E t s18 s30 ((v9 * v1) + v15) h16) (fun _ h17 => kqU ?_)
      refine S_iinc_5 90 (s30 + 1) dX2_becomeProduct_90 (by rfl) rfl ?_
      refine S_goto 93 30 dX2_becomeProduct_93 (by decide) ?_
      exact S_drop [6, 7] rfl (hg30 _ _)
def FX2_findOpposites (E : XG) (t : Nat) (h : XH) : XP Unit := xlp (fun again2 (s2 : Int32) h1 => xg (xk h1 t = 3) <| if ((xi h1 t 3) : Int32) ≤ s2 then (xv () h1) else (xlp (fun again12 (s12 : Int32) h2 => xg (xk h2 t = 3) <| if ((xi h2 t 3) : Int32) ≤ s12 then (again2 (s2 + 1) h2) else (xg (xk h2 t = 3) <| xb (FX2_product E t s2 s12 h2) fun v3 h4 => xjn (fun  (h5 : XH) => again12 (s12 + 1) h5) fun (j38 : XH → XP Unit) => if (v3 : Int32) = 0 then (xg (xk h4 t = 3) <| xnn (xr h4 t 2) fun w6 => xb (FX8_put E w6 s2 s12 h4) fun _ h7 => j38 h7) else (j38 h4))) xfu 0 h1)) xfu 0 h
theorem CX2_findOpposites (E : XG) (t : Nat) (h : XH) : XN E mX2_findOpposites eU 0 0 [.ref t] h (FX2_findOpposites E t h) := by
  unfold FX2_findOpposites
  refine S_enter (L := [some (.ref t), none, none]) (by decide +kernel) rfl rfl rfl ?_
  refine S_ic 0 0 dX2_findOpposites_0 (by decide) ?_
  refine S_istore_1 1 dX2_findOpposites_1 rfl ?_
  refine S_loop (fun (s2 : Int32) => [some (.ref t), some (.int s2), none]) (fun again2 hg2 s2 h1 => ?_) xfu _ _
  refine S_iload_1 2 dX2_findOpposites_2 ?_
  refine S_aload_0 3 dX2_findOpposites_3 ?_
  refine S_getI 4 fsX2_18 rfl dX2_findOpposites_4 ?_
  refine S_icmpge 7 50 dX2_findOpposites_7 (by decide) ?_ ?_
  · skip
    exact S_ret 50 dX2_findOpposites_50 rfl
  · skip
    refine S_ic 10 0 dX2_findOpposites_10 (by decide) ?_
    refine S_istore_2 11 dX2_findOpposites_11 rfl ?_
    refine S_loop (fun (s12 : Int32) => [some (.ref t), some (.int s2), some (.int s12)]) (fun again12 hg12 s12 h2 => ?_) xfu _ _
    refine S_iload_2 12 dX2_findOpposites_12 ?_
    refine S_aload_0 13 dX2_findOpposites_13 ?_
    refine S_getI 14 fsX2_18 rfl dX2_findOpposites_14 ?_
    refine S_icmpge 17 44 dX2_findOpposites_17 (by decide) ?_ ?_
    · skip
      refine S_iinc_1 44 (s2 + 1) dX2_findOpposites_44 (by rfl) rfl ?_
      refine S_goto 47 2 dX2_findOpposites_47 (by decide) ?_
      exact S_drop [2] rfl (hg2 _ _)
    · skip
      refine S_aload_0 20 dX2_findOpposites_20 ?_
      refine S_iload_1 21 dX2_findOpposites_21 ?_
      refine S_iload_2 22 dX2_findOpposites_22 ?_
      refine S_callV (a' := 0) (b' := 0) (a := 0) (b := 0) 23 (As := [.int s2, .int s12]) (ci := 2) rfl calX2_product imX2_product seX2_product mkX2_29 rfl rfl rfl rfl rfl (by decide) rfl rfl dX2_findOpposites_23 (CX2_product E t s2 s12 h2) (fun v3 h4 => kqI ?_)
      refine S_join (fun jj => ∀  (h5 : XH), XS E mX2_findOpposites eU 0 0 38 [some (.ref t), some (.int s2), some (.int s12)] [] h5 (jj  h5)) (fun  h5 => ?_) (fun j38 hj38 => ?_)
      · skip
        refine S_iinc_2 38 (s12 + 1) dX2_findOpposites_38 (by rfl) rfl ?_
        refine S_goto 41 12 dX2_findOpposites_41 (by decide) ?_
        exact S_drop [] rfl (hg12 _ _)
      refine S_ifne 26 38 dX2_findOpposites_26 (by decide) ?_ ?_
      · skip
        exact S_drop [] rfl (hj38 _)
      · skip
        refine S_aload_0 29 dX2_findOpposites_29 ?_
        refine S_getR 30 fsX2_15 rfl dX2_findOpposites_30 (fun w6 => ?_)
        refine S_iload_1 33 dX2_findOpposites_33 ?_
        refine S_iload_2 34 dX2_findOpposites_34 ?_
        refine S_callSN (a' := 0) (b' := 0) (a := 0) (b := 0) 35 (As := [.ref w6, .int s2, .int s12]) rfl calX8_put stX8_put (List.mem_of_getElem? (i := 7) rfl) rfl rfl rfl rfl rfl dX2_findOpposites_35 (CX8_put E w6 s2 s12 h4) (fun _ h7 => kqU ?_)
        exact S_drop [] rfl (hj38 _)
def FX2_middle (E : XG) (t : Nat) (h : XH) : XP Int32 := xlp (fun again4 (s4 : Int32 × Int32) h1 => xg (xk h1 t = 3) <| if ((xi h1 t 3) : Int32) ≤ s4.2 then (xv s4.1 h1) else (xlp (fun again17 (s17 : Int32 × Int32) h2 => xg (xk h2 t = 3) <| xjn (fun  (h3 : XH) => xjn (fun (v4 : Int32) (h5 : XH) => xlt (s4.1 ||| v4) fun v6 => again4 (v6, (s4.2 + 1)) h5) fun (j71 : Int32 → XH → XP Int32) => if (s17.1 : Int32) = 0 then (j71 0 h3) else (j71 (1 <<< (s4.2 &&& 31)) h3)) fun (j59 : XH → XP Int32) => if ((xi h2 t 3) : Int32) ≤ s17.2 then (j59 h2) else (if (s17.1 : Int32) = 0 then (j59 h2) else (xg (xk h2 t = 3) <| xb (FX2_product E t s4.2 s17.2 h2) fun v7 h8 => xg (xk h8 t = 3) <| xb (FX2_product E t s17.2 s4.2 h8) fun v9 h10 => xjn (fun (v11 : Int32) (h12 : XH) => again17 (v11, (s17.2 + 1)) h12) fun (j52 : Int32 → XH → XP Int32) => if (v7 : Int32) = v9 then (j52 1 h10) else (j52 0 h10)))) xfu (1, 0) h1)) xfu (0, 0) h
theorem CX2_middle (E : XG) (t : Nat) (h : XH) : XN E mX2_middle eI 0 0 [.ref t] h (FX2_middle E t h) := by
  unfold FX2_middle
  refine S_enter (L := [some (.ref t), none, none, none, none]) (by decide +kernel) rfl rfl rfl ?_
  refine S_ic 0 0 dX2_middle_0 (by decide) ?_
  refine S_istore_1 1 dX2_middle_1 rfl ?_
  refine S_ic 2 0 dX2_middle_2 (by decide) ?_
  refine S_istore_2 3 dX2_middle_3 rfl ?_
  refine S_loop (fun (s4 : Int32 × Int32) => [some (.ref t), some (.int s4.1), some (.int s4.2), none, none]) (fun again4 hg4 s4 h1 => ?_) xfu _ _
  refine S_iload_2 4 dX2_middle_4 ?_
  refine S_aload_0 5 dX2_middle_5 ?_
  refine S_getI 6 fsX2_18 rfl dX2_middle_6 ?_
  refine S_icmpge 9 79 dX2_middle_9 (by decide) ?_ ?_
  · skip
    refine S_iload_1 79 dX2_middle_79 ?_
    exact S_iret 80 dX2_middle_80 rfl
  · skip
    refine S_ic 12 1 dX2_middle_12 (by decide) ?_
    refine S_istore_3 13 dX2_middle_13 rfl ?_
    refine S_ic 14 0 dX2_middle_14 (by decide) ?_
    refine S_istore_4 15 dX2_middle_15 rfl ?_
    refine S_loop (fun (s17 : Int32 × Int32) => [some (.ref t), some (.int s4.1), some (.int s4.2), some (.int s17.1), some (.int s17.2)]) (fun again17 hg17 s17 h2 => ?_) xfu _ _
    refine S_iload_4 17 dX2_middle_17 ?_
    refine S_aload_0 19 dX2_middle_19 ?_
    refine S_getI 20 fsX2_18 rfl dX2_middle_20 ?_
    refine S_join (fun jj => ∀  (h3 : XH), XS E mX2_middle eI 0 0 59 [some (.ref t), some (.int s4.1), some (.int s4.2), some (.int s17.1), none] [] h3 (jj  h3)) (fun  h3 => ?_) (fun j59 hj59 => ?_)
    · skip
      refine S_iload_1 59 dX2_middle_59 ?_
      refine S_iload_3 60 dX2_middle_60 ?_
      refine S_join (fun jj => ∀ (v4 : Int32) (h5 : XH), XS E mX2_middle eI 0 0 71 [some (.ref t), none, some (.int s4.2), none, none] [.int v4, .int s4.1] h5 (jj v4 h5)) (fun v4 h5 => ?_) (fun j71 hj71 => ?_)
      · skip
        refine S_ior 71 dX2_middle_71 ?_
        refine S_gen (fun v6 => ?_)
        refine S_istore_1 72 dX2_middle_72 rfl ?_
        refine S_iinc_2 73 (s4.2 + 1) dX2_middle_73 (by rfl) rfl ?_
        refine S_goto 76 4 dX2_middle_76 (by decide) ?_
        exact S_drop [] rfl (hg4 _ _)
      refine S_ifeq 61 70 dX2_middle_61 (by decide) ?_ ?_
      · skip
        refine S_ic 70 0 dX2_middle_70 (by decide) ?_
        exact S_drop [1, 3] rfl (hj71 _ _)
      · skip
        refine S_ic 64 1 dX2_middle_64 (by decide) ?_
        refine S_iload_2 65 dX2_middle_65 ?_
        refine S_ishl 66 dX2_middle_66 ?_
        refine S_goto 67 71 dX2_middle_67 (by decide) ?_
        exact S_drop [1, 3] rfl (hj71 _ _)
    refine S_icmpge 23 59 dX2_middle_23 (by decide) ?_ ?_
    · skip
      exact S_drop [4] rfl (hj59 _)
    · skip
      refine S_iload_3 26 dX2_middle_26 ?_
      refine S_ifeq 27 59 dX2_middle_27 (by decide) ?_ ?_
      · skip
        exact S_drop [4] rfl (hj59 _)
      · skip
        refine S_aload_0 30 dX2_middle_30 ?_
        refine S_iload_2 31 dX2_middle_31 ?_
        refine S_iload_4 32 dX2_middle_32 ?_
        refine S_callV (a' := 0) (b' := 0) (a := 0) (b := 0) 34 (As := [.int s4.2, .int s17.2]) (ci := 2) rfl calX2_product imX2_product seX2_product mkX2_29 rfl rfl rfl rfl rfl (by decide) rfl rfl dX2_middle_34 (CX2_product E t s4.2 s17.2 h2) (fun v7 h8 => kqI ?_)
        refine S_aload_0 37 dX2_middle_37 ?_
        refine S_iload_4 38 dX2_middle_38 ?_
        refine S_iload_2 40 dX2_middle_40 ?_
        refine S_callV (a' := 0) (b' := 0) (a := 0) (b := 0) 41 (As := [.int s17.2, .int s4.2]) (ci := 2) rfl calX2_product imX2_product seX2_product mkX2_29 rfl rfl rfl rfl rfl (by decide) rfl rfl dX2_middle_41 (CX2_product E t s17.2 s4.2 h8) (fun v9 h10 => kqI ?_)
        refine S_join (fun jj => ∀ (v11 : Int32) (h12 : XH), XS E mX2_middle eI 0 0 52 [some (.ref t), some (.int s4.1), some (.int s4.2), none, some (.int s17.2)] [.int v11] h12 (jj v11 h12)) (fun v11 h12 => ?_) (fun j52 hj52 => ?_)
        · skip
          refine S_istore_3 52 dX2_middle_52 rfl ?_
          refine S_iinc_4 53 (s17.2 + 1) dX2_middle_53 (by rfl) rfl ?_
          refine S_goto 56 17 dX2_middle_56 (by decide) ?_
          exact S_drop [] rfl (hg17 _ _)
        refine S_icmpne 44 51 dX2_middle_44 (by decide) ?_ ?_
        · skip
          refine S_ic 51 0 dX2_middle_51 (by decide) ?_
          exact S_drop [3] rfl (hj52 _ _)
        · skip
          refine S_ic 47 1 dX2_middle_47 (by decide) ?_
          refine S_goto 48 52 dX2_middle_48 (by decide) ?_
          exact S_drop [3] rfl (hj52 _ _)
def FX2_productsWithin (E : XG) (t : Nat) (p1 : Int32) (h : XH) : XP Int32 := xlp (fun again4 (s4 : Int32 × Int32) h1 => xg (xk h1 t = 3) <| if ((xi h1 t 3) : Int32) ≤ s4.2 then (xv s4.1 h1) else (xlp (fun again15 (s15 : Int32 × Int32) h2 => xg (xk h2 t = 3) <| xjn (fun  (h3 : XH) => again4 (s15.1, (s4.2 + 1)) h3) fun (j63 : XH → XP Int32) => if ((xi h2 t 3) : Int32) ≤ s15.2 then (j63 h2) else (xb (FX8_isIn E p1 s4.2 h2) fun v4 h5 => if (v4 : Int32) = 0 then (j63 h5) else (xb (FX8_isIn E p1 s15.2 h5) fun v6 h7 => xjn (fun (v8 : Int32) (h9 : XH) => xlt (s15.1 ||| v8) fun v10 => again15 (v10, (s15.2 + 1)) h9) fun (j55 : Int32 → XH → XP Int32) => if (v6 : Int32) = 0 then (j55 0 h7) else (xg (xk h7 t = 3) <| xb (FX2_product E t s4.2 s15.2 h7) fun v11 h12 => j55 (1 <<< (v11 &&& 31)) h12)))) xfu (s4.1, 0) h1)) xfu (0, 0) h
theorem CX2_productsWithin (E : XG) (t : Nat) (p1 : Int32) (h : XH) : XN E mX2_productsWithin eI 0 0 [.ref t, .int p1] h (FX2_productsWithin E t p1 h) := by
  unfold FX2_productsWithin
  refine S_enter (L := [some (.ref t), some (.int p1), none, none, none]) (by decide +kernel) rfl rfl rfl ?_
  refine S_ic 0 0 dX2_productsWithin_0 (by decide) ?_
  refine S_istore_2 1 dX2_productsWithin_1 rfl ?_
  refine S_ic 2 0 dX2_productsWithin_2 (by decide) ?_
  refine S_istore_3 3 dX2_productsWithin_3 rfl ?_
  refine S_loop (fun (s4 : Int32 × Int32) => [some (.ref t), some (.int p1), some (.int s4.1), some (.int s4.2), none]) (fun again4 hg4 s4 h1 => ?_) xfu _ _
  refine S_iload_3 4 dX2_productsWithin_4 ?_
  refine S_aload_0 5 dX2_productsWithin_5 ?_
  refine S_getI 6 fsX2_18 rfl dX2_productsWithin_6 ?_
  refine S_icmpge 9 69 dX2_productsWithin_9 (by decide) ?_ ?_
  · skip
    refine S_iload_2 69 dX2_productsWithin_69 ?_
    exact S_iret 70 dX2_productsWithin_70 rfl
  · skip
    refine S_ic 12 0 dX2_productsWithin_12 (by decide) ?_
    refine S_istore_4 13 dX2_productsWithin_13 rfl ?_
    refine S_loop (fun (s15 : Int32 × Int32) => [some (.ref t), some (.int p1), some (.int s15.1), some (.int s4.2), some (.int s15.2)]) (fun again15 hg15 s15 h2 => ?_) xfu _ _
    refine S_iload_4 15 dX2_productsWithin_15 ?_
    refine S_aload_0 17 dX2_productsWithin_17 ?_
    refine S_getI 18 fsX2_18 rfl dX2_productsWithin_18 ?_
    refine S_join (fun jj => ∀  (h3 : XH), XS E mX2_productsWithin eI 0 0 63 [some (.ref t), some (.int p1), some (.int s15.1), some (.int s4.2), none] [] h3 (jj  h3)) (fun  h3 => ?_) (fun j63 hj63 => ?_)
    · skip
      refine S_iinc_3 63 (s4.2 + 1) dX2_productsWithin_63 (by rfl) rfl ?_
      refine S_goto 66 4 dX2_productsWithin_66 (by decide) ?_
      exact S_drop [] rfl (hg4 _ _)
    refine S_icmpge 21 63 dX2_productsWithin_21 (by decide) ?_ ?_
    · skip
      exact S_drop [4] rfl (hj63 _)
    · skip
      refine S_iload_1 24 dX2_productsWithin_24 ?_
      refine S_iload_3 25 dX2_productsWithin_25 ?_
      refine S_callSN (a' := 0) (b' := 0) (a := 0) (b := 0) 26 (As := [.int p1, .int s4.2]) rfl calX8_isIn stX8_isIn (List.mem_of_getElem? (i := 8) rfl) rfl rfl rfl rfl rfl dX2_productsWithin_26 (CX8_isIn E p1 s4.2 h2) (fun v4 h5 => kqI ?_)
      refine S_ifeq 29 63 dX2_productsWithin_29 (by decide) ?_ ?_
      · skip
        exact S_drop [4] rfl (hj63 _)
      · skip
        refine S_iload_2 32 dX2_productsWithin_32 ?_
        refine S_iload_1 33 dX2_productsWithin_33 ?_
        refine S_iload_4 34 dX2_productsWithin_34 ?_
        refine S_callSN (a' := 0) (b' := 0) (a := 0) (b := 0) 36 (As := [.int p1, .int s15.2]) rfl calX8_isIn stX8_isIn (List.mem_of_getElem? (i := 8) rfl) rfl rfl rfl rfl rfl dX2_productsWithin_36 (CX8_isIn E p1 s15.2 h5) (fun v6 h7 => kqI ?_)
        refine S_join (fun jj => ∀ (v8 : Int32) (h9 : XH), XS E mX2_productsWithin eI 0 0 55 [some (.ref t), some (.int p1), none, some (.int s4.2), some (.int s15.2)] [.int v8, .int s15.1] h9 (jj v8 h9)) (fun v8 h9 => ?_) (fun j55 hj55 => ?_)
        · skip
          refine S_ior 55 dX2_productsWithin_55 ?_
          refine S_gen (fun v10 => ?_)
          refine S_istore_2 56 dX2_productsWithin_56 rfl ?_
          refine S_iinc_4 57 (s15.2 + 1) dX2_productsWithin_57 (by rfl) rfl ?_
          refine S_goto 60 15 dX2_productsWithin_60 (by decide) ?_
          exact S_drop [] rfl (hg15 _ _)
        refine S_ifeq 39 54 dX2_productsWithin_39 (by decide) ?_ ?_
        · skip
          refine S_ic 54 0 dX2_productsWithin_54 (by decide) ?_
          exact S_drop [2] rfl (hj55 _ _)
        · skip
          refine S_ic 42 1 dX2_productsWithin_42 (by decide) ?_
          refine S_aload_0 43 dX2_productsWithin_43 ?_
          refine S_iload_3 44 dX2_productsWithin_44 ?_
          refine S_iload_4 45 dX2_productsWithin_45 ?_
          refine S_callV (a' := 0) (b' := 0) (a := 0) (b := 0) 47 (As := [.int s4.2, .int s15.2]) (ci := 2) rfl calX2_product imX2_product seX2_product mkX2_29 rfl rfl rfl rfl rfl (by decide) rfl rfl dX2_productsWithin_47 (CX2_product E t s4.2 s15.2 h7) (fun v11 h12 => kqI ?_)
          refine S_ishl 50 dX2_productsWithin_50 ?_
          refine S_goto 51 55 dX2_productsWithin_51 (by decide) ?_
          exact S_drop [2] rfl (hj55 _ _)
def FX2_closure (E : XG) (t : Nat) (p1 : Int32) (h : XH) : XP Int32 := xlt (p1 ||| 1) fun v1 => xlp (fun again9 (s9 : Int32 × Int32 × Int32) h2 => xjn (fun  (h3 : XH) => xv s9.1 h3) fun (j37 : XH → XP Int32) => if (8 : Int32) < s9.2.2 then (j37 h2) else (if (s9.1 : Int32) = s9.2.1 then (j37 h2) else (xg (xk h2 t = 3) <| xb (FX2_productsWithin E t s9.1 h2) fun v4 h5 => xlt (s9.1 ||| v4) fun v6 => again9 (v6, s9.1, (s9.2.2 + 1)) h5))) xfu (v1, 0, 0) h
theorem CX2_closure (E : XG) (t : Nat) (p1 : Int32) (h : XH) : XN E mX2_closure eI 0 0 [.ref t, .int p1] h (FX2_closure E t p1 h) := by
  unfold FX2_closure
  refine S_enter (L := [some (.ref t), some (.int p1), none, none, none]) (by decide +kernel) rfl rfl rfl ?_
  refine S_iload_1 0 dX2_closure_0 ?_
  refine S_ic 1 1 dX2_closure_1 (by decide) ?_
  refine S_ior 2 dX2_closure_2 ?_
  refine S_gen (fun v1 => ?_)
  refine S_istore_2 3 dX2_closure_3 rfl ?_
  refine S_ic 4 0 dX2_closure_4 (by decide) ?_
  refine S_istore_3 5 dX2_closure_5 rfl ?_
  refine S_ic 6 0 dX2_closure_6 (by decide) ?_
  refine S_istore_4 7 dX2_closure_7 rfl ?_
  refine S_drop [1] rfl ?_
  refine S_loop (fun (s9 : Int32 × Int32 × Int32) => [some (.ref t), none, some (.int s9.1), some (.int s9.2.1), some (.int s9.2.2)]) (fun again9 hg9 s9 h2 => ?_) xfu _ _
  refine S_iload_4 9 dX2_closure_9 ?_
  refine S_bip 11 8 dX2_closure_11 (by decide) ?_
  refine S_join (fun jj => ∀  (h3 : XH), XS E mX2_closure eI 0 0 37 [none, none, some (.int s9.1), none, none] [] h3 (jj  h3)) (fun  h3 => ?_) (fun j37 hj37 => ?_)
  · skip
    refine S_iload_2 37 dX2_closure_37 ?_
    exact S_iret 38 dX2_closure_38 rfl
  refine S_icmpgt 13 37 dX2_closure_13 (by decide) ?_ ?_
  · skip
    exact S_drop [0, 3, 4] rfl (hj37 _)
  · skip
    refine S_iload_2 16 dX2_closure_16 ?_
    refine S_iload_3 17 dX2_closure_17 ?_
    refine S_icmpeq 18 37 dX2_closure_18 (by decide) ?_ ?_
    · skip
      exact S_drop [0, 3, 4] rfl (hj37 _)
    · skip
      refine S_iload_2 21 dX2_closure_21 ?_
      refine S_istore_3 22 dX2_closure_22 rfl ?_
      refine S_iload_2 23 dX2_closure_23 ?_
      refine S_aload_0 24 dX2_closure_24 ?_
      refine S_iload_3 25 dX2_closure_25 ?_
      refine S_callV (a' := 0) (b' := 0) (a := 0) (b := 0) 26 (As := [.int s9.1]) (ci := 2) rfl calX2_productsWithin imX2_productsWithin seX2_productsWithin mkX2_66 rfl rfl rfl rfl rfl (by decide) rfl rfl dX2_closure_26 (CX2_productsWithin E t s9.1 h2) (fun v4 h5 => kqI ?_)
      refine S_ior 29 dX2_closure_29 ?_
      refine S_gen (fun v6 => ?_)
      refine S_istore_2 30 dX2_closure_30 rfl ?_
      refine S_iinc_4 31 (s9.2.2 + 1) dX2_closure_31 (by rfl) rfl ?_
      refine S_goto 34 9 dX2_closure_34 (by decide) ?_
      exact S_drop [] rfl (hg9 _ _)
def FX3_init (E : XG) (t : Nat) (p1 : Int32) (h : XH) : XP Unit := xg (xk h t ≠ 0 ∧ 0 ≤ p1 ∧ (p1 : Int32).toNatClampNeg ≤ 8) <| xal h 13 (p1 : Int32).toNatClampNeg fun w1 h2 => xg (xk h2 t = 4) <| xlt (yr h2 t 0 (some w1)) fun h3 => xg (xk h3 t ≠ 0 ∧ 0 ≤ p1 ∧ (p1 : Int32).toNatClampNeg ≤ 8) <| xal h3 12 (p1 : Int32).toNatClampNeg fun w4 h5 => xg (xk h5 t = 4) <| xlt (yr h5 t 1 (some w4)) fun h6 => xv () h6
theorem CX3_init (E : XG) (t : Nat) (p1 : Int32) (h : XH) : XN E mX3_init eU 2 16 [.ref t, .int p1] h (FX3_init E t p1 h) := by
  unfold FX3_init
  refine S_enter (L := [some (.ref t), some (.int p1)]) (by decide +kernel) rfl rfl rfl ?_
  refine S_aload_0 0 dX3_init_0 ?_
  refine S_objinit 1 rfl oiX3_3 oiI oiC (by decide) (by decide) (by exact Nat.le_of_ble_eq_true rfl) dX3_init_1 ?_
  refine S_aload_0 4 dX3_init_4 ?_
  refine S_iload_1 5 dX3_init_5 ?_
  refine S_newD_long (a := 1) (b := 8) 6 t ar13 dX3_init_6 (fun w1 h2 => ?_)
  refine S_putR 8 frX3_9 rfl rfl (fun _ => rfl) dX3_init_8 (fun h3 => ?_)
  refine S_aload_0 11 dX3_init_11 ?_
  refine S_iload_1 12 dX3_init_12 ?_
  refine S_newD_int (a := 0) (b := 0) 13 t ar12 dX3_init_13 (fun w4 h5 => ?_)
  refine S_putR 15 frX3_15 rfl rfl (fun _ => rfl) dX3_init_15 (fun h6 => ?_)
  exact S_ret 18 dX3_init_18 rfl
def FX3_isFull (E : XG) (t : Nat) (h : XH) : XP Int32 := xg (xk h t = 4) <| xg (xk h t = 4) <| xnn (xr h t 0) fun w1 => xg (xk h w1 = 13) <| xjn (fun (v2 : Int32) (h3 : XH) => xg ((v2 : Int32) = 0 ∨ (v2 : Int32) = 1) <| xv v2 h3) fun (j17 : Int32 → XH → XP Int32) => if ((xi h t 2) : Int32) < (Int32.ofNat (xn h w1)) then (j17 0 h) else (j17 1 h)
theorem CX3_isFull (E : XG) (t : Nat) (h : XH) : XN E mX3_isFull eI 0 0 [.ref t] h (FX3_isFull E t h) := by
  unfold FX3_isFull
  refine S_enter (L := [some (.ref t)]) (by decide +kernel) rfl rfl rfl ?_
  refine S_aload_0 0 dX3_isFull_0 ?_
  refine S_getI 1 fsX3_19 rfl dX3_isFull_1 ?_
  refine S_aload_0 4 dX3_isFull_4 ?_
  refine S_getR 5 fsX3_9 rfl dX3_isFull_5 (fun w1 => ?_)
  refine S_alen 8 13 2 (by decide) rfl dX3_isFull_8 ?_
  refine S_join (fun jj => ∀ (v2 : Int32) (h3 : XH), XS E mX3_isFull eI 0 0 17 [none] [.int v2] h3 (jj v2 h3)) (fun v2 h3 => ?_) (fun j17 hj17 => ?_)
  · skip
    exact S_zret 17 dX3_isFull_17 rfl
  refine S_icmplt 9 16 dX3_isFull_9 (by decide) ?_ ?_
  · skip
    refine S_ic 16 0 dX3_isFull_16 (by decide) ?_
    exact S_drop [0] rfl (hj17 _ _)
  · skip
    refine S_ic 12 1 dX3_isFull_12 (by decide) ?_
    refine S_goto 13 17 dX3_isFull_13 (by decide) ?_
    exact S_drop [0] rfl (hj17 _ _)
def FX3_has (E : XG) (t : Nat) (p1 : Int32) (h : XH) : XP Int32 := xjn (fun (v1 : Int32) (h2 : XH) => xg ((v1 : Int32) = 0 ∨ (v1 : Int32) = 1) <| xv v1 h2) fun (j26 : Int32 → XH → XP Int32) => xjn (fun  (h3 : XH) => j26 0 h3) fun (j25 : XH → XP Int32) => if (p1 : Int32) < 0 then (j25 h) else (xg (xk h t = 4) <| if ((xi h t 2) : Int32) ≤ p1 then (j25 h) else (xg (xk h t = 4) <| xnn (xr h t 0) fun w4 => xg (xk h w4 = 13) <| if ((Int32.ofNat (xn h w4)) : Int32) ≤ p1 then (j25 h) else (j26 1 h)))
theorem CX3_has (E : XG) (t : Nat) (p1 : Int32) (h : XH) : XN E mX3_has eI 0 0 [.ref t, .int p1] h (FX3_has E t p1 h) := by
  unfold FX3_has
  refine S_enter (L := [some (.ref t), some (.int p1)]) (by decide +kernel) rfl rfl rfl ?_
  refine S_iload_1 0 dX3_has_0 ?_
  refine S_join (fun jj => ∀ (v1 : Int32) (h2 : XH), XS E mX3_has eI 0 0 26 [none, none] [.int v1] h2 (jj v1 h2)) (fun v1 h2 => ?_) (fun j26 hj26 => ?_)
  · skip
    exact S_zret 26 dX3_has_26 rfl
  refine S_join (fun jj => ∀  (h3 : XH), XS E mX3_has eI 0 0 25 [none, none] [] h3 (jj  h3)) (fun  h3 => ?_) (fun j25 hj25 => ?_)
  · skip
    refine S_ic 25 0 dX3_has_25 (by decide) ?_
    exact S_drop [] rfl (hj26 _ _)
  refine S_iflt 1 25 dX3_has_1 (by decide) ?_ ?_
  · skip
    exact S_drop [0, 1] rfl (hj25 _)
  · skip
    refine S_iload_1 4 dX3_has_4 ?_
    refine S_aload_0 5 dX3_has_5 ?_
    refine S_getI 6 fsX3_19 rfl dX3_has_6 ?_
    refine S_icmpge 9 25 dX3_has_9 (by decide) ?_ ?_
    · skip
      exact S_drop [0, 1] rfl (hj25 _)
    · skip
      refine S_iload_1 12 dX3_has_12 ?_
      refine S_aload_0 13 dX3_has_13 ?_
      refine S_getR 14 fsX3_9 rfl dX3_has_14 (fun w4 => ?_)
      refine S_alen 17 13 2 (by decide) rfl dX3_has_17 ?_
      refine S_icmpge 18 25 dX3_has_18 (by decide) ?_ ?_
      · skip
        exact S_drop [0, 1] rfl (hj25 _)
      · skip
        refine S_ic 21 1 dX3_has_21 (by decide) ?_
        refine S_goto 22 26 dX3_has_22 (by decide) ?_
        exact S_drop [0, 1] rfl (hj26 _ _)
def FX3_lengthOf (E : XG) (t : Nat) (p1 : Int32) (h : XH) : XP Int32 := xg (xk h t = 4) <| xnn (xr h t 1) fun w1 => xb (FX8_at E w1 p1 h) fun v2 h3 => xv v2 h3
theorem CX3_lengthOf (E : XG) (t : Nat) (p1 : Int32) (h : XH) : XN E mX3_lengthOf eI 0 0 [.ref t, .int p1] h (FX3_lengthOf E t p1 h) := by
  unfold FX3_lengthOf
  refine S_enter (L := [some (.ref t), some (.int p1)]) (by decide +kernel) rfl rfl rfl ?_
  refine S_aload_0 0 dX3_lengthOf_0 ?_
  refine S_getR 1 fsX3_15 rfl dX3_lengthOf_1 (fun w1 => ?_)
  refine S_iload_1 4 dX3_lengthOf_4 ?_
  refine S_callSN (a' := 0) (b' := 0) (a := 0) (b := 0) 5 (As := [.ref w1, .int p1]) rfl calX8_at stX8_at (List.mem_of_getElem? (i := 9) rfl) rfl rfl rfl rfl rfl dX3_lengthOf_5 (CX8_at E w1 p1 h) (fun v2 h3 => kqI ?_)
  exact S_iret 8 dX3_lengthOf_8 rfl
def FX3_letterOf (E : XG) (t : Nat) (p1 : Int32) (p2 : Int32) (h : XH) : XP Int32 := xg (xk h t = 4) <| xb (FX3_has E t p1 h) fun v1 h2 => if (v1 : Int32) = 0 then (xv 0 h2) else (xg (xk h2 t = 4) <| xb (FX3_lengthOf E t p1 h2) fun v3 h4 => xlt ((v3 - 1) - p2) fun v5 => xg (xk h4 t = 4) <| xnn (xr h4 t 0) fun w6 => xg (xk h4 w6 = 13 ∧ xin p1 (xn h4 w6)) <| xv (96 + (Int64.toInt32 (((xj h4 w6 (p1 : Int32).toNatClampNeg) >>> (((5 * v5) : Int32).toInt64 &&& 63)) &&& 31))) h4)
theorem CX3_letterOf (E : XG) (t : Nat) (p1 : Int32) (p2 : Int32) (h : XH) : XN E mX3_letterOf eI 0 0 [.ref t, .int p1, .int p2] h (FX3_letterOf E t p1 p2 h) := by
  unfold FX3_letterOf
  refine S_enter (L := [some (.ref t), some (.int p1), some (.int p2), none]) (by decide +kernel) rfl rfl rfl ?_
  refine S_aload_0 0 dX3_letterOf_0 ?_
  refine S_iload_1 1 dX3_letterOf_1 ?_
  refine S_callV (a' := 0) (b' := 0) (a := 0) (b := 0) 2 (As := [.int p1]) (ci := 3) rfl calX3_has imX3_has seX3_has mkX3_27 rfl rfl rfl rfl rfl (by decide) rfl rfl dX3_letterOf_2 (CX3_has E t p1 h) (fun v1 h2 => kqI ?_)
  refine S_ifne 5 10 dX3_letterOf_5 (by decide) ?_ ?_
  · skip
    refine S_aload_0 10 dX3_letterOf_10 ?_
    refine S_iload_1 11 dX3_letterOf_11 ?_
    refine S_callV (a' := 0) (b' := 0) (a := 0) (b := 0) 12 (As := [.int p1]) (ci := 3) rfl calX3_lengthOf imX3_lengthOf seX3_lengthOf mkX3_31 rfl rfl rfl rfl rfl (by decide) rfl rfl dX3_letterOf_12 (CX3_lengthOf E t p1 h2) (fun v3 h4 => kqI ?_)
    refine S_ic 15 1 dX3_letterOf_15 (by decide) ?_
    refine S_isub 16 dX3_letterOf_16 ?_
    refine S_iload_2 17 dX3_letterOf_17 ?_
    refine S_isub 18 dX3_letterOf_18 ?_
    refine S_gen (fun v5 => ?_)
    refine S_istore_3 19 dX3_letterOf_19 rfl ?_
    refine S_bip 20 96 dX3_letterOf_20 (by decide) ?_
    refine S_aload_0 22 dX3_letterOf_22 ?_
    refine S_getR 23 fsX3_9 rfl dX3_letterOf_23 (fun w6 => ?_)
    refine S_iload_1 26 dX3_letterOf_26 ?_
    refine S_lald 27 dX3_letterOf_27 ?_
    refine S_ic 28 5 dX3_letterOf_28 (by decide) ?_
    refine S_iload_3 29 dX3_letterOf_29 ?_
    refine S_imul 30 dX3_letterOf_30 ?_
    refine S_lshr 31 dX3_letterOf_31 ?_
    refine S_ldc2 32 (v := 31) rfl ⟨List.mem_of_getElem? (i := 1154) (by decide +kernel), rfl⟩ dX3_letterOf_32 ?_
    refine S_land 35 dX3_letterOf_35 ?_
    refine S_l2i 36 dX3_letterOf_36 ?_
    refine S_iadd 37 dX3_letterOf_37 ?_
    exact S_iret 38 dX3_letterOf_38 rfl
  · skip
    refine S_ic 8 0 dX3_letterOf_8 (by decide) ?_
    exact S_iret 9 dX3_letterOf_9 rfl
def FX3_numberOf (E : XG) (t : Nat) (p1 : Int64) (h : XH) : XP Int32 := xlp (fun again2 (s2 : Int32) h1 => xg (xk h1 t = 4) <| xjn (fun  (h2 : XH) => xv (-1) h2) fun (j38 : XH → XP Int32) => if ((xi h1 t 2) : Int32) ≤ s2 then (j38 h1) else (xg (xk h1 t = 4) <| xnn (xr h1 t 0) fun w3 => xg (xk h1 w3 = 13) <| if ((Int32.ofNat (xn h1 w3)) : Int32) ≤ s2 then (j38 h1) else (xg (xk h1 t = 4) <| xnn (xr h1 t 0) fun w4 => xg (xk h1 w4 = 13 ∧ xin s2 (xn h1 w4)) <| if ((lg_cmp (xj h1 w4 (s2 : Int32).toNatClampNeg) p1) : Int32) = 0 then (xv s2 h1) else (again2 (s2 + 1) h1)))) xfu 0 h
theorem CX3_numberOf (E : XG) (t : Nat) (p1 : Int64) (h : XH) : XN E mX3_numberOf eI 0 0 [.ref t, .long p1] h (FX3_numberOf E t p1 h) := by
  unfold FX3_numberOf
  refine S_enter (L := [some (.ref t), some (.long p1), none, none]) (by decide +kernel) rfl rfl rfl ?_
  refine S_ic 0 0 dX3_numberOf_0 (by decide) ?_
  refine S_istore_3 1 dX3_numberOf_1 rfl ?_
  refine S_loop (fun (s2 : Int32) => [some (.ref t), some (.long p1), none, some (.int s2)]) (fun again2 hg2 s2 h1 => ?_) xfu _ _
  refine S_iload_3 2 dX3_numberOf_2 ?_
  refine S_aload_0 3 dX3_numberOf_3 ?_
  refine S_getI 4 fsX3_19 rfl dX3_numberOf_4 ?_
  refine S_join (fun jj => ∀  (h2 : XH), XS E mX3_numberOf eI 0 0 38 [none, none, none, none] [] h2 (jj  h2)) (fun  h2 => ?_) (fun j38 hj38 => ?_)
  · skip
    refine S_ic 38 (-1) dX3_numberOf_38 (by decide) ?_
    exact S_iret 39 dX3_numberOf_39 rfl
  refine S_icmpge 7 38 dX3_numberOf_7 (by decide) ?_ ?_
  · skip
    exact S_drop [0, 1, 3] rfl (hj38 _)
  · skip
    refine S_iload_3 10 dX3_numberOf_10 ?_
    refine S_aload_0 11 dX3_numberOf_11 ?_
    refine S_getR 12 fsX3_9 rfl dX3_numberOf_12 (fun w3 => ?_)
    refine S_alen 15 13 2 (by decide) rfl dX3_numberOf_15 ?_
    refine S_icmpge 16 38 dX3_numberOf_16 (by decide) ?_ ?_
    · skip
      exact S_drop [0, 1, 3] rfl (hj38 _)
    · skip
      refine S_aload_0 19 dX3_numberOf_19 ?_
      refine S_getR 20 fsX3_9 rfl dX3_numberOf_20 (fun w4 => ?_)
      refine S_iload_3 23 dX3_numberOf_23 ?_
      refine S_lald 24 dX3_numberOf_24 ?_
      refine S_lload_1 25 dX3_numberOf_25 ?_
      refine S_lcmp 26 dX3_numberOf_26 ?_
      refine S_ifne 27 32 dX3_numberOf_27 (by decide) ?_ ?_
      · skip
        refine S_iinc_3 32 (s2 + 1) dX3_numberOf_32 (by rfl) rfl ?_
        refine S_goto 35 2 dX3_numberOf_35 (by decide) ?_
        exact S_drop [] rfl (hg2 _ _)
      · skip
        refine S_iload_3 30 dX3_numberOf_30 ?_
        exact S_iret 31 dX3_numberOf_31 rfl
def FX3_noteNext (E : XG) (t : Nat) (p1 : Int64) (p2 : Int32) (h : XH) : XP Unit := xg (xk h t = 4) <| xg (xk h t = 4) <| xnn (xr h t 0) fun w1 => xg (xk h w1 = 13) <| xjn (fun  (h2 : XH) => xv () h2) fun (j34 : XH → XP Unit) => if ((Int32.ofNat (xn h w1)) : Int32) ≤ (xi h t 2) then (j34 h) else (xg (xk h t = 4) <| xnn (xr h t 0) fun w3 => xg (xk h t = 4) <| xg (xk h w3 = 13 ∧ xin (xi h t 2) (xn h w3)) <| xlt (yj h w3 ((xi h t 2) : Int32).toNatClampNeg p1) fun h4 => xg (xk h4 t = 4) <| xnn (xr h4 t 1) fun w5 => xg (xk h4 t = 4) <| xb (FX8_put E w5 (xi h4 t 2) p2 h4) fun _ h6 => j34 h6)
theorem CX3_noteNext (E : XG) (t : Nat) (p1 : Int64) (p2 : Int32) (h : XH) : XN E mX3_noteNext eU 0 0 [.ref t, .long p1, .int p2] h (FX3_noteNext E t p1 p2 h) := by
  unfold FX3_noteNext
  refine S_enter (L := [some (.ref t), some (.long p1), none, some (.int p2)]) (by decide +kernel) rfl rfl rfl ?_
  refine S_aload_0 0 dX3_noteNext_0 ?_
  refine S_getI 1 fsX3_19 rfl dX3_noteNext_1 ?_
  refine S_aload_0 4 dX3_noteNext_4 ?_
  refine S_getR 5 fsX3_9 rfl dX3_noteNext_5 (fun w1 => ?_)
  refine S_alen 8 13 2 (by decide) rfl dX3_noteNext_8 ?_
  refine S_join (fun jj => ∀  (h2 : XH), XS E mX3_noteNext eU 0 0 34 [none, none, none, none] [] h2 (jj  h2)) (fun  h2 => ?_) (fun j34 hj34 => ?_)
  · skip
    exact S_ret 34 dX3_noteNext_34 rfl
  refine S_icmpge 9 34 dX3_noteNext_9 (by decide) ?_ ?_
  · skip
    exact S_drop [0, 1, 3] rfl (hj34 _)
  · skip
    refine S_aload_0 12 dX3_noteNext_12 ?_
    refine S_getR 13 fsX3_9 rfl dX3_noteNext_13 (fun w3 => ?_)
    refine S_aload_0 16 dX3_noteNext_16 ?_
    refine S_getI 17 fsX3_19 rfl dX3_noteNext_17 ?_
    refine S_lload_1 20 dX3_noteNext_20 ?_
    refine S_last 21 dX3_noteNext_21 (fun h4 => ?_)
    refine S_aload_0 22 dX3_noteNext_22 ?_
    refine S_getR 23 fsX3_15 rfl dX3_noteNext_23 (fun w5 => ?_)
    refine S_aload_0 26 dX3_noteNext_26 ?_
    refine S_getI 27 fsX3_19 rfl dX3_noteNext_27 ?_
    refine S_iload_3 30 dX3_noteNext_30 ?_
    refine S_callSN (a' := 0) (b' := 0) (a := 0) (b := 0) 31 (As := [.ref w5, .int (xi h4 t 2), .int p2]) rfl calX8_put stX8_put (List.mem_of_getElem? (i := 10) rfl) rfl rfl rfl rfl rfl dX3_noteNext_31 (CX8_put E w5 (xi h4 t 2) p2 h4) (fun _ h6 => kqU ?_)
    exact S_drop [0, 1, 3] rfl (hj34 _)
def FX4_has (E : XG) (t : Nat) (p1 : Int32) (h : XH) : XP Int32 := xjn (fun (v1 : Int32) (h2 : XH) => xg ((v1 : Int32) = 0 ∨ (v1 : Int32) = 1) <| xv v1 h2) fun (j17 : Int32 → XH → XP Int32) => xjn (fun  (h3 : XH) => j17 0 h3) fun (j16 : XH → XP Int32) => if (p1 : Int32) < 0 then (j16 h) else (xg (xk h t = 5) <| if ((xi h t 4) : Int32) ≤ p1 then (j16 h) else (j17 1 h))
theorem CX4_has (E : XG) (t : Nat) (p1 : Int32) (h : XH) : XN E mX4_has eI 0 0 [.ref t, .int p1] h (FX4_has E t p1 h) := by
  unfold FX4_has
  refine S_enter (L := [some (.ref t), some (.int p1)]) (by decide +kernel) rfl rfl rfl ?_
  refine S_iload_1 0 dX4_has_0 ?_
  refine S_join (fun jj => ∀ (v1 : Int32) (h2 : XH), XS E mX4_has eI 0 0 17 [none, none] [.int v1] h2 (jj v1 h2)) (fun v1 h2 => ?_) (fun j17 hj17 => ?_)
  · skip
    exact S_zret 17 dX4_has_17 rfl
  refine S_join (fun jj => ∀  (h3 : XH), XS E mX4_has eI 0 0 16 [none, none] [] h3 (jj  h3)) (fun  h3 => ?_) (fun j16 hj16 => ?_)
  · skip
    refine S_ic 16 0 dX4_has_16 (by decide) ?_
    exact S_drop [] rfl (hj17 _ _)
  refine S_iflt 1 16 dX4_has_1 (by decide) ?_ ?_
  · skip
    exact S_drop [0, 1] rfl (hj16 _)
  · skip
    refine S_iload_1 4 dX4_has_4 ?_
    refine S_aload_0 5 dX4_has_5 ?_
    refine S_getI 6 fsX4_24 rfl dX4_has_6 ?_
    refine S_icmpge 9 16 dX4_has_9 (by decide) ?_ ?_
    · skip
      exact S_drop [0, 1] rfl (hj16 _)
    · skip
      refine S_ic 12 1 dX4_has_12 (by decide) ?_
      refine S_goto 13 17 dX4_has_13 (by decide) ?_
      exact S_drop [0, 1] rfl (hj17 _ _)
def FX4_leastOf (E : XG) (t : Nat) (p1 : Int32) (h : XH) : XP Int32 := xg (xk h t = 5) <| xnn (xr h t 1) fun w1 => xb (FX8_at E w1 p1 h) fun v2 h3 => xv v2 h3
theorem CX4_leastOf (E : XG) (t : Nat) (p1 : Int32) (h : XH) : XN E mX4_leastOf eI 0 0 [.ref t, .int p1] h (FX4_leastOf E t p1 h) := by
  unfold FX4_leastOf
  refine S_enter (L := [some (.ref t), some (.int p1)]) (by decide +kernel) rfl rfl rfl ?_
  refine S_aload_0 0 dX4_leastOf_0 ?_
  refine S_getR 1 fsX4_15 rfl dX4_leastOf_1 (fun w1 => ?_)
  refine S_iload_1 4 dX4_leastOf_4 ?_
  refine S_callSN (a' := 0) (b' := 0) (a := 0) (b := 0) 5 (As := [.ref w1, .int p1]) rfl calX8_at stX8_at (List.mem_of_getElem? (i := 11) rfl) rfl rfl rfl rfl rfl dX4_leastOf_5 (CX8_at E w1 p1 h) (fun v2 h3 => kqI ?_)
  exact S_iret 8 dX4_leastOf_8 rfl
def FX4_matches (E : XG) (t : Nat) (p1 : Nat) (h : XH) : XP Int32 := xlp (fun again4 (s4 : Int32 × Int32) h1 => xjn (fun  (h2 : XH) => xg ((s4.1 : Int32) = 0 ∨ (s4.1 : Int32) = 1) <| xv s4.1 h2) fun (j64 : XH → XP Int32) => if (8 : Int32) < s4.2 then (j64 h1) else (if (s4.1 : Int32) = 0 then (j64 h1) else (xg (xk h1 t = 5) <| xnn (xr h1 t 2) fun w3 => xb (FX8_at E w3 s4.2 h1) fun v4 h5 => xg (xk h5 p1 = 5) <| xnn (xr h5 p1 2) fun w6 => xb (FX8_at E w6 s4.2 h5) fun v7 h8 => xjn (fun (v9 : Int32) (h10 : XH) => again4 (v9, (s4.2 + 1)) h10) fun (j57 : Int32 → XH → XP Int32) => xjn (fun  (h11 : XH) => j57 0 h11) fun (j56 : XH → XP Int32) => if (v4 : Int32) = v7 then (xg (xk h8 t = 5) <| xnn (xr h8 t 3) fun w12 => xb (FX8_at E w12 s4.2 h8) fun v13 h14 => xg (xk h14 p1 = 5) <| xnn (xr h14 p1 3) fun w15 => xb (FX8_at E w15 s4.2 h14) fun v16 h17 => if (v13 : Int32) = v16 then (j57 1 h17) else (j56 h17)) else (j56 h8)))) xfu (1, 1) h
theorem CX4_matches (E : XG) (t : Nat) (p1 : Nat) (h : XH) : XN E mX4_matches eI 0 0 [.ref t, .ref p1] h (FX4_matches E t p1 h) := by
  unfold FX4_matches
  refine S_enter (L := [some (.ref t), some (.ref p1), none, none]) (by decide +kernel) rfl rfl rfl ?_
  refine S_ic 0 1 dX4_matches_0 (by decide) ?_
  refine S_istore_2 1 dX4_matches_1 rfl ?_
  refine S_ic 2 1 dX4_matches_2 (by decide) ?_
  refine S_istore_3 3 dX4_matches_3 rfl ?_
  refine S_loop (fun (s4 : Int32 × Int32) => [some (.ref t), some (.ref p1), some (.int s4.1), some (.int s4.2)]) (fun again4 hg4 s4 h1 => ?_) xfu _ _
  refine S_iload_3 4 dX4_matches_4 ?_
  refine S_bip 5 8 dX4_matches_5 (by decide) ?_
  refine S_join (fun jj => ∀  (h2 : XH), XS E mX4_matches eI 0 0 64 [none, none, some (.int s4.1), none] [] h2 (jj  h2)) (fun  h2 => ?_) (fun j64 hj64 => ?_)
  · skip
    refine S_iload_2 64 dX4_matches_64 ?_
    exact S_zret 65 dX4_matches_65 rfl
  refine S_icmpgt 7 64 dX4_matches_7 (by decide) ?_ ?_
  · skip
    exact S_drop [0, 1, 3] rfl (hj64 _)
  · skip
    refine S_iload_2 10 dX4_matches_10 ?_
    refine S_ifeq 11 64 dX4_matches_11 (by decide) ?_ ?_
    · skip
      exact S_drop [0, 1, 3] rfl (hj64 _)
    · skip
      refine S_aload_0 14 dX4_matches_14 ?_
      refine S_getR 15 fsX4_18 rfl dX4_matches_15 (fun w3 => ?_)
      refine S_iload_3 18 dX4_matches_18 ?_
      refine S_callSN (a' := 0) (b' := 0) (a := 0) (b := 0) 19 (As := [.ref w3, .int s4.2]) rfl calX8_at stX8_at (List.mem_of_getElem? (i := 11) rfl) rfl rfl rfl rfl rfl dX4_matches_19 (CX8_at E w3 s4.2 h1) (fun v4 h5 => kqI ?_)
      refine S_aload_1 22 dX4_matches_22 ?_
      refine S_getR 23 fsX4_18 rfl dX4_matches_23 (fun w6 => ?_)
      refine S_iload_3 26 dX4_matches_26 ?_
      refine S_callSN (a' := 0) (b' := 0) (a := 0) (b := 0) 27 (As := [.ref w6, .int s4.2]) rfl calX8_at stX8_at (List.mem_of_getElem? (i := 11) rfl) rfl rfl rfl rfl rfl dX4_matches_27 (CX8_at E w6 s4.2 h5) (fun v7 h8 => kqI ?_)
      refine S_join (fun jj => ∀ (v9 : Int32) (h10 : XH), XS E mX4_matches eI 0 0 57 [some (.ref t), some (.ref p1), none, some (.int s4.2)] [.int v9] h10 (jj v9 h10)) (fun v9 h10 => ?_) (fun j57 hj57 => ?_)
      · skip
        refine S_istore_2 57 dX4_matches_57 rfl ?_
        refine S_iinc_3 58 (s4.2 + 1) dX4_matches_58 (by rfl) rfl ?_
        refine S_goto 61 4 dX4_matches_61 (by decide) ?_
        exact S_drop [] rfl (hg4 _ _)
      refine S_join (fun jj => ∀  (h11 : XH), XS E mX4_matches eI 0 0 56 [some (.ref t), some (.ref p1), none, some (.int s4.2)] [] h11 (jj  h11)) (fun  h11 => ?_) (fun j56 hj56 => ?_)
      · skip
        refine S_ic 56 0 dX4_matches_56 (by decide) ?_
        exact S_drop [] rfl (hj57 _ _)
      refine S_icmpne 30 56 dX4_matches_30 (by decide) ?_ ?_
      · skip
        exact S_drop [2] rfl (hj56 _)
      · skip
        refine S_aload_0 33 dX4_matches_33 ?_
        refine S_getR 34 fsX4_21 rfl dX4_matches_34 (fun w12 => ?_)
        refine S_iload_3 37 dX4_matches_37 ?_
        refine S_callSN (a' := 0) (b' := 0) (a := 0) (b := 0) 38 (As := [.ref w12, .int s4.2]) rfl calX8_at stX8_at (List.mem_of_getElem? (i := 11) rfl) rfl rfl rfl rfl rfl dX4_matches_38 (CX8_at E w12 s4.2 h8) (fun v13 h14 => kqI ?_)
        refine S_aload_1 41 dX4_matches_41 ?_
        refine S_getR 42 fsX4_21 rfl dX4_matches_42 (fun w15 => ?_)
        refine S_iload_3 45 dX4_matches_45 ?_
        refine S_callSN (a' := 0) (b' := 0) (a := 0) (b := 0) 46 (As := [.ref w15, .int s4.2]) rfl calX8_at stX8_at (List.mem_of_getElem? (i := 11) rfl) rfl rfl rfl rfl rfl dX4_matches_46 (CX8_at E w15 s4.2 h14) (fun v16 h17 => kqI ?_)
        refine S_icmpne 49 56 dX4_matches_49 (by decide) ?_ ?_
        · skip
          exact S_drop [2] rfl (hj56 _)
        · skip
          refine S_ic 52 1 dX4_matches_52 (by decide) ?_
          refine S_goto 53 57 dX4_matches_53 (by decide) ?_
          exact S_drop [2] rfl (hj57 _ _)
def FX5_init (E : XG) (t : Nat) (p1 : Nat) (p2 : Nat) (h : XH) : XP Unit := xg (xk h t = 6) <| xlt (yi h t 3 (-1)) fun h1 => xg (xk h1 t = 6) <| xlt (yr h1 t 0 (some p1)) fun h2 => xg (xk h2 t = 6) <| xlt (yr h2 t 1 (some p2)) fun h3 => xv () h3
theorem CX5_init (E : XG) (t : Nat) (p1 : Nat) (p2 : Nat) (h : XH) : XN E mX5_init eU 0 0 [.ref t, .ref p1, .ref p2] h (FX5_init E t p1 p2 h) := by
  unfold FX5_init
  refine S_enter (L := [some (.ref t), some (.ref p1), some (.ref p2)]) (by decide +kernel) rfl rfl rfl ?_
  refine S_aload_0 0 dX5_init_0 ?_
  refine S_objinit 1 rfl oiX5_3 oiI oiC (by decide) (by decide) (by exact Nat.le_of_ble_eq_true rfl) dX5_init_1 ?_
  refine S_aload_0 4 dX5_init_4 ?_
  refine S_ic 5 (-1) dX5_init_5 (by decide) ?_
  refine S_putI 6 frX5_9 rfl (fun q => by cases q) dX5_init_6 (fun h1 => ?_)
  refine S_aload_0 9 dX5_init_9 ?_
  refine S_aload_1 10 dX5_init_10 ?_
  refine S_putR 11 frX5_15 rfl rfl (fun _ => rfl) dX5_init_11 (fun h2 => ?_)
  refine S_aload_0 14 dX5_init_14 ?_
  refine S_aload_2 15 dX5_init_15 ?_
  refine S_putR 16 frX5_19 rfl rfl (fun _ => rfl) dX5_init_16 (fun h3 => ?_)
  exact S_ret 19 dX5_init_19 rfl
def FX5_refuse (E : XG) (t : Nat) (p1 : Int32) (h : XH) : XP Int32 := xg (xk h t = 6) <| xlt (yi h t 2 p1) fun h1 => xg (xk h1 t = 6) <| xnn (xr h1 t 0) fun w2 => xg (xk h1 w2 = 7) <| xg (xk h1 t = 6) <| xlt (yi h1 t 3 (xi h1 w2 2)) fun h3 => xg ((0 : Int32) = 0 ∨ (0 : Int32) = 1) <| xv 0 h3
theorem CX5_refuse (E : XG) (t : Nat) (p1 : Int32) (h : XH) : XN E mX5_refuse eI 0 0 [.ref t, .int p1] h (FX5_refuse E t p1 h) := by
  unfold FX5_refuse
  refine S_enter (L := [some (.ref t), some (.int p1)]) (by decide +kernel) rfl rfl rfl ?_
  refine S_aload_0 0 dX5_refuse_0 ?_
  refine S_iload_1 1 dX5_refuse_1 ?_
  refine S_putI 2 frX5_23 rfl (fun q => by cases q) dX5_refuse_2 (fun h1 => ?_)
  refine S_aload_0 5 dX5_refuse_5 ?_
  refine S_aload_0 6 dX5_refuse_6 ?_
  refine S_getR 7 fsX5_15 rfl dX5_refuse_7 (fun w2 => ?_)
  refine S_getI 10 fsX5_26 rfl dX5_refuse_10 ?_
  refine S_putI 13 frX5_9 rfl (fun q => by cases q) dX5_refuse_13 (fun h3 => ?_)
  refine S_ic 16 0 dX5_refuse_16 (by decide) ?_
  exact S_zret 17 dX5_refuse_17 rfl
def FX6_endOfRun (E : XG) (t : Nat) (p1 : Int32) (p2 : Int32) (p3 : Int32) (h : XH) : XP Int32 := xlp (fun again3 (s3 : Int32) h1 => xjn (fun  (h2 : XH) => xv s3 h2) fun (j55 : XH → XP Int32) => if (s3 : Int32) < 0 then (j55 h1) else (xg (xk h1 t = 7) <| if ((xi h1 t 1) : Int32) ≤ s3 then (j55 h1) else (xg (xk h1 t = 7) <| xnn (xr h1 t 0) fun w3 => xg (xk h1 w3 = 11) <| if ((Int32.ofNat (xn h1 w3)) : Int32) ≤ s3 then (j55 h1) else (xg (xk h1 t = 7) <| xnn (xr h1 t 0) fun w4 => xg (xk h1 w4 = 11 ∧ xin s3 (xn h1 w4)) <| if ((xi h1 w4 (s3 : Int32).toNatClampNeg) : Int32) < p2 then (j55 h1) else (xg (xk h1 t = 7) <| xnn (xr h1 t 0) fun w5 => xg (xk h1 w5 = 11 ∧ xin s3 (xn h1 w5)) <| if (p3 : Int32) < (xi h1 w5 (s3 : Int32).toNatClampNeg) then (j55 h1) else (again3 (s3 + 1) h1)))))) xfu p1 h
theorem CX6_endOfRun (E : XG) (t : Nat) (p1 : Int32) (p2 : Int32) (p3 : Int32) (h : XH) : XN E mX6_endOfRun eI 0 0 [.ref t, .int p1, .int p2, .int p3] h (FX6_endOfRun E t p1 p2 p3 h) := by
  unfold FX6_endOfRun
  refine S_enter (L := [some (.ref t), some (.int p1), some (.int p2), some (.int p3), none]) (by decide +kernel) rfl rfl rfl ?_
  refine S_iload_1 0 dX6_endOfRun_0 ?_
  refine S_istore_4 1 dX6_endOfRun_1 rfl ?_
  refine S_drop [1] rfl ?_
  refine S_loop (fun (s3 : Int32) => [some (.ref t), none, some (.int p2), some (.int p3), some (.int s3)]) (fun again3 hg3 s3 h1 => ?_) xfu _ _
  refine S_iload_4 3 dX6_endOfRun_3 ?_
  refine S_join (fun jj => ∀  (h2 : XH), XS E mX6_endOfRun eI 0 0 55 [none, none, none, none, some (.int s3)] [] h2 (jj  h2)) (fun  h2 => ?_) (fun j55 hj55 => ?_)
  · skip
    refine S_iload_4 55 dX6_endOfRun_55 ?_
    exact S_iret 57 dX6_endOfRun_57 rfl
  refine S_iflt 5 55 dX6_endOfRun_5 (by decide) ?_ ?_
  · skip
    exact S_drop [0, 2, 3] rfl (hj55 _)
  · skip
    refine S_iload_4 8 dX6_endOfRun_8 ?_
    refine S_aload_0 10 dX6_endOfRun_10 ?_
    refine S_getI 11 fsX6_15 rfl dX6_endOfRun_11 ?_
    refine S_icmpge 14 55 dX6_endOfRun_14 (by decide) ?_ ?_
    · skip
      exact S_drop [0, 2, 3] rfl (hj55 _)
    · skip
      refine S_iload_4 17 dX6_endOfRun_17 ?_
      refine S_aload_0 19 dX6_endOfRun_19 ?_
      refine S_getR 20 fsX6_9 rfl dX6_endOfRun_20 (fun w3 => ?_)
      refine S_alen 23 11 0 (by decide) rfl dX6_endOfRun_23 ?_
      refine S_icmpge 24 55 dX6_endOfRun_24 (by decide) ?_ ?_
      · skip
        exact S_drop [0, 2, 3] rfl (hj55 _)
      · skip
        refine S_aload_0 27 dX6_endOfRun_27 ?_
        refine S_getR 28 fsX6_9 rfl dX6_endOfRun_28 (fun w4 => ?_)
        refine S_iload_4 31 dX6_endOfRun_31 ?_
        refine S_bald 33 dX6_endOfRun_33 ?_
        refine S_iload_2 34 dX6_endOfRun_34 ?_
        refine S_icmplt 35 55 dX6_endOfRun_35 (by decide) ?_ ?_
        · skip
          exact S_drop [0, 2, 3] rfl (hj55 _)
        · skip
          refine S_aload_0 38 dX6_endOfRun_38 ?_
          refine S_getR 39 fsX6_9 rfl dX6_endOfRun_39 (fun w5 => ?_)
          refine S_iload_4 42 dX6_endOfRun_42 ?_
          refine S_bald 44 dX6_endOfRun_44 ?_
          refine S_iload_3 45 dX6_endOfRun_45 ?_
          refine S_icmpgt 46 55 dX6_endOfRun_46 (by decide) ?_ ?_
          · skip
            exact S_drop [0, 2, 3] rfl (hj55 _)
          · skip
            refine S_iinc_4 49 (s3 + 1) dX6_endOfRun_49 (by rfl) rfl ?_
            refine S_goto 52 3 dX6_endOfRun_52 (by decide) ?_
            exact S_drop [] rfl (hg3 _ _)
def FX6_byteAt (E : XG) (t : Nat) (p1 : Int32) (h : XH) : XP Int32 := xjn (fun (v1 : Int32) (h2 : XH) => xv v1 h2) fun (j31 : Int32 → XH → XP Int32) => xjn (fun  (h3 : XH) => j31 0 h3) fun (j30 : XH → XP Int32) => if (p1 : Int32) < 0 then (j30 h) else (xg (xk h t = 7) <| if ((xi h t 1) : Int32) ≤ p1 then (j30 h) else (xg (xk h t = 7) <| xnn (xr h t 0) fun w4 => xg (xk h w4 = 11) <| if ((Int32.ofNat (xn h w4)) : Int32) ≤ p1 then (j30 h) else (xg (xk h t = 7) <| xnn (xr h t 0) fun w5 => xg (xk h w5 = 11 ∧ xin p1 (xn h w5)) <| j31 (xi h w5 (p1 : Int32).toNatClampNeg) h)))
theorem CX6_byteAt (E : XG) (t : Nat) (p1 : Int32) (h : XH) : XN E mX6_byteAt eI 0 0 [.ref t, .int p1] h (FX6_byteAt E t p1 h) := by
  unfold FX6_byteAt
  refine S_enter (L := [some (.ref t), some (.int p1)]) (by decide +kernel) rfl rfl rfl ?_
  refine S_iload_1 0 dX6_byteAt_0 ?_
  refine S_join (fun jj => ∀ (v1 : Int32) (h2 : XH), XS E mX6_byteAt eI 0 0 31 [none, none] [.int v1] h2 (jj v1 h2)) (fun v1 h2 => ?_) (fun j31 hj31 => ?_)
  · skip
    exact S_iret 31 dX6_byteAt_31 rfl
  refine S_join (fun jj => ∀  (h3 : XH), XS E mX6_byteAt eI 0 0 30 [none, none] [] h3 (jj  h3)) (fun  h3 => ?_) (fun j30 hj30 => ?_)
  · skip
    refine S_ic 30 0 dX6_byteAt_30 (by decide) ?_
    exact S_drop [] rfl (hj31 _ _)
  refine S_iflt 1 30 dX6_byteAt_1 (by decide) ?_ ?_
  · skip
    exact S_drop [0, 1] rfl (hj30 _)
  · skip
    refine S_iload_1 4 dX6_byteAt_4 ?_
    refine S_aload_0 5 dX6_byteAt_5 ?_
    refine S_getI 6 fsX6_15 rfl dX6_byteAt_6 ?_
    refine S_icmpge 9 30 dX6_byteAt_9 (by decide) ?_ ?_
    · skip
      exact S_drop [0, 1] rfl (hj30 _)
    · skip
      refine S_iload_1 12 dX6_byteAt_12 ?_
      refine S_aload_0 13 dX6_byteAt_13 ?_
      refine S_getR 14 fsX6_9 rfl dX6_byteAt_14 (fun w4 => ?_)
      refine S_alen 17 11 0 (by decide) rfl dX6_byteAt_17 ?_
      refine S_icmpge 18 30 dX6_byteAt_18 (by decide) ?_ ?_
      · skip
        exact S_drop [0, 1] rfl (hj30 _)
      · skip
        refine S_aload_0 21 dX6_byteAt_21 ?_
        refine S_getR 22 fsX6_9 rfl dX6_byteAt_22 (fun w5 => ?_)
        refine S_iload_1 25 dX6_byteAt_25 ?_
        refine S_bald 26 dX6_byteAt_26 ?_
        refine S_goto 27 31 dX6_byteAt_27 (by decide) ?_
        exact S_drop [0, 1] rfl (hj31 _ _)
def FX8_isBetween (E : XG) (p1 : Int32) (p2 : Int32) (p3 : Int32) (h : XH) : XP Int32 := xjn (fun (v1 : Int32) (h2 : XH) => xg ((v1 : Int32) = 0 ∨ (v1 : Int32) = 1) <| xv v1 h2) fun (j15 : Int32 → XH → XP Int32) => xjn (fun  (h3 : XH) => j15 0 h3) fun (j14 : XH → XP Int32) => if (p1 : Int32) < p2 then (j14 h) else (if (p3 : Int32) < p1 then (j14 h) else (j15 1 h))
theorem CX8_isBetween (E : XG) (p1 : Int32) (p2 : Int32) (p3 : Int32) (h : XH) : XN E mX8_isBetween eI 0 0 [.int p1, .int p2, .int p3] h (FX8_isBetween E p1 p2 p3 h) := by
  unfold FX8_isBetween
  refine S_enter (L := [some (.int p1), some (.int p2), some (.int p3)]) (by decide +kernel) rfl rfl rfl ?_
  refine S_iload_0 0 dX8_isBetween_0 ?_
  refine S_iload_1 1 dX8_isBetween_1 ?_
  refine S_join (fun jj => ∀ (v1 : Int32) (h2 : XH), XS E mX8_isBetween eI 0 0 15 [none, none, none] [.int v1] h2 (jj v1 h2)) (fun v1 h2 => ?_) (fun j15 hj15 => ?_)
  · skip
    exact S_zret 15 dX8_isBetween_15 rfl
  refine S_join (fun jj => ∀  (h3 : XH), XS E mX8_isBetween eI 0 0 14 [none, none, none] [] h3 (jj  h3)) (fun  h3 => ?_) (fun j14 hj14 => ?_)
  · skip
    refine S_ic 14 0 dX8_isBetween_14 (by decide) ?_
    exact S_drop [] rfl (hj15 _ _)
  refine S_icmplt 2 14 dX8_isBetween_2 (by decide) ?_ ?_
  · skip
    exact S_drop [0, 1, 2] rfl (hj14 _)
  · skip
    refine S_iload_0 5 dX8_isBetween_5 ?_
    refine S_iload_2 6 dX8_isBetween_6 ?_
    refine S_icmpgt 7 14 dX8_isBetween_7 (by decide) ?_ ?_
    · skip
      exact S_drop [0, 1, 2] rfl (hj14 _)
    · skip
      refine S_ic 10 1 dX8_isBetween_10 (by decide) ?_
      refine S_goto 11 15 dX8_isBetween_11 (by decide) ?_
      exact S_drop [0, 1, 2] rfl (hj15 _ _)
def FX6_packed (E : XG) (t : Nat) (h : XH) : XP Int64 := xg (xk h t = 7) <| xlt (xi h t 2) fun v1 => xlp (fun again7 (s7 : Int64 × Int32) h2 => xjn (fun  (h3 : XH) => xv s7.1 h3) fun (j51 : XH → XP Int64) => if (s7.2 : Int32) < 0 then (j51 h2) else (xg (xk h2 t = 7) <| if ((xi h2 t 3) : Int32) ≤ s7.2 then (j51 h2) else (xg (xk h2 t = 7) <| xnn (xr h2 t 0) fun w4 => xg (xk h2 w4 = 11) <| if ((Int32.ofNat (xn h2 w4)) : Int32) ≤ s7.2 then (j51 h2) else (xg (xk h2 t = 7) <| xnn (xr h2 t 0) fun w5 => xg (xk h2 w5 = 11 ∧ xin s7.2 (xn h2 w5)) <| xlt ((s7.1 <<< ((5 : Int32).toInt64 &&& 63)) ||| (Int32.toInt64 (((xi h2 w5 (s7.2 : Int32).toNatClampNeg) - 97) + 1))) fun v6 => again7 (v6, (s7.2 + 1)) h2)))) xfu ((Int64.ofNat 0), v1) h
theorem CX6_packed (E : XG) (t : Nat) (h : XH) : XN E mX6_packed eJ 0 0 [.ref t] h (FX6_packed E t h) := by
  unfold FX6_packed
  refine S_enter (L := [some (.ref t), none, none, none]) (by decide +kernel) rfl rfl rfl ?_
  refine S_lconst 0 0 dX6_packed_0 ?_
  refine S_lstore_1 1 dX6_packed_1 rfl ?_
  refine S_aload_0 2 dX6_packed_2 ?_
  refine S_getI 3 fsX6_26 rfl dX6_packed_3 ?_
  refine S_gen (fun v1 => ?_)
  refine S_istore_3 6 dX6_packed_6 rfl ?_
  refine S_loop (fun (s7 : Int64 × Int32) => [some (.ref t), some (.long s7.1), none, some (.int s7.2)]) (fun again7 hg7 s7 h2 => ?_) xfu _ _
  refine S_iload_3 7 dX6_packed_7 ?_
  refine S_join (fun jj => ∀  (h3 : XH), XS E mX6_packed eJ 0 0 51 [none, some (.long s7.1), none, none] [] h3 (jj  h3)) (fun  h3 => ?_) (fun j51 hj51 => ?_)
  · skip
    refine S_lload_1 51 dX6_packed_51 ?_
    exact S_lret 52 dX6_packed_52 rfl
  refine S_iflt 8 51 dX6_packed_8 (by decide) ?_ ?_
  · skip
    exact S_drop [0, 3] rfl (hj51 _)
  · skip
    refine S_iload_3 11 dX6_packed_11 ?_
    refine S_aload_0 12 dX6_packed_12 ?_
    refine S_getI 13 fsX6_19 rfl dX6_packed_13 ?_
    refine S_icmpge 16 51 dX6_packed_16 (by decide) ?_ ?_
    · skip
      exact S_drop [0, 3] rfl (hj51 _)
    · skip
      refine S_iload_3 19 dX6_packed_19 ?_
      refine S_aload_0 20 dX6_packed_20 ?_
      refine S_getR 21 fsX6_9 rfl dX6_packed_21 (fun w4 => ?_)
      refine S_alen 24 11 0 (by decide) rfl dX6_packed_24 ?_
      refine S_icmpge 25 51 dX6_packed_25 (by decide) ?_ ?_
      · skip
        exact S_drop [0, 3] rfl (hj51 _)
      · skip
        refine S_lload_1 28 dX6_packed_28 ?_
        refine S_ic 29 5 dX6_packed_29 (by decide) ?_
        refine S_lshl 30 dX6_packed_30 ?_
        refine S_aload_0 31 dX6_packed_31 ?_
        refine S_getR 32 fsX6_9 rfl dX6_packed_32 (fun w5 => ?_)
        refine S_iload_3 35 dX6_packed_35 ?_
        refine S_bald 36 dX6_packed_36 ?_
        refine S_bip 37 97 dX6_packed_37 (by decide) ?_
        refine S_isub 39 dX6_packed_39 ?_
        refine S_ic 40 1 dX6_packed_40 (by decide) ?_
        refine S_iadd 41 dX6_packed_41 ?_
        refine S_i2l 42 dX6_packed_42 ?_
        refine S_lor 43 dX6_packed_43 ?_
        refine S_genJ (fun v6 => ?_)
        refine S_lstore_1 44 dX6_packed_44 rfl ?_
        refine S_iinc_3 45 (s7.2 + 1) dX6_packed_45 (by rfl) rfl ?_
        refine S_goto 48 7 dX6_packed_48 (by decide) ?_
        exact S_drop [] rfl (hg7 _ _)
