/-! Methods as functions, 12. -/
set_option linter.unusedVariables false
set_option maxRecDepth 10000
def FJ6_getChars_ba4f3 (E : XG) (p1 : Int32) (p2 : Int32) (p3 : Nat) (h : XH) : XP Int32 := xjn (fun (v1 : Int32) (h2 : XH) => xjn (fun (v3 : Int32) (h4 : XH) => if ((-100) : Int32) < v3 then (xg (xin (-v3) 100) <| xg (xk h4 p3 = 11 ∧ xin (p2 + (-1)) (xn h4 p3)) <| xlt (yi h4 p3 ((p2 + (-1)) : Int32).toNatClampNeg (vp_nar .byte (nI (48 + ((-v3) : Int32).toNatClampNeg % 10)))) fun h5 => if ((-9) : Int32) ≤ v3 then (if (v1 : Int32) = 0 then (xv (p2 + (-1)) h5) else none) else none) else none) fun (j22 : Int32 → XH → XP Int32) => if (v1 : Int32) = 0 then (xlt (-p1) fun v6 => j22 v6 h2) else (j22 p1 h2)) fun (j12 : Int32 → XH → XP Int32) => if (0 : Int32) ≤ p1 then (j12 0 h) else (j12 1 h)
theorem CJ6_getChars_ba4f3 (E : XG) (p1 : Int32) (p2 : Int32) (p3 : Nat) (h : XH) : XN E mJ6_getChars_ba4f3 eI 0 0 [.int p1, .int p2, .ref p3] h (FJ6_getChars_ba4f3 E p1 p2 p3 h) := by
  unfold FJ6_getChars_ba4f3
  refine S_enter (L := [some (.int p1), some (.int p2), some (.ref p3), none, none, none, none]) (by decide +kernel) rfl rfl rfl ?_
  refine S_iload_1 0 dJ6_getChars_ba4f3_0 ?_
  refine S_istore_5 1 dJ6_getChars_ba4f3_1 rfl ?_
  refine S_iload_0 3 dJ6_getChars_ba4f3_3 ?_
  refine S_join (fun jj => ∀ (v1 : Int32) (h2 : XH), XS E mJ6_getChars_ba4f3 eI 0 0 12 [some (.int p1), none, some (.ref p3), none, none, some (.int p2), none] [.int v1] h2 (jj v1 h2)) (fun v1 h2 => ?_) (fun j12 hj12 => ?_)
  · skip
    refine S_istore_6 12 dJ6_getChars_ba4f3_12 rfl ?_
    refine S_iload_6 14 dJ6_getChars_ba4f3_14 ?_
    refine S_join (fun jj => ∀ (v3 : Int32) (h4 : XH), XS E mJ6_getChars_ba4f3 eI 0 0 22 [some (.int v3), none, some (.ref p3), none, none, some (.int p2), some (.int v1)] [] h4 (jj v3 h4)) (fun v3 h4 => ?_) (fun j22 hj22 => ?_)
    · skip
      refine S_iload_0 22 dJ6_getChars_ba4f3_22 ?_
      refine S_bip 23 (-100) dJ6_getChars_ba4f3_23 (by decide) ?_
      refine S_icmpgt 25 72 dJ6_getChars_ba4f3_25 (by decide) ?_ ?_
      · skip
        refine S_aload_2 72 dJ6_getChars_ba4f3_72 ?_
        refine S_iinc_5 73 (p2 + (-1)) dJ6_getChars_ba4f3_73 (by rfl) rfl ?_
        refine S_iload_5 76 dJ6_getChars_ba4f3_76 ?_
        refine S_ones 78 rfl ⟨List.mem_of_getElem? (i := 555) (by decide +kernel), rfl⟩ dJ6_getChars_ba4f3_78 ?_
        refine S_iload_0 81 dJ6_getChars_ba4f3_81 ?_
        refine S_ineg 82 dJ6_getChars_ba4f3_82 ?_
        refine S_oald 83 dJ6_getChars_ba4f3_83 ?_
        refine S_bast 84 dJ6_getChars_ba4f3_84 (fun h5 => ?_)
        refine S_iload_0 85 dJ6_getChars_ba4f3_85 ?_
        refine S_bip 86 (-9) dJ6_getChars_ba4f3_86 (by decide) ?_
        refine S_icmpge 88 104 dJ6_getChars_ba4f3_88 (by decide) ?_ ?_
        · skip
          refine S_iload_6 104 dJ6_getChars_ba4f3_104 ?_
          refine S_ifeq 106 118 dJ6_getChars_ba4f3_106 (by decide) ?_ ?_
          · skip
            refine S_iload_5 118 dJ6_getChars_ba4f3_118 ?_
            exact S_iret 120 dJ6_getChars_ba4f3_120 rfl
          · skip
            exact S_none
        · skip
          exact S_none
      · skip
        exact S_none
    refine S_ifne 16 22 dJ6_getChars_ba4f3_16 (by decide) ?_ ?_
    · skip
      exact S_drop [] rfl (hj22 _ _)
    · skip
      refine S_iload_0 19 dJ6_getChars_ba4f3_19 ?_
      refine S_ineg 20 dJ6_getChars_ba4f3_20 ?_
      refine S_gen (fun v6 => ?_)
      refine S_istore_0 21 dJ6_getChars_ba4f3_21 rfl ?_
      exact S_drop [] rfl (hj22 _ _)
  refine S_ifge 4 11 dJ6_getChars_ba4f3_4 (by decide) ?_ ?_
  · skip
    refine S_ic 11 0 dJ6_getChars_ba4f3_11 (by decide) ?_
    exact S_drop [1] rfl (hj12 _ _)
  · skip
    refine S_ic 7 1 dJ6_getChars_ba4f3_7 (by decide) ?_
    refine S_goto 8 12 dJ6_getChars_ba4f3_8 (by decide) ?_
    exact S_drop [1] rfl (hj12 _ _)
def FJ5_append_c97b9 (E : XG) (t : Nat) (p1 : Int32) (h : XH) : XP Nat := xg (xk h t = 24) <| xlt (xi h t 3) fun v1 => xb (FJ6_stringSize_0f7a4 E p1 h) fun v2 h3 => xlt (v1 + v2) fun v4 => xg (xk h3 t = 24) <| xb (FJ5_ensureCapacityInternal_d00df E t v4 h3) fun _ h5 => xg (xk h5 t = 24) <| xb (FJ5_isLatin1_aae02 E t  h5) fun v6 h7 => if (v6 : Int32) = 0 then (xg (xk h7 t = 24) <| xnn (xr h7 t 0) fun w8 => none) else (xg (xk h7 t = 24) <| xnn (xr h7 t 0) fun w9 => xb (FJ6_getChars_ba4f3 E p1 v4 w9 h7) fun v10 h11 => xg (xk h11 t = 24) <| xlt (yi h11 t 3 v4) fun h12 => xv t h12)
theorem CJ5_append_c97b9 (E : XG) (t : Nat) (p1 : Int32) (h : XH) : XN E mJ5_append_c97b9 eR 1 0 [.ref t, .int p1] h (FJ5_append_c97b9 E t p1 h) := by
  unfold FJ5_append_c97b9
  refine S_enter (L := [some (.ref t), some (.int p1), none, none]) (by decide +kernel) rfl rfl rfl ?_
  refine S_aload_0 0 dJ5_append_c97b9_0 ?_
  refine S_getI 1 fsJ5_79 rfl dJ5_append_c97b9_1 ?_
  refine S_gen (fun v1 => ?_)
  refine S_istore_2 4 dJ5_append_c97b9_4 rfl ?_
  refine S_iload_2 5 dJ5_append_c97b9_5 ?_
  refine S_iload_1 6 dJ5_append_c97b9_6 ?_
  refine S_callS (a' := 0) (b' := 0) (a := 1) (b := 0) 7 (As := [.int p1]) rfl calJ6_stringSize_0f7a4 stJ6_stringSize_0f7a4 mkJ5_245 rfl rfl rfl rfl rfl dJ5_append_c97b9_7 (CJ6_stringSize_0f7a4 E p1 h) (fun v2 h3 => kqI ?_)
  refine S_iadd 10 dJ5_append_c97b9_10 ?_
  refine S_gen (fun v4 => ?_)
  refine S_istore_3 11 dJ5_append_c97b9_11 rfl ?_
  refine S_aload_0 12 dJ5_append_c97b9_12 ?_
  refine S_iload_3 13 dJ5_append_c97b9_13 ?_
  refine S_callU (a' := 1) (b' := 0) (a := 0) (b := 0) 14 (As := [.int v4]) rfl calJ5_ensureCapacityInternal_d00df calJ5_ensureCapacityInternal_d00df imJ5_ensureCapacityInternal_d00df imJ5_ensureCapacityInternal_d00df smJ5_ensureCapacityInternal_d00df (fun U q => q.2.2.1.2.2.2.2.2.2 _ (List.mem_of_getElem? (i := 0) rfl)) mkJ5_100 rfl rfl rfl rfl rfl dJ5_append_c97b9_14 (CJ5_ensureCapacityInternal_d00df E t v4 h3) (fun _ h5 => kqU ?_)
  refine S_aload_0 17 dJ5_append_c97b9_17 ?_
  refine S_callU (a' := 0) (b' := 0) (a := 0) (b := 0) 18 (As := []) rfl calJ5_isLatin1_aae02 calJ5_isLatin1_aae02 imJ5_isLatin1_aae02 imJ5_isLatin1_aae02 smJ5_isLatin1_aae02 (fun U q => q.word ssJ5_isLatin1_aae02 #[]) mkJ5_83 rfl rfl rfl rfl rfl dJ5_append_c97b9_18 (CJ5_isLatin1_aae02 E t  h5) (fun v6 h7 => kqI ?_)
  refine S_ifeq 21 37 dJ5_append_c97b9_21 (by decide) ?_ ?_
  · skip
    refine S_iload_1 37 dJ5_append_c97b9_37 ?_
    refine S_iload_2 38 dJ5_append_c97b9_38 ?_
    refine S_iload_3 39 dJ5_append_c97b9_39 ?_
    refine S_aload_0 40 dJ5_append_c97b9_40 ?_
    refine S_getR 41 fsJ5_15 rfl dJ5_append_c97b9_41 (fun w8 => ?_)
    exact S_none
  · skip
    refine S_iload_1 24 dJ5_append_c97b9_24 ?_
    refine S_iload_3 25 dJ5_append_c97b9_25 ?_
    refine S_aload_0 26 dJ5_append_c97b9_26 ?_
    refine S_getR 27 fsJ5_15 rfl dJ5_append_c97b9_27 (fun w9 => ?_)
    refine S_callS (a' := 0) (b' := 0) (a := 0) (b := 0) 30 (As := [.int p1, .int v4, .ref w9]) rfl calJ6_getChars_ba4f3 stJ6_getChars_ba4f3 mkJ5_248 rfl rfl rfl rfl rfl dJ5_append_c97b9_30 (CJ6_getChars_ba4f3 E p1 v4 w9 h7) (fun v10 h11 => kqI ?_)
    refine S_pop 33 dJ5_append_c97b9_33 rfl ?_
    refine S_goto 34 48 dJ5_append_c97b9_34 (by decide) ?_
    refine S_aload_0 48 dJ5_append_c97b9_48 ?_
    refine S_iload_3 49 dJ5_append_c97b9_49 ?_
    refine S_putI 50 frJ5_79 rfl (fun q => by cases q) dJ5_append_c97b9_50 (fun h12 => ?_)
    refine S_aload_0 53 dJ5_append_c97b9_53 ?_
    exact S_aret 54 dJ5_append_c97b9_54 rfl
def FJ4_append_bf812 (E : XG) (t : Nat) (p1 : Int32) (h : XH) : XP Nat := xg (xk h t = 24) <| xb (FJ5_append_c97b9 E t p1 h) fun v1 h2 => xv t h2
theorem CJ4_append_bf812 (E : XG) (t : Nat) (p1 : Int32) (h : XH) : XN E mJ4_append_bf812 eR 1 0 [.ref t, .int p1] h (FJ4_append_bf812 E t p1 h) := by
  unfold FJ4_append_bf812
  refine S_enter (L := [some (.ref t), some (.int p1)]) (by decide +kernel) rfl rfl rfl ?_
  refine S_aload_0 0 dJ4_append_bf812_0 ?_
  refine S_iload_1 1 dJ4_append_bf812_1 ?_
  refine S_callSU (a' := 1) (b' := 0) (a := 0) (b := 0) 2 (As := [.int p1]) rfl calJ5_append_c97b9 (by decide) imJ5_append_c97b9 smJ5_append_c97b9 supSB mkJ4_53 rfl rfl rfl rfl rfl dJ4_append_bf812_2 (CJ5_append_c97b9 E t p1 h) (fun v1 h2 => kqR ?_)
  refine S_pop 5 dJ4_append_bf812_5 rfl ?_
  refine S_aload_0 6 dJ4_append_bf812_6 ?_
  exact S_aret 7 dJ4_append_bf812_7 rfl
def FL_cyclic (E : XG) (p1 : Int32) (h : XH) : XP Nat := xg (((0 : Int32) ≤ p1 ∧ (0 : Int32) ≤ p1) ∧ (p1 : Int32).toNatClampNeg ≤ 1000 ∧ (p1 : Int32).toNatClampNeg ≤ 1000) <| xmg h (p1 : Int32).toNatClampNeg (p1 : Int32).toNatClampNeg fun w1 h2 => xlp (fun again9 (s9 : Int32) h3 => if (p1 : Int32) ≤ s9 then (xv w1 h3) else (xlp (fun again16 (s16 : Int32) h4 => if (p1 : Int32) ≤ s16 then (again9 (s9 + 1) h4) else (xg (xk h4 w1 = 18 ∧ xin s9 (xn h4 w1)) <| xnn (xr h4 w1 (s9 : Int32).toNatClampNeg) fun w5 => xg ((p1 : Int32) ≠ 0) <| xg (xk h4 w5 = 12 ∧ xin s16 (xn h4 w5)) <| xlt (yi h4 w5 (s16 : Int32).toNatClampNeg (xrem (s9 + s16) p1)) fun h6 => again16 (s16 + 1) h6)) xfu 0 h3)) xfu 0 h2
theorem CL_cyclic (E : XG) (p1 : Int32) (h : XH) : XN E mL_cyclic eR 0 0 [.int p1] h (FL_cyclic E p1 h) := by
  unfold FL_cyclic
  refine S_enter (L := [some (.int p1), none, none, none]) (by decide +kernel) rfl rfl rfl ?_
  refine S_iload_0 0 dL_cyclic_0 ?_
  refine S_iload_0 1 dL_cyclic_1 ?_
  refine S_multiF 2 rfl cbL_152 ai12 dL_cyclic_2 (fun w1 h2 => ?_)
  refine S_astore_1 6 dL_cyclic_6 rfl ?_
  refine S_ic 7 0 dL_cyclic_7 (by decide) ?_
  refine S_istore_2 8 dL_cyclic_8 rfl ?_
  refine S_loop (fun (s9 : Int32) => [some (.int p1), some (.ref w1), some (.int s9), none]) (fun again9 hg9 s9 h3 => ?_) xfu _ _
  refine S_iload_2 9 dL_cyclic_9 ?_
  refine S_iload_0 10 dL_cyclic_10 ?_
  refine S_icmpge 11 43 dL_cyclic_11 (by decide) ?_ ?_
  · skip
    refine S_aload_1 43 dL_cyclic_43 ?_
    exact S_areta 44 dL_cyclic_44 rfl
  · skip
    refine S_ic 14 0 dL_cyclic_14 (by decide) ?_
    refine S_istore_3 15 dL_cyclic_15 rfl ?_
    refine S_loop (fun (s16 : Int32) => [some (.int p1), some (.ref w1), some (.int s9), some (.int s16)]) (fun again16 hg16 s16 h4 => ?_) xfu _ _
    refine S_iload_3 16 dL_cyclic_16 ?_
    refine S_iload_0 17 dL_cyclic_17 ?_
    refine S_icmpge 18 37 dL_cyclic_18 (by decide) ?_ ?_
    · skip
      refine S_iinc_2 37 (s9 + 1) dL_cyclic_37 (by rfl) rfl ?_
      refine S_goto 40 9 dL_cyclic_40 (by decide) ?_
      exact S_drop [3] rfl (hg9 _ _)
    · skip
      refine S_aload_1 21 dL_cyclic_21 ?_
      refine S_iload_2 22 dL_cyclic_22 ?_
      refine S_aald 23 18 7 (by decide) rfl rfl dL_cyclic_23 (fun w5 => ?_)
      refine S_iload_3 24 dL_cyclic_24 ?_
      refine S_iload_2 25 dL_cyclic_25 ?_
      refine S_iload_3 26 dL_cyclic_26 ?_
      refine S_iadd 27 dL_cyclic_27 ?_
      refine S_iload_0 28 dL_cyclic_28 ?_
      refine S_irem 29 dL_cyclic_29 ?_
      refine S_iast 30 dL_cyclic_30 (fun h6 => ?_)
      refine S_iinc_3 31 (s16 + 1) dL_cyclic_31 (by rfl) rfl ?_
      refine S_goto 34 16 dL_cyclic_34 (by decide) ?_
      exact S_drop [] rfl (hg16 _ _)
def FX12_group (E : XG) (t : Nat) (p1 : Nat) (h : XH) : XP Unit := xg (xk h p1 = 21) <| xb (FX10_next E p1 0 4 h) fun v1 h2 => xg (xk h2 p1 = 21) <| xb (FX10_next E p1 1 6 h2) fun v3 h4 => xg (xk h4 t = 23) <| xnn (xr h4 t 0) fun w5 => xg (xk h4 w5 = 24) <| xb (FJ4_append_15ec4 E w5 15 h4) fun v6 h7 => xg (xk h7 t = 23) <| xg (xk h7 v6 = 24) <| xb (FJ4_append_cf468 E v6 ((Int32.toUInt32 (97 + (xi h7 t 5))) % 65536).toInt32 h7) fun v8 h9 => xjn (fun  (h10 : XH) => xg (xk h10 t = 23) <| xg (xk h10 t = 23) <| xlt (yi h10 t 5 ((xi h10 t 5) + 1)) fun h11 => xv () h11) fun (j189 : XH → XP Unit) => if (v1 : Int32) = 3 then (xg (xk h9 t = 23) <| xnn (xr h9 t 0) fun w43 => xg (xk h9 w43 = 24) <| xb (FJ4_append_15ec4 E w43 16 h9) fun v44 h45 => xg (xk h45 t = 23) <| xnn (xr h45 t 1) fun w46 => xg (xk h45 t = 23) <| xb (FL_dihedral E 3 h45) fun v47 h48 => xg (xk h48 w46 = 19 ∧ xk h48 v47 = 18 ∧ xin (xi h45 t 5) (xn h48 w46)) <| xlt (yr h48 w46 ((xi h45 t 5) : Int32).toNatClampNeg (some v47)) fun h49 => j189 h49) else (xjn (fun  (h12 : XH) => xjn (fun  (h13 : XH) => xg (xk h13 t = 23) <| xnn (xr h13 t 0) fun w14 => xg (xk h13 w14 = 24) <| xb (FJ4_append_15ec4 E w14 19 h13) fun v15 h16 => xg (xk h16 v15 = 24) <| xb (FJ4_append_bf812 E v15 v3 h16) fun v17 h18 => xg (xk h18 t = 23) <| xnn (xr h18 t 1) fun w19 => xg (xk h18 t = 23) <| xb (FL_cyclic E v3 h18) fun v20 h21 => xg (xk h21 w19 = 19 ∧ xk h21 v20 = 18 ∧ xin (xi h18 t 5) (xn h21 w19)) <| xlt (yr h21 w19 ((xi h18 t 5) : Int32).toNatClampNeg (some v20)) fun h22 => j189 h22) fun (j162 : XH → XP Unit) => if (v1 : Int32) = 2 then (if (v3 : Int32) = 1 then (xg (xk h12 t = 23) <| xnn (xr h12 t 0) fun w23 => xg (xk h12 w23 = 24) <| xb (FJ4_append_15ec4 E w23 18 h12) fun v24 h25 => xg (xk h25 t = 23) <| xnn (xr h25 t 1) fun w26 => xg (xk h25 t = 23) <| xb (FL_quaternion E  h25) fun v27 h28 => xg (xk h28 w26 = 19 ∧ xk h28 v27 = 18 ∧ xin (xi h25 t 5) (xn h28 w26)) <| xlt (yr h28 w26 ((xi h25 t 5) : Int32).toNatClampNeg (some v27)) fun h29 => j189 h29) else (j162 h12)) else (j162 h12)) fun (j127 : XH → XP Unit) => if (v1 : Int32) = 4 then (xg (xk h9 t = 23) <| if ((xi h9 t 5) : Int32) ≤ 0 then (j127 h9) else (xg (xk h9 t = 23) <| xnn (xr h9 t 1) fun w30 => xg (xk h9 w30 = 19 ∧ xin 0 (xn h9 w30)) <| xnn (xr h9 w30 (0 : Int32).toNatClampNeg) fun w31 => xg (xk h9 w31 = 18) <| if (3 : Int32) ≤ (Int32.ofNat (xn h9 w31)) then (j127 h9) else (xg (xk h9 t = 23) <| xnn (xr h9 t 0) fun w32 => xg (xk h9 w32 = 24) <| xb (FJ4_append_15ec4 E w32 17 h9) fun v33 h34 => xg (xk h34 t = 23) <| xnn (xr h34 t 1) fun w35 => xg (xk h34 t = 23) <| xg (xk h34 t = 23) <| xnn (xr h34 t 1) fun w36 => xg (xk h34 w36 = 19 ∧ xin 0 (xn h34 w36)) <| xnn (xr h34 w36 (0 : Int32).toNatClampNeg) fun w37 => xg (xk h34 t = 23) <| xnn (xr h34 t 1) fun w38 => xg (xk h34 w38 = 19 ∧ xin 0 (xn h34 w38)) <| xnn (xr h34 w38 (0 : Int32).toNatClampNeg) fun w39 => xb (FL_product E w37 w39 h34) fun v40 h41 => xg (xk h41 w35 = 19 ∧ xk h41 v40 = 18 ∧ xin (xi h34 t 5) (xn h41 w35)) <| xlt (yr h41 w35 ((xi h34 t 5) : Int32).toNatClampNeg (some v40)) fun h42 => j189 h42))) else (j127 h9))
theorem CX12_group (E : XG) (t : Nat) (p1 : Nat) (h : XH) : XN E mX12_group eU 8 4 [.ref t, .ref p1] h (FX12_group E t p1 h) := by
  unfold FX12_group
  refine S_enter (L := [some (.ref t), some (.ref p1), none, none]) (by decide +kernel) rfl rfl rfl ?_
  refine S_aload_1 0 dX12_group_0 ?_
  refine S_ic 1 0 dX12_group_1 (by decide) ?_
  refine S_ic 2 4 dX12_group_2 (by decide) ?_
  refine S_callV (a' := 0) (b' := 0) (a := 8) (b := 4) 3 (As := [.int 0, .int 4]) (ci := 20) rfl calX10_next imX10_next seX10_next mkX12_42 rfl rfl rfl rfl rfl (by decide) rfl rfl dX12_group_3 (CX10_next E p1 0 4 h) (fun v1 h2 => kqI ?_)
  refine S_istore_2 6 dX12_group_6 rfl ?_
  refine S_aload_1 7 dX12_group_7 ?_
  refine S_ic 8 1 dX12_group_8 (by decide) ?_
  refine S_bip 9 6 dX12_group_9 (by decide) ?_
  refine S_callV (a' := 0) (b' := 0) (a := 8) (b := 4) 11 (As := [.int 1, .int 6]) (ci := 20) rfl calX10_next imX10_next seX10_next mkX12_42 rfl rfl rfl rfl rfl (by decide) rfl rfl dX12_group_11 (CX10_next E p1 1 6 h2) (fun v3 h4 => kqI ?_)
  refine S_istore_3 14 dX12_group_14 rfl ?_
  refine S_aload_0 15 dX12_group_15 ?_
  refine S_getR 16 fsX12_14 rfl dX12_group_16 (fun w5 => ?_)
  refine S_ldcS 19 15 (by decide) rfl rfl dX12_group_19 ?_
  refine S_callV (a' := 1) (b' := 0) (a := 7) (b := 4) 21 (As := [.ref (eK E 15)]) (ci := 23) rfl calJ4_append_15ec4 imJ4_append_15ec4 seJ4_append_15ec4 mkX12_60 rfl rfl rfl rfl rfl (by decide) rfl rfl dX12_group_21 (CJ4_append_15ec4 E w5 15 h4) (fun v6 h7 => kqR ?_)
  refine S_bip 24 97 dX12_group_24 (by decide) ?_
  refine S_aload_0 26 dX12_group_26 ?_
  refine S_getI 27 fsX12_64 rfl dX12_group_27 ?_
  refine S_iadd 30 dX12_group_30 ?_
  refine S_i2c 31 dX12_group_31 ?_
  refine S_callV (a' := 1) (b' := 0) (a := 6) (b := 4) 32 (As := [.int ((Int32.toUInt32 (97 + (xi h7 t 5))) % 65536).toInt32]) (ci := 23) rfl calJ4_append_cf468 imJ4_append_cf468 seJ4_append_cf468 mkX12_68 rfl rfl rfl rfl rfl (by decide) rfl rfl dX12_group_32 (CJ4_append_cf468 E v6 ((Int32.toUInt32 (97 + (xi h7 t 5))) % 65536).toInt32 h7) (fun v8 h9 => kqR ?_)
  refine S_pop 35 dX12_group_35 rfl ?_
  refine S_iload_2 36 dX12_group_36 ?_
  refine S_ic 37 3 dX12_group_37 (by decide) ?_
  refine S_join (fun jj => ∀  (h10 : XH), XS E mX12_group eU 6 4 189 [some (.ref t), none, none, none] [] h10 (jj  h10)) (fun  h10 => ?_) (fun j189 hj189 => ?_)
  · skip
    refine S_aload_0 189 dX12_group_189 ?_
    refine S_dup 190 dX12_group_190 rfl ?_
    refine S_getI 191 fsX12_64 rfl dX12_group_191 ?_
    refine S_ic 194 1 dX12_group_194 (by decide) ?_
    refine S_iadd 195 dX12_group_195 ?_
    refine S_putI 196 frX12_64 rfl (fun q => by cases q) dX12_group_196 (fun h11 => ?_)
    exact S_ret 199 dX12_group_199 rfl
  refine S_icmpne 38 67 dX12_group_38 (by decide) ?_ ?_
  · skip
    refine S_iload_2 67 dX12_group_67 ?_
    refine S_ic 68 4 dX12_group_68 (by decide) ?_
    refine S_join (fun jj => ∀  (h12 : XH), XS E mX12_group eU 6 4 127 [some (.ref t), none, some (.int v1), some (.int v3)] [] h12 (jj  h12)) (fun  h12 => ?_) (fun j127 hj127 => ?_)
    · skip
      refine S_iload_2 127 dX12_group_127 ?_
      refine S_ic 128 2 dX12_group_128 (by decide) ?_
      refine S_join (fun jj => ∀  (h13 : XH), XS E mX12_group eU 6 4 162 [some (.ref t), none, none, some (.int v3)] [] h13 (jj  h13)) (fun  h13 => ?_) (fun j162 hj162 => ?_)
      · skip
        refine S_aload_0 162 dX12_group_162 ?_
        refine S_getR 163 fsX12_14 rfl dX12_group_163 (fun w14 => ?_)
        refine S_ldcS 166 19 (by decide) rfl rfl dX12_group_166 ?_
        refine S_callV (a' := 1) (b' := 0) (a := 5) (b := 4) 168 (As := [.ref (eK E 19)]) (ci := 23) rfl calJ4_append_15ec4 imJ4_append_15ec4 seJ4_append_15ec4 mkX12_60 rfl rfl rfl rfl rfl (by decide) rfl rfl dX12_group_168 (CJ4_append_15ec4 E w14 19 h13) (fun v15 h16 => kqR ?_)
        refine S_iload_3 171 dX12_group_171 ?_
        refine S_callV (a' := 1) (b' := 0) (a := 4) (b := 4) 172 (As := [.int v3]) (ci := 23) rfl calJ4_append_bf812 imJ4_append_bf812 seJ4_append_bf812 mkX12_93 rfl rfl rfl rfl rfl (by decide) rfl rfl dX12_group_172 (CJ4_append_bf812 E v15 v3 h16) (fun v17 h18 => kqR ?_)
        refine S_pop 175 dX12_group_175 rfl ?_
        refine S_aload_0 176 dX12_group_176 ?_
        refine S_getR 177 fsX12_22 rfl dX12_group_177 (fun w19 => ?_)
        refine S_aload_0 180 dX12_group_180 ?_
        refine S_getI 181 fsX12_64 rfl dX12_group_181 ?_
        refine S_iload_3 184 dX12_group_184 ?_
        refine S_callSN (a' := 0) (b' := 0) (a := 4) (b := 4) 185 (As := [.int v3]) rfl calL_cyclic stL_cyclic (List.mem_of_getElem? (i := 25) rfl) rfl rfl rfl rfl rfl dX12_group_185 (CL_cyclic E v3 h18) (fun v20 h21 => kqR ?_)
        refine S_aastA19 188 dX12_group_188 (fun h22 => ?_)
        exact S_drop [3] rfl (hj189 _)
      refine S_icmpne 129 162 dX12_group_129 (by decide) ?_ ?_
      · skip
        exact S_drop [2] rfl (hj162 _)
      · skip
        refine S_iload_3 132 dX12_group_132 ?_
        refine S_ic 133 1 dX12_group_133 (by decide) ?_
        refine S_icmpne 134 162 dX12_group_134 (by decide) ?_ ?_
        · skip
          exact S_drop [2] rfl (hj162 _)
        · skip
          refine S_aload_0 137 dX12_group_137 ?_
          refine S_getR 138 fsX12_14 rfl dX12_group_138 (fun w23 => ?_)
          refine S_ldcS 141 18 (by decide) rfl rfl dX12_group_141 ?_
          refine S_callV (a' := 1) (b' := 0) (a := 5) (b := 4) 143 (As := [.ref (eK E 18)]) (ci := 23) rfl calJ4_append_15ec4 imJ4_append_15ec4 seJ4_append_15ec4 mkX12_60 rfl rfl rfl rfl rfl (by decide) rfl rfl dX12_group_143 (CJ4_append_15ec4 E w23 18 h12) (fun v24 h25 => kqR ?_)
          refine S_pop 146 dX12_group_146 rfl ?_
          refine S_aload_0 147 dX12_group_147 ?_
          refine S_getR 148 fsX12_22 rfl dX12_group_148 (fun w26 => ?_)
          refine S_aload_0 151 dX12_group_151 ?_
          refine S_getI 152 fsX12_64 rfl dX12_group_152 ?_
          refine S_callSN (a' := 5) (b' := 4) (a := 0) (b := 0) 155 (As := []) rfl calL_quaternion stL_quaternion (List.mem_of_getElem? (i := 24) rfl) rfl rfl rfl rfl rfl dX12_group_155 (CL_quaternion E  h25) (fun v27 h28 => kqR ?_)
          refine S_aastA19 158 dX12_group_158 (fun h29 => ?_)
          refine S_goto 159 189 dX12_group_159 (by decide) ?_
          exact S_drop [2, 3] rfl (hj189 _)
    refine S_icmpne 69 127 dX12_group_69 (by decide) ?_ ?_
    · skip
      exact S_drop [1] rfl (hj127 _)
    · skip
      refine S_aload_0 72 dX12_group_72 ?_
      refine S_getI 73 fsX12_64 rfl dX12_group_73 ?_
      refine S_ifle 76 127 dX12_group_76 (by decide) ?_ ?_
      · skip
        exact S_drop [1] rfl (hj127 _)
      · skip
        refine S_aload_0 79 dX12_group_79 ?_
        refine S_getR 80 fsX12_22 rfl dX12_group_80 (fun w30 => ?_)
        refine S_ic 83 0 dX12_group_83 (by decide) ?_
        refine S_aald 84 19 8 (by decide) rfl rfl dX12_group_84 (fun w31 => ?_)
        refine S_alen 85 18 7 (by decide) rfl dX12_group_85 ?_
        refine S_ic 86 3 dX12_group_86 (by decide) ?_
        refine S_icmpge 87 127 dX12_group_87 (by decide) ?_ ?_
        · skip
          exact S_drop [1] rfl (hj127 _)
        · skip
          refine S_aload_0 90 dX12_group_90 ?_
          refine S_getR 91 fsX12_14 rfl dX12_group_91 (fun w32 => ?_)
          refine S_ldcS 94 17 (by decide) rfl rfl dX12_group_94 ?_
          refine S_callV (a' := 1) (b' := 0) (a := 5) (b := 4) 96 (As := [.ref (eK E 17)]) (ci := 23) rfl calJ4_append_15ec4 imJ4_append_15ec4 seJ4_append_15ec4 mkX12_60 rfl rfl rfl rfl rfl (by decide) rfl rfl dX12_group_96 (CJ4_append_15ec4 E w32 17 h9) (fun v33 h34 => kqR ?_)
          refine S_pop 99 dX12_group_99 rfl ?_
          refine S_aload_0 100 dX12_group_100 ?_
          refine S_getR 101 fsX12_22 rfl dX12_group_101 (fun w35 => ?_)
          refine S_aload_0 104 dX12_group_104 ?_
          refine S_getI 105 fsX12_64 rfl dX12_group_105 ?_
          refine S_aload_0 108 dX12_group_108 ?_
          refine S_getR 109 fsX12_22 rfl dX12_group_109 (fun w36 => ?_)
          refine S_ic 112 0 dX12_group_112 (by decide) ?_
          refine S_aald 113 19 8 (by decide) rfl rfl dX12_group_113 (fun w37 => ?_)
          refine S_aload_0 114 dX12_group_114 ?_
          refine S_getR 115 fsX12_22 rfl dX12_group_115 (fun w38 => ?_)
          refine S_ic 118 0 dX12_group_118 (by decide) ?_
          refine S_aald 119 19 8 (by decide) rfl rfl dX12_group_119 (fun w39 => ?_)
          refine S_callSN (a' := 0) (b' := 0) (a := 5) (b := 4) 120 (As := [.ref w37, .ref w39]) rfl calL_product stL_product (List.mem_of_getElem? (i := 23) rfl) rfl rfl rfl rfl rfl dX12_group_120 (CL_product E w37 w39 h34) (fun v40 h41 => kqR ?_)
          refine S_aastA19 123 dX12_group_123 (fun h42 => ?_)
          refine S_goto 124 189 dX12_group_124 (by decide) ?_
          exact S_drop [1, 2, 3] rfl (hj189 _)
  · skip
    refine S_aload_0 41 dX12_group_41 ?_
    refine S_getR 42 fsX12_14 rfl dX12_group_42 (fun w43 => ?_)
    refine S_ldcS 45 16 (by decide) rfl rfl dX12_group_45 ?_
    refine S_callV (a' := 1) (b' := 0) (a := 5) (b := 4) 47 (As := [.ref (eK E 16)]) (ci := 23) rfl calJ4_append_15ec4 imJ4_append_15ec4 seJ4_append_15ec4 mkX12_60 rfl rfl rfl rfl rfl (by decide) rfl rfl dX12_group_47 (CJ4_append_15ec4 E w43 16 h9) (fun v44 h45 => kqR ?_)
    refine S_pop 50 dX12_group_50 rfl ?_
    refine S_aload_0 51 dX12_group_51 ?_
    refine S_getR 52 fsX12_22 rfl dX12_group_52 (fun w46 => ?_)
    refine S_aload_0 55 dX12_group_55 ?_
    refine S_getI 56 fsX12_64 rfl dX12_group_56 ?_
    refine S_ic 59 3 dX12_group_59 (by decide) ?_
    refine S_callSN (a' := 0) (b' := 0) (a := 5) (b := 4) 60 (As := [.int 3]) rfl calL_dihedral stL_dihedral (List.mem_of_getElem? (i := 22) rfl) rfl rfl rfl rfl rfl dX12_group_60 (CL_dihedral E 3 h45) (fun v47 h48 => kqR ?_)
    refine S_aastA19 63 dX12_group_63 (fun h49 => ?_)
    refine S_goto 64 189 dX12_group_64 (by decide) ?_
    exact S_drop [1, 2, 3] rfl (hj189 _)
def FJ5_length_8abf5 (E : XG) (t : Nat) (h : XH) : XP Int32 := xg (xk h t = 24) <| xv (xi h t 3) h
theorem CJ5_length_8abf5 (E : XG) (t : Nat) (h : XH) : XN E mJ5_length_8abf5 eI 0 0 [.ref t] h (FJ5_length_8abf5 E t h) := by
  unfold FJ5_length_8abf5
  refine S_enter (L := [some (.ref t)]) (by decide +kernel) rfl rfl rfl ?_
  refine S_aload_0 0 dJ5_length_8abf5_0 ?_
  refine S_getI 1 fsJ5_79 rfl dJ5_length_8abf5_1 ?_
  exact S_iret 4 dJ5_length_8abf5_4 rfl
def FJ4_length_8abf5 (E : XG) (t : Nat) (h : XH) : XP Int32 := xg (xk h t = 24) <| xb (FJ5_length_8abf5 E t  h) fun v1 h2 => xv v1 h2
theorem CJ4_length_8abf5 (E : XG) (t : Nat) (h : XH) : XN E mJ4_length_8abf5 eI 0 0 [.ref t] h (FJ4_length_8abf5 E t h) := by
  unfold FJ4_length_8abf5
  refine S_enter (L := [some (.ref t)]) (by decide +kernel) rfl rfl rfl ?_
  refine S_aload_0 0 dJ4_length_8abf5_0 ?_
  refine S_callSU (a' := 0) (b' := 0) (a := 0) (b := 0) 1 (As := []) rfl calJ5_length_8abf5 (by decide) imJ5_length_8abf5 smJ5_length_8abf5 supSB mkJ4_343 rfl rfl rfl rfl rfl dJ4_length_8abf5_1 (CJ5_length_8abf5 E t  h) (fun v1 h2 => kqI ?_)
  exact S_iret 4 dJ4_length_8abf5_4 rfl
def FL_isAbelian (E : XG) (p1 : Nat) (h : XH) : XP Int32 := xlp (fun again4 (s4 : Int32 × Int32) h1 => xg (xk h1 p1 = 18) <| if ((Int32.ofNat (xn h1 p1)) : Int32) ≤ s4.2 then (xg ((s4.1 : Int32) = 0 ∨ (s4.1 : Int32) = 1) <| xv s4.1 h1) else (xlp (fun again12 (s12 : Int32 × Int32) h2 => if (s4.2 : Int32) ≤ s12.2 then (again4 (s12.1, (s4.2 + 1)) h2) else (xg (xk h2 p1 = 18 ∧ xin s4.2 (xn h2 p1)) <| xnn (xr h2 p1 (s4.2 : Int32).toNatClampNeg) fun w3 => xg (xk h2 w3 = 12 ∧ xin s12.2 (xn h2 w3)) <| xg (xk h2 p1 = 18 ∧ xin s12.2 (xn h2 p1)) <| xnn (xr h2 p1 (s12.2 : Int32).toNatClampNeg) fun w4 => xg (xk h2 w4 = 12 ∧ xin s4.2 (xn h2 w4)) <| xjn (fun (v5 : Int32) (h6 : XH) => xlt (s12.1 &&& v5) fun v7 => again12 (v7, (s12.2 + 1)) h6) fun (j36 : Int32 → XH → XP Int32) => if ((xi h2 w3 (s12.2 : Int32).toNatClampNeg) : Int32) = (xi h2 w4 (s4.2 : Int32).toNatClampNeg) then (j36 1 h2) else (j36 0 h2))) xfu (s4.1, 0) h1)) xfu (1, 0) h
theorem CL_isAbelian (E : XG) (p1 : Nat) (h : XH) : XN E mL_isAbelian eI 0 0 [.ref p1] h (FL_isAbelian E p1 h) := by
  unfold FL_isAbelian
  refine S_enter (L := [some (.ref p1), none, none, none]) (by decide +kernel) rfl rfl rfl ?_
  refine S_ic 0 1 dL_isAbelian_0 (by decide) ?_
  refine S_istore_1 1 dL_isAbelian_1 rfl ?_
  refine S_ic 2 0 dL_isAbelian_2 (by decide) ?_
  refine S_istore_2 3 dL_isAbelian_3 rfl ?_
  refine S_loop (fun (s4 : Int32 × Int32) => [some (.ref p1), some (.int s4.1), some (.int s4.2), none]) (fun again4 hg4 s4 h1 => ?_) xfu _ _
  refine S_iload_2 4 dL_isAbelian_4 ?_
  refine S_aload_0 5 dL_isAbelian_5 ?_
  refine S_alen 6 18 7 (by decide) rfl dL_isAbelian_6 ?_
  refine S_icmpge 7 50 dL_isAbelian_7 (by decide) ?_ ?_
  · skip
    refine S_iload_1 50 dL_isAbelian_50 ?_
    exact S_zret 51 dL_isAbelian_51 rfl
  · skip
    refine S_ic 10 0 dL_isAbelian_10 (by decide) ?_
    refine S_istore_3 11 dL_isAbelian_11 rfl ?_
    refine S_loop (fun (s12 : Int32 × Int32) => [some (.ref p1), some (.int s12.1), some (.int s4.2), some (.int s12.2)]) (fun again12 hg12 s12 h2 => ?_) xfu _ _
    refine S_iload_3 12 dL_isAbelian_12 ?_
    refine S_iload_2 13 dL_isAbelian_13 ?_
    refine S_icmpge 14 44 dL_isAbelian_14 (by decide) ?_ ?_
    · skip
      refine S_iinc_2 44 (s4.2 + 1) dL_isAbelian_44 (by rfl) rfl ?_
      refine S_goto 47 4 dL_isAbelian_47 (by decide) ?_
      exact S_drop [3] rfl (hg4 _ _)
    · skip
      refine S_iload_1 17 dL_isAbelian_17 ?_
      refine S_aload_0 18 dL_isAbelian_18 ?_
      refine S_iload_2 19 dL_isAbelian_19 ?_
      refine S_aald 20 18 7 (by decide) rfl rfl dL_isAbelian_20 (fun w3 => ?_)
      refine S_iload_3 21 dL_isAbelian_21 ?_
      refine S_iald 22 dL_isAbelian_22 ?_
      refine S_aload_0 23 dL_isAbelian_23 ?_
      refine S_iload_3 24 dL_isAbelian_24 ?_
      refine S_aald 25 18 7 (by decide) rfl rfl dL_isAbelian_25 (fun w4 => ?_)
      refine S_iload_2 26 dL_isAbelian_26 ?_
      refine S_iald 27 dL_isAbelian_27 ?_
      refine S_join (fun jj => ∀ (v5 : Int32) (h6 : XH), XS E mL_isAbelian eI 0 0 36 [some (.ref p1), none, some (.int s4.2), some (.int s12.2)] [.int v5, .int s12.1] h6 (jj v5 h6)) (fun v5 h6 => ?_) (fun j36 hj36 => ?_)
      · skip
        refine S_iand 36 dL_isAbelian_36 ?_
        refine S_gen (fun v7 => ?_)
        refine S_istore_1 37 dL_isAbelian_37 rfl ?_
        refine S_iinc_3 38 (s12.2 + 1) dL_isAbelian_38 (by rfl) rfl ?_
        refine S_goto 41 12 dL_isAbelian_41 (by decide) ?_
        exact S_drop [] rfl (hg12 _ _)
      refine S_icmpne 28 35 dL_isAbelian_28 (by decide) ?_ ?_
      · skip
        refine S_ic 35 0 dL_isAbelian_35 (by decide) ?_
        exact S_drop [1] rfl (hj36 _ _)
      · skip
        refine S_ic 31 1 dL_isAbelian_31 (by decide) ?_
        refine S_goto 32 36 dL_isAbelian_32 (by decide) ?_
        exact S_drop [1] rfl (hj36 _ _)
def FX12_module (E : XG) (t : Nat) (p1 : Nat) (h : XH) : XP Unit := xg (xk h t = 23) <| xg (xk h p1 = 21) <| xb (FX10_next E p1 0 ((xi h t 5) - 1) h) fun v1 h2 => xg (xk h2 p1 = 21) <| xb (FX10_next E p1 0 2 h2) fun v3 h4 => xjn (fun (v5 : Int32) (h6 : XH) => xal h6 22 0 fun w7 h8 => xg (xk h8 t = 23) <| xnn (xr h8 t 1) fun w9 => xg (xk h8 w9 = 19 ∧ xin v1 (xn h8 w9)) <| xnn (xr h8 w9 (v1 : Int32).toNatClampNeg) fun w10 => xg (xk h8 t = 23) <| xnn (xr h8 t 1) fun w11 => xg (xk h8 w11 = 19 ∧ xin v5 (xn h8 w11)) <| xnn (xr h8 w11 (v5 : Int32).toNatClampNeg) fun w12 => xb (FX11_init E w7 v1 v5 w10 w12 h8) fun _ h13 => xjn (fun (v14 : Int32) (h15 : XH) => xg (xk h15 t = 23) <| xnn (xr h15 t 0) fun w16 => xg (xk h15 w16 = 24) <| xb (FJ4_append_15ec4 E w16 20 h15) fun v17 h18 => xg (xk h18 t = 23) <| xg (xk h18 v17 = 24) <| xb (FJ4_append_cf468 E v17 ((Int32.toUInt32 (97 + (xi h18 t 6))) % 65536).toInt32 h18) fun v19 h20 => xg (xk h20 v19 = 24) <| xb (FJ4_append_15ec4 E v19 21 h20) fun v21 h22 => xg (xk h22 v21 = 24) <| xb (FJ4_append_cf468 E v21 ((Int32.toUInt32 (97 + v1)) % 65536).toInt32 h22) fun v23 h24 => xg (xk h24 v23 = 24) <| xb (FJ4_append_15ec4 E v23 21 h24) fun v25 h26 => xg (xk h26 v25 = 24) <| xb (FJ4_append_cf468 E v25 ((Int32.toUInt32 (97 + v5)) % 65536).toInt32 h26) fun v27 h28 => xlp (fun again131 (s131 : Int32) h29 => xg (xk h29 w7 = 22) <| xnn (xr h29 w7 5) fun w30 => xg (xk h29 w30 = 12) <| if ((Int32.ofNat (xn h29 w30)) : Int32) ≤ s131 then (xg (xk h29 t = 23) <| xnn (xr h29 t 0) fun w31 => xg (xk h29 w31 = 24) <| xb (FJ4_length_8abf5 E w31  h29) fun v32 h33 => xg (xk h33 w7 = 22) <| xnn (xr h33 w7 4) fun w34 => xg (xk h33 w34 = 18) <| xjn (fun (v35 : Int32) (h36 : XH) => xlp (fun again248 (s248 : Int32) h37 => xg (xk h37 w7 = 22) <| xnn (xr h37 w7 4) fun w38 => xg (xk h37 w38 = 18) <| xjn (fun  (h39 : XH) => xg (xk h39 t = 23) <| xnn (xr h39 t 2) fun w40 => xg (xk h39 t = 23) <| xg (xk h39 w40 = 20 ∧ xk h39 w7 = 22 ∧ xin (xi h39 t 6) (xn h39 w40)) <| xlt (yr h39 w40 ((xi h39 t 6) : Int32).toNatClampNeg (some w7)) fun h41 => xg (xk h41 t = 23) <| xg (xk h41 t = 23) <| xlt (yi h41 t 6 ((xi h41 t 6) + 1)) fun h42 => xv () h42) fun (j382 : XH → XP Unit) => if ((Int32.ofNat (xn h37 w38)) : Int32) ≤ s248 then (j382 h37) else (if (v14 : Int32) = 0 then (j382 h37) else (if (v35 : Int32) = 0 then (j382 h37) else (xg (xk h37 t = 23) <| xnn (xr h37 t 1) fun w43 => xg (xk h37 w43 = 19 ∧ xin v1 (xn h37 w43)) <| xnn (xr h37 w43 (v1 : Int32).toNatClampNeg) fun w44 => xb (FL_isAbelian E w44 h37) fun v45 h46 => if (v45 : Int32) = 0 then (xg (xk h46 t = 23) <| xnn (xr h46 t 0) fun w47 => xg (xk h46 w47 = 24) <| xb (FJ4_append_15ec4 E w47 22 h46) fun v48 h49 => xg (xk h49 t = 23) <| xg (xk h49 v48 = 24) <| xb (FJ4_append_cf468 E v48 ((Int32.toUInt32 (97 + (xi h49 t 6))) % 65536).toInt32 h49) fun v50 h51 => xg (xk h51 v50 = 24) <| xb (FJ4_append_cf468 E v50 32 h51) fun v52 h53 => xg (xk h53 v52 = 24) <| xb (FJ4_append_bf812 E v52 s248 h53) fun v54 h55 => xlp (fun again315 (s315 : Int32) h56 => xg (xk h56 w7 = 22) <| xnn (xr h56 w7 5) fun w57 => xg (xk h56 w57 = 12) <| if ((Int32.ofNat (xn h56 w57)) : Int32) ≤ s315 then (again248 (s248 + 1) h56) else (xg (xk h56 w7 = 22) <| xnn (xr h56 w7 4) fun w58 => xg (xk h56 w58 = 18 ∧ xin s248 (xn h56 w58)) <| xnn (xr h56 w58 (s248 : Int32).toNatClampNeg) fun w59 => xg (xk h56 w7 = 22) <| xb (FX11_conjugate E w7 s248 s315 h56) fun v60 h61 => xg (xk h61 w59 = 12 ∧ xin s315 (xn h61 w59)) <| xlt (yi h61 w59 (s315 : Int32).toNatClampNeg v60) fun h62 => xg (xk h62 t = 23) <| xnn (xr h62 t 0) fun w63 => xg (xk h62 w63 = 24) <| xb (FJ4_append_cf468 E w63 32 h62) fun v64 h65 => xg (xk h65 w7 = 22) <| xnn (xr h65 w7 4) fun w66 => xg (xk h65 w66 = 18 ∧ xin s248 (xn h65 w66)) <| xnn (xr h65 w66 (s248 : Int32).toNatClampNeg) fun w67 => xg (xk h65 w67 = 12 ∧ xin s315 (xn h65 w67)) <| xg (xk h65 v64 = 24) <| xb (FJ4_append_bf812 E v64 (xi h65 w67 (s315 : Int32).toNatClampNeg) h65) fun v68 h69 => again315 (s315 + 1) h69)) xfu 0 h55) else (j382 h46))))) xfu 0 h36) fun (j243 : Int32 → XH → XP Unit) => if (600 : Int32) ≤ (v32 + (26 * (Int32.ofNat (xn h33 w34)))) then (j243 0 h33) else (j243 1 h33)) else (xg (xk h29 w7 = 22) <| xnn (xr h29 w7 5) fun w70 => xjn (fun (v71 : Int32) (h72 : XH) => xg (xk h72 w70 = 12 ∧ xin s131 (xn h72 w70)) <| xlt (yi h72 w70 (s131 : Int32).toNatClampNeg v71) fun h73 => xg (xk h73 t = 23) <| xnn (xr h73 t 0) fun w74 => xg (xk h73 w74 = 24) <| xb (FJ4_append_cf468 E w74 32 h73) fun v75 h76 => xg (xk h76 w7 = 22) <| xnn (xr h76 w7 5) fun w77 => xg (xk h76 w77 = 12 ∧ xin s131 (xn h76 w77)) <| xg (xk h76 v75 = 24) <| xb (FJ4_append_bf812 E v75 (xi h76 w77 (s131 : Int32).toNatClampNeg) h76) fun v78 h79 => again131 (s131 + 1) h79) fun (j187 : Int32 → XH → XP Unit) => if (v14 : Int32) = 0 then (xg (xk h29 p1 = 21) <| xb (FX10_next E p1 0 19 h29) fun v80 h81 => if (v80 : Int32) = 0 then (xg (xk h81 t = 23) <| xnn (xr h81 t 1) fun w82 => xg (xk h81 w82 = 19 ∧ xin v5 (xn h81 w82)) <| xnn (xr h81 w82 (v5 : Int32).toNatClampNeg) fun w83 => xg (xk h81 w83 = 18) <| xg (xk h81 p1 = 21) <| xb (FX10_next E p1 0 ((Int32.ofNat (xn h81 w83)) - 1) h81) fun v84 h85 => j187 v84 h85) else (j187 0 h81)) else (j187 s131 h29))) xfu 0 h28) fun (j79 : Int32 → XH → XP Unit) => xjn (fun  (h86 : XH) => j79 0 h86) fun (j78 : XH → XP Unit) => if (v1 : Int32) = v5 then (xg (xk h13 p1 = 21) <| xb (FX10_next E p1 0 1 h13) fun v87 h88 => if (v87 : Int32) = 0 then (j79 1 h88) else (j78 h88)) else (j78 h13)) fun (j36 : Int32 → XH → XP Unit) => if (v3 : Int32) ≤ 0 then (xg (xk h4 t = 23) <| xg (xk h4 p1 = 21) <| xb (FX10_next E p1 0 ((xi h4 t 5) - 1) h4) fun v89 h90 => j36 v89 h90) else (j36 v1 h4)
theorem CX12_module (E : XG) (t : Nat) (p1 : Nat) (h : XH) : XN E mX12_module eU 14 6 [.ref t, .ref p1] h (FX12_module E t p1 h) := by
  unfold FX12_module
  refine S_enter (L := [some (.ref t), some (.ref p1), none, none, none, none, none, none, none]) (by decide +kernel) rfl rfl rfl ?_
  refine S_aload_1 0 dX12_module_0 ?_
  refine S_ic 1 0 dX12_module_1 (by decide) ?_
  refine S_aload_0 2 dX12_module_2 ?_
  refine S_getI 3 fsX12_64 rfl dX12_module_3 ?_
  refine S_ic 6 1 dX12_module_6 (by decide) ?_
  refine S_isub 7 dX12_module_7 ?_
  refine S_callV (a' := 0) (b' := 0) (a := 14) (b := 6) 8 (As := [.int 0, .int ((xi h t 5) - 1)]) (ci := 20) rfl calX10_next imX10_next seX10_next mkX12_42 rfl rfl rfl rfl rfl (by decide) rfl rfl dX12_module_8 (CX10_next E p1 0 ((xi h t 5) - 1) h) (fun v1 h2 => kqI ?_)
  refine S_istore_2 11 dX12_module_11 rfl ?_
  refine S_aload_1 12 dX12_module_12 ?_
  refine S_ic 13 0 dX12_module_13 (by decide) ?_
  refine S_ic 14 2 dX12_module_14 (by decide) ?_
  refine S_callV (a' := 0) (b' := 0) (a := 14) (b := 6) 15 (As := [.int 0, .int 2]) (ci := 20) rfl calX10_next imX10_next seX10_next mkX12_42 rfl rfl rfl rfl rfl (by decide) rfl rfl dX12_module_15 (CX10_next E p1 0 2 h2) (fun v3 h4 => kqI ?_)
  refine S_join (fun jj => ∀ (v5 : Int32) (h6 : XH), XS E mX12_module eU 14 6 36 [some (.ref t), some (.ref p1), some (.int v1), none, none, none, none, none, none] [.int v5] h6 (jj v5 h6)) (fun v5 h6 => ?_) (fun j36 hj36 => ?_)
  · skip
    refine S_istore_3 36 dX12_module_36 rfl ?_
    refine S_newF (a := 13) (b := 0) 37 (ci := 21) (N := 6) xok21 rfl nwX12_26 inst21 ini21 dv21 dX12_module_37 (fun w7 h8 => ?_)
    refine S_dup 40 dX12_module_40 rfl ?_
    refine S_iload_2 41 dX12_module_41 ?_
    refine S_iload_3 42 dX12_module_42 ?_
    refine S_aload_0 43 dX12_module_43 ?_
    refine S_getR 44 fsX12_22 rfl dX12_module_44 (fun w9 => ?_)
    refine S_iload_2 47 dX12_module_47 ?_
    refine S_aald 48 19 8 (by decide) rfl rfl dX12_module_48 (fun w10 => ?_)
    refine S_aload_0 49 dX12_module_49 ?_
    refine S_getR 50 fsX12_22 rfl dX12_module_50 (fun w11 => ?_)
    refine S_iload_3 53 dX12_module_53 ?_
    refine S_aald 54 19 8 (by decide) rfl rfl dX12_module_54 (fun w12 => ?_)
    refine S_callI (a' := 1) (b' := 0) (a := 12) (b := 0) 55 (As := [.int v1, .int v5, .ref w10, .ref w12]) rfl calX11_init rfl rfl imX11_init mkX12_99 rfl rfl rfl rfl rfl dX12_module_55 (CX11_init E w7 v1 v5 w10 w12 h8) (fun _ h13 => kqU ?_)
    refine S_astore_4 58 dX12_module_58 rfl ?_
    refine S_iload_2 60 dX12_module_60 ?_
    refine S_iload_3 61 dX12_module_61 ?_
    refine S_join (fun jj => ∀ (v14 : Int32) (h15 : XH), XS E mX12_module eU 12 0 79 [some (.ref t), some (.ref p1), some (.int v1), some (.int v5), some (.ref w7), none, none, none, none] [.int v14] h15 (jj v14 h15)) (fun v14 h15 => ?_) (fun j79 hj79 => ?_)
    · skip
      refine S_istore_5 79 dX12_module_79 rfl ?_
      refine S_aload_0 81 dX12_module_81 ?_
      refine S_getR 82 fsX12_14 rfl dX12_module_82 (fun w16 => ?_)
      refine S_ldcS 85 20 (by decide) rfl rfl dX12_module_85 ?_
      refine S_callV (a' := 1) (b' := 0) (a := 11) (b := 0) 87 (As := [.ref (eK E 20)]) (ci := 23) rfl calJ4_append_15ec4 imJ4_append_15ec4 seJ4_append_15ec4 mkX12_60 rfl rfl rfl rfl rfl (by decide) rfl rfl dX12_module_87 (CJ4_append_15ec4 E w16 20 h15) (fun v17 h18 => kqR ?_)
      refine S_bip 90 97 dX12_module_90 (by decide) ?_
      refine S_aload_0 92 dX12_module_92 ?_
      refine S_getI 93 fsX12_104 rfl dX12_module_93 ?_
      refine S_iadd 96 dX12_module_96 ?_
      refine S_i2c 97 dX12_module_97 ?_
      refine S_callV (a' := 1) (b' := 0) (a := 10) (b := 0) 98 (As := [.int ((Int32.toUInt32 (97 + (xi h18 t 6))) % 65536).toInt32]) (ci := 23) rfl calJ4_append_cf468 imJ4_append_cf468 seJ4_append_cf468 mkX12_68 rfl rfl rfl rfl rfl (by decide) rfl rfl dX12_module_98 (CJ4_append_cf468 E v17 ((Int32.toUInt32 (97 + (xi h18 t 6))) % 65536).toInt32 h18) (fun v19 h20 => kqR ?_)
      refine S_ldcS 101 21 (by decide) rfl rfl dX12_module_101 ?_
      refine S_callV (a' := 1) (b' := 0) (a := 9) (b := 0) 103 (As := [.ref (eK E 21)]) (ci := 23) rfl calJ4_append_15ec4 imJ4_append_15ec4 seJ4_append_15ec4 mkX12_60 rfl rfl rfl rfl rfl (by decide) rfl rfl dX12_module_103 (CJ4_append_15ec4 E v19 21 h20) (fun v21 h22 => kqR ?_)
      refine S_bip 106 97 dX12_module_106 (by decide) ?_
      refine S_iload_2 108 dX12_module_108 ?_
      refine S_iadd 109 dX12_module_109 ?_
      refine S_i2c 110 dX12_module_110 ?_
      refine S_callV (a' := 1) (b' := 0) (a := 8) (b := 0) 111 (As := [.int ((Int32.toUInt32 (97 + v1)) % 65536).toInt32]) (ci := 23) rfl calJ4_append_cf468 imJ4_append_cf468 seJ4_append_cf468 mkX12_68 rfl rfl rfl rfl rfl (by decide) rfl rfl dX12_module_111 (CJ4_append_cf468 E v21 ((Int32.toUInt32 (97 + v1)) % 65536).toInt32 h22) (fun v23 h24 => kqR ?_)
      refine S_ldcS 114 21 (by decide) rfl rfl dX12_module_114 ?_
      refine S_callV (a' := 1) (b' := 0) (a := 7) (b := 0) 116 (As := [.ref (eK E 21)]) (ci := 23) rfl calJ4_append_15ec4 imJ4_append_15ec4 seJ4_append_15ec4 mkX12_60 rfl rfl rfl rfl rfl (by decide) rfl rfl dX12_module_116 (CJ4_append_15ec4 E v23 21 h24) (fun v25 h26 => kqR ?_)
      refine S_bip 119 97 dX12_module_119 (by decide) ?_
      refine S_iload_3 121 dX12_module_121 ?_
      refine S_iadd 122 dX12_module_122 ?_
      refine S_i2c 123 dX12_module_123 ?_
      refine S_callV (a' := 1) (b' := 0) (a := 6) (b := 0) 124 (As := [.int ((Int32.toUInt32 (97 + v5)) % 65536).toInt32]) (ci := 23) rfl calJ4_append_cf468 imJ4_append_cf468 seJ4_append_cf468 mkX12_68 rfl rfl rfl rfl rfl (by decide) rfl rfl dX12_module_124 (CJ4_append_cf468 E v25 ((Int32.toUInt32 (97 + v5)) % 65536).toInt32 h26) (fun v27 h28 => kqR ?_)
      refine S_pop 127 dX12_module_127 rfl ?_
      refine S_ic 128 0 dX12_module_128 (by decide) ?_
      refine S_istore_6 129 dX12_module_129 rfl ?_
      refine S_loop (fun (s131 : Int32) => [some (.ref t), some (.ref p1), some (.int v1), some (.int v5), some (.ref w7), some (.int v14), some (.int s131), none, none]) (fun again131 hg131 s131 h29 => ?_) xfu _ _
      refine S_iload_6 131 dX12_module_131 ?_
      refine S_aload_4 133 dX12_module_133 ?_
      refine S_getRN 135 fnX12_109 rfl dX12_module_135 (fun w30 => ?_)
      refine S_alen 138 12 1 (by decide) rfl dX12_module_138 ?_
      refine S_icmpge 139 215 dX12_module_139 (by decide) ?_ ?_
      · skip
        refine S_aload_0 215 dX12_module_215 ?_
        refine S_getR 216 fsX12_14 rfl dX12_module_216 (fun w31 => ?_)
        refine S_callV (a' := 0) (b' := 0) (a := 6) (b := 0) 219 (As := []) (ci := 23) rfl calJ4_length_8abf5 imJ4_length_8abf5 seJ4_length_8abf5 mkX12_112 rfl rfl rfl rfl rfl (by decide) rfl rfl dX12_module_219 (CJ4_length_8abf5 E w31  h29) (fun v32 h33 => kqI ?_)
        refine S_bip 222 26 dX12_module_222 (by decide) ?_
        refine S_aload_4 224 dX12_module_224 ?_
        refine S_getRN 226 fnX12_116 rfl dX12_module_226 (fun w34 => ?_)
        refine S_alen 229 18 7 (by decide) rfl dX12_module_229 ?_
        refine S_imul 230 dX12_module_230 ?_
        refine S_iadd 231 dX12_module_231 ?_
        refine S_sip 232 600 dX12_module_232 (by decide) ?_
        refine S_join (fun jj => ∀ (v35 : Int32) (h36 : XH), XS E mX12_module eU 6 0 243 [some (.ref t), none, some (.int v1), none, some (.ref w7), some (.int v14), none, none, none] [.int v35] h36 (jj v35 h36)) (fun v35 h36 => ?_) (fun j243 hj243 => ?_)
        · skip
          refine S_istore_6 243 dX12_module_243 rfl ?_
          refine S_ic 245 0 dX12_module_245 (by decide) ?_
          refine S_istore_7 246 dX12_module_246 rfl ?_
          refine S_loop (fun (s248 : Int32) => [some (.ref t), none, some (.int v1), none, some (.ref w7), some (.int v14), some (.int v35), some (.int s248), none]) (fun again248 hg248 s248 h37 => ?_) xfu _ _
          refine S_iload_7 248 dX12_module_248 ?_
          refine S_aload_4 250 dX12_module_250 ?_
          refine S_getRN 252 fnX12_116 rfl dX12_module_252 (fun w38 => ?_)
          refine S_alen 255 18 7 (by decide) rfl dX12_module_255 ?_
          refine S_join (fun jj => ∀  (h39 : XH), XS E mX12_module eU 6 0 382 [some (.ref t), none, none, none, some (.ref w7), none, none, none, none] [] h39 (jj  h39)) (fun  h39 => ?_) (fun j382 hj382 => ?_)
          · skip
            refine S_aload_0 382 dX12_module_382 ?_
            refine S_getR 383 fsX12_28 rfl dX12_module_383 (fun w40 => ?_)
            refine S_aload_0 386 dX12_module_386 ?_
            refine S_getI 387 fsX12_104 rfl dX12_module_387 ?_
            refine S_aload_4 390 dX12_module_390 ?_
            refine S_aast 392 20 9 21 (by decide) rfl rfl (by decide) dX12_module_392 (fun h41 => ?_)
            refine S_aload_0 393 dX12_module_393 ?_
            refine S_dup 394 dX12_module_394 rfl ?_
            refine S_getI 395 fsX12_104 rfl dX12_module_395 ?_
            refine S_ic 398 1 dX12_module_398 (by decide) ?_
            refine S_iadd 399 dX12_module_399 ?_
            refine S_putI 400 frX12_104 rfl (fun q => by cases q) dX12_module_400 (fun h42 => ?_)
            exact S_ret 403 dX12_module_403 rfl
          refine S_icmpge 256 382 dX12_module_256 (by decide) ?_ ?_
          · skip
            exact S_drop [2, 5, 6, 7] rfl (hj382 _)
          · skip
            refine S_iload_5 259 dX12_module_259 ?_
            refine S_ifeq 261 382 dX12_module_261 (by decide) ?_ ?_
            · skip
              exact S_drop [2, 5, 6, 7] rfl (hj382 _)
            · skip
              refine S_iload_6 264 dX12_module_264 ?_
              refine S_ifeq 266 382 dX12_module_266 (by decide) ?_ ?_
              · skip
                exact S_drop [2, 5, 6, 7] rfl (hj382 _)
              · skip
                refine S_aload_0 269 dX12_module_269 ?_
                refine S_getR 270 fsX12_22 rfl dX12_module_270 (fun w43 => ?_)
                refine S_iload_2 273 dX12_module_273 ?_
                refine S_aald 274 19 8 (by decide) rfl rfl dX12_module_274 (fun w44 => ?_)
                refine S_callSN (a' := 0) (b' := 0) (a := 6) (b := 0) 275 (As := [.ref w44]) rfl calL_isAbelian stL_isAbelian (List.mem_of_getElem? (i := 26) rfl) rfl rfl rfl rfl rfl dX12_module_275 (CL_isAbelian E w44 h37) (fun v45 h46 => kqI ?_)
                refine S_ifne 278 382 dX12_module_278 (by decide) ?_ ?_
                · skip
                  exact S_drop [2, 5, 6, 7] rfl (hj382 _)
                · skip
                  refine S_aload_0 281 dX12_module_281 ?_
                  refine S_getR 282 fsX12_14 rfl dX12_module_282 (fun w47 => ?_)
                  refine S_ldcS 285 22 (by decide) rfl rfl dX12_module_285 ?_
                  refine S_callV (a' := 1) (b' := 0) (a := 5) (b := 0) 287 (As := [.ref (eK E 22)]) (ci := 23) rfl calJ4_append_15ec4 imJ4_append_15ec4 seJ4_append_15ec4 mkX12_60 rfl rfl rfl rfl rfl (by decide) rfl rfl dX12_module_287 (CJ4_append_15ec4 E w47 22 h46) (fun v48 h49 => kqR ?_)
                  refine S_bip 290 97 dX12_module_290 (by decide) ?_
                  refine S_aload_0 292 dX12_module_292 ?_
                  refine S_getI 293 fsX12_104 rfl dX12_module_293 ?_
                  refine S_iadd 296 dX12_module_296 ?_
                  refine S_i2c 297 dX12_module_297 ?_
                  refine S_callV (a' := 1) (b' := 0) (a := 4) (b := 0) 298 (As := [.int ((Int32.toUInt32 (97 + (xi h49 t 6))) % 65536).toInt32]) (ci := 23) rfl calJ4_append_cf468 imJ4_append_cf468 seJ4_append_cf468 mkX12_68 rfl rfl rfl rfl rfl (by decide) rfl rfl dX12_module_298 (CJ4_append_cf468 E v48 ((Int32.toUInt32 (97 + (xi h49 t 6))) % 65536).toInt32 h49) (fun v50 h51 => kqR ?_)
                  refine S_bip 301 32 dX12_module_301 (by decide) ?_
                  refine S_callV (a' := 1) (b' := 0) (a := 3) (b := 0) 303 (As := [.int 32]) (ci := 23) rfl calJ4_append_cf468 imJ4_append_cf468 seJ4_append_cf468 mkX12_68 rfl rfl rfl rfl rfl (by decide) rfl rfl dX12_module_303 (CJ4_append_cf468 E v50 32 h51) (fun v52 h53 => kqR ?_)
                  refine S_iload_7 306 dX12_module_306 ?_
                  refine S_callV (a' := 1) (b' := 0) (a := 2) (b := 0) 308 (As := [.int s248]) (ci := 23) rfl calJ4_append_bf812 imJ4_append_bf812 seJ4_append_bf812 mkX12_93 rfl rfl rfl rfl rfl (by decide) rfl rfl dX12_module_308 (CJ4_append_bf812 E v52 s248 h53) (fun v54 h55 => kqR ?_)
                  refine S_pop 311 dX12_module_311 rfl ?_
                  refine S_ic 312 0 dX12_module_312 (by decide) ?_
                  refine S_istore_8 313 dX12_module_313 rfl ?_
                  refine S_loop (fun (s315 : Int32) => [some (.ref t), none, some (.int v1), none, some (.ref w7), some (.int v14), some (.int v35), some (.int s248), some (.int s315)]) (fun again315 hg315 s315 h56 => ?_) xfu _ _
                  refine S_iload_8 315 dX12_module_315 ?_
                  refine S_aload_4 317 dX12_module_317 ?_
                  refine S_getRN 319 fnX12_109 rfl dX12_module_319 (fun w57 => ?_)
                  refine S_alen 322 12 1 (by decide) rfl dX12_module_322 ?_
                  refine S_icmpge 323 376 dX12_module_323 (by decide) ?_ ?_
                  · skip
                    refine S_iinc_7 376 (s248 + 1) dX12_module_376 (by rfl) rfl ?_
                    refine S_goto 379 248 dX12_module_379 (by decide) ?_
                    exact S_drop [8] rfl (hg248 _ _)
                  · skip
                    refine S_aload_4 326 dX12_module_326 ?_
                    refine S_getRN 328 fnX12_116 rfl dX12_module_328 (fun w58 => ?_)
                    refine S_iload_7 331 dX12_module_331 ?_
                    refine S_aald 333 18 7 (by decide) rfl rfl dX12_module_333 (fun w59 => ?_)
                    refine S_iload_8 334 dX12_module_334 ?_
                    refine S_aload_4 336 dX12_module_336 ?_
                    refine S_iload_7 338 dX12_module_338 ?_
                    refine S_iload_8 340 dX12_module_340 ?_
                    refine S_callV (a' := 0) (b' := 0) (a := 2) (b := 0) 342 (As := [.int s248, .int s315]) (ci := 21) rfl calX11_conjugate imX11_conjugate seX11_conjugate mkX12_125 rfl rfl rfl rfl rfl (by decide) rfl rfl dX12_module_342 (CX11_conjugate E w7 s248 s315 h56) (fun v60 h61 => kqI ?_)
                    refine S_iast 345 dX12_module_345 (fun h62 => ?_)
                    refine S_aload_0 346 dX12_module_346 ?_
                    refine S_getR 347 fsX12_14 rfl dX12_module_347 (fun w63 => ?_)
                    refine S_bip 350 32 dX12_module_350 (by decide) ?_
                    refine S_callV (a' := 1) (b' := 0) (a := 1) (b := 0) 352 (As := [.int 32]) (ci := 23) rfl calJ4_append_cf468 imJ4_append_cf468 seJ4_append_cf468 mkX12_68 rfl rfl rfl rfl rfl (by decide) rfl rfl dX12_module_352 (CJ4_append_cf468 E w63 32 h62) (fun v64 h65 => kqR ?_)
                    refine S_aload_4 355 dX12_module_355 ?_
                    refine S_getRN 357 fnX12_116 rfl dX12_module_357 (fun w66 => ?_)
                    refine S_iload_7 360 dX12_module_360 ?_
                    refine S_aald 362 18 7 (by decide) rfl rfl dX12_module_362 (fun w67 => ?_)
                    refine S_iload_8 363 dX12_module_363 ?_
                    refine S_iald 365 dX12_module_365 ?_
                    refine S_callV (a' := 1) (b' := 0) (a := 0) (b := 0) 366 (As := [.int (xi h65 w67 (s315 : Int32).toNatClampNeg)]) (ci := 23) rfl calJ4_append_bf812 imJ4_append_bf812 seJ4_append_bf812 mkX12_93 rfl rfl rfl rfl rfl (by decide) rfl rfl dX12_module_366 (CJ4_append_bf812 E v64 (xi h65 w67 (s315 : Int32).toNatClampNeg) h65) (fun v68 h69 => kqR ?_)
                    refine S_pop 369 dX12_module_369 rfl ?_
                    refine S_iinc_8 370 (s315 + 1) dX12_module_370 (by rfl) rfl ?_
                    refine S_goto 373 315 dX12_module_373 (by decide) ?_
                    exact S_drop [] rfl (hg315 _ _)
        refine S_icmpge 235 242 dX12_module_235 (by decide) ?_ ?_
        · skip
          refine S_ic 242 0 dX12_module_242 (by decide) ?_
          exact S_drop [1, 3, 6] rfl (hj243 _ _)
        · skip
          refine S_ic 238 1 dX12_module_238 (by decide) ?_
          refine S_goto 239 243 dX12_module_239 (by decide) ?_
          exact S_drop [1, 3, 6] rfl (hj243 _ _)
      · skip
        refine S_aload_4 142 dX12_module_142 ?_
        refine S_getRN 144 fnX12_109 rfl dX12_module_144 (fun w70 => ?_)
        refine S_iload_6 147 dX12_module_147 ?_
        refine S_iload_5 149 dX12_module_149 ?_
        refine S_join (fun jj => ∀ (v71 : Int32) (h72 : XH), XS E mX12_module eU 6 0 187 [some (.ref t), some (.ref p1), some (.int v1), some (.int v5), some (.ref w7), some (.int v14), some (.int s131), none, none] [.int v71, .int s131, .ref w70] h72 (jj v71 h72)) (fun v71 h72 => ?_) (fun j187 hj187 => ?_)
        · skip
          refine S_iast 187 dX12_module_187 (fun h73 => ?_)
          refine S_aload_0 188 dX12_module_188 ?_
          refine S_getR 189 fsX12_14 rfl dX12_module_189 (fun w74 => ?_)
          refine S_bip 192 32 dX12_module_192 (by decide) ?_
          refine S_callV (a' := 1) (b' := 0) (a := 5) (b := 0) 194 (As := [.int 32]) (ci := 23) rfl calJ4_append_cf468 imJ4_append_cf468 seJ4_append_cf468 mkX12_68 rfl rfl rfl rfl rfl (by decide) rfl rfl dX12_module_194 (CJ4_append_cf468 E w74 32 h73) (fun v75 h76 => kqR ?_)
          refine S_aload_4 197 dX12_module_197 ?_
          refine S_getRN 199 fnX12_109 rfl dX12_module_199 (fun w77 => ?_)
          refine S_iload_6 202 dX12_module_202 ?_
          refine S_iald 204 dX12_module_204 ?_
          refine S_callV (a' := 1) (b' := 0) (a := 4) (b := 0) 205 (As := [.int (xi h76 w77 (s131 : Int32).toNatClampNeg)]) (ci := 23) rfl calJ4_append_bf812 imJ4_append_bf812 seJ4_append_bf812 mkX12_93 rfl rfl rfl rfl rfl (by decide) rfl rfl dX12_module_205 (CJ4_append_bf812 E v75 (xi h76 w77 (s131 : Int32).toNatClampNeg) h76) (fun v78 h79 => kqR ?_)
          refine S_pop 208 dX12_module_208 rfl ?_
          refine S_iinc_6 209 (s131 + 1) dX12_module_209 (by rfl) rfl ?_
          refine S_goto 212 131 dX12_module_212 (by decide) ?_
          exact S_drop [] rfl (hg131 _ _)
        refine S_ifeq 151 159 dX12_module_151 (by decide) ?_ ?_
        · skip
          refine S_aload_1 159 dX12_module_159 ?_
          refine S_ic 160 0 dX12_module_160 (by decide) ?_
          refine S_bip 161 19 dX12_module_161 (by decide) ?_
          refine S_callV (a' := 0) (b' := 0) (a := 6) (b := 0) 163 (As := [.int 0, .int 19]) (ci := 20) rfl calX10_next imX10_next seX10_next mkX12_42 rfl rfl rfl rfl rfl (by decide) rfl rfl dX12_module_163 (CX10_next E p1 0 19 h29) (fun v80 h81 => kqI ?_)
          refine S_ifne 166 186 dX12_module_166 (by decide) ?_ ?_
          · skip
            refine S_ic 186 0 dX12_module_186 (by decide) ?_
            exact S_drop [] rfl (hj187 _ _)
          · skip
            refine S_aload_1 169 dX12_module_169 ?_
            refine S_ic 170 0 dX12_module_170 (by decide) ?_
            refine S_aload_0 171 dX12_module_171 ?_
            refine S_getR 172 fsX12_22 rfl dX12_module_172 (fun w82 => ?_)
            refine S_iload_3 175 dX12_module_175 ?_
            refine S_aald 176 19 8 (by decide) rfl rfl dX12_module_176 (fun w83 => ?_)
            refine S_alen 177 18 7 (by decide) rfl dX12_module_177 ?_
            refine S_ic 178 1 dX12_module_178 (by decide) ?_
            refine S_isub 179 dX12_module_179 ?_
            refine S_callV (a' := 0) (b' := 0) (a := 6) (b := 0) 180 (As := [.int 0, .int ((Int32.ofNat (xn h81 w83)) - 1)]) (ci := 20) rfl calX10_next imX10_next seX10_next mkX12_42 rfl rfl rfl rfl rfl (by decide) rfl rfl dX12_module_180 (CX10_next E p1 0 ((Int32.ofNat (xn h81 w83)) - 1) h81) (fun v84 h85 => kqI ?_)
            refine S_goto 183 187 dX12_module_183 (by decide) ?_
            exact S_drop [] rfl (hj187 _ _)
        · skip
          refine S_iload_6 154 dX12_module_154 ?_
          refine S_goto 156 187 dX12_module_156 (by decide) ?_
          exact S_drop [] rfl (hj187 _ _)
    refine S_join (fun jj => ∀  (h86 : XH), XS E mX12_module eU 12 0 78 [some (.ref t), some (.ref p1), some (.int v1), some (.int v5), some (.ref w7), none, none, none, none] [] h86 (jj  h86)) (fun  h86 => ?_) (fun j78 hj78 => ?_)
    · skip
      refine S_ic 78 0 dX12_module_78 (by decide) ?_
      exact S_drop [] rfl (hj79 _ _)
    refine S_icmpne 62 78 dX12_module_62 (by decide) ?_ ?_
    · skip
      exact S_drop [] rfl (hj78 _)
    · skip
      refine S_aload_1 65 dX12_module_65 ?_
      refine S_ic 66 0 dX12_module_66 (by decide) ?_
      refine S_ic 67 1 dX12_module_67 (by decide) ?_
      refine S_callV (a' := 0) (b' := 0) (a := 12) (b := 0) 68 (As := [.int 0, .int 1]) (ci := 20) rfl calX10_next imX10_next seX10_next mkX12_42 rfl rfl rfl rfl rfl (by decide) rfl rfl dX12_module_68 (CX10_next E p1 0 1 h13) (fun v87 h88 => kqI ?_)
      refine S_ifne 71 78 dX12_module_71 (by decide) ?_ ?_
      · skip
        exact S_drop [] rfl (hj78 _)
      · skip
        refine S_ic 74 1 dX12_module_74 (by decide) ?_
        refine S_goto 75 79 dX12_module_75 (by decide) ?_
        exact S_drop [] rfl (hj79 _ _)
  refine S_ifle 18 25 dX12_module_18 (by decide) ?_ ?_
  · skip
    refine S_aload_1 25 dX12_module_25 ?_
    refine S_ic 26 0 dX12_module_26 (by decide) ?_
    refine S_aload_0 27 dX12_module_27 ?_
    refine S_getI 28 fsX12_64 rfl dX12_module_28 ?_
    refine S_ic 31 1 dX12_module_31 (by decide) ?_
    refine S_isub 32 dX12_module_32 ?_
    refine S_callV (a' := 0) (b' := 0) (a := 14) (b := 6) 33 (As := [.int 0, .int ((xi h4 t 5) - 1)]) (ci := 20) rfl calX10_next imX10_next seX10_next mkX12_42 rfl rfl rfl rfl rfl (by decide) rfl rfl dX12_module_33 (CX10_next E p1 0 ((xi h4 t 5) - 1) h4) (fun v89 h90 => kqI ?_)
    exact S_drop [] rfl (hj36 _ _)
  · skip
    refine S_iload_2 21 dX12_module_21 ?_
    refine S_goto 22 36 dX12_module_22 (by decide) ?_
    exact S_drop [] rfl (hj36 _ _)
def FX12_arrow (E : XG) (t : Nat) (p1 : Nat) (h : XH) : XP Unit := xg (xk h t = 23) <| xg (xk h p1 = 21) <| xb (FX10_next E p1 0 ((xi h t 6) - 1) h) fun v1 h2 => xg (xk h2 p1 = 21) <| xb (FX10_next E p1 0 1 h2) fun v3 h4 => xjn (fun (v5 : Int32) (h6 : XH) => xg (xk h6 t = 23) <| xnn (xr h6 t 2) fun w7 => xg (xk h6 w7 = 20 ∧ xin v1 (xn h6 w7)) <| xnn (xr h6 w7 (v1 : Int32).toNatClampNeg) fun w8 => xg (xk h6 t = 23) <| xnn (xr h6 t 2) fun w9 => xg (xk h6 w9 = 20 ∧ xin v5 (xn h6 w9)) <| xnn (xr h6 w9 (v5 : Int32).toNatClampNeg) fun w10 => xal h6 10 0 fun w11 h12 => xg (xk h12 w8 = 22) <| xnn (xr h12 w8 5) fun w13 => xg (xk h12 w13 = 12) <| xg (xk h12 w8 = 22) <| xnn (xr h12 w8 4) fun w14 => xg (xk h12 w14 = 18) <| xb (FX9_init E w11 v1 v5 (Int32.ofNat (xn h12 w13)) (Int32.ofNat (xn h12 w14)) h12) fun _ h15 => xg (xk h15 p1 = 21) <| xb (FX10_next E p1 0 3 h15) fun v16 h17 => xjn (fun (v18 : Int32) (h19 : XH) => xg (xk h19 t = 23) <| xnn (xr h19 t 0) fun w20 => xg (xk h19 w20 = 24) <| xb (FJ4_append_15ec4 E w20 23 h19) fun v21 h22 => xg (xk h22 t = 23) <| xg (xk h22 v21 = 24) <| xb (FJ4_append_cf468 E v21 ((Int32.toUInt32 (97 + (xi h22 t 7))) % 65536).toInt32 h22) fun v23 h24 => xg (xk h24 v23 = 24) <| xb (FJ4_append_15ec4 E v23 24 h24) fun v25 h26 => xg (xk h26 v25 = 24) <| xb (FJ4_append_cf468 E v25 ((Int32.toUInt32 (97 + v1)) % 65536).toInt32 h26) fun v27 h28 => xg (xk h28 v27 = 24) <| xb (FJ4_append_15ec4 E v27 24 h28) fun v29 h30 => xg (xk h30 v29 = 24) <| xb (FJ4_append_cf468 E v29 ((Int32.toUInt32 (97 + v5)) % 65536).toInt32 h30) fun v31 h32 => xlp (fun again142 (s142 : Int32) h33 => xg (xk h33 w11 = 10) <| xnn (xr h33 w11 2) fun w34 => xg (xk h33 w34 = 12) <| if ((Int32.ofNat (xn h33 w34)) : Int32) ≤ s142 then (xlp (fun again213 (s213 : Int32) h35 => xg (xk h35 w11 = 10) <| xnn (xr h35 w11 3) fun w36 => xg (xk h35 w36 = 12) <| if ((Int32.ofNat (xn h35 w36)) : Int32) ≤ s213 then (xg (xk h35 t = 23) <| xnn (xr h35 t 3) fun w37 => xg (xk h35 t = 23) <| xg (xk h35 w37 = 26 ∧ xk h35 w11 = 10 ∧ xin (xi h35 t 7) (xn h35 w37)) <| xlt (yr h35 w37 ((xi h35 t 7) : Int32).toNatClampNeg (some w11)) fun h38 => xg (xk h38 t = 23) <| xg (xk h38 t = 23) <| xlt (yi h38 t 7 ((xi h38 t 7) + 1)) fun h39 => xv () h39) else (xg (xk h35 w11 = 10) <| xnn (xr h35 w11 3) fun w40 => xjn (fun (v41 : Int32) (h42 : XH) => xg (xk h42 w40 = 12 ∧ xin s213 (xn h42 w40)) <| xlt (yi h42 w40 (s213 : Int32).toNatClampNeg v41) fun h43 => xg (xk h43 t = 23) <| xnn (xr h43 t 0) fun w44 => xg (xk h43 w44 = 24) <| xb (FJ4_append_cf468 E w44 32 h43) fun v45 h46 => xg (xk h46 w11 = 10) <| xnn (xr h46 w11 3) fun w47 => xg (xk h46 w47 = 12 ∧ xin s213 (xn h46 w47)) <| xg (xk h46 v45 = 24) <| xb (FJ4_append_bf812 E v45 (xi h46 w47 (s213 : Int32).toNatClampNeg) h46) fun v48 h49 => again213 (s213 + 1) h49) fun (j253 : Int32 → XH → XP Unit) => xjn (fun  (h50 : XH) => j253 0 h50) fun (j252 : XH → XP Unit) => if (v18 : Int32) = 0 then (j252 h35) else (xg (xk h35 w10 = 22) <| xnn (xr h35 w10 4) fun w51 => xg (xk h35 w51 = 18) <| if ((Int32.ofNat (xn h35 w51)) : Int32) ≤ s213 then (j252 h35) else (j253 s213 h35)))) xfu 0 h33) else (xg (xk h33 w11 = 10) <| xnn (xr h33 w11 2) fun w52 => xjn (fun (v53 : Int32) (h54 : XH) => xg (xk h54 w52 = 12 ∧ xin s142 (xn h54 w52)) <| xlt (yi h54 w52 (s142 : Int32).toNatClampNeg v53) fun h55 => xg (xk h55 t = 23) <| xnn (xr h55 t 0) fun w56 => xg (xk h55 w56 = 24) <| xb (FJ4_append_cf468 E w56 32 h55) fun v57 h58 => xg (xk h58 w11 = 10) <| xnn (xr h58 w11 2) fun w59 => xg (xk h58 w59 = 12 ∧ xin s142 (xn h58 w59)) <| xg (xk h58 v57 = 24) <| xb (FJ4_append_bf812 E v57 (xi h58 w59 (s142 : Int32).toNatClampNeg) h58) fun v60 h61 => again142 (s142 + 1) h61) fun (j182 : Int32 → XH → XP Unit) => xjn (fun  (h62 : XH) => j182 0 h62) fun (j181 : XH → XP Unit) => if (v18 : Int32) = 0 then (j181 h33) else (xg (xk h33 w10 = 22) <| xnn (xr h33 w10 5) fun w63 => xg (xk h33 w63 = 12) <| if ((Int32.ofNat (xn h33 w63)) : Int32) ≤ s142 then (j181 h33) else (j182 s142 h33)))) xfu 0 h32) fun (j90 : Int32 → XH → XP Unit) => if (v16 : Int32) ≤ 0 then (j90 0 h17) else (j90 1 h17)) fun (j36 : Int32 → XH → XP Unit) => if (v3 : Int32) = 0 then (j36 v1 h4) else (xg (xk h4 t = 23) <| xg (xk h4 p1 = 21) <| xb (FX10_next E p1 0 ((xi h4 t 6) - 1) h4) fun v64 h65 => j36 v64 h65)
theorem CX12_arrow (E : XG) (t : Nat) (p1 : Nat) (h : XH) : XN E mX12_arrow eU 11 4 [.ref t, .ref p1] h (FX12_arrow E t p1 h) := by
  unfold FX12_arrow
  refine S_enter (L := [some (.ref t), some (.ref p1), none, none, none, none, none, none, none]) (by decide +kernel) rfl rfl rfl ?_
  refine S_aload_1 0 dX12_arrow_0 ?_
  refine S_ic 1 0 dX12_arrow_1 (by decide) ?_
  refine S_aload_0 2 dX12_arrow_2 ?_
  refine S_getI 3 fsX12_104 rfl dX12_arrow_3 ?_
  refine S_ic 6 1 dX12_arrow_6 (by decide) ?_
  refine S_isub 7 dX12_arrow_7 ?_
  refine S_callV (a' := 0) (b' := 0) (a := 11) (b := 4) 8 (As := [.int 0, .int ((xi h t 6) - 1)]) (ci := 20) rfl calX10_next imX10_next seX10_next mkX12_42 rfl rfl rfl rfl rfl (by decide) rfl rfl dX12_arrow_8 (CX10_next E p1 0 ((xi h t 6) - 1) h) (fun v1 h2 => kqI ?_)
  refine S_istore_2 11 dX12_arrow_11 rfl ?_
  refine S_aload_1 12 dX12_arrow_12 ?_
  refine S_ic 13 0 dX12_arrow_13 (by decide) ?_
  refine S_ic 14 1 dX12_arrow_14 (by decide) ?_
  refine S_callV (a' := 0) (b' := 0) (a := 11) (b := 4) 15 (As := [.int 0, .int 1]) (ci := 20) rfl calX10_next imX10_next seX10_next mkX12_42 rfl rfl rfl rfl rfl (by decide) rfl rfl dX12_arrow_15 (CX10_next E p1 0 1 h2) (fun v3 h4 => kqI ?_)
  refine S_join (fun jj => ∀ (v5 : Int32) (h6 : XH), XS E mX12_arrow eU 11 4 36 [some (.ref t), some (.ref p1), some (.int v1), none, none, none, none, none, none] [.int v5] h6 (jj v5 h6)) (fun v5 h6 => ?_) (fun j36 hj36 => ?_)
  · skip
    refine S_istore_3 36 dX12_arrow_36 rfl ?_
    refine S_aload_0 37 dX12_arrow_37 ?_
    refine S_getR 38 fsX12_28 rfl dX12_arrow_38 (fun w7 => ?_)
    refine S_iload_2 41 dX12_arrow_41 ?_
    refine S_aald 42 20 9 (by decide) rfl rfl dX12_arrow_42 (fun w8 => ?_)
    refine S_astore_4 43 dX12_arrow_43 rfl ?_
    refine S_aload_0 45 dX12_arrow_45 ?_
    refine S_getR 46 fsX12_28 rfl dX12_arrow_46 (fun w9 => ?_)
    refine S_iload_3 49 dX12_arrow_49 ?_
    refine S_aald 50 20 9 (by decide) rfl rfl dX12_arrow_50 (fun w10 => ?_)
    refine S_astore_5 51 dX12_arrow_51 rfl ?_
    refine S_newF (a := 10) (b := 0) 53 (ci := 9) (N := 4) xok9 rfl nwX12_32 inst9 ini9 dv9 dX12_arrow_53 (fun w11 h12 => ?_)
    refine S_dup 56 dX12_arrow_56 rfl ?_
    refine S_iload_2 57 dX12_arrow_57 ?_
    refine S_iload_3 58 dX12_arrow_58 ?_
    refine S_aload_4 59 dX12_arrow_59 ?_
    refine S_getRN 61 fnX12_109 rfl dX12_arrow_61 (fun w13 => ?_)
    refine S_alen 64 12 1 (by decide) rfl dX12_arrow_64 ?_
    refine S_aload_4 65 dX12_arrow_65 ?_
    refine S_getRN 67 fnX12_116 rfl dX12_arrow_67 (fun w14 => ?_)
    refine S_alen 70 18 7 (by decide) rfl dX12_arrow_70 ?_
    refine S_callI (a' := 2) (b' := 0) (a := 8) (b := 0) 71 (As := [.int v1, .int v5, .int (Int32.ofNat (xn h12 w13)), .int (Int32.ofNat (xn h12 w14))]) rfl calX9_init rfl rfl imX9_init mkX12_128 rfl rfl rfl rfl rfl dX12_arrow_71 (CX9_init E w11 v1 v5 (Int32.ofNat (xn h12 w13)) (Int32.ofNat (xn h12 w14)) h12) (fun _ h15 => kqU ?_)
    refine S_astore_6 74 dX12_arrow_74 rfl ?_
    refine S_aload_1 76 dX12_arrow_76 ?_
    refine S_ic 77 0 dX12_arrow_77 (by decide) ?_
    refine S_ic 78 3 dX12_arrow_78 (by decide) ?_
    refine S_callV (a' := 0) (b' := 0) (a := 8) (b := 0) 79 (As := [.int 0, .int 3]) (ci := 20) rfl calX10_next imX10_next seX10_next mkX12_42 rfl rfl rfl rfl rfl (by decide) rfl rfl dX12_arrow_79 (CX10_next E p1 0 3 h15) (fun v16 h17 => kqI ?_)
    refine S_join (fun jj => ∀ (v18 : Int32) (h19 : XH), XS E mX12_arrow eU 8 0 90 [some (.ref t), none, some (.int v1), some (.int v5), none, some (.ref w10), some (.ref w11), none, none] [.int v18] h19 (jj v18 h19)) (fun v18 h19 => ?_) (fun j90 hj90 => ?_)
    · skip
      refine S_istore_7 90 dX12_arrow_90 rfl ?_
      refine S_aload_0 92 dX12_arrow_92 ?_
      refine S_getR 93 fsX12_14 rfl dX12_arrow_93 (fun w20 => ?_)
      refine S_ldcS 96 23 (by decide) rfl rfl dX12_arrow_96 ?_
      refine S_callV (a' := 1) (b' := 0) (a := 7) (b := 0) 98 (As := [.ref (eK E 23)]) (ci := 23) rfl calJ4_append_15ec4 imJ4_append_15ec4 seJ4_append_15ec4 mkX12_60 rfl rfl rfl rfl rfl (by decide) rfl rfl dX12_arrow_98 (CJ4_append_15ec4 E w20 23 h19) (fun v21 h22 => kqR ?_)
      refine S_bip 101 97 dX12_arrow_101 (by decide) ?_
      refine S_aload_0 103 dX12_arrow_103 ?_
      refine S_getI 104 fsX12_133 rfl dX12_arrow_104 ?_
      refine S_iadd 107 dX12_arrow_107 ?_
      refine S_i2c 108 dX12_arrow_108 ?_
      refine S_callV (a' := 1) (b' := 0) (a := 6) (b := 0) 109 (As := [.int ((Int32.toUInt32 (97 + (xi h22 t 7))) % 65536).toInt32]) (ci := 23) rfl calJ4_append_cf468 imJ4_append_cf468 seJ4_append_cf468 mkX12_68 rfl rfl rfl rfl rfl (by decide) rfl rfl dX12_arrow_109 (CJ4_append_cf468 E v21 ((Int32.toUInt32 (97 + (xi h22 t 7))) % 65536).toInt32 h22) (fun v23 h24 => kqR ?_)
      refine S_ldcS 112 24 (by decide) rfl rfl dX12_arrow_112 ?_
      refine S_callV (a' := 1) (b' := 0) (a := 5) (b := 0) 114 (As := [.ref (eK E 24)]) (ci := 23) rfl calJ4_append_15ec4 imJ4_append_15ec4 seJ4_append_15ec4 mkX12_60 rfl rfl rfl rfl rfl (by decide) rfl rfl dX12_arrow_114 (CJ4_append_15ec4 E v23 24 h24) (fun v25 h26 => kqR ?_)
      refine S_bip 117 97 dX12_arrow_117 (by decide) ?_
      refine S_iload_2 119 dX12_arrow_119 ?_
      refine S_iadd 120 dX12_arrow_120 ?_
      refine S_i2c 121 dX12_arrow_121 ?_
      refine S_callV (a' := 1) (b' := 0) (a := 4) (b := 0) 122 (As := [.int ((Int32.toUInt32 (97 + v1)) % 65536).toInt32]) (ci := 23) rfl calJ4_append_cf468 imJ4_append_cf468 seJ4_append_cf468 mkX12_68 rfl rfl rfl rfl rfl (by decide) rfl rfl dX12_arrow_122 (CJ4_append_cf468 E v25 ((Int32.toUInt32 (97 + v1)) % 65536).toInt32 h26) (fun v27 h28 => kqR ?_)
      refine S_ldcS 125 24 (by decide) rfl rfl dX12_arrow_125 ?_
      refine S_callV (a' := 1) (b' := 0) (a := 3) (b := 0) 127 (As := [.ref (eK E 24)]) (ci := 23) rfl calJ4_append_15ec4 imJ4_append_15ec4 seJ4_append_15ec4 mkX12_60 rfl rfl rfl rfl rfl (by decide) rfl rfl dX12_arrow_127 (CJ4_append_15ec4 E v27 24 h28) (fun v29 h30 => kqR ?_)
      refine S_bip 130 97 dX12_arrow_130 (by decide) ?_
      refine S_iload_3 132 dX12_arrow_132 ?_
      refine S_iadd 133 dX12_arrow_133 ?_
      refine S_i2c 134 dX12_arrow_134 ?_
      refine S_callV (a' := 1) (b' := 0) (a := 2) (b := 0) 135 (As := [.int ((Int32.toUInt32 (97 + v5)) % 65536).toInt32]) (ci := 23) rfl calJ4_append_cf468 imJ4_append_cf468 seJ4_append_cf468 mkX12_68 rfl rfl rfl rfl rfl (by decide) rfl rfl dX12_arrow_135 (CJ4_append_cf468 E v29 ((Int32.toUInt32 (97 + v5)) % 65536).toInt32 h30) (fun v31 h32 => kqR ?_)
      refine S_pop 138 dX12_arrow_138 rfl ?_
      refine S_ic 139 0 dX12_arrow_139 (by decide) ?_
      refine S_istore_8 140 dX12_arrow_140 rfl ?_
      refine S_drop [2, 3] rfl ?_
      refine S_loop (fun (s142 : Int32) => [some (.ref t), none, none, none, none, some (.ref w10), some (.ref w11), some (.int v18), some (.int s142)]) (fun again142 hg142 s142 h33 => ?_) xfu _ _
      refine S_iload_8 142 dX12_arrow_142 ?_
      refine S_aload_6 144 dX12_arrow_144 ?_
      refine S_getRN 146 fnX12_138 rfl dX12_arrow_146 (fun w34 => ?_)
      refine S_alen 149 12 1 (by decide) rfl dX12_arrow_149 ?_
      refine S_icmpge 150 210 dX12_arrow_150 (by decide) ?_ ?_
      · skip
        refine S_ic 210 0 dX12_arrow_210 (by decide) ?_
        refine S_istore_8 211 dX12_arrow_211 rfl ?_
        refine S_loop (fun (s213 : Int32) => [some (.ref t), none, none, none, none, some (.ref w10), some (.ref w11), some (.int v18), some (.int s213)]) (fun again213 hg213 s213 h35 => ?_) xfu _ _
        refine S_iload_8 213 dX12_arrow_213 ?_
        refine S_aload_6 215 dX12_arrow_215 ?_
        refine S_getRN 217 fnX12_141 rfl dX12_arrow_217 (fun w36 => ?_)
        refine S_alen 220 12 1 (by decide) rfl dX12_arrow_220 ?_
        refine S_icmpge 221 281 dX12_arrow_221 (by decide) ?_ ?_
        · skip
          refine S_aload_0 281 dX12_arrow_281 ?_
          refine S_getR 282 fsX12_34 rfl dX12_arrow_282 (fun w37 => ?_)
          refine S_aload_0 285 dX12_arrow_285 ?_
          refine S_getI 286 fsX12_133 rfl dX12_arrow_286 ?_
          refine S_aload_6 289 dX12_arrow_289 ?_
          refine S_aast 291 26 10 9 (by decide) rfl rfl (by decide) dX12_arrow_291 (fun h38 => ?_)
          refine S_aload_0 292 dX12_arrow_292 ?_
          refine S_dup 293 dX12_arrow_293 rfl ?_
          refine S_getI 294 fsX12_133 rfl dX12_arrow_294 ?_
          refine S_ic 297 1 dX12_arrow_297 (by decide) ?_
          refine S_iadd 298 dX12_arrow_298 ?_
          refine S_putI 299 frX12_133 rfl (fun q => by cases q) dX12_arrow_299 (fun h39 => ?_)
          exact S_ret 302 dX12_arrow_302 rfl
        · skip
          refine S_aload_6 224 dX12_arrow_224 ?_
          refine S_getRN 226 fnX12_141 rfl dX12_arrow_226 (fun w40 => ?_)
          refine S_iload_8 229 dX12_arrow_229 ?_
          refine S_iload_7 231 dX12_arrow_231 ?_
          refine S_join (fun jj => ∀ (v41 : Int32) (h42 : XH), XS E mX12_arrow eU 2 0 253 [some (.ref t), none, none, none, none, some (.ref w10), some (.ref w11), some (.int v18), some (.int s213)] [.int v41, .int s213, .ref w40] h42 (jj v41 h42)) (fun v41 h42 => ?_) (fun j253 hj253 => ?_)
          · skip
            refine S_iast 253 dX12_arrow_253 (fun h43 => ?_)
            refine S_aload_0 254 dX12_arrow_254 ?_
            refine S_getR 255 fsX12_14 rfl dX12_arrow_255 (fun w44 => ?_)
            refine S_bip 258 32 dX12_arrow_258 (by decide) ?_
            refine S_callV (a' := 1) (b' := 0) (a := 1) (b := 0) 260 (As := [.int 32]) (ci := 23) rfl calJ4_append_cf468 imJ4_append_cf468 seJ4_append_cf468 mkX12_68 rfl rfl rfl rfl rfl (by decide) rfl rfl dX12_arrow_260 (CJ4_append_cf468 E w44 32 h43) (fun v45 h46 => kqR ?_)
            refine S_aload_6 263 dX12_arrow_263 ?_
            refine S_getRN 265 fnX12_141 rfl dX12_arrow_265 (fun w47 => ?_)
            refine S_iload_8 268 dX12_arrow_268 ?_
            refine S_iald 270 dX12_arrow_270 ?_
            refine S_callV (a' := 1) (b' := 0) (a := 0) (b := 0) 271 (As := [.int (xi h46 w47 (s213 : Int32).toNatClampNeg)]) (ci := 23) rfl calJ4_append_bf812 imJ4_append_bf812 seJ4_append_bf812 mkX12_93 rfl rfl rfl rfl rfl (by decide) rfl rfl dX12_arrow_271 (CJ4_append_bf812 E v45 (xi h46 w47 (s213 : Int32).toNatClampNeg) h46) (fun v48 h49 => kqR ?_)
            refine S_pop 274 dX12_arrow_274 rfl ?_
            refine S_iinc_8 275 (s213 + 1) dX12_arrow_275 (by rfl) rfl ?_
            refine S_goto 278 213 dX12_arrow_278 (by decide) ?_
            exact S_drop [] rfl (hg213 _ _)
          refine S_join (fun jj => ∀  (h50 : XH), XS E mX12_arrow eU 2 0 252 [some (.ref t), none, none, none, none, some (.ref w10), some (.ref w11), some (.int v18), some (.int s213)] [.int s213, .ref w40] h50 (jj  h50)) (fun  h50 => ?_) (fun j252 hj252 => ?_)
          · skip
            refine S_ic 252 0 dX12_arrow_252 (by decide) ?_
            exact S_drop [] rfl (hj253 _ _)
          refine S_ifeq 233 252 dX12_arrow_233 (by decide) ?_ ?_
          · skip
            exact S_drop [] rfl (hj252 _)
          · skip
            refine S_iload_8 236 dX12_arrow_236 ?_
            refine S_aload_5 238 dX12_arrow_238 ?_
            refine S_getRN 240 fnX12_116 rfl dX12_arrow_240 (fun w51 => ?_)
            refine S_alen 243 18 7 (by decide) rfl dX12_arrow_243 ?_
            refine S_icmpge 244 252 dX12_arrow_244 (by decide) ?_ ?_
            · skip
              exact S_drop [] rfl (hj252 _)
            · skip
              refine S_iload_8 247 dX12_arrow_247 ?_
              refine S_goto 249 253 dX12_arrow_249 (by decide) ?_
              exact S_drop [] rfl (hj253 _ _)
      · skip
        refine S_aload_6 153 dX12_arrow_153 ?_
        refine S_getRN 155 fnX12_138 rfl dX12_arrow_155 (fun w52 => ?_)
        refine S_iload_8 158 dX12_arrow_158 ?_
        refine S_iload_7 160 dX12_arrow_160 ?_
        refine S_join (fun jj => ∀ (v53 : Int32) (h54 : XH), XS E mX12_arrow eU 2 0 182 [some (.ref t), none, none, none, none, some (.ref w10), some (.ref w11), some (.int v18), some (.int s142)] [.int v53, .int s142, .ref w52] h54 (jj v53 h54)) (fun v53 h54 => ?_) (fun j182 hj182 => ?_)
        · skip
          refine S_iast 182 dX12_arrow_182 (fun h55 => ?_)
          refine S_aload_0 183 dX12_arrow_183 ?_
          refine S_getR 184 fsX12_14 rfl dX12_arrow_184 (fun w56 => ?_)
          refine S_bip 187 32 dX12_arrow_187 (by decide) ?_
          refine S_callV (a' := 1) (b' := 0) (a := 1) (b := 0) 189 (As := [.int 32]) (ci := 23) rfl calJ4_append_cf468 imJ4_append_cf468 seJ4_append_cf468 mkX12_68 rfl rfl rfl rfl rfl (by decide) rfl rfl dX12_arrow_189 (CJ4_append_cf468 E w56 32 h55) (fun v57 h58 => kqR ?_)
          refine S_aload_6 192 dX12_arrow_192 ?_
          refine S_getRN 194 fnX12_138 rfl dX12_arrow_194 (fun w59 => ?_)
          refine S_iload_8 197 dX12_arrow_197 ?_
          refine S_iald 199 dX12_arrow_199 ?_
          refine S_callV (a' := 1) (b' := 0) (a := 0) (b := 0) 200 (As := [.int (xi h58 w59 (s142 : Int32).toNatClampNeg)]) (ci := 23) rfl calJ4_append_bf812 imJ4_append_bf812 seJ4_append_bf812 mkX12_93 rfl rfl rfl rfl rfl (by decide) rfl rfl dX12_arrow_200 (CJ4_append_bf812 E v57 (xi h58 w59 (s142 : Int32).toNatClampNeg) h58) (fun v60 h61 => kqR ?_)
          refine S_pop 203 dX12_arrow_203 rfl ?_
          refine S_iinc_8 204 (s142 + 1) dX12_arrow_204 (by rfl) rfl ?_
          refine S_goto 207 142 dX12_arrow_207 (by decide) ?_
          exact S_drop [] rfl (hg142 _ _)
        refine S_join (fun jj => ∀  (h62 : XH), XS E mX12_arrow eU 2 0 181 [some (.ref t), none, none, none, none, some (.ref w10), some (.ref w11), some (.int v18), some (.int s142)] [.int s142, .ref w52] h62 (jj  h62)) (fun  h62 => ?_) (fun j181 hj181 => ?_)
        · skip
          refine S_ic 181 0 dX12_arrow_181 (by decide) ?_
          exact S_drop [] rfl (hj182 _ _)
        refine S_ifeq 162 181 dX12_arrow_162 (by decide) ?_ ?_
        · skip
          exact S_drop [] rfl (hj181 _)
        · skip
          refine S_iload_8 165 dX12_arrow_165 ?_
          refine S_aload_5 167 dX12_arrow_167 ?_
          refine S_getRN 169 fnX12_109 rfl dX12_arrow_169 (fun w63 => ?_)
          refine S_alen 172 12 1 (by decide) rfl dX12_arrow_172 ?_
          refine S_icmpge 173 181 dX12_arrow_173 (by decide) ?_ ?_
          · skip
            exact S_drop [] rfl (hj181 _)
          · skip
            refine S_iload_8 176 dX12_arrow_176 ?_
            refine S_goto 178 182 dX12_arrow_178 (by decide) ?_
            exact S_drop [] rfl (hj182 _ _)
    refine S_ifle 82 89 dX12_arrow_82 (by decide) ?_ ?_
    · skip
      refine S_ic 89 0 dX12_arrow_89 (by decide) ?_
      exact S_drop [1, 4] rfl (hj90 _ _)
    · skip
      refine S_ic 85 1 dX12_arrow_85 (by decide) ?_
      refine S_goto 86 90 dX12_arrow_86 (by decide) ?_
      exact S_drop [1, 4] rfl (hj90 _ _)
  refine S_ifne 18 25 dX12_arrow_18 (by decide) ?_ ?_
  · skip
    refine S_aload_1 25 dX12_arrow_25 ?_
    refine S_ic 26 0 dX12_arrow_26 (by decide) ?_
    refine S_aload_0 27 dX12_arrow_27 ?_
    refine S_getI 28 fsX12_104 rfl dX12_arrow_28 ?_
    refine S_ic 31 1 dX12_arrow_31 (by decide) ?_
    refine S_isub 32 dX12_arrow_32 ?_
    refine S_callV (a' := 0) (b' := 0) (a := 11) (b := 4) 33 (As := [.int 0, .int ((xi h4 t 6) - 1)]) (ci := 20) rfl calX10_next imX10_next seX10_next mkX12_42 rfl rfl rfl rfl rfl (by decide) rfl rfl dX12_arrow_33 (CX10_next E p1 0 ((xi h4 t 6) - 1) h4) (fun v64 h65 => kqI ?_)
    exact S_drop [] rfl (hj36 _ _)
  · skip
    refine S_iload_2 21 dX12_arrow_21 ?_
    refine S_goto 22 36 dX12_arrow_22 (by decide) ?_
    exact S_drop [] rfl (hj36 _ _)
