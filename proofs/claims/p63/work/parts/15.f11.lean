/-! Methods as functions, 11. -/
set_option linter.unusedVariables false
set_option maxRecDepth 10000
def FJ8_newLength_cabcc (E : XG) (p1 : Int32) (p2 : Int32) (p3 : Int32) (h : XH) : XP Int32 := xb (FJ9_max_7cf53 E p2 p3 h) fun v1 h2 => xlt (p1 + v1) fun v3 => xjn (fun  (h4 : XH) => none) fun (j21 : XH → XP Int32) => if (v3 : Int32) ≤ 0 then (j21 h2) else (if (2147483639 : Int32) < v3 then (j21 h2) else (xv v3 h2))
theorem CJ8_newLength_cabcc (E : XG) (p1 : Int32) (p2 : Int32) (p3 : Int32) (h : XH) : XN E mJ8_newLength_cabcc eI 0 0 [.int p1, .int p2, .int p3] h (FJ8_newLength_cabcc E p1 p2 p3 h) := by
  unfold FJ8_newLength_cabcc
  refine S_enter (L := [some (.int p1), some (.int p2), some (.int p3), none]) (by decide +kernel) rfl rfl rfl ?_
  refine S_iload_0 0 dJ8_newLength_cabcc_0 ?_
  refine S_iload_1 1 dJ8_newLength_cabcc_1 ?_
  refine S_iload_2 2 dJ8_newLength_cabcc_2 ?_
  refine S_callS (a' := 0) (b' := 0) (a := 0) (b := 0) 3 (As := [.int p2, .int p3]) rfl calJ9_max_7cf53 stJ9_max_7cf53 mkJ8_194 rfl rfl rfl rfl rfl dJ8_newLength_cabcc_3 (CJ9_max_7cf53 E p2 p3 h) (fun v1 h2 => kqI ?_)
  refine S_iadd 6 dJ8_newLength_cabcc_6 ?_
  refine S_gen (fun v3 => ?_)
  refine S_istore_3 7 dJ8_newLength_cabcc_7 rfl ?_
  refine S_ic 8 0 dJ8_newLength_cabcc_8 (by decide) ?_
  refine S_iload_3 9 dJ8_newLength_cabcc_9 ?_
  refine S_join (fun jj => ∀  (h4 : XH), XS E mJ8_newLength_cabcc eI 0 0 21 [some (.int p1), some (.int p2), none, none] [] h4 (jj  h4)) (fun  h4 => ?_) (fun j21 hj21 => ?_)
  · skip
    refine S_iload_0 21 dJ8_newLength_cabcc_21 ?_
    refine S_iload_1 22 dJ8_newLength_cabcc_22 ?_
    exact S_none
  refine S_icmpge 10 21 dJ8_newLength_cabcc_10 (by decide) ?_ ?_
  · skip
    exact S_drop [2, 3] rfl (hj21 _)
  · skip
    refine S_iload_3 13 dJ8_newLength_cabcc_13 ?_
    refine S_ldci 14 (v := 2147483639) rfl ⟨List.mem_of_getElem? (i := 395) (by decide +kernel), rfl⟩ dJ8_newLength_cabcc_14 ?_
    refine S_icmpgt 16 21 dJ8_newLength_cabcc_16 (by decide) ?_ ?_
    · skip
      exact S_drop [2, 3] rfl (hj21 _)
    · skip
      refine S_iload_3 19 dJ8_newLength_cabcc_19 ?_
      exact S_iret 20 dJ8_newLength_cabcc_20 rfl
def FJ5_newCapacity_0f7a4 (E : XG) (t : Nat) (p1 : Int32) (h : XH) : XP Int32 := xg (xk h t = 24) <| xnn (xr h t 0) fun w1 => xg (xk h w1 = 11) <| xlt (Int32.ofNat (xn h w1)) fun v2 => xg (xk h t = 24) <| xlt (p1 <<< ((xi h t 1) &&& 31)) fun v3 => xlt (v3 - v2) fun v4 => xg (xk h t = 24) <| xb (FJ8_newLength_cabcc E v2 v4 (v2 + (2 <<< ((xi h t 1) &&& 31))) h) fun v5 h6 => if (v5 : Int32) = 2147483647 then none else (xg (xk h6 t = 24) <| xv (v5 >>> ((xi h6 t 1) &&& 31)) h6)
theorem CJ5_newCapacity_0f7a4 (E : XG) (t : Nat) (p1 : Int32) (h : XH) : XN E mJ5_newCapacity_0f7a4 eI 0 0 [.ref t, .int p1] h (FJ5_newCapacity_0f7a4 E t p1 h) := by
  unfold FJ5_newCapacity_0f7a4
  refine S_enter (L := [some (.ref t), some (.int p1), none, none, none, none]) (by decide +kernel) rfl rfl rfl ?_
  refine S_aload_0 0 dJ5_newCapacity_0f7a4_0 ?_
  refine S_getR 1 fsJ5_15 rfl dJ5_newCapacity_0f7a4_1 (fun w1 => ?_)
  refine S_alen 4 11 0 (by decide) rfl dJ5_newCapacity_0f7a4_4 ?_
  refine S_gen (fun v2 => ?_)
  refine S_istore_2 5 dJ5_newCapacity_0f7a4_5 rfl ?_
  refine S_iload_1 6 dJ5_newCapacity_0f7a4_6 ?_
  refine S_aload_0 7 dJ5_newCapacity_0f7a4_7 ?_
  refine S_getI 8 fsJ5_22 rfl dJ5_newCapacity_0f7a4_8 ?_
  refine S_ishl 11 dJ5_newCapacity_0f7a4_11 ?_
  refine S_gen (fun v3 => ?_)
  refine S_istore_3 12 dJ5_newCapacity_0f7a4_12 rfl ?_
  refine S_iload_3 13 dJ5_newCapacity_0f7a4_13 ?_
  refine S_iload_2 14 dJ5_newCapacity_0f7a4_14 ?_
  refine S_isub 15 dJ5_newCapacity_0f7a4_15 ?_
  refine S_gen (fun v4 => ?_)
  refine S_istore_4 16 dJ5_newCapacity_0f7a4_16 rfl ?_
  refine S_iload_2 18 dJ5_newCapacity_0f7a4_18 ?_
  refine S_iload_4 19 dJ5_newCapacity_0f7a4_19 ?_
  refine S_iload_2 21 dJ5_newCapacity_0f7a4_21 ?_
  refine S_ic 22 2 dJ5_newCapacity_0f7a4_22 (by decide) ?_
  refine S_aload_0 23 dJ5_newCapacity_0f7a4_23 ?_
  refine S_getI 24 fsJ5_22 rfl dJ5_newCapacity_0f7a4_24 ?_
  refine S_ishl 27 dJ5_newCapacity_0f7a4_27 ?_
  refine S_iadd 28 dJ5_newCapacity_0f7a4_28 ?_
  refine S_callS (a' := 0) (b' := 0) (a := 0) (b := 0) 29 (As := [.int v2, .int v4, .int (v2 + (2 <<< ((xi h t 1) &&& 31)))]) rfl calJ8_newLength_cabcc stJ8_newLength_cabcc mkJ5_114 rfl rfl rfl rfl rfl dJ5_newCapacity_0f7a4_29 (CJ8_newLength_cabcc E v2 v4 (v2 + (2 <<< ((xi h t 1) &&& 31))) h) (fun v5 h6 => kqI ?_)
  refine S_istore_5 32 dJ5_newCapacity_0f7a4_32 rfl ?_
  refine S_iload_5 34 dJ5_newCapacity_0f7a4_34 ?_
  refine S_ldci 36 (v := 2147483647) rfl ⟨List.mem_of_getElem? (i := 355) (by decide +kernel), rfl⟩ dJ5_newCapacity_0f7a4_36 ?_
  refine S_icmpne 38 51 dJ5_newCapacity_0f7a4_38 (by decide) ?_ ?_
  · skip
    refine S_iload_5 51 dJ5_newCapacity_0f7a4_51 ?_
    refine S_aload_0 53 dJ5_newCapacity_0f7a4_53 ?_
    refine S_getI 54 fsJ5_22 rfl dJ5_newCapacity_0f7a4_54 ?_
    refine S_ishr 57 dJ5_newCapacity_0f7a4_57 ?_
    exact S_iret 58 dJ5_newCapacity_0f7a4_58 rfl
  · skip
    exact S_none
def FJ9_min_7cf53 (E : XG) (p1 : Int32) (p2 : Int32) (h : XH) : XP Int32 := xjn (fun (v1 : Int32) (h2 : XH) => xv v1 h2) fun (j10 : Int32 → XH → XP Int32) => if (p2 : Int32) < p1 then (j10 p2 h) else (j10 p1 h)
theorem CJ9_min_7cf53 (E : XG) (p1 : Int32) (p2 : Int32) (h : XH) : XN E mJ9_min_7cf53 eI 0 0 [.int p1, .int p2] h (FJ9_min_7cf53 E p1 p2 h) := by
  unfold FJ9_min_7cf53
  refine S_enterF (L := [some (.int p1), some (.int p2)]) (by decide +kernel) rfl rfl rfl ?_
  refine S_iload_0 0 dJ9_min_7cf53_0 ?_
  refine S_iload_1 1 dJ9_min_7cf53_1 ?_
  refine S_join (fun jj => ∀ (v1 : Int32) (h2 : XH), XS E mJ9_min_7cf53 eI 0 0 10 [none, none] [.int v1] h2 (jj v1 h2)) (fun v1 h2 => ?_) (fun j10 hj10 => ?_)
  · skip
    exact S_iret 10 dJ9_min_7cf53_10 rfl
  refine S_icmpgt 2 9 dJ9_min_7cf53_2 (by decide) ?_ ?_
  · skip
    refine S_iload_1 9 dJ9_min_7cf53_9 ?_
    exact S_drop [0, 1] rfl (hj10 _ _)
  · skip
    refine S_iload_0 5 dJ9_min_7cf53_5 ?_
    refine S_goto 6 10 dJ9_min_7cf53_6 (by decide) ?_
    exact S_drop [0, 1] rfl (hj10 _ _)
def FJ7_copyOf_9075b (E : XG) (p1 : Nat) (p2 : Int32) (h : XH) : XP Nat := xg (xk h p1 = 11) <| if (p2 : Int32) = (Int32.ofNat (xn h p1)) then (xg (xk h p1 = 11 ∧ ∀ i, i < xn h p1 → xby (xi h p1 i)) <| xcl h p1 fun w6 h7 => xg (xk h7 w6 = 11) <| xv w6 h7) else (xg ((0 : Int32) ≤ p2 ∧ (p2 : Int32).toNatClampNeg ≤ 60000000) <| xal h 11 (p2 : Int32).toNatClampNeg fun w1 h2 => xg (xk h2 p1 = 11) <| xb (FJ9_min_7cf53 E (Int32.ofNat (xn h2 p1)) p2 h2) fun v3 h4 => xg ((xk h4 p1 = 11 ∧ xk h4 w1 = 11) ∧ ((0 : Int32) ≤ 0 ∧ (0 : Int32) ≤ 0 ∧ (0 : Int32) ≤ v3) ∧ (0 : Int32).toNatClampNeg + (v3 : Int32).toNatClampNeg ≤ xn h4 p1 ∧ (0 : Int32).toNatClampNeg + (v3 : Int32).toNatClampNeg ≤ xn h4 w1 ∧ ∀ i, i < (v3 : Int32).toNatClampNeg → xby (xi h4 p1 ((0 : Int32).toNatClampNeg + i))) <| xlt (yc h4 w1 (va_cpy (xi h4 p1) (xi h4 w1) (0 : Int32).toNatClampNeg (0 : Int32).toNatClampNeg (v3 : Int32).toNatClampNeg)) fun h5 => xv w1 h5)
theorem CJ7_copyOf_9075b (E : XG) (p1 : Nat) (p2 : Int32) (h : XH) : XN E mJ7_copyOf_9075b eR 1 0 [.ref p1, .int p2] h (FJ7_copyOf_9075b E p1 p2 h) := by
  unfold FJ7_copyOf_9075b
  refine S_enter (L := [some (.ref p1), some (.int p2), none]) (by decide +kernel) rfl rfl rfl ?_
  refine S_iload_1 0 dJ7_copyOf_9075b_0 ?_
  refine S_aload_0 1 dJ7_copyOf_9075b_1 ?_
  refine S_alen 2 11 0 (by decide) rfl dJ7_copyOf_9075b_2 ?_
  refine S_icmpne 3 14 dJ7_copyOf_9075b_3 (by decide) ?_ ?_
  · skip
    refine S_iload_1 14 dJ7_copyOf_9075b_14 ?_
    refine S_newG_byte 15 ar11 dJ7_copyOf_9075b_15 (fun w1 h2 => ?_)
    refine S_astore_2 17 dJ7_copyOf_9075b_17 rfl ?_
    refine S_aload_0 18 dJ7_copyOf_9075b_18 ?_
    refine S_ic 19 0 dJ7_copyOf_9075b_19 (by decide) ?_
    refine S_aload_2 20 dJ7_copyOf_9075b_20 ?_
    refine S_ic 21 0 dJ7_copyOf_9075b_21 (by decide) ?_
    refine S_aload_0 22 dJ7_copyOf_9075b_22 ?_
    refine S_alen 23 11 0 (by decide) rfl dJ7_copyOf_9075b_23 ?_
    refine S_iload_1 24 dJ7_copyOf_9075b_24 ?_
    refine S_callS (a' := 0) (b' := 0) (a := 0) (b := 0) 25 (As := [.int (Int32.ofNat (xn h2 p1)), .int p2]) rfl calJ9_min_7cf53 stJ9_min_7cf53 mkJ7_304 rfl rfl rfl rfl rfl dJ7_copyOf_9075b_25 (CJ9_min_7cf53 E (Int32.ofNat (xn h2 p1)) p2 h2) (fun v3 h4 => kqI ?_)
    refine S_bcopy (M := mJ7_copyOf_9075b) (own := RJ7) 28 rfl acJ7_150 acN acS acI (by decide) (by exact Nat.le_of_ble_eq_true rfl) dJ7_copyOf_9075b_28 (fun h5 => ?_)
    refine S_aload_2 31 dJ7_copyOf_9075b_31 ?_
    exact S_areta 32 dJ7_copyOf_9075b_32 rfl
  · skip
    refine S_aload_0 6 dJ7_copyOf_9075b_6 ?_
    refine S_clone 7 rfl clJ7_310 clS clN clI clE (by decide) (by exact Nat.le_of_ble_eq_true rfl) dJ7_copyOf_9075b_7 (fun w6 h7 => ?_)
    refine S_castB 10 rfl cbJ7_311 dJ7_copyOf_9075b_10 ?_
    exact S_areta 13 dJ7_copyOf_9075b_13 rfl
def FJ5_ensureCapacityInternal_d00df (E : XG) (t : Nat) (p1 : Int32) (h : XH) : XP Unit := xg (xk h t = 24) <| xnn (xr h t 0) fun w1 => xg (xk h w1 = 11) <| xg (xk h t = 24) <| xlt ((Int32.ofNat (xn h w1)) >>> ((xi h t 1) &&& 31)) fun v2 => xjn (fun  (h3 : XH) => xv () h3) fun (j38 : XH → XP Unit) => if ((p1 - v2) : Int32) ≤ 0 then (j38 h) else (xg (xk h t = 24) <| xnn (xr h t 0) fun w4 => xg (xk h t = 24) <| xb (FJ5_newCapacity_0f7a4 E t p1 h) fun v5 h6 => xg (xk h6 t = 24) <| xb (FJ7_copyOf_9075b E w4 (v5 <<< ((xi h6 t 1) &&& 31)) h6) fun v7 h8 => xg (xk h8 t = 24) <| xlt (yr h8 t 0 (some v7)) fun h9 => j38 h9)
theorem CJ5_ensureCapacityInternal_d00df (E : XG) (t : Nat) (p1 : Int32) (h : XH) : XN E mJ5_ensureCapacityInternal_d00df eU 1 0 [.ref t, .int p1] h (FJ5_ensureCapacityInternal_d00df E t p1 h) := by
  unfold FJ5_ensureCapacityInternal_d00df
  refine S_enter (L := [some (.ref t), some (.int p1), none]) (by decide +kernel) rfl rfl rfl ?_
  refine S_aload_0 0 dJ5_ensureCapacityInternal_d00df_0 ?_
  refine S_getR 1 fsJ5_15 rfl dJ5_ensureCapacityInternal_d00df_1 (fun w1 => ?_)
  refine S_alen 4 11 0 (by decide) rfl dJ5_ensureCapacityInternal_d00df_4 ?_
  refine S_aload_0 5 dJ5_ensureCapacityInternal_d00df_5 ?_
  refine S_getI 6 fsJ5_22 rfl dJ5_ensureCapacityInternal_d00df_6 ?_
  refine S_ishr 9 dJ5_ensureCapacityInternal_d00df_9 ?_
  refine S_gen (fun v2 => ?_)
  refine S_istore_2 10 dJ5_ensureCapacityInternal_d00df_10 rfl ?_
  refine S_iload_1 11 dJ5_ensureCapacityInternal_d00df_11 ?_
  refine S_iload_2 12 dJ5_ensureCapacityInternal_d00df_12 ?_
  refine S_isub 13 dJ5_ensureCapacityInternal_d00df_13 ?_
  refine S_join (fun jj => ∀  (h3 : XH), XS E mJ5_ensureCapacityInternal_d00df eU 1 0 38 [none, none, none] [] h3 (jj  h3)) (fun  h3 => ?_) (fun j38 hj38 => ?_)
  · skip
    exact S_ret 38 dJ5_ensureCapacityInternal_d00df_38 rfl
  refine S_ifle 14 38 dJ5_ensureCapacityInternal_d00df_14 (by decide) ?_ ?_
  · skip
    exact S_drop [0, 1, 2] rfl (hj38 _)
  · skip
    refine S_aload_0 17 dJ5_ensureCapacityInternal_d00df_17 ?_
    refine S_aload_0 18 dJ5_ensureCapacityInternal_d00df_18 ?_
    refine S_getR 19 fsJ5_15 rfl dJ5_ensureCapacityInternal_d00df_19 (fun w4 => ?_)
    refine S_aload_0 22 dJ5_ensureCapacityInternal_d00df_22 ?_
    refine S_iload_1 23 dJ5_ensureCapacityInternal_d00df_23 ?_
    refine S_callU (a' := 0) (b' := 0) (a := 1) (b := 0) 24 (As := [.int p1]) rfl calJ5_newCapacity_0f7a4 calJ5_newCapacity_0f7a4 imJ5_newCapacity_0f7a4 imJ5_newCapacity_0f7a4 smJ5_newCapacity_0f7a4 (fun U q => q.2.2.1.2.2.2.2.2.2 _ (List.mem_of_getElem? (i := 1) rfl)) mkJ5_104 rfl rfl rfl rfl rfl dJ5_ensureCapacityInternal_d00df_24 (CJ5_newCapacity_0f7a4 E t p1 h) (fun v5 h6 => kqI ?_)
    refine S_aload_0 27 dJ5_ensureCapacityInternal_d00df_27 ?_
    refine S_getI 28 fsJ5_22 rfl dJ5_ensureCapacityInternal_d00df_28 ?_
    refine S_ishl 31 dJ5_ensureCapacityInternal_d00df_31 ?_
    refine S_callS (a' := 1) (b' := 0) (a := 0) (b := 0) 32 (As := [.ref w4, .int (v5 <<< ((xi h6 t 1) &&& 31))]) rfl calJ7_copyOf_9075b stJ7_copyOf_9075b mkJ5_108 rfl rfl rfl rfl rfl dJ5_ensureCapacityInternal_d00df_32 (CJ7_copyOf_9075b E w4 (v5 <<< ((xi h6 t 1) &&& 31)) h6) (fun v7 h8 => kqR ?_)
    refine S_putR 35 frJ5_15 rfl rfl (fun q => by cases q) dJ5_ensureCapacityInternal_d00df_35 (fun h9 => ?_)
    exact S_drop [0, 1, 2] rfl (hj38 _)
def FJ5_inflateIfNeededFor_a7421 (E : XG) (t : Nat) (p1 : Nat) (h : XH) : XP Unit := xjn (fun  (h1 : XH) => xv () h1) fun (j21 : XH → XP Unit) => if (1 : Int32) = 0 then (j21 h) else (xg (xk h t = 24) <| xg (p1 < nJS) <| xb (FJ0_coder p1  h) fun v2 h3 => if ((xi h t 1) : Int32) = v2 then (j21 h3) else none)
theorem CJ5_inflateIfNeededFor_a7421 (E : XG) (t : Nat) (p1 : Nat) (h : XH) : XN E mJ5_inflateIfNeededFor_a7421 eU 0 0 [.ref t, .ref (eK E p1)] h (FJ5_inflateIfNeededFor_a7421 E t p1 h) := by
  unfold FJ5_inflateIfNeededFor_a7421
  refine S_enter (L := [some (.ref t), some (.ref (eK E p1))]) (by decide +kernel) rfl rfl rfl ?_
  refine S_compact 0 rfl ⟨List.mem_of_getElem? (i := 420) (by decide +kernel), rfl⟩ dJ5_inflateIfNeededFor_a7421_0 ?_
  refine S_join (fun jj => ∀  (h1 : XH), XS E mJ5_inflateIfNeededFor_a7421 eU 0 0 21 [none, none] [] h1 (jj  h1)) (fun  h1 => ?_) (fun j21 hj21 => ?_)
  · skip
    exact S_ret 21 dJ5_inflateIfNeededFor_a7421_21 rfl
  refine S_ifeq 3 21 dJ5_inflateIfNeededFor_a7421_3 (by decide) ?_ ?_
  · skip
    exact S_drop [0, 1] rfl (hj21 _)
  · skip
    refine S_aload_0 6 dJ5_inflateIfNeededFor_a7421_6 ?_
    refine S_getI 7 fsJ5_22 rfl dJ5_inflateIfNeededFor_a7421_7 ?_
    refine S_aload_1 10 dJ5_inflateIfNeededFor_a7421_10 ?_
    refine S_g (fun hi9 => S_callVS (a' := 0) (b' := 0) (a := 0) (b := 0) 11 p1 (As := []) rfl hi9 calJ0_coder_7d493 rfl imJ0_coder_7d493 seJ0_coder_7d493 mkJ5_40 rfl rfl rfl rfl rfl dJ5_inflateIfNeededFor_a7421_11 (CJ0_coder E p1  h) (fun v2 h3 => kqI ?_))
    refine S_icmpeq 14 21 dJ5_inflateIfNeededFor_a7421_14 (by decide) ?_ ?_
    · skip
      exact S_drop [0, 1] rfl (hj21 _)
    · skip
      refine S_aload_0 17 dJ5_inflateIfNeededFor_a7421_17 ?_
      exact S_none
def FJ0_getBytes_840e7 (E : XG) (t : Nat) (p1 : Nat) (p2 : Int32) (p3 : Int32) (h : XH) : XP Unit := xg (t < nJS) <| xb (FJ0_coder t  h) fun v1 h2 => if (v1 : Int32) = p3 then (xg (t < nJS) <| xg (t < nJS) <| xg (t < nJS) <| xg ((t < nJS ∧ xk h2 p1 = 11) ∧ ((0 : Int32) ≤ 0 ∧ (0 : Int32) ≤ (p2 <<< (p3 &&& 31)) ∧ (0 : Int32) ≤ (Int32.ofNat (lenJS.getD t 0))) ∧ (0 : Int32).toNatClampNeg + ((Int32.ofNat (lenJS.getD t 0)) : Int32).toNatClampNeg ≤ lenJS.getD t 0 ∧ ((p2 <<< (p3 &&& 31)) : Int32).toNatClampNeg + ((Int32.ofNat (lenJS.getD t 0)) : Int32).toNatClampNeg ≤ xn h2 p1 ∧ ∀ i, i < ((Int32.ofNat (lenJS.getD t 0)) : Int32).toNatClampNeg → xby ((bytJS.getD t []).getD ((0 : Int32).toNatClampNeg + i) 0)) <| xlt (yc h2 p1 (va_cpy (fun j => (bytJS.getD t []).getD j 0) (xi h2 p1) (0 : Int32).toNatClampNeg ((p2 <<< (p3 &&& 31)) : Int32).toNatClampNeg ((Int32.ofNat (lenJS.getD t 0)) : Int32).toNatClampNeg)) fun h3 => xv () h3) else (xg (t < nJS) <| xg (t < nJS) <| xg (t < nJS) <| none)
theorem CJ0_getBytes_840e7 (E : XG) (t : Nat) (p1 : Nat) (p2 : Int32) (p3 : Int32) (h : XH) : XN E mJ0_getBytes_840e7 eU 0 0 [.ref (eK E t), .ref p1, .int p2, .int p3] h (FJ0_getBytes_840e7 E t p1 p2 p3 h) := by
  unfold FJ0_getBytes_840e7
  refine S_enter (L := [some (.ref (eK E t)), some (.ref p1), some (.int p2), some (.int p3)]) (by decide +kernel) rfl rfl rfl ?_
  refine S_aload_0 0 dJ0_getBytes_840e7_0 ?_
  refine S_g (fun hi9 => S_callVS (a' := 0) (b' := 0) (a := 0) (b := 0) 1 t (As := []) rfl hi9 calJ0_coder_7d493 rfl imJ0_coder_7d493 seJ0_coder_7d493 mkJ0_335 rfl rfl rfl rfl rfl dJ0_getBytes_840e7_1 (CJ0_coder E t  h) (fun v1 h2 => kqI ?_))
  refine S_iload_3 4 dJ0_getBytes_840e7_4 ?_
  refine S_icmpne 5 28 dJ0_getBytes_840e7_5 (by decide) ?_ ?_
  · skip
    refine S_aload_0 28 dJ0_getBytes_840e7_28 ?_
    refine S_g (fun hi9 => S_getsv 29 t hi9 rfl fkJ0_9 dJ0_getBytes_840e7_29 ?_)
    refine S_ic 32 0 dJ0_getBytes_840e7_32 (by decide) ?_
    refine S_aload_1 33 dJ0_getBytes_840e7_33 ?_
    refine S_iload_2 34 dJ0_getBytes_840e7_34 ?_
    refine S_aload_0 35 dJ0_getBytes_840e7_35 ?_
    refine S_g (fun hi9 => S_getsv 36 t hi9 rfl fkJ0_9 dJ0_getBytes_840e7_36 ?_)
    refine S_g (fun hi9 => S_slen 39 t hi9 dJ0_getBytes_840e7_39 ?_)
    exact S_none
  · skip
    refine S_aload_0 8 dJ0_getBytes_840e7_8 ?_
    refine S_g (fun hi9 => S_getsv 9 t hi9 rfl fkJ0_9 dJ0_getBytes_840e7_9 ?_)
    refine S_ic 12 0 dJ0_getBytes_840e7_12 (by decide) ?_
    refine S_aload_1 13 dJ0_getBytes_840e7_13 ?_
    refine S_iload_2 14 dJ0_getBytes_840e7_14 ?_
    refine S_iload_3 15 dJ0_getBytes_840e7_15 ?_
    refine S_ishl 16 dJ0_getBytes_840e7_16 ?_
    refine S_aload_0 17 dJ0_getBytes_840e7_17 ?_
    refine S_g (fun hi9 => S_getsv 18 t hi9 rfl fkJ0_9 dJ0_getBytes_840e7_18 ?_)
    refine S_g (fun hi9 => S_slen 21 t hi9 dJ0_getBytes_840e7_21 ?_)
    refine S_kcopy (M := mJ0_getBytes_840e7) (own := RJ0) 22 rfl acJ0_212 acN acS acI (by decide) (by exact Nat.le_of_ble_eq_true rfl) dJ0_getBytes_840e7_22 (fun h3 => ?_)
    refine S_goto 25 43 dJ0_getBytes_840e7_25 (by decide) ?_
    exact S_ret 43 dJ0_getBytes_840e7_43 rfl
def FJ5_putStringAt_47b60 (E : XG) (t : Nat) (p1 : Int32) (p2 : Nat) (h : XH) : XP Unit := xg (xk h t = 24) <| xb (FJ5_inflateIfNeededFor_a7421 E t p2 h) fun _ h1 => xg (xk h1 t = 24) <| xnn (xr h1 t 0) fun w2 => xg (xk h1 t = 24) <| xg (p2 < nJS) <| xb (FJ0_getBytes_840e7 E p2 w2 p1 (xi h1 t 1) h1) fun _ h3 => xv () h3
theorem CJ5_putStringAt_47b60 (E : XG) (t : Nat) (p1 : Int32) (p2 : Nat) (h : XH) : XN E mJ5_putStringAt_47b60 eU 0 0 [.ref t, .int p1, .ref (eK E p2)] h (FJ5_putStringAt_47b60 E t p1 p2 h) := by
  unfold FJ5_putStringAt_47b60
  refine S_enter (L := [some (.ref t), some (.int p1), some (.ref (eK E p2))]) (by decide +kernel) rfl rfl rfl ?_
  refine S_aload_0 0 dJ5_putStringAt_47b60_0 ?_
  refine S_aload_2 1 dJ5_putStringAt_47b60_1 ?_
  refine S_callU (a' := 0) (b' := 0) (a := 0) (b := 0) 2 (As := [.ref (eK E p2)]) rfl calJ5_inflateIfNeededFor_a7421 calJ5_inflateIfNeededFor_a7421 imJ5_inflateIfNeededFor_a7421 imJ5_inflateIfNeededFor_a7421 smJ5_inflateIfNeededFor_a7421 (fun U q => q.2.2.1.2.2.2.2.2.2 _ (List.mem_of_getElem? (i := 3) rfl)) mkJ5_397 rfl rfl rfl rfl rfl dJ5_putStringAt_47b60_2 (CJ5_inflateIfNeededFor_a7421 E t p2 h) (fun _ h1 => kqU ?_)
  refine S_aload_2 5 dJ5_putStringAt_47b60_5 ?_
  refine S_aload_0 6 dJ5_putStringAt_47b60_6 ?_
  refine S_getR 7 fsJ5_15 rfl dJ5_putStringAt_47b60_7 (fun w2 => ?_)
  refine S_iload_1 10 dJ5_putStringAt_47b60_10 ?_
  refine S_aload_0 11 dJ5_putStringAt_47b60_11 ?_
  refine S_getI 12 fsJ5_22 rfl dJ5_putStringAt_47b60_12 ?_
  refine S_g (fun hi9 => S_callVS (a' := 0) (b' := 0) (a := 0) (b := 0) 15 p2 (As := [.ref w2, .int p1, .int (xi h1 t 1)]) rfl hi9 calJ0_getBytes_840e7 rfl imJ0_getBytes_840e7 seJ0_getBytes_840e7 mkJ5_399 rfl rfl rfl rfl rfl dJ5_putStringAt_47b60_15 (CJ0_getBytes_840e7 E p2 w2 p1 (xi h1 t 1) h1) (fun _ h3 => kqU ?_))
  exact S_ret 18 dJ5_putStringAt_47b60_18 rfl
def FJ5_append_cf1ce (E : XG) (t : Nat) (p1 : Nat) (h : XH) : XP Nat := xg (p1 < nJS) <| xb (FJ0_length p1  h) fun v1 h2 => xg (xk h2 t = 24) <| xg (xk h2 t = 24) <| xb (FJ5_ensureCapacityInternal_d00df E t ((xi h2 t 3) + v1) h2) fun _ h3 => xg (xk h3 t = 24) <| xg (xk h3 t = 24) <| xb (FJ5_putStringAt_47b60 E t (xi h3 t 3) p1 h3) fun _ h4 => xg (xk h4 t = 24) <| xg (xk h4 t = 24) <| xlt (yi h4 t 3 ((xi h4 t 3) + v1)) fun h5 => xv t h5
theorem CJ5_append_cf1ce (E : XG) (t : Nat) (p1 : Nat) (h : XH) : XN E mJ5_append_cf1ce eR 1 0 [.ref t, .ref (eK E p1)] h (FJ5_append_cf1ce E t p1 h) := by
  unfold FJ5_append_cf1ce
  refine S_enter (L := [some (.ref t), some (.ref (eK E p1)), none]) (by decide +kernel) rfl rfl rfl ?_
  refine S_aload_1 0 dJ5_append_cf1ce_0 ?_
  refine S_ifnn 1 9 dJ5_append_cf1ce_1 (by decide) ?_
  refine S_aload_1 9 dJ5_append_cf1ce_9 ?_
  refine S_g (fun hi9 => S_callVS (a' := 0) (b' := 0) (a := 1) (b := 0) 10 p1 (As := []) rfl hi9 calJ0_length_8abf5 rfl imJ0_length_8abf5 seJ0_length_8abf5 mkJ5_32 rfl rfl rfl rfl rfl dJ5_append_cf1ce_10 (CJ0_length E p1  h) (fun v1 h2 => kqI ?_))
  refine S_istore_2 13 dJ5_append_cf1ce_13 rfl ?_
  refine S_aload_0 14 dJ5_append_cf1ce_14 ?_
  refine S_aload_0 15 dJ5_append_cf1ce_15 ?_
  refine S_getI 16 fsJ5_79 rfl dJ5_append_cf1ce_16 ?_
  refine S_iload_2 19 dJ5_append_cf1ce_19 ?_
  refine S_iadd 20 dJ5_append_cf1ce_20 ?_
  refine S_callU (a' := 1) (b' := 0) (a := 0) (b := 0) 21 (As := [.int ((xi h2 t 3) + v1)]) rfl calJ5_ensureCapacityInternal_d00df calJ5_ensureCapacityInternal_d00df imJ5_ensureCapacityInternal_d00df imJ5_ensureCapacityInternal_d00df smJ5_ensureCapacityInternal_d00df (fun U q => q.2.2.1.2.2.2.2.2.2 _ (List.mem_of_getElem? (i := 0) rfl)) mkJ5_100 rfl rfl rfl rfl rfl dJ5_append_cf1ce_21 (CJ5_ensureCapacityInternal_d00df E t ((xi h2 t 3) + v1) h2) (fun _ h3 => kqU ?_)
  refine S_aload_0 24 dJ5_append_cf1ce_24 ?_
  refine S_aload_0 25 dJ5_append_cf1ce_25 ?_
  refine S_getI 26 fsJ5_79 rfl dJ5_append_cf1ce_26 ?_
  refine S_aload_1 29 dJ5_append_cf1ce_29 ?_
  refine S_callU (a' := 0) (b' := 0) (a := 0) (b := 0) 30 (As := [.int (xi h3 t 3), .ref (eK E p1)]) rfl calJ5_putStringAt_47b60 calJ5_putStringAt_47b60 imJ5_putStringAt_47b60 imJ5_putStringAt_47b60 smJ5_putStringAt_47b60 (fun U q => q.2.2.1.2.2.2.2.2.2 _ (List.mem_of_getElem? (i := 2) rfl)) mkJ5_208 rfl rfl rfl rfl rfl dJ5_append_cf1ce_30 (CJ5_putStringAt_47b60 E t (xi h3 t 3) p1 h3) (fun _ h4 => kqU ?_)
  refine S_aload_0 33 dJ5_append_cf1ce_33 ?_
  refine S_dup 34 dJ5_append_cf1ce_34 rfl ?_
  refine S_getI 35 fsJ5_79 rfl dJ5_append_cf1ce_35 ?_
  refine S_iload_2 38 dJ5_append_cf1ce_38 ?_
  refine S_iadd 39 dJ5_append_cf1ce_39 ?_
  refine S_putI 40 frJ5_79 rfl (fun q => by cases q) dJ5_append_cf1ce_40 (fun h5 => ?_)
  refine S_aload_0 43 dJ5_append_cf1ce_43 ?_
  exact S_aret 44 dJ5_append_cf1ce_44 rfl
def FJ4_append_15ec4 (E : XG) (t : Nat) (p1 : Nat) (h : XH) : XP Nat := xg (xk h t = 24) <| xb (FJ5_append_cf1ce E t p1 h) fun v1 h2 => xv t h2
theorem CJ4_append_15ec4 (E : XG) (t : Nat) (p1 : Nat) (h : XH) : XN E mJ4_append_15ec4 eR 1 0 [.ref t, .ref (eK E p1)] h (FJ4_append_15ec4 E t p1 h) := by
  unfold FJ4_append_15ec4
  refine S_enter (L := [some (.ref t), some (.ref (eK E p1))]) (by decide +kernel) rfl rfl rfl ?_
  refine S_aload_0 0 dJ4_append_15ec4_0 ?_
  refine S_aload_1 1 dJ4_append_15ec4_1 ?_
  refine S_callSU (a' := 1) (b' := 0) (a := 0) (b := 0) 2 (As := [.ref (eK E p1)]) rfl calJ5_append_cf1ce (by decide) imJ5_append_cf1ce smJ5_append_cf1ce supSB mkJ4_29 rfl rfl rfl rfl rfl dJ4_append_15ec4_2 (CJ5_append_cf1ce E t p1 h) (fun v1 h2 => kqR ?_)
  refine S_pop 5 dJ4_append_15ec4_5 rfl ?_
  refine S_aload_0 6 dJ4_append_15ec4_6 ?_
  exact S_aret 7 dJ4_append_15ec4_7 rfl
def FJ4_append_cf1ce (E : XG) (t : Nat) (p1 : Nat) (h : XH) : XP Nat := xg (xk h t = 24) <| xb (FJ4_append_15ec4 E t p1 h) fun v1 h2 => xv v1 h2
theorem CJ4_append_cf1ce (E : XG) (t : Nat) (p1 : Nat) (h : XH) : XN E mJ4_append_cf1ce eR 1 0 [.ref t, .ref (eK E p1)] h (FJ4_append_cf1ce E t p1 h) := by
  unfold FJ4_append_cf1ce
  refine S_enter (L := [some (.ref t), some (.ref (eK E p1))]) (by decide +kernel) rfl rfl rfl ?_
  refine S_aload_0 0 dJ4_append_cf1ce_0 ?_
  refine S_aload_1 1 dJ4_append_cf1ce_1 ?_
  refine S_callV (a' := 1) (b' := 0) (a := 0) (b := 0) 2 (As := [.ref (eK E p1)]) (ci := 23) rfl calJ4_append_15ec4 imJ4_append_15ec4 seJ4_append_15ec4 mkJ4_23 rfl rfl rfl rfl rfl (by decide) rfl rfl dJ4_append_cf1ce_2 (CJ4_append_15ec4 E t p1 h) (fun v1 h2 => kqR ?_)
  exact S_aret 5 dJ4_append_cf1ce_5 rfl
def FJ5_init_a7421 (E : XG) (t : Nat) (p1 : Nat) (h : XH) : XP Unit := xg (p1 < nJS) <| xb (FJ0_length p1  h) fun v1 h2 => xjn (fun (v3 : Int32) (h4 : XH) => xg (p1 < nJS) <| xb (FJ0_coder p1  h4) fun v5 h6 => xg (xk h6 t = 24 ∧ (v5 : Int32) = 0) <| xlt (yi h6 t 1 v5) fun h7 => if (v5 : Int32) = 0 then (xg ((0 : Int32) ≤ v3 ∧ (v3 : Int32).toNatClampNeg ≤ 60000000) <| xal h7 11 (v3 : Int32).toNatClampNeg fun w8 h9 => xg (xk h9 t = 24) <| xlt (yr h9 t 0 (some w8)) fun h10 => xg (xk h10 t = 24) <| xb (FJ4_append_cf1ce E t p1 h10) fun v11 h12 => xv () h12) else none) fun (j24 : Int32 → XH → XP Unit) => if (2147483631 : Int32) ≤ v1 then (j24 2147483647 h2) else (j24 (v1 + 16) h2)
theorem CJ5_init_a7421 (E : XG) (t : Nat) (p1 : Nat) (h : XH) : XN E mJ5_init_a7421 eU 2 0 [.ref t, .ref (eK E p1)] h (FJ5_init_a7421 E t p1 h) := by
  unfold FJ5_init_a7421
  refine S_enter (L := [some (.ref t), some (.ref (eK E p1)), none, none, none]) (by decide +kernel) rfl rfl rfl ?_
  refine S_aload_0 0 dJ5_init_a7421_0 ?_
  refine S_objinit 1 rfl oiJ5_3 oiI oiC (by decide) (by decide) (by exact Nat.le_of_ble_eq_true rfl) dJ5_init_a7421_1 ?_
  refine S_aload_1 4 dJ5_init_a7421_4 ?_
  refine S_g (fun hi9 => S_callVS (a' := 0) (b' := 0) (a := 2) (b := 0) 5 p1 (As := []) rfl hi9 calJ0_length_8abf5 rfl imJ0_length_8abf5 seJ0_length_8abf5 mkJ5_32 rfl rfl rfl rfl rfl dJ5_init_a7421_5 (CJ0_length E p1  h) (fun v1 h2 => kqI ?_))
  refine S_istore_2 8 dJ5_init_a7421_8 rfl ?_
  refine S_iload_2 9 dJ5_init_a7421_9 ?_
  refine S_ldci 10 (v := 2147483631) rfl ⟨List.mem_of_getElem? (i := 354) (by decide +kernel), rfl⟩ dJ5_init_a7421_10 ?_
  refine S_join (fun jj => ∀ (v3 : Int32) (h4 : XH), XS E mJ5_init_a7421 eU 2 0 24 [some (.ref t), some (.ref (eK E p1)), none, none, none] [.int v3] h4 (jj v3 h4)) (fun v3 h4 => ?_) (fun j24 hj24 => ?_)
  · skip
    refine S_istore_3 24 dJ5_init_a7421_24 rfl ?_
    refine S_aload_1 25 dJ5_init_a7421_25 ?_
    refine S_g (fun hi9 => S_callVS (a' := 0) (b' := 0) (a := 2) (b := 0) 26 p1 (As := []) rfl hi9 calJ0_coder_7d493 rfl imJ0_coder_7d493 seJ0_coder_7d493 mkJ5_40 rfl rfl rfl rfl rfl dJ5_init_a7421_26 (CJ0_coder E p1  h4) (fun v5 h6 => kqI ?_))
    refine S_istore_4 29 dJ5_init_a7421_29 rfl ?_
    refine S_aload_0 31 dJ5_init_a7421_31 ?_
    refine S_iload_4 32 dJ5_init_a7421_32 ?_
    refine S_putB 34 frJ5_22 rfl (fun q => by cases q) dJ5_init_a7421_34 (fun h7 => ?_)
    refine S_aload_0 37 dJ5_init_a7421_37 ?_
    refine S_iload_4 38 dJ5_init_a7421_38 ?_
    refine S_ifne 40 49 dJ5_init_a7421_40 (by decide) ?_ ?_
    · skip
      refine S_iload_3 49 dJ5_init_a7421_49 ?_
      exact S_none
    · skip
      refine S_iload_3 43 dJ5_init_a7421_43 ?_
      refine S_newG_byte 44 ar11 dJ5_init_a7421_44 (fun w8 h9 => ?_)
      refine S_goto 46 53 dJ5_init_a7421_46 (by decide) ?_
      refine S_putR 53 frJ5_15 rfl rfl (fun q => by cases q) dJ5_init_a7421_53 (fun h10 => ?_)
      refine S_aload_0 56 dJ5_init_a7421_56 ?_
      refine S_aload_1 57 dJ5_init_a7421_57 ?_
      refine S_callU (a' := 1) (b' := 0) (a := 0) (b := 0) 58 (As := [.ref (eK E p1)]) rfl calJ5_append_cf1ce calJ4_append_cf1ce imJ5_append_cf1ce imJ4_append_cf1ce smJ5_append_cf1ce (fun U q => q.word ssJ5_append_cf1ce #[]) mkJ5_43 rfl rfl rfl rfl rfl dJ5_init_a7421_58 (CJ4_append_cf1ce E t p1 h10) (fun v11 h12 => kqR ?_)
      refine S_pop 61 dJ5_init_a7421_61 rfl ?_
      exact S_ret 62 dJ5_init_a7421_62 rfl
  refine S_icmpge 12 22 dJ5_init_a7421_12 (by decide) ?_ ?_
  · skip
    refine S_ldci 22 (v := 2147483647) rfl ⟨List.mem_of_getElem? (i := 355) (by decide +kernel), rfl⟩ dJ5_init_a7421_22 ?_
    exact S_drop [2] rfl (hj24 _ _)
  · skip
    refine S_iload_2 15 dJ5_init_a7421_15 ?_
    refine S_bip 16 16 dJ5_init_a7421_16 (by decide) ?_
    refine S_iadd 18 dJ5_init_a7421_18 ?_
    refine S_goto 19 24 dJ5_init_a7421_19 (by decide) ?_
    exact S_drop [2] rfl (hj24 _ _)
def FJ4_init_a7421 (E : XG) (t : Nat) (p1 : Nat) (h : XH) : XP Unit := xb (FJ5_init_a7421 E t p1 h) fun _ h1 => xv () h1
theorem CJ4_init_a7421 (E : XG) (t : Nat) (p1 : Nat) (h : XH) : XN E mJ4_init_a7421 eU 2 0 [.ref t, .ref (eK E p1)] h (FJ4_init_a7421 E t p1 h) := by
  unfold FJ4_init_a7421
  refine S_enter (L := [some (.ref t), some (.ref (eK E p1))]) (by decide +kernel) rfl rfl rfl ?_
  refine S_aload_0 0 dJ4_init_a7421_0 ?_
  refine S_aload_1 1 dJ4_init_a7421_1 ?_
  refine S_callI (a' := 2) (b' := 0) (a := 0) (b := 0) 2 (As := [.ref (eK E p1)]) rfl calJ5_init_a7421 rfl rfl imJ5_init_a7421 mkJ4_7 rfl rfl rfl rfl rfl dJ4_init_a7421_2 (CJ5_init_a7421 E t p1 h) (fun _ h1 => kqU ?_)
  exact S_ret 5 dJ4_init_a7421_5 rfl
def FJ5_isLatin1_aae02 (E : XG) (t : Nat) (h : XH) : XP Int32 := xjn (fun (v1 : Int32) (h2 : XH) => xg ((v1 : Int32) = 0 ∨ (v1 : Int32) = 1) <| xv v1 h2) fun (j18 : Int32 → XH → XP Int32) => xjn (fun  (h3 : XH) => j18 0 h3) fun (j17 : XH → XP Int32) => if (1 : Int32) = 0 then (j17 h) else (xg (xk h t = 24) <| if ((xi h t 1) : Int32) = 0 then (j18 1 h) else (j17 h))
theorem CJ5_isLatin1_aae02 (E : XG) (t : Nat) (h : XH) : XN E mJ5_isLatin1_aae02 eI 0 0 [.ref t] h (FJ5_isLatin1_aae02 E t h) := by
  unfold FJ5_isLatin1_aae02
  refine S_enter (L := [some (.ref t)]) (by decide +kernel) rfl rfl rfl ?_
  refine S_compact 0 rfl ⟨List.mem_of_getElem? (i := 420) (by decide +kernel), rfl⟩ dJ5_isLatin1_aae02_0 ?_
  refine S_join (fun jj => ∀ (v1 : Int32) (h2 : XH), XS E mJ5_isLatin1_aae02 eI 0 0 18 [none] [.int v1] h2 (jj v1 h2)) (fun v1 h2 => ?_) (fun j18 hj18 => ?_)
  · skip
    exact S_zret 18 dJ5_isLatin1_aae02_18 rfl
  refine S_join (fun jj => ∀  (h3 : XH), XS E mJ5_isLatin1_aae02 eI 0 0 17 [none] [] h3 (jj  h3)) (fun  h3 => ?_) (fun j17 hj17 => ?_)
  · skip
    refine S_ic 17 0 dJ5_isLatin1_aae02_17 (by decide) ?_
    exact S_drop [] rfl (hj18 _ _)
  refine S_ifeq 3 17 dJ5_isLatin1_aae02_3 (by decide) ?_ ?_
  · skip
    exact S_drop [0] rfl (hj17 _)
  · skip
    refine S_aload_0 6 dJ5_isLatin1_aae02_6 ?_
    refine S_getI 7 fsJ5_22 rfl dJ5_isLatin1_aae02_7 ?_
    refine S_ifne 10 17 dJ5_isLatin1_aae02_10 (by decide) ?_ ?_
    · skip
      exact S_drop [0] rfl (hj17 _)
    · skip
      refine S_ic 13 1 dJ5_isLatin1_aae02_13 (by decide) ?_
      refine S_goto 14 18 dJ5_isLatin1_aae02_14 (by decide) ?_
      exact S_drop [0] rfl (hj18 _ _)
def FJ1_canEncode_fc78d (E : XG) (p1 : Int32) (h : XH) : XP Int32 := xjn (fun (v1 : Int32) (h2 : XH) => xg ((v1 : Int32) = 0 ∨ (v1 : Int32) = 1) <| xv v1 h2) fun (j12 : Int32 → XH → XP Int32) => if (255 : Int32) < p1 then (j12 0 h) else (j12 1 h)
theorem CJ1_canEncode_fc78d (E : XG) (p1 : Int32) (h : XH) : XN E mJ1_canEncode_fc78d eI 0 0 [.int p1] h (FJ1_canEncode_fc78d E p1 h) := by
  unfold FJ1_canEncode_fc78d
  refine S_enter (L := [some (.int p1)]) (by decide +kernel) rfl rfl rfl ?_
  refine S_iload_0 0 dJ1_canEncode_fc78d_0 ?_
  refine S_sip 1 255 dJ1_canEncode_fc78d_1 (by decide) ?_
  refine S_join (fun jj => ∀ (v1 : Int32) (h2 : XH), XS E mJ1_canEncode_fc78d eI 0 0 12 [none] [.int v1] h2 (jj v1 h2)) (fun v1 h2 => ?_) (fun j12 hj12 => ?_)
  · skip
    exact S_zret 12 dJ1_canEncode_fc78d_12 rfl
  refine S_icmpgt 4 11 dJ1_canEncode_fc78d_4 (by decide) ?_ ?_
  · skip
    refine S_ic 11 0 dJ1_canEncode_fc78d_11 (by decide) ?_
    exact S_drop [0] rfl (hj12 _ _)
  · skip
    refine S_ic 7 1 dJ1_canEncode_fc78d_7 (by decide) ?_
    refine S_goto 8 12 dJ1_canEncode_fc78d_8 (by decide) ?_
    exact S_drop [0] rfl (hj12 _ _)
def FJ5_append_3fe6f (E : XG) (t : Nat) (p1 : Int32) (h : XH) : XP Nat := xg (xk h t = 24) <| xg (xk h t = 24) <| xb (FJ5_ensureCapacityInternal_d00df E t ((xi h t 3) + 1) h) fun _ h1 => xg (xk h1 t = 24) <| xb (FJ5_isLatin1_aae02 E t  h1) fun v2 h3 => xjn (fun  (h4 : XH) => xg (xk h4 t = 24) <| xb (FJ5_isLatin1_aae02 E t  h4) fun v5 h6 => if (v5 : Int32) = 0 then (xg (xk h6 t = 24) <| xnn (xr h6 t 0) fun w7 => xg (xk h6 t = 24) <| xg (xk h6 t = 24) <| xlt (yi h6 t 3 ((xi h6 t 3) + 1)) fun h8 => none) else none) fun (j45 : XH → XP Nat) => if (v2 : Int32) = 0 then (j45 h3) else (xb (FJ1_canEncode_fc78d E p1 h3) fun v9 h10 => if (v9 : Int32) = 0 then (j45 h10) else (xg (xk h10 t = 24) <| xnn (xr h10 t 0) fun w11 => xg (xk h10 t = 24) <| xg (xk h10 t = 24) <| xlt (yi h10 t 3 ((xi h10 t 3) + 1)) fun h12 => xg (xk h12 w11 = 11 ∧ xin (xi h10 t 3) (xn h12 w11)) <| xlt (yi h12 w11 ((xi h10 t 3) : Int32).toNatClampNeg (vp_nar .byte (Int8.toInt32 (Int32.toInt8 p1)))) fun h13 => xv t h13))
theorem CJ5_append_3fe6f (E : XG) (t : Nat) (p1 : Int32) (h : XH) : XN E mJ5_append_3fe6f eR 1 0 [.ref t, .int p1] h (FJ5_append_3fe6f E t p1 h) := by
  unfold FJ5_append_3fe6f
  refine S_enter (L := [some (.ref t), some (.int p1)]) (by decide +kernel) rfl rfl rfl ?_
  refine S_aload_0 0 dJ5_append_3fe6f_0 ?_
  refine S_aload_0 1 dJ5_append_3fe6f_1 ?_
  refine S_getI 2 fsJ5_79 rfl dJ5_append_3fe6f_2 ?_
  refine S_ic 5 1 dJ5_append_3fe6f_5 (by decide) ?_
  refine S_iadd 6 dJ5_append_3fe6f_6 ?_
  refine S_callU (a' := 1) (b' := 0) (a := 0) (b := 0) 7 (As := [.int ((xi h t 3) + 1)]) rfl calJ5_ensureCapacityInternal_d00df calJ5_ensureCapacityInternal_d00df imJ5_ensureCapacityInternal_d00df imJ5_ensureCapacityInternal_d00df smJ5_ensureCapacityInternal_d00df (fun U q => q.2.2.1.2.2.2.2.2.2 _ (List.mem_of_getElem? (i := 0) rfl)) mkJ5_100 rfl rfl rfl rfl rfl dJ5_append_3fe6f_7 (CJ5_ensureCapacityInternal_d00df E t ((xi h t 3) + 1) h) (fun _ h1 => kqU ?_)
  refine S_aload_0 10 dJ5_append_3fe6f_10 ?_
  refine S_callU (a' := 0) (b' := 0) (a := 0) (b := 0) 11 (As := []) rfl calJ5_isLatin1_aae02 calJ5_isLatin1_aae02 imJ5_isLatin1_aae02 imJ5_isLatin1_aae02 smJ5_isLatin1_aae02 (fun U q => q.word ssJ5_isLatin1_aae02 #[]) mkJ5_83 rfl rfl rfl rfl rfl dJ5_append_3fe6f_11 (CJ5_isLatin1_aae02 E t  h1) (fun v2 h3 => kqI ?_)
  refine S_join (fun jj => ∀  (h4 : XH), XS E mJ5_append_3fe6f eR 0 0 45 [some (.ref t), some (.int p1)] [] h4 (jj  h4)) (fun  h4 => ?_) (fun j45 hj45 => ?_)
  · skip
    refine S_aload_0 45 dJ5_append_3fe6f_45 ?_
    refine S_callU (a' := 0) (b' := 0) (a := 0) (b := 0) 46 (As := []) rfl calJ5_isLatin1_aae02 calJ5_isLatin1_aae02 imJ5_isLatin1_aae02 imJ5_isLatin1_aae02 smJ5_isLatin1_aae02 (fun U q => q.word ssJ5_isLatin1_aae02 #[]) mkJ5_83 rfl rfl rfl rfl rfl dJ5_append_3fe6f_46 (CJ5_isLatin1_aae02 E t  h4) (fun v5 h6 => kqI ?_)
    refine S_ifeq 49 56 dJ5_append_3fe6f_49 (by decide) ?_ ?_
    · skip
      refine S_aload_0 56 dJ5_append_3fe6f_56 ?_
      refine S_getR 57 fsJ5_15 rfl dJ5_append_3fe6f_57 (fun w7 => ?_)
      refine S_aload_0 60 dJ5_append_3fe6f_60 ?_
      refine S_dup 61 dJ5_append_3fe6f_61 rfl ?_
      refine S_getI 62 fsJ5_79 rfl dJ5_append_3fe6f_62 ?_
      refine S_dup_x1 65 dJ5_append_3fe6f_65 rfl rfl ?_
      refine S_ic 66 1 dJ5_append_3fe6f_66 (by decide) ?_
      refine S_iadd 67 dJ5_append_3fe6f_67 ?_
      refine S_putI 68 frJ5_79 rfl (fun q => by cases q) dJ5_append_3fe6f_68 (fun h8 => ?_)
      refine S_iload_1 71 dJ5_append_3fe6f_71 ?_
      exact S_none
    · skip
      refine S_aload_0 52 dJ5_append_3fe6f_52 ?_
      exact S_none
  refine S_ifeq 14 45 dJ5_append_3fe6f_14 (by decide) ?_ ?_
  · skip
    exact S_drop [] rfl (hj45 _)
  · skip
    refine S_iload_1 17 dJ5_append_3fe6f_17 ?_
    refine S_callS (a' := 0) (b' := 0) (a := 0) (b := 0) 18 (As := [.int p1]) rfl calJ1_canEncode_fc78d stJ1_canEncode_fc78d mkJ5_191 rfl rfl rfl rfl rfl dJ5_append_3fe6f_18 (CJ1_canEncode_fc78d E p1 h3) (fun v9 h10 => kqI ?_)
    refine S_ifeq 21 45 dJ5_append_3fe6f_21 (by decide) ?_ ?_
    · skip
      exact S_drop [] rfl (hj45 _)
    · skip
      refine S_aload_0 24 dJ5_append_3fe6f_24 ?_
      refine S_getR 25 fsJ5_15 rfl dJ5_append_3fe6f_25 (fun w11 => ?_)
      refine S_aload_0 28 dJ5_append_3fe6f_28 ?_
      refine S_dup 29 dJ5_append_3fe6f_29 rfl ?_
      refine S_getI 30 fsJ5_79 rfl dJ5_append_3fe6f_30 ?_
      refine S_dup_x1 33 dJ5_append_3fe6f_33 rfl rfl ?_
      refine S_ic 34 1 dJ5_append_3fe6f_34 (by decide) ?_
      refine S_iadd 35 dJ5_append_3fe6f_35 ?_
      refine S_putI 36 frJ5_79 rfl (fun q => by cases q) dJ5_append_3fe6f_36 (fun h12 => ?_)
      refine S_iload_1 39 dJ5_append_3fe6f_39 ?_
      refine S_i2b 40 dJ5_append_3fe6f_40 ?_
      refine S_bast 41 dJ5_append_3fe6f_41 (fun h13 => ?_)
      refine S_goto 42 75 dJ5_append_3fe6f_42 (by decide) ?_
      refine S_aload_0 75 dJ5_append_3fe6f_75 ?_
      exact S_aret 76 dJ5_append_3fe6f_76 rfl
def FJ4_append_cf468 (E : XG) (t : Nat) (p1 : Int32) (h : XH) : XP Nat := xg (xk h t = 24) <| xb (FJ5_append_3fe6f E t p1 h) fun v1 h2 => xv t h2
theorem CJ4_append_cf468 (E : XG) (t : Nat) (p1 : Int32) (h : XH) : XN E mJ4_append_cf468 eR 1 0 [.ref t, .int p1] h (FJ4_append_cf468 E t p1 h) := by
  unfold FJ4_append_cf468
  refine S_enter (L := [some (.ref t), some (.int p1)]) (by decide +kernel) rfl rfl rfl ?_
  refine S_aload_0 0 dJ4_append_cf468_0 ?_
  refine S_iload_1 1 dJ4_append_cf468_1 ?_
  refine S_callSU (a' := 1) (b' := 0) (a := 0) (b := 0) 2 (As := [.int p1]) rfl calJ5_append_3fe6f (by decide) imJ5_append_3fe6f smJ5_append_3fe6f supSB mkJ4_50 rfl rfl rfl rfl rfl dJ4_append_cf468_2 (CJ5_append_3fe6f E t p1 h) (fun v1 h2 => kqR ?_)
  refine S_pop 5 dJ4_append_cf468_5 rfl ?_
  refine S_aload_0 6 dJ4_append_cf468_6 ?_
  exact S_aret 7 dJ4_append_cf468_7 rfl
def FL_dihedral (E : XG) (p1 : Int32) (h : XH) : XP Nat := xg (((0 : Int32) ≤ (2 * p1) ∧ (0 : Int32) ≤ (2 * p1)) ∧ ((2 * p1) : Int32).toNatClampNeg ≤ 1000 ∧ ((2 * p1) : Int32).toNatClampNeg ≤ 1000) <| xmg h ((2 * p1) : Int32).toNatClampNeg ((2 * p1) : Int32).toNatClampNeg fun w1 h2 => xlp (fun again13 (s13 : Int32) h3 => if ((2 * p1) : Int32) ≤ s13 then (xv w1 h3) else (xlp (fun again22 (s22 : Int32) h4 => if ((2 * p1) : Int32) ≤ s22 then (again13 (s13 + 1) h4) else (xjn (fun (v5 : Int32) (h6 : XH) => xg (xk h6 w1 = 18 ∧ xin s13 (xn h6 w1)) <| xnn (xr h6 w1 (s13 : Int32).toNatClampNeg) fun w7 => xg ((p1 : Int32) ≠ 0) <| xjn (fun (v8 : Int32) (h9 : XH) => xjn (fun (v10 : Int32) (h11 : XH) => xjn (fun (v12 : Int32) (h13 : XH) => xg (xk h13 w7 = 12 ∧ xin s22 (xn h13 w7)) <| xlt (yi h13 w7 (s22 : Int32).toNatClampNeg ((xrem v5 p1) + v12)) fun h14 => again22 (s22 + 1) h14) fun (j89 : Int32 → XH → XP Nat) => if (v8 : Int32) = v10 then (j89 0 h11) else (j89 p1 h11)) fun (j81 : Int32 → XH → XP Nat) => if (p1 : Int32) ≤ s22 then (j81 0 h9) else (j81 1 h9)) fun (j71 : Int32 → XH → XP Nat) => if (p1 : Int32) ≤ s13 then (j71 0 h6) else (j71 1 h6)) fun (j51 : Int32 → XH → XP Nat) => if (p1 : Int32) ≤ s13 then (xg ((p1 : Int32) ≠ 0) <| j51 (((s13 - p1) + p1) - (xrem s22 p1)) h4) else (xg ((p1 : Int32) ≠ 0) <| j51 (s13 + (xrem s22 p1)) h4))) xfu 0 h3)) xfu 0 h2
theorem CL_dihedral (E : XG) (p1 : Int32) (h : XH) : XN E mL_dihedral eR 0 0 [.int p1] h (FL_dihedral E p1 h) := by
  unfold FL_dihedral
  refine S_enter (L := [some (.int p1), none, none, none, none]) (by decide +kernel) rfl rfl rfl ?_
  refine S_ic 0 2 dL_dihedral_0 (by decide) ?_
  refine S_iload_0 1 dL_dihedral_1 ?_
  refine S_imul 2 dL_dihedral_2 ?_
  refine S_ic 3 2 dL_dihedral_3 (by decide) ?_
  refine S_iload_0 4 dL_dihedral_4 ?_
  refine S_imul 5 dL_dihedral_5 ?_
  refine S_multiF 6 rfl cbL_152 ai12 dL_dihedral_6 (fun w1 h2 => ?_)
  refine S_astore_1 10 dL_dihedral_10 rfl ?_
  refine S_ic 11 0 dL_dihedral_11 (by decide) ?_
  refine S_istore_2 12 dL_dihedral_12 rfl ?_
  refine S_loop (fun (s13 : Int32) => [some (.int p1), some (.ref w1), some (.int s13), none, none]) (fun again13 hg13 s13 h3 => ?_) xfu _ _
  refine S_iload_2 13 dL_dihedral_13 ?_
  refine S_ic 14 2 dL_dihedral_14 (by decide) ?_
  refine S_iload_0 15 dL_dihedral_15 ?_
  refine S_imul 16 dL_dihedral_16 ?_
  refine S_icmpge 17 103 dL_dihedral_17 (by decide) ?_ ?_
  · skip
    refine S_aload_1 103 dL_dihedral_103 ?_
    exact S_areta 104 dL_dihedral_104 rfl
  · skip
    refine S_ic 20 0 dL_dihedral_20 (by decide) ?_
    refine S_istore_3 21 dL_dihedral_21 rfl ?_
    refine S_loop (fun (s22 : Int32) => [some (.int p1), some (.ref w1), some (.int s13), some (.int s22), none]) (fun again22 hg22 s22 h4 => ?_) xfu _ _
    refine S_iload_3 22 dL_dihedral_22 ?_
    refine S_ic 23 2 dL_dihedral_23 (by decide) ?_
    refine S_iload_0 24 dL_dihedral_24 ?_
    refine S_imul 25 dL_dihedral_25 ?_
    refine S_icmpge 26 97 dL_dihedral_26 (by decide) ?_ ?_
    · skip
      refine S_iinc_2 97 (s13 + 1) dL_dihedral_97 (by rfl) rfl ?_
      refine S_goto 100 13 dL_dihedral_100 (by decide) ?_
      exact S_drop [3] rfl (hg13 _ _)
    · skip
      refine S_iload_2 29 dL_dihedral_29 ?_
      refine S_iload_0 30 dL_dihedral_30 ?_
      refine S_join (fun jj => ∀ (v5 : Int32) (h6 : XH), XS E mL_dihedral eR 0 0 51 [some (.int p1), some (.ref w1), some (.int s13), some (.int s22), none] [.int v5] h6 (jj v5 h6)) (fun v5 h6 => ?_) (fun j51 hj51 => ?_)
      · skip
        refine S_istore_4 51 dL_dihedral_51 rfl ?_
        refine S_aload_1 53 dL_dihedral_53 ?_
        refine S_iload_2 54 dL_dihedral_54 ?_
        refine S_aald 55 18 7 (by decide) rfl rfl dL_dihedral_55 (fun w7 => ?_)
        refine S_iload_3 56 dL_dihedral_56 ?_
        refine S_iload_4 57 dL_dihedral_57 ?_
        refine S_iload_0 59 dL_dihedral_59 ?_
        refine S_irem 60 dL_dihedral_60 ?_
        refine S_iload_2 61 dL_dihedral_61 ?_
        refine S_iload_0 62 dL_dihedral_62 ?_
        refine S_join (fun jj => ∀ (v8 : Int32) (h9 : XH), XS E mL_dihedral eR 0 0 71 [some (.int p1), some (.ref w1), some (.int s13), some (.int s22), none] [.int v8, .int (xrem v5 p1), .int s22, .ref w7] h9 (jj v8 h9)) (fun v8 h9 => ?_) (fun j71 hj71 => ?_)
        · skip
          refine S_iload_3 71 dL_dihedral_71 ?_
          refine S_iload_0 72 dL_dihedral_72 ?_
          refine S_join (fun jj => ∀ (v10 : Int32) (h11 : XH), XS E mL_dihedral eR 0 0 81 [some (.int p1), some (.ref w1), some (.int s13), some (.int s22), none] [.int v10, .int v8, .int (xrem v5 p1), .int s22, .ref w7] h11 (jj v10 h11)) (fun v10 h11 => ?_) (fun j81 hj81 => ?_)
          · skip
            refine S_join (fun jj => ∀ (v12 : Int32) (h13 : XH), XS E mL_dihedral eR 0 0 89 [some (.int p1), some (.ref w1), some (.int s13), some (.int s22), none] [.int v12, .int (xrem v5 p1), .int s22, .ref w7] h13 (jj v12 h13)) (fun v12 h13 => ?_) (fun j89 hj89 => ?_)
            · skip
              refine S_iadd 89 dL_dihedral_89 ?_
              refine S_iast 90 dL_dihedral_90 (fun h14 => ?_)
              refine S_iinc_3 91 (s22 + 1) dL_dihedral_91 (by rfl) rfl ?_
              refine S_goto 94 22 dL_dihedral_94 (by decide) ?_
              exact S_drop [] rfl (hg22 _ _)
            refine S_icmpne 81 88 dL_dihedral_81 (by decide) ?_ ?_
            · skip
              refine S_iload_0 88 dL_dihedral_88 ?_
              exact S_drop [] rfl (hj89 _ _)
            · skip
              refine S_ic 84 0 dL_dihedral_84 (by decide) ?_
              refine S_goto 85 89 dL_dihedral_85 (by decide) ?_
              exact S_drop [] rfl (hj89 _ _)
          refine S_icmpge 73 80 dL_dihedral_73 (by decide) ?_ ?_
          · skip
            refine S_ic 80 0 dL_dihedral_80 (by decide) ?_
            exact S_drop [] rfl (hj81 _ _)
          · skip
            refine S_ic 76 1 dL_dihedral_76 (by decide) ?_
            refine S_goto 77 81 dL_dihedral_77 (by decide) ?_
            exact S_drop [] rfl (hj81 _ _)
        refine S_icmpge 63 70 dL_dihedral_63 (by decide) ?_ ?_
        · skip
          refine S_ic 70 0 dL_dihedral_70 (by decide) ?_
          exact S_drop [4] rfl (hj71 _ _)
        · skip
          refine S_ic 66 1 dL_dihedral_66 (by decide) ?_
          refine S_goto 67 71 dL_dihedral_67 (by decide) ?_
          exact S_drop [4] rfl (hj71 _ _)
      refine S_icmpge 31 42 dL_dihedral_31 (by decide) ?_ ?_
      · skip
        refine S_iload_2 42 dL_dihedral_42 ?_
        refine S_iload_0 43 dL_dihedral_43 ?_
        refine S_isub 44 dL_dihedral_44 ?_
        refine S_iload_0 45 dL_dihedral_45 ?_
        refine S_iadd 46 dL_dihedral_46 ?_
        refine S_iload_3 47 dL_dihedral_47 ?_
        refine S_iload_0 48 dL_dihedral_48 ?_
        refine S_irem 49 dL_dihedral_49 ?_
        refine S_isub 50 dL_dihedral_50 ?_
        exact S_drop [] rfl (hj51 _ _)
      · skip
        refine S_iload_2 34 dL_dihedral_34 ?_
        refine S_iload_3 35 dL_dihedral_35 ?_
        refine S_iload_0 36 dL_dihedral_36 ?_
        refine S_irem 37 dL_dihedral_37 ?_
        refine S_iadd 38 dL_dihedral_38 ?_
        refine S_goto 39 51 dL_dihedral_39 (by decide) ?_
        exact S_drop [] rfl (hj51 _ _)
def FL_product (E : XG) (p1 : Nat) (p2 : Nat) (h : XH) : XP Nat := xg (xk h p2 = 18) <| xlt (Int32.ofNat (xn h p2)) fun v1 => xg (xk h p1 = 18) <| xg (xk h p1 = 18) <| xg (((0 : Int32) ≤ ((Int32.ofNat (xn h p1)) * v1) ∧ (0 : Int32) ≤ ((Int32.ofNat (xn h p1)) * v1)) ∧ (((Int32.ofNat (xn h p1)) * v1) : Int32).toNatClampNeg ≤ 1000 ∧ (((Int32.ofNat (xn h p1)) * v1) : Int32).toNatClampNeg ≤ 1000) <| xmg h (((Int32.ofNat (xn h p1)) * v1) : Int32).toNatClampNeg (((Int32.ofNat (xn h p1)) * v1) : Int32).toNatClampNeg fun w2 h3 => xlp (fun again19 (s19 : Int32) h4 => xg (xk h4 w2 = 18) <| if ((Int32.ofNat (xn h4 w2)) : Int32) ≤ s19 then (xv w2 h4) else (xlp (fun again29 (s29 : Int32) h5 => xg (xk h5 w2 = 18) <| if ((Int32.ofNat (xn h5 w2)) : Int32) ≤ s29 then (again19 (s19 + 1) h5) else (xg (xk h5 w2 = 18 ∧ xin s19 (xn h5 w2)) <| xnn (xr h5 w2 (s19 : Int32).toNatClampNeg) fun w6 => xg ((v1 : Int32) ≠ 0) <| xg (xk h5 p1 = 18 ∧ xin (s19 / v1) (xn h5 p1)) <| xnn (xr h5 p1 ((s19 / v1) : Int32).toNatClampNeg) fun w7 => xg ((v1 : Int32) ≠ 0) <| xg (xk h5 w7 = 12 ∧ xin (s29 / v1) (xn h5 w7)) <| xg ((v1 : Int32) ≠ 0) <| xg (xk h5 p2 = 18 ∧ xin (xrem s19 v1) (xn h5 p2)) <| xnn (xr h5 p2 ((xrem s19 v1) : Int32).toNatClampNeg) fun w8 => xg ((v1 : Int32) ≠ 0) <| xg (xk h5 w8 = 12 ∧ xin (xrem s29 v1) (xn h5 w8)) <| xg (xk h5 w6 = 12 ∧ xin s29 (xn h5 w6)) <| xlt (yi h5 w6 (s29 : Int32).toNatClampNeg (((xi h5 w7 ((s29 / v1) : Int32).toNatClampNeg) * v1) + (xi h5 w8 ((xrem s29 v1) : Int32).toNatClampNeg))) fun h9 => again29 (s29 + 1) h9)) xfu 0 h4)) xfu 0 h3
theorem CL_product (E : XG) (p1 : Nat) (p2 : Nat) (h : XH) : XN E mL_product eR 0 0 [.ref p1, .ref p2] h (FL_product E p1 p2 h) := by
  unfold FL_product
  refine S_enter (L := [some (.ref p1), some (.ref p2), none, none, none, none]) (by decide +kernel) rfl rfl rfl ?_
  refine S_aload_1 0 dL_product_0 ?_
  refine S_alen 1 18 7 (by decide) rfl dL_product_1 ?_
  refine S_gen (fun v1 => ?_)
  refine S_istore_2 2 dL_product_2 rfl ?_
  refine S_aload_0 3 dL_product_3 ?_
  refine S_alen 4 18 7 (by decide) rfl dL_product_4 ?_
  refine S_iload_2 5 dL_product_5 ?_
  refine S_imul 6 dL_product_6 ?_
  refine S_aload_0 7 dL_product_7 ?_
  refine S_alen 8 18 7 (by decide) rfl dL_product_8 ?_
  refine S_iload_2 9 dL_product_9 ?_
  refine S_imul 10 dL_product_10 ?_
  refine S_multiF 11 rfl cbL_152 ai12 dL_product_11 (fun w2 h3 => ?_)
  refine S_astore_3 15 dL_product_15 rfl ?_
  refine S_ic 16 0 dL_product_16 (by decide) ?_
  refine S_istore_4 17 dL_product_17 rfl ?_
  refine S_loop (fun (s19 : Int32) => [some (.ref p1), some (.ref p2), some (.int v1), some (.ref w2), some (.int s19), none]) (fun again19 hg19 s19 h4 => ?_) xfu _ _
  refine S_iload_4 19 dL_product_19 ?_
  refine S_aload_3 21 dL_product_21 ?_
  refine S_alen 22 18 7 (by decide) rfl dL_product_22 ?_
  refine S_icmpge 23 80 dL_product_23 (by decide) ?_ ?_
  · skip
    refine S_aload_3 80 dL_product_80 ?_
    exact S_areta 81 dL_product_81 rfl
  · skip
    refine S_ic 26 0 dL_product_26 (by decide) ?_
    refine S_istore_5 27 dL_product_27 rfl ?_
    refine S_loop (fun (s29 : Int32) => [some (.ref p1), some (.ref p2), some (.int v1), some (.ref w2), some (.int s19), some (.int s29)]) (fun again29 hg29 s29 h5 => ?_) xfu _ _
    refine S_iload_5 29 dL_product_29 ?_
    refine S_aload_3 31 dL_product_31 ?_
    refine S_alen 32 18 7 (by decide) rfl dL_product_32 ?_
    refine S_icmpge 33 74 dL_product_33 (by decide) ?_ ?_
    · skip
      refine S_iinc_4 74 (s19 + 1) dL_product_74 (by rfl) rfl ?_
      refine S_goto 77 19 dL_product_77 (by decide) ?_
      exact S_drop [5] rfl (hg19 _ _)
    · skip
      refine S_aload_3 36 dL_product_36 ?_
      refine S_iload_4 37 dL_product_37 ?_
      refine S_aald 39 18 7 (by decide) rfl rfl dL_product_39 (fun w6 => ?_)
      refine S_iload_5 40 dL_product_40 ?_
      refine S_aload_0 42 dL_product_42 ?_
      refine S_iload_4 43 dL_product_43 ?_
      refine S_iload_2 45 dL_product_45 ?_
      refine S_idiv 46 dL_product_46 ?_
      refine S_aald 47 18 7 (by decide) rfl rfl dL_product_47 (fun w7 => ?_)
      refine S_iload_5 48 dL_product_48 ?_
      refine S_iload_2 50 dL_product_50 ?_
      refine S_idiv 51 dL_product_51 ?_
      refine S_iald 52 dL_product_52 ?_
      refine S_iload_2 53 dL_product_53 ?_
      refine S_imul 54 dL_product_54 ?_
      refine S_aload_1 55 dL_product_55 ?_
      refine S_iload_4 56 dL_product_56 ?_
      refine S_iload_2 58 dL_product_58 ?_
      refine S_irem 59 dL_product_59 ?_
      refine S_aald 60 18 7 (by decide) rfl rfl dL_product_60 (fun w8 => ?_)
      refine S_iload_5 61 dL_product_61 ?_
      refine S_iload_2 63 dL_product_63 ?_
      refine S_irem 64 dL_product_64 ?_
      refine S_iald 65 dL_product_65 ?_
      refine S_iadd 66 dL_product_66 ?_
      refine S_iast 67 dL_product_67 (fun h9 => ?_)
      refine S_iinc_5 68 (s29 + 1) dL_product_68 (by rfl) rfl ?_
      refine S_goto 71 29 dL_product_71 (by decide) ?_
      exact S_drop [] rfl (hg29 _ _)
def FL_quaternion (E : XG)  (h : XH) : XP Nat := xal h 18 4 fun w1 h2 => xg ((0 : Int32) ≤ 4 ∧ (4 : Int32).toNatClampNeg ≤ 60000000) <| xal h2 12 (4 : Int32).toNatClampNeg fun w3 h4 => xg (xk h4 w3 = 12 ∧ xin 0 (xn h4 w3)) <| xlt (yi h4 w3 (0 : Int32).toNatClampNeg 0) fun h5 => xg (xk h5 w3 = 12 ∧ xin 1 (xn h5 w3)) <| xlt (yi h5 w3 (1 : Int32).toNatClampNeg 1) fun h6 => xg (xk h6 w3 = 12 ∧ xin 2 (xn h6 w3)) <| xlt (yi h6 w3 (2 : Int32).toNatClampNeg 2) fun h7 => xg (xk h7 w3 = 12 ∧ xin 3 (xn h7 w3)) <| xlt (yi h7 w3 (3 : Int32).toNatClampNeg 3) fun h8 => xg (xk h8 w1 = 18 ∧ xk h8 w3 = 12 ∧ xin 0 (xn h8 w1)) <| xlt (yr h8 w1 (0 : Int32).toNatClampNeg (some w3)) fun h9 => xg ((0 : Int32) ≤ 4 ∧ (4 : Int32).toNatClampNeg ≤ 60000000) <| xal h9 12 (4 : Int32).toNatClampNeg fun w10 h11 => xg (xk h11 w10 = 12 ∧ xin 0 (xn h11 w10)) <| xlt (yi h11 w10 (0 : Int32).toNatClampNeg 1) fun h12 => xg (xk h12 w10 = 12 ∧ xin 1 (xn h12 w10)) <| xlt (yi h12 w10 (1 : Int32).toNatClampNeg 4) fun h13 => xg (xk h13 w10 = 12 ∧ xin 2 (xn h13 w10)) <| xlt (yi h13 w10 (2 : Int32).toNatClampNeg 3) fun h14 => xg (xk h14 w10 = 12 ∧ xin 3 (xn h14 w10)) <| xlt (yi h14 w10 (3 : Int32).toNatClampNeg 6) fun h15 => xg (xk h15 w1 = 18 ∧ xk h15 w10 = 12 ∧ xin 1 (xn h15 w1)) <| xlt (yr h15 w1 (1 : Int32).toNatClampNeg (some w10)) fun h16 => xg ((0 : Int32) ≤ 4 ∧ (4 : Int32).toNatClampNeg ≤ 60000000) <| xal h16 12 (4 : Int32).toNatClampNeg fun w17 h18 => xg (xk h18 w17 = 12 ∧ xin 0 (xn h18 w17)) <| xlt (yi h18 w17 (0 : Int32).toNatClampNeg 2) fun h19 => xg (xk h19 w17 = 12 ∧ xin 1 (xn h19 w17)) <| xlt (yi h19 w17 (1 : Int32).toNatClampNeg 7) fun h20 => xg (xk h20 w17 = 12 ∧ xin 2 (xn h20 w17)) <| xlt (yi h20 w17 (2 : Int32).toNatClampNeg 4) fun h21 => xg (xk h21 w17 = 12 ∧ xin 3 (xn h21 w17)) <| xlt (yi h21 w17 (3 : Int32).toNatClampNeg 1) fun h22 => xg (xk h22 w1 = 18 ∧ xk h22 w17 = 12 ∧ xin 2 (xn h22 w1)) <| xlt (yr h22 w1 (2 : Int32).toNatClampNeg (some w17)) fun h23 => xg ((0 : Int32) ≤ 4 ∧ (4 : Int32).toNatClampNeg ≤ 60000000) <| xal h23 12 (4 : Int32).toNatClampNeg fun w24 h25 => xg (xk h25 w24 = 12 ∧ xin 0 (xn h25 w24)) <| xlt (yi h25 w24 (0 : Int32).toNatClampNeg 3) fun h26 => xg (xk h26 w24 = 12 ∧ xin 1 (xn h26 w24)) <| xlt (yi h26 w24 (1 : Int32).toNatClampNeg 2) fun h27 => xg (xk h27 w24 = 12 ∧ xin 2 (xn h27 w24)) <| xlt (yi h27 w24 (2 : Int32).toNatClampNeg 5) fun h28 => xg (xk h28 w24 = 12 ∧ xin 3 (xn h28 w24)) <| xlt (yi h28 w24 (3 : Int32).toNatClampNeg 4) fun h29 => xg (xk h29 w1 = 18 ∧ xk h29 w24 = 12 ∧ xin 3 (xn h29 w1)) <| xlt (yr h29 w1 (3 : Int32).toNatClampNeg (some w24)) fun h30 => xg (((0 : Int32) ≤ 8 ∧ (0 : Int32) ≤ 8) ∧ (8 : Int32).toNatClampNeg ≤ 1000 ∧ (8 : Int32).toNatClampNeg ≤ 1000) <| xmg h30 (8 : Int32).toNatClampNeg (8 : Int32).toNatClampNeg fun w31 h32 => xlp (fun again106 (s106 : Int32) h33 => if (8 : Int32) ≤ s106 then (xv w31 h33) else (xlp (fun again114 (s114 : Int32) h34 => if (8 : Int32) ≤ s114 then (again106 (s106 + 1) h34) else (xg (xk h34 w31 = 18 ∧ xin s106 (xn h34 w31)) <| xnn (xr h34 w31 (s106 : Int32).toNatClampNeg) fun w35 => xg ((4 : Int32) ≠ 0) <| xg (xk h34 w1 = 18 ∧ xin (xrem s106 4) (xn h34 w1)) <| xnn (xr h34 w1 ((xrem s106 4) : Int32).toNatClampNeg) fun w36 => xg ((4 : Int32) ≠ 0) <| xg (xk h34 w36 = 12 ∧ xin (xrem s114 4) (xn h34 w36)) <| xg (xk h34 w35 = 12 ∧ xin s114 (xn h34 w35)) <| xlt (yi h34 w35 (s114 : Int32).toNatClampNeg ((xi h34 w36 ((xrem s114 4) : Int32).toNatClampNeg) ^^^ ((s106 ^^^ s114) &&& 4))) fun h37 => again114 (s114 + 1) h37)) xfu 0 h33)) xfu 0 h32
theorem CL_quaternion (E : XG)  (h : XH) : XN E mL_quaternion eR 5 4 [] h (FL_quaternion E  h) := by
  unfold FL_quaternion
  refine S_enter (L := [none, none, none, none]) (by decide +kernel) rfl rfl rfl ?_
  refine S_ic 0 4 dL_quaternion_0 (by decide) ?_
  refine S_newqA (a := 4) (b := 0) 1 4 18 7 (by decide) rfl (fun U q => q.2.2.2.1.2.2.2.1) rfl nqL_154 (by decide) (by decide) (by decide) dL_quaternion_1 (fun w1 h2 => ?_)
  refine S_dup 4 dL_quaternion_4 rfl ?_
  refine S_ic 5 0 dL_quaternion_5 (by decide) ?_
  refine S_ic 6 4 dL_quaternion_6 (by decide) ?_
  refine S_newG_int 7 ar12 dL_quaternion_7 (fun w3 h4 => ?_)
  refine S_dup 9 dL_quaternion_9 rfl ?_
  refine S_ic 10 0 dL_quaternion_10 (by decide) ?_
  refine S_ic 11 0 dL_quaternion_11 (by decide) ?_
  refine S_iast 12 dL_quaternion_12 (fun h5 => ?_)
  refine S_dup 13 dL_quaternion_13 rfl ?_
  refine S_ic 14 1 dL_quaternion_14 (by decide) ?_
  refine S_ic 15 1 dL_quaternion_15 (by decide) ?_
  refine S_iast 16 dL_quaternion_16 (fun h6 => ?_)
  refine S_dup 17 dL_quaternion_17 rfl ?_
  refine S_ic 18 2 dL_quaternion_18 (by decide) ?_
  refine S_ic 19 2 dL_quaternion_19 (by decide) ?_
  refine S_iast 20 dL_quaternion_20 (fun h7 => ?_)
  refine S_dup 21 dL_quaternion_21 rfl ?_
  refine S_ic 22 3 dL_quaternion_22 (by decide) ?_
  refine S_ic 23 3 dL_quaternion_23 (by decide) ?_
  refine S_iast 24 dL_quaternion_24 (fun h8 => ?_)
  refine S_aastA18 25 dL_quaternion_25 (fun h9 => ?_)
  refine S_dup 26 dL_quaternion_26 rfl ?_
  refine S_ic 27 1 dL_quaternion_27 (by decide) ?_
  refine S_ic 28 4 dL_quaternion_28 (by decide) ?_
  refine S_newG_int 29 ar12 dL_quaternion_29 (fun w10 h11 => ?_)
  refine S_dup 31 dL_quaternion_31 rfl ?_
  refine S_ic 32 0 dL_quaternion_32 (by decide) ?_
  refine S_ic 33 1 dL_quaternion_33 (by decide) ?_
  refine S_iast 34 dL_quaternion_34 (fun h12 => ?_)
  refine S_dup 35 dL_quaternion_35 rfl ?_
  refine S_ic 36 1 dL_quaternion_36 (by decide) ?_
  refine S_ic 37 4 dL_quaternion_37 (by decide) ?_
  refine S_iast 38 dL_quaternion_38 (fun h13 => ?_)
  refine S_dup 39 dL_quaternion_39 rfl ?_
  refine S_ic 40 2 dL_quaternion_40 (by decide) ?_
  refine S_ic 41 3 dL_quaternion_41 (by decide) ?_
  refine S_iast 42 dL_quaternion_42 (fun h14 => ?_)
  refine S_dup 43 dL_quaternion_43 rfl ?_
  refine S_ic 44 3 dL_quaternion_44 (by decide) ?_
  refine S_bip 45 6 dL_quaternion_45 (by decide) ?_
  refine S_iast 47 dL_quaternion_47 (fun h15 => ?_)
  refine S_aastA18 48 dL_quaternion_48 (fun h16 => ?_)
  refine S_dup 49 dL_quaternion_49 rfl ?_
  refine S_ic 50 2 dL_quaternion_50 (by decide) ?_
  refine S_ic 51 4 dL_quaternion_51 (by decide) ?_
  refine S_newG_int 52 ar12 dL_quaternion_52 (fun w17 h18 => ?_)
  refine S_dup 54 dL_quaternion_54 rfl ?_
  refine S_ic 55 0 dL_quaternion_55 (by decide) ?_
  refine S_ic 56 2 dL_quaternion_56 (by decide) ?_
  refine S_iast 57 dL_quaternion_57 (fun h19 => ?_)
  refine S_dup 58 dL_quaternion_58 rfl ?_
  refine S_ic 59 1 dL_quaternion_59 (by decide) ?_
  refine S_bip 60 7 dL_quaternion_60 (by decide) ?_
  refine S_iast 62 dL_quaternion_62 (fun h20 => ?_)
  refine S_dup 63 dL_quaternion_63 rfl ?_
  refine S_ic 64 2 dL_quaternion_64 (by decide) ?_
  refine S_ic 65 4 dL_quaternion_65 (by decide) ?_
  refine S_iast 66 dL_quaternion_66 (fun h21 => ?_)
  refine S_dup 67 dL_quaternion_67 rfl ?_
  refine S_ic 68 3 dL_quaternion_68 (by decide) ?_
  refine S_ic 69 1 dL_quaternion_69 (by decide) ?_
  refine S_iast 70 dL_quaternion_70 (fun h22 => ?_)
  refine S_aastA18 71 dL_quaternion_71 (fun h23 => ?_)
  refine S_dup 72 dL_quaternion_72 rfl ?_
  refine S_ic 73 3 dL_quaternion_73 (by decide) ?_
  refine S_ic 74 4 dL_quaternion_74 (by decide) ?_
  refine S_newG_int 75 ar12 dL_quaternion_75 (fun w24 h25 => ?_)
  refine S_dup 77 dL_quaternion_77 rfl ?_
  refine S_ic 78 0 dL_quaternion_78 (by decide) ?_
  refine S_ic 79 3 dL_quaternion_79 (by decide) ?_
  refine S_iast 80 dL_quaternion_80 (fun h26 => ?_)
  refine S_dup 81 dL_quaternion_81 rfl ?_
  refine S_ic 82 1 dL_quaternion_82 (by decide) ?_
  refine S_ic 83 2 dL_quaternion_83 (by decide) ?_
  refine S_iast 84 dL_quaternion_84 (fun h27 => ?_)
  refine S_dup 85 dL_quaternion_85 rfl ?_
  refine S_ic 86 2 dL_quaternion_86 (by decide) ?_
  refine S_ic 87 5 dL_quaternion_87 (by decide) ?_
  refine S_iast 88 dL_quaternion_88 (fun h28 => ?_)
  refine S_dup 89 dL_quaternion_89 rfl ?_
  refine S_ic 90 3 dL_quaternion_90 (by decide) ?_
  refine S_ic 91 4 dL_quaternion_91 (by decide) ?_
  refine S_iast 92 dL_quaternion_92 (fun h29 => ?_)
  refine S_aastA18 93 dL_quaternion_93 (fun h30 => ?_)
  refine S_astore_0 94 dL_quaternion_94 rfl ?_
  refine S_bip 95 8 dL_quaternion_95 (by decide) ?_
  refine S_bip 97 8 dL_quaternion_97 (by decide) ?_
  refine S_multiF 99 rfl cbL_152 ai12 dL_quaternion_99 (fun w31 h32 => ?_)
  refine S_astore_1 103 dL_quaternion_103 rfl ?_
  refine S_ic 104 0 dL_quaternion_104 (by decide) ?_
  refine S_istore_2 105 dL_quaternion_105 rfl ?_
  refine S_loop (fun (s106 : Int32) => [some (.ref w1), some (.ref w31), some (.int s106), none]) (fun again106 hg106 s106 h33 => ?_) xfu _ _
  refine S_iload_2 106 dL_quaternion_106 ?_
  refine S_bip 107 8 dL_quaternion_107 (by decide) ?_
  refine S_icmpge 109 152 dL_quaternion_109 (by decide) ?_ ?_
  · skip
    refine S_aload_1 152 dL_quaternion_152 ?_
    exact S_areta 153 dL_quaternion_153 rfl
  · skip
    refine S_ic 112 0 dL_quaternion_112 (by decide) ?_
    refine S_istore_3 113 dL_quaternion_113 rfl ?_
    refine S_loop (fun (s114 : Int32) => [some (.ref w1), some (.ref w31), some (.int s106), some (.int s114)]) (fun again114 hg114 s114 h34 => ?_) xfu _ _
    refine S_iload_3 114 dL_quaternion_114 ?_
    refine S_bip 115 8 dL_quaternion_115 (by decide) ?_
    refine S_icmpge 117 146 dL_quaternion_117 (by decide) ?_ ?_
    · skip
      refine S_iinc_2 146 (s106 + 1) dL_quaternion_146 (by rfl) rfl ?_
      refine S_goto 149 106 dL_quaternion_149 (by decide) ?_
      exact S_drop [3] rfl (hg106 _ _)
    · skip
      refine S_aload_1 120 dL_quaternion_120 ?_
      refine S_iload_2 121 dL_quaternion_121 ?_
      refine S_aald 122 18 7 (by decide) rfl rfl dL_quaternion_122 (fun w35 => ?_)
      refine S_iload_3 123 dL_quaternion_123 ?_
      refine S_aload_0 124 dL_quaternion_124 ?_
      refine S_iload_2 125 dL_quaternion_125 ?_
      refine S_ic 126 4 dL_quaternion_126 (by decide) ?_
      refine S_irem 127 dL_quaternion_127 ?_
      refine S_aald 128 18 7 (by decide) rfl rfl dL_quaternion_128 (fun w36 => ?_)
      refine S_iload_3 129 dL_quaternion_129 ?_
      refine S_ic 130 4 dL_quaternion_130 (by decide) ?_
      refine S_irem 131 dL_quaternion_131 ?_
      refine S_iald 132 dL_quaternion_132 ?_
      refine S_iload_2 133 dL_quaternion_133 ?_
      refine S_iload_3 134 dL_quaternion_134 ?_
      refine S_ixor 135 dL_quaternion_135 ?_
      refine S_ic 136 4 dL_quaternion_136 (by decide) ?_
      refine S_iand 137 dL_quaternion_137 ?_
      refine S_ixor 138 dL_quaternion_138 ?_
      refine S_iast 139 dL_quaternion_139 (fun h37 => ?_)
      refine S_iinc_3 140 (s114 + 1) dL_quaternion_140 (by rfl) rfl ?_
      refine S_goto 143 114 dL_quaternion_143 (by decide) ?_
      exact S_drop [] rfl (hg114 _ _)
def FJ6_stringSize_0f7a4 (E : XG) (p1 : Int32) (h : XH) : XP Int32 := xjn (fun (v1 : Int32) (v2 : Int32) (h3 : XH) => xlp (fun again16 (s16 : Int32 × Int32) h4 => if (10 : Int32) ≤ s16.2 then (xv (10 + v2) h4) else (if (v1 : Int32) ≤ s16.1 then (xlt (10 * s16.1) fun v5 => again16 (v5, (s16.2 + 1)) h4) else (xv (s16.2 + v2) h4))) xfu ((-10), 1) h3) fun (j11 : Int32 → Int32 → XH → XP Int32) => if (p1 : Int32) < 0 then (j11 p1 1 h) else (xlt (-p1) fun v6 => j11 v6 0 h)
theorem CJ6_stringSize_0f7a4 (E : XG) (p1 : Int32) (h : XH) : XN E mJ6_stringSize_0f7a4 eI 0 0 [.int p1] h (FJ6_stringSize_0f7a4 E p1 h) := by
  unfold FJ6_stringSize_0f7a4
  refine S_enter (L := [some (.int p1), none, none, none]) (by decide +kernel) rfl rfl rfl ?_
  refine S_ic 0 1 dJ6_stringSize_0f7a4_0 (by decide) ?_
  refine S_istore_1 1 dJ6_stringSize_0f7a4_1 rfl ?_
  refine S_iload_0 2 dJ6_stringSize_0f7a4_2 ?_
  refine S_join (fun jj => ∀ (v1 : Int32) (v2 : Int32) (h3 : XH), XS E mJ6_stringSize_0f7a4 eI 0 0 11 [some (.int v1), some (.int v2), none, none] [] h3 (jj v1 v2 h3)) (fun v1 v2 h3 => ?_) (fun j11 hj11 => ?_)
  · skip
    refine S_bip 11 (-10) dJ6_stringSize_0f7a4_11 (by decide) ?_
    refine S_istore_2 13 dJ6_stringSize_0f7a4_13 rfl ?_
    refine S_ic 14 1 dJ6_stringSize_0f7a4_14 (by decide) ?_
    refine S_istore_3 15 dJ6_stringSize_0f7a4_15 rfl ?_
    refine S_loop (fun (s16 : Int32 × Int32) => [some (.int v1), some (.int v2), some (.int s16.1), some (.int s16.2)]) (fun again16 hg16 s16 h4 => ?_) xfu _ _
    refine S_iload_3 16 dJ6_stringSize_0f7a4_16 ?_
    refine S_bip 17 10 dJ6_stringSize_0f7a4_17 (by decide) ?_
    refine S_icmpge 19 42 dJ6_stringSize_0f7a4_19 (by decide) ?_ ?_
    · skip
      refine S_bip 42 10 dJ6_stringSize_0f7a4_42 (by decide) ?_
      refine S_iload_1 44 dJ6_stringSize_0f7a4_44 ?_
      refine S_iadd 45 dJ6_stringSize_0f7a4_45 ?_
      exact S_iret 46 dJ6_stringSize_0f7a4_46 rfl
    · skip
      refine S_iload_0 22 dJ6_stringSize_0f7a4_22 ?_
      refine S_iload_2 23 dJ6_stringSize_0f7a4_23 ?_
      refine S_icmple 24 31 dJ6_stringSize_0f7a4_24 (by decide) ?_ ?_
      · skip
        refine S_bip 31 10 dJ6_stringSize_0f7a4_31 (by decide) ?_
        refine S_iload_2 33 dJ6_stringSize_0f7a4_33 ?_
        refine S_imul 34 dJ6_stringSize_0f7a4_34 ?_
        refine S_gen (fun v5 => ?_)
        refine S_istore_2 35 dJ6_stringSize_0f7a4_35 rfl ?_
        refine S_iinc_3 36 (s16.2 + 1) dJ6_stringSize_0f7a4_36 (by rfl) rfl ?_
        refine S_goto 39 16 dJ6_stringSize_0f7a4_39 (by decide) ?_
        exact S_drop [] rfl (hg16 _ _)
      · skip
        refine S_iload_3 27 dJ6_stringSize_0f7a4_27 ?_
        refine S_iload_1 28 dJ6_stringSize_0f7a4_28 ?_
        refine S_iadd 29 dJ6_stringSize_0f7a4_29 ?_
        exact S_iret 30 dJ6_stringSize_0f7a4_30 rfl
  refine S_iflt 3 11 dJ6_stringSize_0f7a4_3 (by decide) ?_ ?_
  · skip
    exact S_drop [] rfl (hj11 _ _ _)
  · skip
    refine S_ic 6 0 dJ6_stringSize_0f7a4_6 (by decide) ?_
    refine S_istore_1 7 dJ6_stringSize_0f7a4_7 rfl ?_
    refine S_iload_0 8 dJ6_stringSize_0f7a4_8 ?_
    refine S_ineg 9 dJ6_stringSize_0f7a4_9 ?_
    refine S_gen (fun v6 => ?_)
    refine S_istore_0 10 dJ6_stringSize_0f7a4_10 rfl ?_
    exact S_drop [] rfl (hj11 _ _ _)
