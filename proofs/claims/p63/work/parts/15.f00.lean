/-! Methods as functions, 0. -/
set_option linter.unusedVariables false
set_option maxRecDepth 10000
def FJ1_charAt_3b067T (E : XG) (p1 : Nat) (p2 : Int32) (h : XH) : XP Int32 := xg (xk h p1 = 11) <| xb (FJ0_checkIndex p2 (Int32.ofNat (xn h p1)) h) fun _ h1 => xg (xk h1 p1 = 11 ∧ xin p2 (xn h1 p1)) <| xg (xch (((Int32.toUInt32 ((xi h1 p1 (p2 : Int32).toNatClampNeg) &&& 255)) % 65536).toInt32)) <| xv (((Int32.toUInt32 ((xi h1 p1 (p2 : Int32).toNatClampNeg) &&& 255)) % 65536).toInt32) h1
theorem CJ1_charAt_3b067T (E : XG) (p1 : Nat) (p2 : Int32) (h : XH) : XN E mJ1_charAt_3b067 eI 0 0 [.ref p1, .int p2] h (FJ1_charAt_3b067T E p1 p2 h) := by
  unfold FJ1_charAt_3b067T
  refine S_enter (L := [some (.ref p1), some (.int p2)]) (by decide +kernel) rfl rfl rfl ?_
  refine S_iload_1 0 dJ1_charAt_3b067_0 ?_
  refine S_aload_0 1 dJ1_charAt_3b067_1 ?_
  refine S_alen 2 11 0 (by decide) rfl dJ1_charAt_3b067_2 ?_
  refine S_callS (a' := 0) (b' := 0) (a := 0) (b := 0) 3 (As := [.int p2, .int (Int32.ofNat (xn h p1))]) rfl calJ0_checkIndex_df160 stJ0_checkIndex_df160 mkJ1_9 rfl rfl rfl rfl rfl dJ1_charAt_3b067_3 (CJ0_checkIndex E p2 (Int32.ofNat (xn h p1)) h) (fun _ h1 => kqU ?_)
  refine S_aload_0 6 dJ1_charAt_3b067_6 ?_
  refine S_iload_1 7 dJ1_charAt_3b067_7 ?_
  refine S_bald 8 dJ1_charAt_3b067_8 ?_
  refine S_sip 9 255 dJ1_charAt_3b067_9 (by decide) ?_
  refine S_iand 12 dJ1_charAt_3b067_12 ?_
  refine S_i2c 13 dJ1_charAt_3b067_13 ?_
  exact S_cret 14 dJ1_charAt_3b067_14 rfl
def FJ0_coder_7d493T (E : XG) (t : Nat) (h : XH) : XP Int32 := xjn (fun (v1 : Int32) (h2 : XH) => xg ((v1 : Int32) = 0) <| xv v1 h2) fun (j14 : Int32 → XH → XP Int32) => if (1 : Int32) = 0 then (j14 1 h) else (xg (xk h t = 25) <| j14 (xi h t 1) h)
theorem CJ0_coder_7d493T (E : XG) (t : Nat) (h : XH) : XN E mJ0_coder_7d493 eI 0 0 [.ref t] h (FJ0_coder_7d493T E t h) := by
  unfold FJ0_coder_7d493T
  refine S_enter (L := [some (.ref t)]) (by decide +kernel) rfl rfl rfl ?_
  refine S_compact 0 rfl ⟨List.mem_of_getElem? (i := 352) (by decide +kernel), rfl⟩ dJ0_coder_7d493_0 ?_
  refine S_join (fun jj => ∀ (v1 : Int32) (h2 : XH), XS E mJ0_coder_7d493 eI 0 0 14 [none] [.int v1] h2 (jj v1 h2)) (fun v1 h2 => ?_) (fun j14 hj14 => ?_)
  · skip
    exact S_bret 14 dJ0_coder_7d493_14 rfl
  refine S_ifeq 3 13 dJ0_coder_7d493_3 (by decide) ?_ ?_
  · skip
    refine S_ic 13 1 dJ0_coder_7d493_13 (by decide) ?_
    exact S_drop [0] rfl (hj14 _ _)
  · skip
    refine S_aload_0 6 dJ0_coder_7d493_6 ?_
    refine S_getI 7 fsJ0_15 rfl dJ0_coder_7d493_7 ?_
    refine S_goto 10 14 dJ0_coder_7d493_10 (by decide) ?_
    exact S_drop [0] rfl (hj14 _ _)
def FJ0_isLatin1_aae02T (E : XG) (t : Nat) (h : XH) : XP Int32 := xjn (fun (v1 : Int32) (h2 : XH) => xg ((v1 : Int32) = 0 ∨ (v1 : Int32) = 1) <| xv v1 h2) fun (j18 : Int32 → XH → XP Int32) => xjn (fun  (h3 : XH) => j18 0 h3) fun (j17 : XH → XP Int32) => if (1 : Int32) = 0 then (j17 h) else (xg (xk h t = 25) <| if ((xi h t 1) : Int32) = 0 then (j18 1 h) else (j17 h))
theorem CJ0_isLatin1_aae02T (E : XG) (t : Nat) (h : XH) : XN E mJ0_isLatin1_aae02 eI 0 0 [.ref t] h (FJ0_isLatin1_aae02T E t h) := by
  unfold FJ0_isLatin1_aae02T
  refine S_enter (L := [some (.ref t)]) (by decide +kernel) rfl rfl rfl ?_
  refine S_compact 0 rfl ⟨List.mem_of_getElem? (i := 352) (by decide +kernel), rfl⟩ dJ0_isLatin1_aae02_0 ?_
  refine S_join (fun jj => ∀ (v1 : Int32) (h2 : XH), XS E mJ0_isLatin1_aae02 eI 0 0 18 [none] [.int v1] h2 (jj v1 h2)) (fun v1 h2 => ?_) (fun j18 hj18 => ?_)
  · skip
    exact S_zret 18 dJ0_isLatin1_aae02_18 rfl
  refine S_join (fun jj => ∀  (h3 : XH), XS E mJ0_isLatin1_aae02 eI 0 0 17 [none] [] h3 (jj  h3)) (fun  h3 => ?_) (fun j17 hj17 => ?_)
  · skip
    refine S_ic 17 0 dJ0_isLatin1_aae02_17 (by decide) ?_
    exact S_drop [] rfl (hj18 _ _)
  refine S_ifeq 3 17 dJ0_isLatin1_aae02_3 (by decide) ?_ ?_
  · skip
    exact S_drop [0] rfl (hj17 _)
  · skip
    refine S_aload_0 6 dJ0_isLatin1_aae02_6 ?_
    refine S_getI 7 fsJ0_15 rfl dJ0_isLatin1_aae02_7 ?_
    refine S_ifne 10 17 dJ0_isLatin1_aae02_10 (by decide) ?_ ?_
    · skip
      exact S_drop [0] rfl (hj17 _)
    · skip
      refine S_ic 13 1 dJ0_isLatin1_aae02_13 (by decide) ?_
      refine S_goto 14 18 dJ0_isLatin1_aae02_14 (by decide) ?_
      exact S_drop [0] rfl (hj18 _ _)
def FJ0_length_8abf5T (E : XG) (t : Nat) (h : XH) : XP Int32 := xg (xk h t = 25) <| xnn (xr h t 0) fun w1 => xg (xk h w1 = 11) <| xg (xk h t = 25) <| xb (FJ0_coder_7d493T E t  h) fun v2 h3 => xv ((Int32.ofNat (xn h w1)) >>> (v2 &&& 31)) h3
theorem CJ0_length_8abf5T (E : XG) (t : Nat) (h : XH) : XN E mJ0_length_8abf5 eI 0 0 [.ref t] h (FJ0_length_8abf5T E t h) := by
  unfold FJ0_length_8abf5T
  refine S_enter (L := [some (.ref t)]) (by decide +kernel) rfl rfl rfl ?_
  refine S_aload_0 0 dJ0_length_8abf5_0 ?_
  refine S_getR 1 fsJ0_9 rfl dJ0_length_8abf5_1 (fun w1 => ?_)
  refine S_alen 4 11 0 (by decide) rfl dJ0_length_8abf5_4 ?_
  refine S_aload_0 5 dJ0_length_8abf5_5 ?_
  refine S_callV (a' := 0) (b' := 0) (a := 0) (b := 0) 6 (As := []) (ci := 24) rfl calJ0_coder_7d493 imJ0_coder_7d493 seJ0_coder_7d493 mkJ0_335 rfl rfl rfl rfl rfl (by decide) rfl rfl dJ0_length_8abf5_6 (CJ0_coder_7d493T E t  h) (fun v2 h3 => kqI ?_)
  refine S_ishr 9 dJ0_length_8abf5_9 ?_
  exact S_iret 10 dJ0_length_8abf5_10 rfl
def FJ0_charAt_5068eT (E : XG) (t : Nat) (p1 : Int32) (h : XH) : XP Int32 := xg (xk h t = 25) <| xb (FJ0_isLatin1_aae02T E t  h) fun v1 h2 => if (v1 : Int32) = 0 then (xg (xk h2 t = 25) <| xnn (xr h2 t 0) fun w3 => none) else (xg (xk h2 t = 25) <| xnn (xr h2 t 0) fun w4 => xb (FJ1_charAt_3b067T E w4 p1 h2) fun v5 h6 => xg (xch v5) <| xv v5 h6)
theorem CJ0_charAt_5068eT (E : XG) (t : Nat) (p1 : Int32) (h : XH) : XN E mJ0_charAt_5068e eI 0 0 [.ref t, .int p1] h (FJ0_charAt_5068eT E t p1 h) := by
  unfold FJ0_charAt_5068eT
  refine S_enter (L := [some (.ref t), some (.int p1)]) (by decide +kernel) rfl rfl rfl ?_
  refine S_aload_0 0 dJ0_charAt_5068e_0 ?_
  refine S_callV (a' := 0) (b' := 0) (a := 0) (b := 0) 1 (As := []) (ci := 24) rfl calJ0_isLatin1_aae02 imJ0_isLatin1_aae02 seJ0_isLatin1_aae02 mkJ0_492 rfl rfl rfl rfl rfl (by decide) rfl rfl dJ0_charAt_5068e_1 (CJ0_isLatin1_aae02T E t  h) (fun v1 h2 => kqI ?_)
  refine S_ifeq 4 16 dJ0_charAt_5068e_4 (by decide) ?_ ?_
  · skip
    refine S_aload_0 16 dJ0_charAt_5068e_16 ?_
    refine S_getR 17 fsJ0_9 rfl dJ0_charAt_5068e_17 (fun w3 => ?_)
    refine S_iload_1 20 dJ0_charAt_5068e_20 ?_
    exact S_none
  · skip
    refine S_aload_0 7 dJ0_charAt_5068e_7 ?_
    refine S_getR 8 fsJ0_9 rfl dJ0_charAt_5068e_8 (fun w4 => ?_)
    refine S_iload_1 11 dJ0_charAt_5068e_11 ?_
    refine S_callS (a' := 0) (b' := 0) (a := 0) (b := 0) 12 (As := [.ref w4, .int p1]) rfl calJ1_charAt_3b067 stJ1_charAt_3b067 mkJ0_495 rfl rfl rfl rfl rfl dJ0_charAt_5068e_12 (CJ1_charAt_3b067T E w4 p1 h2) (fun v5 h6 => kqI ?_)
    exact S_cret 15 dJ0_charAt_5068e_15 rfl
def FX0_init (E : XG) (t : Nat) (p1 : Nat) (h : XH) : XP Unit := xg (xk h t ≠ 0) <| xal h 12 8 fun w1 h2 => xg (xk h2 t = 1) <| xlt (yr h2 t 2 (some w1)) fun h3 => xg (xk h3 t ≠ 0) <| xal h3 12 8 fun w4 h5 => xg (xk h5 t = 1) <| xlt (yr h5 t 3 (some w4)) fun h6 => xg (xk h6 t = 1) <| xlt (yr h6 t 0 (some p1)) fun h7 => xg (xk h7 t = 1) <| xlt (yr h7 t 1 (some p1)) fun h8 => xv () h8
theorem CX0_init (E : XG) (t : Nat) (p1 : Nat) (h : XH) : XN E mX0_init eU 2 16 [.ref t, .ref p1] h (FX0_init E t p1 h) := by
  unfold FX0_init
  refine S_enter (L := [some (.ref t), some (.ref p1)]) (by decide +kernel) rfl rfl rfl ?_
  refine S_aload_0 0 dX0_init_0 ?_
  refine S_objinit 1 rfl oiX0_3 oiI oiC (by decide) (by decide) (by exact Nat.le_of_ble_eq_true rfl) dX0_init_1 ?_
  refine S_aload_0 4 dX0_init_4 ?_
  refine S_bip 5 8 dX0_init_5 (by decide) ?_
  refine S_new_int (a := 1) (b := 8) 7 t 8 (by decide) (by decide) (by decide) ar12 dX0_init_7 (fun w1 h2 => ?_)
  refine S_putR 9 frX0_9 rfl rfl (fun _ => rfl) dX0_init_9 (fun h3 => ?_)
  refine S_aload_0 12 dX0_init_12 ?_
  refine S_bip 13 8 dX0_init_13 (by decide) ?_
  refine S_new_int (a := 0) (b := 0) 15 t 8 (by decide) (by decide) (by decide) ar12 dX0_init_15 (fun w4 h5 => ?_)
  refine S_putR 17 frX0_15 rfl rfl (fun _ => rfl) dX0_init_17 (fun h6 => ?_)
  refine S_aload_0 20 dX0_init_20 ?_
  refine S_aload_1 21 dX0_init_21 ?_
  refine S_putR 22 frX0_18 rfl rfl (fun q => by cases q) dX0_init_22 (fun h7 => ?_)
  refine S_aload_0 25 dX0_init_25 ?_
  refine S_aload_1 26 dX0_init_26 ?_
  refine S_putR 27 frX0_22 rfl rfl (fun q => by cases q) dX0_init_27 (fun h8 => ?_)
  exact S_ret 30 dX0_init_30 rfl
def FX8_at (E : XG) (p1 : Nat) (p2 : Int32) (h : XH) : XP Int32 := xjn (fun (v1 : Int32) (h2 : XH) => xv v1 h2) fun (j17 : Int32 → XH → XP Int32) => xjn (fun  (h3 : XH) => j17 0 h3) fun (j16 : XH → XP Int32) => if (p2 : Int32) < 0 then (j16 h) else (xg (xk h p1 = 12) <| if ((Int32.ofNat (xn h p1)) : Int32) ≤ p2 then (j16 h) else (xg (xk h p1 = 12 ∧ xin p2 (xn h p1)) <| j17 (xi h p1 (p2 : Int32).toNatClampNeg) h))
theorem CX8_at (E : XG) (p1 : Nat) (p2 : Int32) (h : XH) : XN E mX8_at eI 0 0 [.ref p1, .int p2] h (FX8_at E p1 p2 h) := by
  unfold FX8_at
  refine S_enter (L := [some (.ref p1), some (.int p2)]) (by decide +kernel) rfl rfl rfl ?_
  refine S_iload_1 0 dX8_at_0 ?_
  refine S_join (fun jj => ∀ (v1 : Int32) (h2 : XH), XS E mX8_at eI 0 0 17 [none, none] [.int v1] h2 (jj v1 h2)) (fun v1 h2 => ?_) (fun j17 hj17 => ?_)
  · skip
    exact S_iret 17 dX8_at_17 rfl
  refine S_join (fun jj => ∀  (h3 : XH), XS E mX8_at eI 0 0 16 [none, none] [] h3 (jj  h3)) (fun  h3 => ?_) (fun j16 hj16 => ?_)
  · skip
    refine S_ic 16 0 dX8_at_16 (by decide) ?_
    exact S_drop [] rfl (hj17 _ _)
  refine S_iflt 1 16 dX8_at_1 (by decide) ?_ ?_
  · skip
    exact S_drop [0, 1] rfl (hj16 _)
  · skip
    refine S_iload_1 4 dX8_at_4 ?_
    refine S_aload_0 5 dX8_at_5 ?_
    refine S_alen 6 12 1 (by decide) rfl dX8_at_6 ?_
    refine S_icmpge 7 16 dX8_at_7 (by decide) ?_ ?_
    · skip
      exact S_drop [0, 1] rfl (hj16 _)
    · skip
      refine S_aload_0 10 dX8_at_10 ?_
      refine S_iload_1 11 dX8_at_11 ?_
      refine S_iald 12 dX8_at_12 ?_
      refine S_goto 13 17 dX8_at_13 (by decide) ?_
      exact S_drop [0, 1] rfl (hj17 _ _)
def FX0_topOf (E : XG) (t : Nat) (p1 : Int32) (h : XH) : XP Int32 := xg (xk h t = 1) <| xnn (xr h t 2) fun w1 => xb (FX8_at E w1 p1 h) fun v2 h3 => xv v2 h3
theorem CX0_topOf (E : XG) (t : Nat) (p1 : Int32) (h : XH) : XN E mX0_topOf eI 0 0 [.ref t, .int p1] h (FX0_topOf E t p1 h) := by
  unfold FX0_topOf
  refine S_enter (L := [some (.ref t), some (.int p1)]) (by decide +kernel) rfl rfl rfl ?_
  refine S_aload_0 0 dX0_topOf_0 ?_
  refine S_getR 1 fsX0_9 rfl dX0_topOf_1 (fun w1 => ?_)
  refine S_iload_1 4 dX0_topOf_4 ?_
  refine S_callSN (a' := 0) (b' := 0) (a := 0) (b := 0) 5 (As := [.ref w1, .int p1]) rfl calX8_at stX8_at (List.mem_of_getElem? (i := 0) rfl) rfl rfl rfl rfl rfl dX0_topOf_5 (CX8_at E w1 p1 h) (fun v2 h3 => kqI ?_)
  exact S_iret 8 dX0_topOf_8 rfl
def FX0_bottomOf (E : XG) (t : Nat) (p1 : Int32) (h : XH) : XP Int32 := xg (xk h t = 1) <| xnn (xr h t 3) fun w1 => xb (FX8_at E w1 p1 h) fun v2 h3 => xv v2 h3
theorem CX0_bottomOf (E : XG) (t : Nat) (p1 : Int32) (h : XH) : XN E mX0_bottomOf eI 0 0 [.ref t, .int p1] h (FX0_bottomOf E t p1 h) := by
  unfold FX0_bottomOf
  refine S_enter (L := [some (.ref t), some (.int p1)]) (by decide +kernel) rfl rfl rfl ?_
  refine S_aload_0 0 dX0_bottomOf_0 ?_
  refine S_getR 1 fsX0_15 rfl dX0_bottomOf_1 (fun w1 => ?_)
  refine S_iload_1 4 dX0_bottomOf_4 ?_
  refine S_callSN (a' := 0) (b' := 0) (a := 0) (b := 0) 5 (As := [.ref w1, .int p1]) rfl calX8_at stX8_at (List.mem_of_getElem? (i := 0) rfl) rfl rfl rfl rfl rfl dX0_bottomOf_5 (CX8_at E w1 p1 h) (fun v2 h3 => kqI ?_)
  exact S_iret 8 dX0_bottomOf_8 rfl
def FX2_product (E : XG) (t : Nat) (p1 : Int32) (p2 : Int32) (h : XH) : XP Int32 := xlt ((p1 * 8) + p2) fun v1 => xjn (fun (v2 : Int32) (h3 : XH) => xv v2 h3) fun (j30 : Int32 → XH → XP Int32) => xjn (fun  (h4 : XH) => j30 0 h4) fun (j29 : XH → XP Int32) => if (v1 : Int32) < 0 then (j29 h) else (xg (xk h t = 3) <| xnn (xr h t 1) fun w5 => xg (xk h w5 = 12) <| if ((Int32.ofNat (xn h w5)) : Int32) ≤ v1 then (j29 h) else (xg (xk h t = 3) <| xnn (xr h t 1) fun w6 => xg (xk h w6 = 12 ∧ xin v1 (xn h w6)) <| j30 (xi h w6 (v1 : Int32).toNatClampNeg) h))
theorem CX2_product (E : XG) (t : Nat) (p1 : Int32) (p2 : Int32) (h : XH) : XN E mX2_product eI 0 0 [.ref t, .int p1, .int p2] h (FX2_product E t p1 p2 h) := by
  unfold FX2_product
  refine S_enter (L := [some (.ref t), some (.int p1), some (.int p2), none]) (by decide +kernel) rfl rfl rfl ?_
  refine S_iload_1 0 dX2_product_0 ?_
  refine S_bip 1 8 dX2_product_1 (by decide) ?_
  refine S_imul 3 dX2_product_3 ?_
  refine S_iload_2 4 dX2_product_4 ?_
  refine S_iadd 5 dX2_product_5 ?_
  refine S_gen (fun v1 => ?_)
  refine S_istore_3 6 dX2_product_6 rfl ?_
  refine S_iload_3 7 dX2_product_7 ?_
  refine S_join (fun jj => ∀ (v2 : Int32) (h3 : XH), XS E mX2_product eI 0 0 30 [none, none, none, none] [.int v2] h3 (jj v2 h3)) (fun v2 h3 => ?_) (fun j30 hj30 => ?_)
  · skip
    exact S_iret 30 dX2_product_30 rfl
  refine S_join (fun jj => ∀  (h4 : XH), XS E mX2_product eI 0 0 29 [none, none, none, none] [] h4 (jj  h4)) (fun  h4 => ?_) (fun j29 hj29 => ?_)
  · skip
    refine S_ic 29 0 dX2_product_29 (by decide) ?_
    exact S_drop [] rfl (hj30 _ _)
  refine S_iflt 8 29 dX2_product_8 (by decide) ?_ ?_
  · skip
    exact S_drop [0, 1, 2, 3] rfl (hj29 _)
  · skip
    refine S_iload_3 11 dX2_product_11 ?_
    refine S_aload_0 12 dX2_product_12 ?_
    refine S_getR 13 fsX2_9 rfl dX2_product_13 (fun w5 => ?_)
    refine S_alen 16 12 1 (by decide) rfl dX2_product_16 ?_
    refine S_icmpge 17 29 dX2_product_17 (by decide) ?_ ?_
    · skip
      exact S_drop [0, 1, 2, 3] rfl (hj29 _)
    · skip
      refine S_aload_0 20 dX2_product_20 ?_
      refine S_getR 21 fsX2_9 rfl dX2_product_21 (fun w6 => ?_)
      refine S_iload_3 24 dX2_product_24 ?_
      refine S_iald 25 dX2_product_25 ?_
      refine S_goto 26 30 dX2_product_26 (by decide) ?_
      exact S_drop [0, 1, 2, 3] rfl (hj30 _ _)
def FX0_keepsProducts (E : XG) (p1 : Nat) (p2 : Nat) (p3 : Nat) (h : XH) : XP Int32 := xlp (fun again2 (s2 : Int32) h1 => xg (xk h1 p2 = 3) <| if ((xi h1 p2 3) : Int32) ≤ s2 then (xg ((1 : Int32) = 0 ∨ (1 : Int32) = 1) <| xv 1 h1) else (xlp (fun again13 (s13 : Int32) h2 => xg (xk h2 p2 = 3) <| if ((xi h2 p2 3) : Int32) ≤ s13 then (again2 (s2 + 1) h2) else (xg (xk h2 p2 = 3) <| xb (FX2_product E p2 s2 s13 h2) fun v3 h4 => xb (FX8_at E p1 v3 h4) fun v5 h6 => xb (FX8_at E p1 s2 h6) fun v7 h8 => xb (FX8_at E p1 s13 h8) fun v9 h10 => xg (xk h10 p3 = 3) <| xb (FX2_product E p3 v7 v9 h10) fun v11 h12 => if (v5 : Int32) = v11 then (again13 (s13 + 1) h12) else (xg ((0 : Int32) = 0 ∨ (0 : Int32) = 1) <| xv 0 h12))) xfu 0 h1)) xfu 0 h
theorem CX0_keepsProducts (E : XG) (p1 : Nat) (p2 : Nat) (p3 : Nat) (h : XH) : XN E mX0_keepsProducts eI 0 0 [.ref p1, .ref p2, .ref p3] h (FX0_keepsProducts E p1 p2 p3 h) := by
  unfold FX0_keepsProducts
  refine S_enter (L := [some (.ref p1), some (.ref p2), some (.ref p3), none, none]) (by decide +kernel) rfl rfl rfl ?_
  refine S_ic 0 0 dX0_keepsProducts_0 (by decide) ?_
  refine S_istore_3 1 dX0_keepsProducts_1 rfl ?_
  refine S_loop (fun (s2 : Int32) => [some (.ref p1), some (.ref p2), some (.ref p3), some (.int s2), none]) (fun again2 hg2 s2 h1 => ?_) xfu _ _
  refine S_iload_3 2 dX0_keepsProducts_2 ?_
  refine S_aload_1 3 dX0_keepsProducts_3 ?_
  refine S_getI 4 fsX0_53 rfl dX0_keepsProducts_4 ?_
  refine S_icmpge 7 65 dX0_keepsProducts_7 (by decide) ?_ ?_
  · skip
    refine S_ic 65 1 dX0_keepsProducts_65 (by decide) ?_
    exact S_zret 66 dX0_keepsProducts_66 rfl
  · skip
    refine S_ic 10 0 dX0_keepsProducts_10 (by decide) ?_
    refine S_istore_4 11 dX0_keepsProducts_11 rfl ?_
    refine S_loop (fun (s13 : Int32) => [some (.ref p1), some (.ref p2), some (.ref p3), some (.int s2), some (.int s13)]) (fun again13 hg13 s13 h2 => ?_) xfu _ _
    refine S_iload_4 13 dX0_keepsProducts_13 ?_
    refine S_aload_1 15 dX0_keepsProducts_15 ?_
    refine S_getI 16 fsX0_53 rfl dX0_keepsProducts_16 ?_
    refine S_icmpge 19 59 dX0_keepsProducts_19 (by decide) ?_ ?_
    · skip
      refine S_iinc_3 59 (s2 + 1) dX0_keepsProducts_59 (by rfl) rfl ?_
      refine S_goto 62 2 dX0_keepsProducts_62 (by decide) ?_
      exact S_drop [4] rfl (hg2 _ _)
    · skip
      refine S_aload_0 22 dX0_keepsProducts_22 ?_
      refine S_aload_1 23 dX0_keepsProducts_23 ?_
      refine S_iload_3 24 dX0_keepsProducts_24 ?_
      refine S_iload_4 25 dX0_keepsProducts_25 ?_
      refine S_callV (a' := 0) (b' := 0) (a := 0) (b := 0) 27 (As := [.int s2, .int s13]) (ci := 2) rfl calX2_product imX2_product seX2_product mkX0_58 rfl rfl rfl rfl rfl (by decide) rfl rfl dX0_keepsProducts_27 (CX2_product E p2 s2 s13 h2) (fun v3 h4 => kqI ?_)
      refine S_callSN (a' := 0) (b' := 0) (a := 0) (b := 0) 30 (As := [.ref p1, .int v3]) rfl calX8_at stX8_at (List.mem_of_getElem? (i := 0) rfl) rfl rfl rfl rfl rfl dX0_keepsProducts_30 (CX8_at E p1 v3 h4) (fun v5 h6 => kqI ?_)
      refine S_aload_2 33 dX0_keepsProducts_33 ?_
      refine S_aload_0 34 dX0_keepsProducts_34 ?_
      refine S_iload_3 35 dX0_keepsProducts_35 ?_
      refine S_callSN (a' := 0) (b' := 0) (a := 0) (b := 0) 36 (As := [.ref p1, .int s2]) rfl calX8_at stX8_at (List.mem_of_getElem? (i := 0) rfl) rfl rfl rfl rfl rfl dX0_keepsProducts_36 (CX8_at E p1 s2 h6) (fun v7 h8 => kqI ?_)
      refine S_aload_0 39 dX0_keepsProducts_39 ?_
      refine S_iload_4 40 dX0_keepsProducts_40 ?_
      refine S_callSN (a' := 0) (b' := 0) (a := 0) (b := 0) 42 (As := [.ref p1, .int s13]) rfl calX8_at stX8_at (List.mem_of_getElem? (i := 0) rfl) rfl rfl rfl rfl rfl dX0_keepsProducts_42 (CX8_at E p1 s13 h8) (fun v9 h10 => kqI ?_)
      refine S_callV (a' := 0) (b' := 0) (a := 0) (b := 0) 45 (As := [.int v7, .int v9]) (ci := 2) rfl calX2_product imX2_product seX2_product mkX0_58 rfl rfl rfl rfl rfl (by decide) rfl rfl dX0_keepsProducts_45 (CX2_product E p3 v7 v9 h10) (fun v11 h12 => kqI ?_)
      refine S_icmpeq 48 53 dX0_keepsProducts_48 (by decide) ?_ ?_
      · skip
        refine S_iinc_4 53 (s13 + 1) dX0_keepsProducts_53 (by rfl) rfl ?_
        refine S_goto 56 13 dX0_keepsProducts_56 (by decide) ?_
        exact S_drop [] rfl (hg13 _ _)
      · skip
        refine S_ic 51 0 dX0_keepsProducts_51 (by decide) ?_
        exact S_zret 52 dX0_keepsProducts_52 rfl
def FX1_boundaryOf (E : XG) (t : Nat) (p1 : Int32) (h : XH) : XP Int32 := xg (xk h t = 2) <| xnn (xr h t 3) fun w1 => xb (FX8_at E w1 p1 h) fun v2 h3 => xv v2 h3
theorem CX1_boundaryOf (E : XG) (t : Nat) (p1 : Int32) (h : XH) : XN E mX1_boundaryOf eI 0 0 [.ref t, .int p1] h (FX1_boundaryOf E t p1 h) := by
  unfold FX1_boundaryOf
  refine S_enter (L := [some (.ref t), some (.int p1)]) (by decide +kernel) rfl rfl rfl ?_
  refine S_aload_0 0 dX1_boundaryOf_0 ?_
  refine S_getR 1 fsX1_9 rfl dX1_boundaryOf_1 (fun w1 => ?_)
  refine S_iload_1 4 dX1_boundaryOf_4 ?_
  refine S_callSN (a' := 0) (b' := 0) (a := 0) (b := 0) 5 (As := [.ref w1, .int p1]) rfl calX8_at stX8_at (List.mem_of_getElem? (i := 3) rfl) rfl rfl rfl rfl rfl dX1_boundaryOf_5 (CX8_at E w1 p1 h) (fun v2 h3 => kqI ?_)
  exact S_iret 8 dX1_boundaryOf_8 rfl
def FX0_keepsBoundaries (E : XG) (t : Nat) (h : XH) : XP Int32 := xlp (fun again2 (s2 : Int32) h1 => xg (xk h1 t = 1) <| xnn (xr h1 t 0) fun w2 => xg (xk h1 w2 = 2) <| xnn (xr h1 w2 1) fun w3 => xg (xk h1 w3 = 3) <| if ((xi h1 w3 3) : Int32) ≤ s2 then (xg ((1 : Int32) = 0 ∨ (1 : Int32) = 1) <| xv 1 h1) else (xg (xk h1 t = 1) <| xnn (xr h1 t 1) fun w4 => xg (xk h1 t = 1) <| xb (FX0_topOf E t s2 h1) fun v5 h6 => xg (xk h6 w4 = 2) <| xb (FX1_boundaryOf E w4 v5 h6) fun v7 h8 => xg (xk h8 t = 1) <| xnn (xr h8 t 0) fun w9 => xg (xk h8 w9 = 2) <| xb (FX1_boundaryOf E w9 s2 h8) fun v10 h11 => xg (xk h11 t = 1) <| xb (FX0_bottomOf E t v10 h11) fun v12 h13 => if (v7 : Int32) = v12 then (again2 (s2 + 1) h13) else (xg ((0 : Int32) = 0 ∨ (0 : Int32) = 1) <| xv 0 h13))) xfu 0 h
theorem CX0_keepsBoundaries (E : XG) (t : Nat) (h : XH) : XN E mX0_keepsBoundaries eI 0 0 [.ref t] h (FX0_keepsBoundaries E t h) := by
  unfold FX0_keepsBoundaries
  refine S_enter (L := [some (.ref t), none]) (by decide +kernel) rfl rfl rfl ?_
  refine S_ic 0 0 dX0_keepsBoundaries_0 (by decide) ?_
  refine S_istore_1 1 dX0_keepsBoundaries_1 rfl ?_
  refine S_loop (fun (s2 : Int32) => [some (.ref t), some (.int s2)]) (fun again2 hg2 s2 h1 => ?_) xfu _ _
  refine S_iload_1 2 dX0_keepsBoundaries_2 ?_
  refine S_aload_0 3 dX0_keepsBoundaries_3 ?_
  refine S_getR 4 fsX0_18 rfl dX0_keepsBoundaries_4 (fun w2 => ?_)
  refine S_getR 7 fsX0_35 rfl dX0_keepsBoundaries_7 (fun w3 => ?_)
  refine S_getI 10 fsX0_53 rfl dX0_keepsBoundaries_10 ?_
  refine S_icmpge 13 51 dX0_keepsBoundaries_13 (by decide) ?_ ?_
  · skip
    refine S_ic 51 1 dX0_keepsBoundaries_51 (by decide) ?_
    exact S_zret 52 dX0_keepsBoundaries_52 rfl
  · skip
    refine S_aload_0 16 dX0_keepsBoundaries_16 ?_
    refine S_getR 17 fsX0_22 rfl dX0_keepsBoundaries_17 (fun w4 => ?_)
    refine S_aload_0 20 dX0_keepsBoundaries_20 ?_
    refine S_iload_1 21 dX0_keepsBoundaries_21 ?_
    refine S_callV (a' := 0) (b' := 0) (a := 0) (b := 0) 22 (As := [.int s2]) (ci := 0) rfl calX0_topOf imX0_topOf seX0_topOf mkX0_62 rfl rfl rfl rfl rfl (by decide) rfl rfl dX0_keepsBoundaries_22 (CX0_topOf E t s2 h1) (fun v5 h6 => kqI ?_)
    refine S_callV (a' := 0) (b' := 0) (a := 0) (b := 0) 25 (As := [.int v5]) (ci := 1) rfl calX1_boundaryOf imX1_boundaryOf seX1_boundaryOf mkX0_66 rfl rfl rfl rfl rfl (by decide) rfl rfl dX0_keepsBoundaries_25 (CX1_boundaryOf E w4 v5 h6) (fun v7 h8 => kqI ?_)
    refine S_aload_0 28 dX0_keepsBoundaries_28 ?_
    refine S_aload_0 29 dX0_keepsBoundaries_29 ?_
    refine S_getR 30 fsX0_18 rfl dX0_keepsBoundaries_30 (fun w9 => ?_)
    refine S_iload_1 33 dX0_keepsBoundaries_33 ?_
    refine S_callV (a' := 0) (b' := 0) (a := 0) (b := 0) 34 (As := [.int s2]) (ci := 1) rfl calX1_boundaryOf imX1_boundaryOf seX1_boundaryOf mkX0_66 rfl rfl rfl rfl rfl (by decide) rfl rfl dX0_keepsBoundaries_34 (CX1_boundaryOf E w9 s2 h8) (fun v10 h11 => kqI ?_)
    refine S_callV (a' := 0) (b' := 0) (a := 0) (b := 0) 37 (As := [.int v10]) (ci := 0) rfl calX0_bottomOf imX0_bottomOf seX0_bottomOf mkX0_69 rfl rfl rfl rfl rfl (by decide) rfl rfl dX0_keepsBoundaries_37 (CX0_bottomOf E t v10 h11) (fun v12 h13 => kqI ?_)
    refine S_icmpeq 40 45 dX0_keepsBoundaries_40 (by decide) ?_ ?_
    · skip
      refine S_iinc_1 45 (s2 + 1) dX0_keepsBoundaries_45 (by rfl) rfl ?_
      refine S_goto 48 2 dX0_keepsBoundaries_48 (by decide) ?_
      exact S_drop [] rfl (hg2 _ _)
    · skip
      refine S_ic 43 0 dX0_keepsBoundaries_43 (by decide) ?_
      exact S_zret 44 dX0_keepsBoundaries_44 rfl
def FX1_actionOf (E : XG) (t : Nat) (p1 : Int32) (p2 : Int32) (h : XH) : XP Int32 := xg (xk h t = 2) <| xnn (xr h t 4) fun w1 => xb (FX8_at E w1 ((p1 * 8) + p2) h) fun v2 h3 => xv v2 h3
theorem CX1_actionOf (E : XG) (t : Nat) (p1 : Int32) (p2 : Int32) (h : XH) : XN E mX1_actionOf eI 0 0 [.ref t, .int p1, .int p2] h (FX1_actionOf E t p1 p2 h) := by
  unfold FX1_actionOf
  refine S_enter (L := [some (.ref t), some (.int p1), some (.int p2)]) (by decide +kernel) rfl rfl rfl ?_
  refine S_aload_0 0 dX1_actionOf_0 ?_
  refine S_getR 1 fsX1_15 rfl dX1_actionOf_1 (fun w1 => ?_)
  refine S_iload_1 4 dX1_actionOf_4 ?_
  refine S_bip 5 8 dX1_actionOf_5 (by decide) ?_
  refine S_imul 7 dX1_actionOf_7 ?_
  refine S_iload_2 8 dX1_actionOf_8 ?_
  refine S_iadd 9 dX1_actionOf_9 ?_
  refine S_callSN (a' := 0) (b' := 0) (a := 0) (b := 0) 10 (As := [.ref w1, .int ((p1 * 8) + p2)]) rfl calX8_at stX8_at (List.mem_of_getElem? (i := 3) rfl) rfl rfl rfl rfl rfl dX1_actionOf_10 (CX8_at E w1 ((p1 * 8) + p2) h) (fun v2 h3 => kqI ?_)
  exact S_iret 13 dX1_actionOf_13 rfl
def FX0_keepsActions (E : XG) (t : Nat) (h : XH) : XP Int32 := xlp (fun again2 (s2 : Int32) h1 => xg (xk h1 t = 1) <| xnn (xr h1 t 0) fun w2 => xg (xk h1 w2 = 2) <| xnn (xr h1 w2 2) fun w3 => xg (xk h1 w3 = 3) <| if ((xi h1 w3 3) : Int32) ≤ s2 then (xg ((1 : Int32) = 0 ∨ (1 : Int32) = 1) <| xv 1 h1) else (xlp (fun again18 (s18 : Int32) h4 => xg (xk h4 t = 1) <| xnn (xr h4 t 0) fun w5 => xg (xk h4 w5 = 2) <| xnn (xr h4 w5 1) fun w6 => xg (xk h4 w6 = 3) <| if ((xi h4 w6 3) : Int32) ≤ s18 then (again2 (s2 + 1) h4) else (xg (xk h4 t = 1) <| xnn (xr h4 t 0) fun w7 => xg (xk h4 w7 = 2) <| xb (FX1_actionOf E w7 s2 s18 h4) fun v8 h9 => xg (xk h9 t = 1) <| xb (FX0_topOf E t v8 h9) fun v10 h11 => xg (xk h11 t = 1) <| xnn (xr h11 t 1) fun w12 => xg (xk h11 t = 1) <| xb (FX0_bottomOf E t s2 h11) fun v13 h14 => xg (xk h14 t = 1) <| xb (FX0_topOf E t s18 h14) fun v15 h16 => xg (xk h16 w12 = 2) <| xb (FX1_actionOf E w12 v13 v15 h16) fun v17 h18 => if (v10 : Int32) = v17 then (again18 (s18 + 1) h18) else (xg ((0 : Int32) = 0 ∨ (0 : Int32) = 1) <| xv 0 h18))) xfu 0 h1)) xfu 0 h
theorem CX0_keepsActions (E : XG) (t : Nat) (h : XH) : XN E mX0_keepsActions eI 0 0 [.ref t] h (FX0_keepsActions E t h) := by
  unfold FX0_keepsActions
  refine S_enter (L := [some (.ref t), none, none]) (by decide +kernel) rfl rfl rfl ?_
  refine S_ic 0 0 dX0_keepsActions_0 (by decide) ?_
  refine S_istore_1 1 dX0_keepsActions_1 rfl ?_
  refine S_loop (fun (s2 : Int32) => [some (.ref t), some (.int s2), none]) (fun again2 hg2 s2 h1 => ?_) xfu _ _
  refine S_iload_1 2 dX0_keepsActions_2 ?_
  refine S_aload_0 3 dX0_keepsActions_3 ?_
  refine S_getR 4 fsX0_18 rfl dX0_keepsActions_4 (fun w2 => ?_)
  refine S_getR 7 fsX0_43 rfl dX0_keepsActions_7 (fun w3 => ?_)
  refine S_getI 10 fsX0_53 rfl dX0_keepsActions_10 ?_
  refine S_icmpge 13 79 dX0_keepsActions_13 (by decide) ?_ ?_
  · skip
    refine S_ic 79 1 dX0_keepsActions_79 (by decide) ?_
    exact S_zret 80 dX0_keepsActions_80 rfl
  · skip
    refine S_ic 16 0 dX0_keepsActions_16 (by decide) ?_
    refine S_istore_2 17 dX0_keepsActions_17 rfl ?_
    refine S_loop (fun (s18 : Int32) => [some (.ref t), some (.int s2), some (.int s18)]) (fun again18 hg18 s18 h4 => ?_) xfu _ _
    refine S_iload_2 18 dX0_keepsActions_18 ?_
    refine S_aload_0 19 dX0_keepsActions_19 ?_
    refine S_getR 20 fsX0_18 rfl dX0_keepsActions_20 (fun w5 => ?_)
    refine S_getR 23 fsX0_35 rfl dX0_keepsActions_23 (fun w6 => ?_)
    refine S_getI 26 fsX0_53 rfl dX0_keepsActions_26 ?_
    refine S_icmpge 29 73 dX0_keepsActions_29 (by decide) ?_ ?_
    · skip
      refine S_iinc_1 73 (s2 + 1) dX0_keepsActions_73 (by rfl) rfl ?_
      refine S_goto 76 2 dX0_keepsActions_76 (by decide) ?_
      exact S_drop [2] rfl (hg2 _ _)
    · skip
      refine S_aload_0 32 dX0_keepsActions_32 ?_
      refine S_aload_0 33 dX0_keepsActions_33 ?_
      refine S_getR 34 fsX0_18 rfl dX0_keepsActions_34 (fun w7 => ?_)
      refine S_iload_1 37 dX0_keepsActions_37 ?_
      refine S_iload_2 38 dX0_keepsActions_38 ?_
      refine S_callV (a' := 0) (b' := 0) (a := 0) (b := 0) 39 (As := [.int s2, .int s18]) (ci := 1) rfl calX1_actionOf imX1_actionOf seX1_actionOf mkX0_72 rfl rfl rfl rfl rfl (by decide) rfl rfl dX0_keepsActions_39 (CX1_actionOf E w7 s2 s18 h4) (fun v8 h9 => kqI ?_)
      refine S_callV (a' := 0) (b' := 0) (a := 0) (b := 0) 42 (As := [.int v8]) (ci := 0) rfl calX0_topOf imX0_topOf seX0_topOf mkX0_62 rfl rfl rfl rfl rfl (by decide) rfl rfl dX0_keepsActions_42 (CX0_topOf E t v8 h9) (fun v10 h11 => kqI ?_)
      refine S_aload_0 45 dX0_keepsActions_45 ?_
      refine S_getR 46 fsX0_22 rfl dX0_keepsActions_46 (fun w12 => ?_)
      refine S_aload_0 49 dX0_keepsActions_49 ?_
      refine S_iload_1 50 dX0_keepsActions_50 ?_
      refine S_callV (a' := 0) (b' := 0) (a := 0) (b := 0) 51 (As := [.int s2]) (ci := 0) rfl calX0_bottomOf imX0_bottomOf seX0_bottomOf mkX0_69 rfl rfl rfl rfl rfl (by decide) rfl rfl dX0_keepsActions_51 (CX0_bottomOf E t s2 h11) (fun v13 h14 => kqI ?_)
      refine S_aload_0 54 dX0_keepsActions_54 ?_
      refine S_iload_2 55 dX0_keepsActions_55 ?_
      refine S_callV (a' := 0) (b' := 0) (a := 0) (b := 0) 56 (As := [.int s18]) (ci := 0) rfl calX0_topOf imX0_topOf seX0_topOf mkX0_62 rfl rfl rfl rfl rfl (by decide) rfl rfl dX0_keepsActions_56 (CX0_topOf E t s18 h14) (fun v15 h16 => kqI ?_)
      refine S_callV (a' := 0) (b' := 0) (a := 0) (b := 0) 59 (As := [.int v13, .int v15]) (ci := 1) rfl calX1_actionOf imX1_actionOf seX1_actionOf mkX0_72 rfl rfl rfl rfl rfl (by decide) rfl rfl dX0_keepsActions_59 (CX1_actionOf E w12 v13 v15 h16) (fun v17 h18 => kqI ?_)
      refine S_icmpeq 62 67 dX0_keepsActions_62 (by decide) ?_ ?_
      · skip
        refine S_iinc_2 67 (s18 + 1) dX0_keepsActions_67 (by rfl) rfl ?_
        refine S_goto 70 18 dX0_keepsActions_70 (by decide) ?_
        exact S_drop [] rfl (hg18 _ _)
      · skip
        refine S_ic 65 0 dX0_keepsActions_65 (by decide) ?_
        exact S_zret 66 dX0_keepsActions_66 rfl
def FX0_firstReason (E : XG) (t : Nat) (h : XH) : XP Int32 := xg (xk h t = 1) <| xnn (xr h t 0) fun w1 => xg (xk h w1 = 2) <| xjn (fun  (h2 : XH) => xv 1 h2) fun (j20 : XH → XP Int32) => if ((xi h w1 7) : Int32) = 0 then (xg (xk h t = 1) <| xnn (xr h t 1) fun w3 => xg (xk h w3 = 2) <| if ((xi h w3 7) : Int32) = 0 then (xg (xk h t = 1) <| xnn (xr h t 2) fun w4 => xg (xk h t = 1) <| xnn (xr h t 0) fun w5 => xg (xk h w5 = 2) <| xnn (xr h w5 1) fun w6 => xg (xk h t = 1) <| xnn (xr h t 1) fun w7 => xg (xk h w7 = 2) <| xnn (xr h w7 1) fun w8 => xb (FX0_keepsProducts E w4 w6 w8 h) fun v9 h10 => if (v9 : Int32) = 0 then (xv 2 h10) else (xg (xk h10 t = 1) <| xnn (xr h10 t 3) fun w11 => xg (xk h10 t = 1) <| xnn (xr h10 t 0) fun w12 => xg (xk h10 w12 = 2) <| xnn (xr h10 w12 2) fun w13 => xg (xk h10 t = 1) <| xnn (xr h10 t 1) fun w14 => xg (xk h10 w14 = 2) <| xnn (xr h10 w14 2) fun w15 => xb (FX0_keepsProducts E w11 w13 w15 h10) fun v16 h17 => if (v16 : Int32) = 0 then (xv 3 h17) else (xg (xk h17 t = 1) <| xb (FX0_keepsBoundaries E t  h17) fun v18 h19 => if (v18 : Int32) = 0 then (xv 4 h19) else (xg (xk h19 t = 1) <| xb (FX0_keepsActions E t  h19) fun v20 h21 => xjn (fun (v22 : Int32) (h23 : XH) => xv v22 h23) fun (j95 : Int32 → XH → XP Int32) => if (v20 : Int32) = 0 then (j95 5 h21) else (j95 0 h21))))) else (j20 h)) else (j20 h)
theorem CX0_firstReason (E : XG) (t : Nat) (h : XH) : XN E mX0_firstReason eI 0 0 [.ref t] h (FX0_firstReason E t h) := by
  unfold FX0_firstReason
  refine S_enter (L := [some (.ref t)]) (by decide +kernel) rfl rfl rfl ?_
  refine S_aload_0 0 dX0_firstReason_0 ?_
  refine S_getR 1 fsX0_18 rfl dX0_firstReason_1 (fun w1 => ?_)
  refine S_getI 4 fsX0_29 rfl dX0_firstReason_4 ?_
  refine S_join (fun jj => ∀  (h2 : XH), XS E mX0_firstReason eI 0 0 20 [none] [] h2 (jj  h2)) (fun  h2 => ?_) (fun j20 hj20 => ?_)
  · skip
    refine S_ic 20 1 dX0_firstReason_20 (by decide) ?_
    exact S_iret 21 dX0_firstReason_21 rfl
  refine S_ifne 7 20 dX0_firstReason_7 (by decide) ?_ ?_
  · skip
    exact S_drop [0] rfl (hj20 _)
  · skip
    refine S_aload_0 10 dX0_firstReason_10 ?_
    refine S_getR 11 fsX0_22 rfl dX0_firstReason_11 (fun w3 => ?_)
    refine S_getI 14 fsX0_29 rfl dX0_firstReason_14 ?_
    refine S_ifeq 17 22 dX0_firstReason_17 (by decide) ?_ ?_
    · skip
      refine S_aload_0 22 dX0_firstReason_22 ?_
      refine S_getR 23 fsX0_9 rfl dX0_firstReason_23 (fun w4 => ?_)
      refine S_aload_0 26 dX0_firstReason_26 ?_
      refine S_getR 27 fsX0_18 rfl dX0_firstReason_27 (fun w5 => ?_)
      refine S_getR 30 fsX0_35 rfl dX0_firstReason_30 (fun w6 => ?_)
      refine S_aload_0 33 dX0_firstReason_33 ?_
      refine S_getR 34 fsX0_22 rfl dX0_firstReason_34 (fun w7 => ?_)
      refine S_getR 37 fsX0_35 rfl dX0_firstReason_37 (fun w8 => ?_)
      refine S_callS (a' := 0) (b' := 0) (a := 0) (b := 0) 40 (As := [.ref w4, .ref w6, .ref w8]) rfl calX0_keepsProducts stX0_keepsProducts mkX0_39 rfl rfl rfl rfl rfl dX0_firstReason_40 (CX0_keepsProducts E w4 w6 w8 h) (fun v9 h10 => kqI ?_)
      refine S_ifne 43 48 dX0_firstReason_43 (by decide) ?_ ?_
      · skip
        refine S_aload_0 48 dX0_firstReason_48 ?_
        refine S_getR 49 fsX0_15 rfl dX0_firstReason_49 (fun w11 => ?_)
        refine S_aload_0 52 dX0_firstReason_52 ?_
        refine S_getR 53 fsX0_18 rfl dX0_firstReason_53 (fun w12 => ?_)
        refine S_getR 56 fsX0_43 rfl dX0_firstReason_56 (fun w13 => ?_)
        refine S_aload_0 59 dX0_firstReason_59 ?_
        refine S_getR 60 fsX0_22 rfl dX0_firstReason_60 (fun w14 => ?_)
        refine S_getR 63 fsX0_43 rfl dX0_firstReason_63 (fun w15 => ?_)
        refine S_callS (a' := 0) (b' := 0) (a := 0) (b := 0) 66 (As := [.ref w11, .ref w13, .ref w15]) rfl calX0_keepsProducts stX0_keepsProducts mkX0_39 rfl rfl rfl rfl rfl dX0_firstReason_66 (CX0_keepsProducts E w11 w13 w15 h10) (fun v16 h17 => kqI ?_)
        refine S_ifne 69 74 dX0_firstReason_69 (by decide) ?_ ?_
        · skip
          refine S_aload_0 74 dX0_firstReason_74 ?_
          refine S_callV (a' := 0) (b' := 0) (a := 0) (b := 0) 75 (As := []) (ci := 0) rfl calX0_keepsBoundaries imX0_keepsBoundaries seX0_keepsBoundaries mkX0_46 rfl rfl rfl rfl rfl (by decide) rfl rfl dX0_firstReason_75 (CX0_keepsBoundaries E t  h17) (fun v18 h19 => kqI ?_)
          refine S_ifne 78 83 dX0_firstReason_78 (by decide) ?_ ?_
          · skip
            refine S_aload_0 83 dX0_firstReason_83 ?_
            refine S_callV (a' := 0) (b' := 0) (a := 0) (b := 0) 84 (As := []) (ci := 0) rfl calX0_keepsActions imX0_keepsActions seX0_keepsActions mkX0_50 rfl rfl rfl rfl rfl (by decide) rfl rfl dX0_firstReason_84 (CX0_keepsActions E t  h19) (fun v20 h21 => kqI ?_)
            refine S_join (fun jj => ∀ (v22 : Int32) (h23 : XH), XS E mX0_firstReason eI 0 0 95 [none] [.int v22] h23 (jj v22 h23)) (fun v22 h23 => ?_) (fun j95 hj95 => ?_)
            · skip
              exact S_iret 95 dX0_firstReason_95 rfl
            refine S_ifeq 87 94 dX0_firstReason_87 (by decide) ?_ ?_
            · skip
              refine S_ic 94 5 dX0_firstReason_94 (by decide) ?_
              exact S_drop [0] rfl (hj95 _ _)
            · skip
              refine S_ic 90 0 dX0_firstReason_90 (by decide) ?_
              refine S_goto 91 95 dX0_firstReason_91 (by decide) ?_
              exact S_drop [0] rfl (hj95 _ _)
          · skip
            refine S_ic 81 4 dX0_firstReason_81 (by decide) ?_
            exact S_iret 82 dX0_firstReason_82 rfl
        · skip
          refine S_ic 72 3 dX0_firstReason_72 (by decide) ?_
          exact S_iret 73 dX0_firstReason_73 rfl
      · skip
        refine S_ic 46 2 dX0_firstReason_46 (by decide) ?_
        exact S_iret 47 dX0_firstReason_47 rfl
    · skip
      exact S_drop [0] rfl (hj20 _)
def FX1_kernelSet (E : XG) (t : Nat) (h : XH) : XP Int32 := xlp (fun again4 (s4 : Int32 × Int32) h1 => xg (xk h1 t = 2) <| xnn (xr h1 t 1) fun w2 => xg (xk h1 w2 = 3) <| if ((xi h1 w2 3) : Int32) ≤ s4.2 then (xv s4.1 h1) else (xg (xk h1 t = 2) <| xb (FX1_boundaryOf E t s4.2 h1) fun v3 h4 => xjn (fun (v5 : Int32) (h6 : XH) => xlt (s4.1 ||| v5) fun v7 => again4 (v7, (s4.2 + 1)) h6) fun (j31 : Int32 → XH → XP Int32) => if (v3 : Int32) = 0 then (j31 (1 <<< (s4.2 &&& 31)) h4) else (j31 0 h4))) xfu (0, 0) h
theorem CX1_kernelSet (E : XG) (t : Nat) (h : XH) : XN E mX1_kernelSet eI 0 0 [.ref t] h (FX1_kernelSet E t h) := by
  unfold FX1_kernelSet
  refine S_enter (L := [some (.ref t), none, none]) (by decide +kernel) rfl rfl rfl ?_
  refine S_ic 0 0 dX1_kernelSet_0 (by decide) ?_
  refine S_istore_1 1 dX1_kernelSet_1 rfl ?_
  refine S_ic 2 0 dX1_kernelSet_2 (by decide) ?_
  refine S_istore_2 3 dX1_kernelSet_3 rfl ?_
  refine S_loop (fun (s4 : Int32 × Int32) => [some (.ref t), some (.int s4.1), some (.int s4.2)]) (fun again4 hg4 s4 h1 => ?_) xfu _ _
  refine S_iload_2 4 dX1_kernelSet_4 ?_
  refine S_aload_0 5 dX1_kernelSet_5 ?_
  refine S_getR 6 fsX1_29 rfl dX1_kernelSet_6 (fun w2 => ?_)
  refine S_getI 9 fsX1_56 rfl dX1_kernelSet_9 ?_
  refine S_icmpge 12 39 dX1_kernelSet_12 (by decide) ?_ ?_
  · skip
    refine S_iload_1 39 dX1_kernelSet_39 ?_
    exact S_iret 40 dX1_kernelSet_40 rfl
  · skip
    refine S_iload_1 15 dX1_kernelSet_15 ?_
    refine S_aload_0 16 dX1_kernelSet_16 ?_
    refine S_iload_2 17 dX1_kernelSet_17 ?_
    refine S_callV (a' := 0) (b' := 0) (a := 0) (b := 0) 18 (As := [.int s4.2]) (ci := 1) rfl calX1_boundaryOf imX1_boundaryOf seX1_boundaryOf mkX1_88 rfl rfl rfl rfl rfl (by decide) rfl rfl dX1_kernelSet_18 (CX1_boundaryOf E t s4.2 h1) (fun v3 h4 => kqI ?_)
    refine S_join (fun jj => ∀ (v5 : Int32) (h6 : XH), XS E mX1_kernelSet eI 0 0 31 [some (.ref t), none, some (.int s4.2)] [.int v5, .int s4.1] h6 (jj v5 h6)) (fun v5 h6 => ?_) (fun j31 hj31 => ?_)
    · skip
      refine S_ior 31 dX1_kernelSet_31 ?_
      refine S_gen (fun v7 => ?_)
      refine S_istore_1 32 dX1_kernelSet_32 rfl ?_
      refine S_iinc_2 33 (s4.2 + 1) dX1_kernelSet_33 (by rfl) rfl ?_
      refine S_goto 36 4 dX1_kernelSet_36 (by decide) ?_
      exact S_drop [] rfl (hg4 _ _)
    refine S_ifne 21 30 dX1_kernelSet_21 (by decide) ?_ ?_
    · skip
      refine S_ic 30 0 dX1_kernelSet_30 (by decide) ?_
      exact S_drop [1] rfl (hj31 _ _)
    · skip
      refine S_ic 24 1 dX1_kernelSet_24 (by decide) ?_
      refine S_iload_2 25 dX1_kernelSet_25 ?_
      refine S_ishl 26 dX1_kernelSet_26 ?_
      refine S_goto 27 31 dX1_kernelSet_27 (by decide) ?_
      exact S_drop [1] rfl (hj31 _ _)
def FJ6_bitCount_0f7a4 (E : XG) (p1 : Int32) (h : XH) : XP Int32 := xlt (p1 - (((p1).toUInt32 >>> ((1).toUInt32 &&& Int32.toUInt32 31)).toInt32 &&& 1431655765)) fun v1 => xlt ((v1 &&& 858993459) + (((v1).toUInt32 >>> ((2).toUInt32 &&& Int32.toUInt32 31)).toInt32 &&& 858993459)) fun v2 => xlt ((v2 + ((v2).toUInt32 >>> ((4).toUInt32 &&& Int32.toUInt32 31)).toInt32) &&& 252645135) fun v3 => xlt (v3 + ((v3).toUInt32 >>> ((8).toUInt32 &&& Int32.toUInt32 31)).toInt32) fun v4 => xlt (v4 + ((v4).toUInt32 >>> ((16).toUInt32 &&& Int32.toUInt32 31)).toInt32) fun v5 => xv (v5 &&& 63) h
theorem CJ6_bitCount_0f7a4 (E : XG) (p1 : Int32) (h : XH) : XN E mJ6_bitCount_0f7a4 eI 0 0 [.int p1] h (FJ6_bitCount_0f7a4 E p1 h) := by
  unfold FJ6_bitCount_0f7a4
  refine S_enter (L := [some (.int p1)]) (by decide +kernel) rfl rfl rfl ?_
  refine S_iload_0 0 dJ6_bitCount_0f7a4_0 ?_
  refine S_iload_0 1 dJ6_bitCount_0f7a4_1 ?_
  refine S_ic 2 1 dJ6_bitCount_0f7a4_2 (by decide) ?_
  refine S_iushr 3 dJ6_bitCount_0f7a4_3 ?_
  refine S_ldcw 4 (v := 1431655765) rfl ⟨List.mem_of_getElem? (i := 1400) (by decide +kernel), rfl⟩ dJ6_bitCount_0f7a4_4 ?_
  refine S_iand 7 dJ6_bitCount_0f7a4_7 ?_
  refine S_isub 8 dJ6_bitCount_0f7a4_8 ?_
  refine S_gen (fun v1 => ?_)
  refine S_istore_0 9 dJ6_bitCount_0f7a4_9 rfl ?_
  refine S_iload_0 10 dJ6_bitCount_0f7a4_10 ?_
  refine S_ldcw 11 (v := 858993459) rfl ⟨List.mem_of_getElem? (i := 1401) (by decide +kernel), rfl⟩ dJ6_bitCount_0f7a4_11 ?_
  refine S_iand 14 dJ6_bitCount_0f7a4_14 ?_
  refine S_iload_0 15 dJ6_bitCount_0f7a4_15 ?_
  refine S_ic 16 2 dJ6_bitCount_0f7a4_16 (by decide) ?_
  refine S_iushr 17 dJ6_bitCount_0f7a4_17 ?_
  refine S_ldcw 18 (v := 858993459) rfl ⟨List.mem_of_getElem? (i := 1401) (by decide +kernel), rfl⟩ dJ6_bitCount_0f7a4_18 ?_
  refine S_iand 21 dJ6_bitCount_0f7a4_21 ?_
  refine S_iadd 22 dJ6_bitCount_0f7a4_22 ?_
  refine S_gen (fun v2 => ?_)
  refine S_istore_0 23 dJ6_bitCount_0f7a4_23 rfl ?_
  refine S_iload_0 24 dJ6_bitCount_0f7a4_24 ?_
  refine S_iload_0 25 dJ6_bitCount_0f7a4_25 ?_
  refine S_ic 26 4 dJ6_bitCount_0f7a4_26 (by decide) ?_
  refine S_iushr 27 dJ6_bitCount_0f7a4_27 ?_
  refine S_iadd 28 dJ6_bitCount_0f7a4_28 ?_
  refine S_ldcw 29 (v := 252645135) rfl ⟨List.mem_of_getElem? (i := 1402) (by decide +kernel), rfl⟩ dJ6_bitCount_0f7a4_29 ?_
  refine S_iand 32 dJ6_bitCount_0f7a4_32 ?_
  refine S_gen (fun v3 => ?_)
  refine S_istore_0 33 dJ6_bitCount_0f7a4_33 rfl ?_
  refine S_iload_0 34 dJ6_bitCount_0f7a4_34 ?_
  refine S_iload_0 35 dJ6_bitCount_0f7a4_35 ?_
  refine S_bip 36 8 dJ6_bitCount_0f7a4_36 (by decide) ?_
  refine S_iushr 38 dJ6_bitCount_0f7a4_38 ?_
  refine S_iadd 39 dJ6_bitCount_0f7a4_39 ?_
  refine S_gen (fun v4 => ?_)
  refine S_istore_0 40 dJ6_bitCount_0f7a4_40 rfl ?_
  refine S_iload_0 41 dJ6_bitCount_0f7a4_41 ?_
  refine S_iload_0 42 dJ6_bitCount_0f7a4_42 ?_
  refine S_bip 43 16 dJ6_bitCount_0f7a4_43 (by decide) ?_
  refine S_iushr 45 dJ6_bitCount_0f7a4_45 ?_
  refine S_iadd 46 dJ6_bitCount_0f7a4_46 ?_
  refine S_gen (fun v5 => ?_)
  refine S_istore_0 47 dJ6_bitCount_0f7a4_47 rfl ?_
  refine S_iload_0 48 dJ6_bitCount_0f7a4_48 ?_
  refine S_bip 49 63 dJ6_bitCount_0f7a4_49 (by decide) ?_
  refine S_iand 51 dJ6_bitCount_0f7a4_51 ?_
  exact S_iret 52 dJ6_bitCount_0f7a4_52 rfl
def FX8_isIn (E : XG) (p1 : Int32) (p2 : Int32) (h : XH) : XP Int32 := xjn (fun (v1 : Int32) (h2 : XH) => xg ((v1 : Int32) = 0 ∨ (v1 : Int32) = 1) <| xv v1 h2) fun (j13 : Int32 → XH → XP Int32) => if (((p1 >>> (p2 &&& 31)) &&& 1) : Int32) = 0 then (j13 0 h) else (j13 1 h)
theorem CX8_isIn (E : XG) (p1 : Int32) (p2 : Int32) (h : XH) : XN E mX8_isIn eI 0 0 [.int p1, .int p2] h (FX8_isIn E p1 p2 h) := by
  unfold FX8_isIn
  refine S_enter (L := [some (.int p1), some (.int p2)]) (by decide +kernel) rfl rfl rfl ?_
  refine S_iload_0 0 dX8_isIn_0 ?_
  refine S_iload_1 1 dX8_isIn_1 ?_
  refine S_ishr 2 dX8_isIn_2 ?_
  refine S_ic 3 1 dX8_isIn_3 (by decide) ?_
  refine S_iand 4 dX8_isIn_4 ?_
  refine S_join (fun jj => ∀ (v1 : Int32) (h2 : XH), XS E mX8_isIn eI 0 0 13 [none, none] [.int v1] h2 (jj v1 h2)) (fun v1 h2 => ?_) (fun j13 hj13 => ?_)
  · skip
    exact S_zret 13 dX8_isIn_13 rfl
  refine S_ifeq 5 12 dX8_isIn_5 (by decide) ?_ ?_
  · skip
    refine S_ic 12 0 dX8_isIn_12 (by decide) ?_
    exact S_drop [0, 1] rfl (hj13 _ _)
  · skip
    refine S_ic 8 1 dX8_isIn_8 (by decide) ?_
    refine S_goto 9 13 dX8_isIn_9 (by decide) ?_
    exact S_drop [0, 1] rfl (hj13 _ _)
def FX0_partsKernel (E : XG) (t : Nat) (p1 : Int32) (h : XH) : XP Int32 := xlp (fun again4 (s4 : Int32 × Int32) h1 => xg (xk h1 t = 1) <| xnn (xr h1 t 0) fun w2 => xg (xk h1 w2 = 2) <| xnn (xr h1 w2 1) fun w3 => xg (xk h1 w3 = 3) <| if ((xi h1 w3 3) : Int32) ≤ s4.2 then (xg ((1 : Int32) = 0 ∨ (1 : Int32) = 1) <| xv 1 h1) else (xb (FX8_isIn E p1 s4.2 h1) fun v4 h5 => xjn (fun  (h6 : XH) => xb (FX8_isIn E p1 s4.2 h6) fun v7 h8 => xjn (fun (v9 : Int32) (h10 : XH) => xlt (s4.1 ||| v9) fun v11 => again4 (v11, (s4.2 + 1)) h10) fun (j60 : Int32 → XH → XP Int32) => if (v7 : Int32) = 0 then (j60 0 h8) else (xg (xk h8 t = 1) <| xb (FX0_topOf E t s4.2 h8) fun v12 h13 => j60 (1 <<< (v12 &&& 31)) h13)) fun (j40 : XH → XP Int32) => if (v4 : Int32) = 0 then (j40 h5) else (xg (xk h5 t = 1) <| xb (FX0_topOf E t s4.2 h5) fun v14 h15 => xb (FX8_isIn E s4.1 v14 h15) fun v16 h17 => if (v16 : Int32) = 0 then (j40 h17) else (xg ((0 : Int32) = 0 ∨ (0 : Int32) = 1) <| xv 0 h17)))) xfu (0, 0) h
theorem CX0_partsKernel (E : XG) (t : Nat) (p1 : Int32) (h : XH) : XN E mX0_partsKernel eI 0 0 [.ref t, .int p1] h (FX0_partsKernel E t p1 h) := by
  unfold FX0_partsKernel
  refine S_enter (L := [some (.ref t), some (.int p1), none, none]) (by decide +kernel) rfl rfl rfl ?_
  refine S_ic 0 0 dX0_partsKernel_0 (by decide) ?_
  refine S_istore_2 1 dX0_partsKernel_1 rfl ?_
  refine S_ic 2 0 dX0_partsKernel_2 (by decide) ?_
  refine S_istore_3 3 dX0_partsKernel_3 rfl ?_
  refine S_loop (fun (s4 : Int32 × Int32) => [some (.ref t), some (.int p1), some (.int s4.1), some (.int s4.2)]) (fun again4 hg4 s4 h1 => ?_) xfu _ _
  refine S_iload_3 4 dX0_partsKernel_4 ?_
  refine S_aload_0 5 dX0_partsKernel_5 ?_
  refine S_getR 6 fsX0_18 rfl dX0_partsKernel_6 (fun w2 => ?_)
  refine S_getR 9 fsX0_35 rfl dX0_partsKernel_9 (fun w3 => ?_)
  refine S_getI 12 fsX0_53 rfl dX0_partsKernel_12 ?_
  refine S_icmpge 15 68 dX0_partsKernel_15 (by decide) ?_ ?_
  · skip
    refine S_ic 68 1 dX0_partsKernel_68 (by decide) ?_
    exact S_zret 69 dX0_partsKernel_69 rfl
  · skip
    refine S_iload_1 18 dX0_partsKernel_18 ?_
    refine S_iload_3 19 dX0_partsKernel_19 ?_
    refine S_callSN (a' := 0) (b' := 0) (a := 0) (b := 0) 20 (As := [.int p1, .int s4.2]) rfl calX8_isIn stX8_isIn (List.mem_of_getElem? (i := 1) rfl) rfl rfl rfl rfl rfl dX0_partsKernel_20 (CX8_isIn E p1 s4.2 h1) (fun v4 h5 => kqI ?_)
    refine S_join (fun jj => ∀  (h6 : XH), XS E mX0_partsKernel eI 0 0 40 [some (.ref t), some (.int p1), some (.int s4.1), some (.int s4.2)] [] h6 (jj  h6)) (fun  h6 => ?_) (fun j40 hj40 => ?_)
    · skip
      refine S_iload_2 40 dX0_partsKernel_40 ?_
      refine S_iload_1 41 dX0_partsKernel_41 ?_
      refine S_iload_3 42 dX0_partsKernel_42 ?_
      refine S_callSN (a' := 0) (b' := 0) (a := 0) (b := 0) 43 (As := [.int p1, .int s4.2]) rfl calX8_isIn stX8_isIn (List.mem_of_getElem? (i := 1) rfl) rfl rfl rfl rfl rfl dX0_partsKernel_43 (CX8_isIn E p1 s4.2 h6) (fun v7 h8 => kqI ?_)
      refine S_join (fun jj => ∀ (v9 : Int32) (h10 : XH), XS E mX0_partsKernel eI 0 0 60 [some (.ref t), some (.int p1), none, some (.int s4.2)] [.int v9, .int s4.1] h10 (jj v9 h10)) (fun v9 h10 => ?_) (fun j60 hj60 => ?_)
      · skip
        refine S_ior 60 dX0_partsKernel_60 ?_
        refine S_gen (fun v11 => ?_)
        refine S_istore_2 61 dX0_partsKernel_61 rfl ?_
        refine S_iinc_3 62 (s4.2 + 1) dX0_partsKernel_62 (by rfl) rfl ?_
        refine S_goto 65 4 dX0_partsKernel_65 (by decide) ?_
        exact S_drop [] rfl (hg4 _ _)
      refine S_ifeq 46 59 dX0_partsKernel_46 (by decide) ?_ ?_
      · skip
        refine S_ic 59 0 dX0_partsKernel_59 (by decide) ?_
        exact S_drop [2] rfl (hj60 _ _)
      · skip
        refine S_ic 49 1 dX0_partsKernel_49 (by decide) ?_
        refine S_aload_0 50 dX0_partsKernel_50 ?_
        refine S_iload_3 51 dX0_partsKernel_51 ?_
        refine S_callV (a' := 0) (b' := 0) (a := 0) (b := 0) 52 (As := [.int s4.2]) (ci := 0) rfl calX0_topOf imX0_topOf seX0_topOf mkX0_62 rfl rfl rfl rfl rfl (by decide) rfl rfl dX0_partsKernel_52 (CX0_topOf E t s4.2 h8) (fun v12 h13 => kqI ?_)
        refine S_ishl 55 dX0_partsKernel_55 ?_
        refine S_goto 56 60 dX0_partsKernel_56 (by decide) ?_
        exact S_drop [2] rfl (hj60 _ _)
    refine S_ifeq 23 40 dX0_partsKernel_23 (by decide) ?_ ?_
    · skip
      exact S_drop [] rfl (hj40 _)
    · skip
      refine S_iload_2 26 dX0_partsKernel_26 ?_
      refine S_aload_0 27 dX0_partsKernel_27 ?_
      refine S_iload_3 28 dX0_partsKernel_28 ?_
      refine S_callV (a' := 0) (b' := 0) (a := 0) (b := 0) 29 (As := [.int s4.2]) (ci := 0) rfl calX0_topOf imX0_topOf seX0_topOf mkX0_62 rfl rfl rfl rfl rfl (by decide) rfl rfl dX0_partsKernel_29 (CX0_topOf E t s4.2 h5) (fun v14 h15 => kqI ?_)
      refine S_callSN (a' := 0) (b' := 0) (a := 0) (b := 0) 32 (As := [.int s4.1, .int v14]) rfl calX8_isIn stX8_isIn (List.mem_of_getElem? (i := 1) rfl) rfl rfl rfl rfl rfl dX0_partsKernel_32 (CX8_isIn E s4.1 v14 h15) (fun v16 h17 => kqI ?_)
      refine S_ifeq 35 40 dX0_partsKernel_35 (by decide) ?_ ?_
      · skip
        exact S_drop [] rfl (hj40 _)
      · skip
        refine S_ic 38 0 dX0_partsKernel_38 (by decide) ?_
        exact S_zret 39 dX0_partsKernel_39 rfl
def FJ7_fill_53178 (E : XG) (p1 : Nat) (p2 : Int32) (h : XH) : XP Unit := xg (xk h p1 = 12) <| xlt (Int32.ofNat (xn h p1)) fun v1 => xlp (fun again5 (s5 : Int32) h2 => if (v1 : Int32) ≤ s5 then (xv () h2) else (xg (xk h2 p1 = 12 ∧ xin s5 (xn h2 p1)) <| xlt (yi h2 p1 (s5 : Int32).toNatClampNeg p2) fun h3 => again5 (s5 + 1) h3)) xfu 0 h
theorem CJ7_fill_53178 (E : XG) (p1 : Nat) (p2 : Int32) (h : XH) : XN E mJ7_fill_53178 eU 0 0 [.ref p1, .int p2] h (FJ7_fill_53178 E p1 p2 h) := by
  unfold FJ7_fill_53178
  refine S_enter (L := [some (.ref p1), some (.int p2), none, none]) (by decide +kernel) rfl rfl rfl ?_
  refine S_ic 0 0 dJ7_fill_53178_0 (by decide) ?_
  refine S_istore_2 1 dJ7_fill_53178_1 rfl ?_
  refine S_aload_0 2 dJ7_fill_53178_2 ?_
  refine S_alen 3 12 1 (by decide) rfl dJ7_fill_53178_3 ?_
  refine S_gen (fun v1 => ?_)
  refine S_istore_3 4 dJ7_fill_53178_4 rfl ?_
  refine S_loop (fun (s5 : Int32) => [some (.ref p1), some (.int p2), some (.int s5), some (.int v1)]) (fun again5 hg5 s5 h2 => ?_) xfu _ _
  refine S_iload_2 5 dJ7_fill_53178_5 ?_
  refine S_iload_3 6 dJ7_fill_53178_6 ?_
  refine S_icmpge 7 20 dJ7_fill_53178_7 (by decide) ?_ ?_
  · skip
    exact S_ret 20 dJ7_fill_53178_20 rfl
  · skip
    refine S_aload_0 10 dJ7_fill_53178_10 ?_
    refine S_iload_2 11 dJ7_fill_53178_11 ?_
    refine S_iload_1 12 dJ7_fill_53178_12 ?_
    refine S_iast 13 dJ7_fill_53178_13 (fun h3 => ?_)
    refine S_iinc_2 14 (s5 + 1) dJ7_fill_53178_14 (by rfl) rfl ?_
    refine S_goto 17 5 dJ7_fill_53178_17 (by decide) ?_
    exact S_drop [] rfl (hg5 _ _)
def FX4_classHolding (E : XG) (t : Nat) (p1 : Int32) (h : XH) : XP Int32 := xg (xk h t = 5) <| xnn (xr h t 0) fun w1 => xb (FX8_at E w1 p1 h) fun v2 h3 => xv v2 h3
theorem CX4_classHolding (E : XG) (t : Nat) (p1 : Int32) (h : XH) : XN E mX4_classHolding eI 0 0 [.ref t, .int p1] h (FX4_classHolding E t p1 h) := by
  unfold FX4_classHolding
  refine S_enter (L := [some (.ref t), some (.int p1)]) (by decide +kernel) rfl rfl rfl ?_
  refine S_aload_0 0 dX4_classHolding_0 ?_
  refine S_getR 1 fsX4_9 rfl dX4_classHolding_1 (fun w1 => ?_)
  refine S_iload_1 4 dX4_classHolding_4 ?_
  refine S_callSN (a' := 0) (b' := 0) (a := 0) (b := 0) 5 (As := [.ref w1, .int p1]) rfl calX8_at stX8_at (List.mem_of_getElem? (i := 11) rfl) rfl rfl rfl rfl rfl dX4_classHolding_5 (CX8_at E w1 p1 h) (fun v2 h3 => kqI ?_)
  exact S_iret 8 dX4_classHolding_8 rfl
def FX8_put (E : XG) (p1 : Nat) (p2 : Int32) (p3 : Int32) (h : XH) : XP Unit := xjn (fun  (h1 : XH) => xv () h1) fun (j14 : XH → XP Unit) => if (p2 : Int32) < 0 then (j14 h) else (xg (xk h p1 = 12) <| if ((Int32.ofNat (xn h p1)) : Int32) ≤ p2 then (j14 h) else (xg (xk h p1 = 12 ∧ xin p2 (xn h p1)) <| xlt (yi h p1 (p2 : Int32).toNatClampNeg p3) fun h2 => j14 h2))
theorem CX8_put (E : XG) (p1 : Nat) (p2 : Int32) (p3 : Int32) (h : XH) : XN E mX8_put eU 0 0 [.ref p1, .int p2, .int p3] h (FX8_put E p1 p2 p3 h) := by
  unfold FX8_put
  refine S_enter (L := [some (.ref p1), some (.int p2), some (.int p3)]) (by decide +kernel) rfl rfl rfl ?_
  refine S_iload_1 0 dX8_put_0 ?_
  refine S_join (fun jj => ∀  (h1 : XH), XS E mX8_put eU 0 0 14 [none, none, none] [] h1 (jj  h1)) (fun  h1 => ?_) (fun j14 hj14 => ?_)
  · skip
    exact S_ret 14 dX8_put_14 rfl
  refine S_iflt 1 14 dX8_put_1 (by decide) ?_ ?_
  · skip
    exact S_drop [0, 1, 2] rfl (hj14 _)
  · skip
    refine S_iload_1 4 dX8_put_4 ?_
    refine S_aload_0 5 dX8_put_5 ?_
    refine S_alen 6 12 1 (by decide) rfl dX8_put_6 ?_
    refine S_icmpge 7 14 dX8_put_7 (by decide) ?_ ?_
    · skip
      exact S_drop [0, 1, 2] rfl (hj14 _)
    · skip
      refine S_aload_0 10 dX8_put_10 ?_
      refine S_iload_1 11 dX8_put_11 ?_
      refine S_iload_2 12 dX8_put_12 ?_
      refine S_iast 13 dX8_put_13 (fun h2 => ?_)
      exact S_drop [0, 1, 2] rfl (hj14 _)
def FX4_sortClasses (E : XG) (t : Nat) (p1 : Nat) (h : XH) : XP Unit := xg (xk h t = 5) <| xnn (xr h t 0) fun w1 => xb (FJ7_fill_53178 E w1 (-1) h) fun _ h2 => xg (xk h2 t = 5) <| xlt (yi h2 t 4 0) fun h3 => xlp (fun again15 (s15 : Int32) h4 => xg (xk h4 p1 = 2) <| xnn (xr h4 p1 2) fun w5 => xg (xk h4 w5 = 3) <| if ((xi h4 w5 3) : Int32) ≤ s15 then (xv () h4) else (xg (xk h4 t = 5) <| xb (FX4_classHolding E t s15 h4) fun v6 h7 => xjn (fun  (h8 : XH) => again15 (s15 + 1) h8) fun (j100 : XH → XP Unit) => if (v6 : Int32) = (-1) then (xg (xk h7 t = 5) <| xnn (xr h7 t 1) fun w9 => xg (xk h7 t = 5) <| xb (FX8_put E w9 (xi h7 t 4) s15 h7) fun _ h10 => xlp (fun again49 (s49 : Int32) h11 => xg (xk h11 p1 = 2) <| xnn (xr h11 p1 1) fun w12 => xg (xk h11 w12 = 3) <| if ((xi h11 w12 3) : Int32) ≤ s49 then (xg (xk h11 t = 5) <| xg (xk h11 t = 5) <| xlt (yi h11 t 4 ((xi h11 t 4) + 1)) fun h13 => j100 h13) else (xg (xk h11 t = 5) <| xnn (xr h11 t 0) fun w14 => xg (xk h11 p1 = 2) <| xnn (xr h11 p1 2) fun w15 => xg (xk h11 p1 = 2) <| xb (FX1_boundaryOf E p1 s49 h11) fun v16 h17 => xg (xk h17 w15 = 3) <| xb (FX2_product E w15 s15 v16 h17) fun v18 h19 => xg (xk h19 t = 5) <| xb (FX8_put E w14 v18 (xi h19 t 4) h19) fun _ h20 => again49 (s49 + 1) h20)) xfu 0 h10) else (j100 h7))) xfu 0 h3
theorem CX4_sortClasses (E : XG) (t : Nat) (p1 : Nat) (h : XH) : XN E mX4_sortClasses eU 0 0 [.ref t, .ref p1] h (FX4_sortClasses E t p1 h) := by
  unfold FX4_sortClasses
  refine S_enter (L := [some (.ref t), some (.ref p1), none, none]) (by decide +kernel) rfl rfl rfl ?_
  refine S_aload_0 0 dX4_sortClasses_0 ?_
  refine S_getR 1 fsX4_9 rfl dX4_sortClasses_1 (fun w1 => ?_)
  refine S_ic 4 (-1) dX4_sortClasses_4 (by decide) ?_
  refine S_callS (a' := 0) (b' := 0) (a := 0) (b := 0) 5 (As := [.ref w1, .int (-1)]) rfl calJ7_fill_53178 stJ7_fill_53178 mkX4_41 rfl rfl rfl rfl rfl dX4_sortClasses_5 (CJ7_fill_53178 E w1 (-1) h) (fun _ h2 => kqU ?_)
  refine S_aload_0 8 dX4_sortClasses_8 ?_
  refine S_ic 9 0 dX4_sortClasses_9 (by decide) ?_
  refine S_putI 10 frX4_24 rfl (fun q => by cases q) dX4_sortClasses_10 (fun h3 => ?_)
  refine S_ic 13 0 dX4_sortClasses_13 (by decide) ?_
  refine S_istore_2 14 dX4_sortClasses_14 rfl ?_
  refine S_loop (fun (s15 : Int32) => [some (.ref t), some (.ref p1), some (.int s15), none]) (fun again15 hg15 s15 h4 => ?_) xfu _ _
  refine S_iload_2 15 dX4_sortClasses_15 ?_
  refine S_aload_1 16 dX4_sortClasses_16 ?_
  refine S_getR 17 fsX4_47 rfl dX4_sortClasses_17 (fun w5 => ?_)
  refine S_getI 20 fsX4_53 rfl dX4_sortClasses_20 ?_
  refine S_icmpge 23 106 dX4_sortClasses_23 (by decide) ?_ ?_
  · skip
    exact S_ret 106 dX4_sortClasses_106 rfl
  · skip
    refine S_aload_0 26 dX4_sortClasses_26 ?_
    refine S_iload_2 27 dX4_sortClasses_27 ?_
    refine S_callV (a' := 0) (b' := 0) (a := 0) (b := 0) 28 (As := [.int s15]) (ci := 4) rfl calX4_classHolding imX4_classHolding seX4_classHolding mkX4_56 rfl rfl rfl rfl rfl (by decide) rfl rfl dX4_sortClasses_28 (CX4_classHolding E t s15 h4) (fun v6 h7 => kqI ?_)
    refine S_ic 31 (-1) dX4_sortClasses_31 (by decide) ?_
    refine S_join (fun jj => ∀  (h8 : XH), XS E mX4_sortClasses eU 0 0 100 [some (.ref t), some (.ref p1), some (.int s15), none] [] h8 (jj  h8)) (fun  h8 => ?_) (fun j100 hj100 => ?_)
    · skip
      refine S_iinc_2 100 (s15 + 1) dX4_sortClasses_100 (by rfl) rfl ?_
      refine S_goto 103 15 dX4_sortClasses_103 (by decide) ?_
      exact S_drop [] rfl (hg15 _ _)
    refine S_icmpne 32 100 dX4_sortClasses_32 (by decide) ?_ ?_
    · skip
      exact S_drop [] rfl (hj100 _)
    · skip
      refine S_aload_0 35 dX4_sortClasses_35 ?_
      refine S_getR 36 fsX4_15 rfl dX4_sortClasses_36 (fun w9 => ?_)
      refine S_aload_0 39 dX4_sortClasses_39 ?_
      refine S_getI 40 fsX4_24 rfl dX4_sortClasses_40 ?_
      refine S_iload_2 43 dX4_sortClasses_43 ?_
      refine S_callSN (a' := 0) (b' := 0) (a := 0) (b := 0) 44 (As := [.ref w9, .int (xi h7 t 4), .int s15]) rfl calX8_put stX8_put (List.mem_of_getElem? (i := 12) rfl) rfl rfl rfl rfl rfl dX4_sortClasses_44 (CX8_put E w9 (xi h7 t 4) s15 h7) (fun _ h10 => kqU ?_)
      refine S_ic 47 0 dX4_sortClasses_47 (by decide) ?_
      refine S_istore_3 48 dX4_sortClasses_48 rfl ?_
      refine S_loop (fun (s49 : Int32) => [some (.ref t), some (.ref p1), some (.int s15), some (.int s49)]) (fun again49 hg49 s49 h11 => ?_) xfu _ _
      refine S_iload_3 49 dX4_sortClasses_49 ?_
      refine S_aload_1 50 dX4_sortClasses_50 ?_
      refine S_getR 51 fsX4_64 rfl dX4_sortClasses_51 (fun w12 => ?_)
      refine S_getI 54 fsX4_53 rfl dX4_sortClasses_54 ?_
      refine S_icmpge 57 90 dX4_sortClasses_57 (by decide) ?_ ?_
      · skip
        refine S_aload_0 90 dX4_sortClasses_90 ?_
        refine S_dup 91 dX4_sortClasses_91 rfl ?_
        refine S_getI 92 fsX4_24 rfl dX4_sortClasses_92 ?_
        refine S_ic 95 1 dX4_sortClasses_95 (by decide) ?_
        refine S_iadd 96 dX4_sortClasses_96 ?_
        refine S_putI 97 frX4_24 rfl (fun q => by cases q) dX4_sortClasses_97 (fun h13 => ?_)
        exact S_drop [3] rfl (hj100 _)
      · skip
        refine S_aload_0 60 dX4_sortClasses_60 ?_
        refine S_getR 61 fsX4_9 rfl dX4_sortClasses_61 (fun w14 => ?_)
        refine S_aload_1 64 dX4_sortClasses_64 ?_
        refine S_getR 65 fsX4_47 rfl dX4_sortClasses_65 (fun w15 => ?_)
        refine S_iload_2 68 dX4_sortClasses_68 ?_
        refine S_aload_1 69 dX4_sortClasses_69 ?_
        refine S_iload_3 70 dX4_sortClasses_70 ?_
        refine S_callV (a' := 0) (b' := 0) (a := 0) (b := 0) 71 (As := [.int s49]) (ci := 1) rfl calX1_boundaryOf imX1_boundaryOf seX1_boundaryOf mkX4_67 rfl rfl rfl rfl rfl (by decide) rfl rfl dX4_sortClasses_71 (CX1_boundaryOf E p1 s49 h11) (fun v16 h17 => kqI ?_)
        refine S_callV (a' := 0) (b' := 0) (a := 0) (b := 0) 74 (As := [.int s15, .int v16]) (ci := 2) rfl calX2_product imX2_product seX2_product mkX4_32 rfl rfl rfl rfl rfl (by decide) rfl rfl dX4_sortClasses_74 (CX2_product E w15 s15 v16 h17) (fun v18 h19 => kqI ?_)
        refine S_aload_0 77 dX4_sortClasses_77 ?_
        refine S_getI 78 fsX4_24 rfl dX4_sortClasses_78 ?_
        refine S_callSN (a' := 0) (b' := 0) (a := 0) (b := 0) 81 (As := [.ref w14, .int v18, .int (xi h19 t 4)]) rfl calX8_put stX8_put (List.mem_of_getElem? (i := 12) rfl) rfl rfl rfl rfl rfl dX4_sortClasses_81 (CX8_put E w14 v18 (xi h19 t 4) h19) (fun _ h20 => kqU ?_)
        refine S_iinc_3 84 (s49 + 1) dX4_sortClasses_84 (by rfl) rfl ?_
        refine S_goto 87 49 dX4_sortClasses_87 (by decide) ?_
        exact S_drop [] rfl (hg49 _ _)
def FX0_matchesClasses (E : XG) (t : Nat) (h : XH) : XP Int32 := xg (xk h t = 1) <| xnn (xr h t 0) fun w1 => xg (xk h w1 = 2) <| xnn (xr h w1 5) fun w2 => xg (xk h t = 1) <| xnn (xr h t 1) fun w3 => xg (xk h w3 = 2) <| xnn (xr h w3 5) fun w4 => xg (xk h t = 1) <| xnn (xr h t 0) fun w5 => xg (xk h w2 = 5) <| xb (FX4_sortClasses E w2 w5 h) fun _ h6 => xg (xk h6 t = 1) <| xnn (xr h6 t 1) fun w7 => xg (xk h6 w4 = 5) <| xb (FX4_sortClasses E w4 w7 h6) fun _ h8 => xlp (fun again34 (s34 : Int32) h9 => xg (xk h9 t = 1) <| xnn (xr h9 t 0) fun w10 => xg (xk h9 w10 = 2) <| xnn (xr h9 w10 2) fun w11 => xg (xk h9 w11 = 3) <| if ((xi h9 w11 3) : Int32) ≤ s34 then (xg (xk h9 w2 = 5) <| xg (xk h9 w4 = 5) <| xjn (fun (v12 : Int32) (h13 : XH) => xg ((v12 : Int32) = 0 ∨ (v12 : Int32) = 1) <| xv v12 h13) fun (j135 : Int32 → XH → XP Int32) => if ((xi h9 w2 4) : Int32) = (xi h9 w4 4) then (j135 1 h9) else (j135 0 h9)) else (xlp (fun again51 (s51 : Int32) h14 => if (s34 : Int32) ≤ s51 then (again34 (s34 + 1) h14) else (xg (xk h14 w2 = 5) <| xb (FX4_classHolding E w2 s34 h14) fun v15 h16 => xg (xk h16 w2 = 5) <| xb (FX4_classHolding E w2 s51 h16) fun v17 h18 => xjn (fun (v19 : Int32) (h20 : XH) => xjn (fun  (h21 : XH) => again51 (s51 + 1) h21) fun (j107 : XH → XP Int32) => if (v19 : Int32) = 0 then (j107 h20) else (xg (xk h20 t = 1) <| xb (FX0_bottomOf E t s34 h20) fun v22 h23 => xg (xk h23 w4 = 5) <| xb (FX4_classHolding E w4 v22 h23) fun v24 h25 => xg (xk h25 t = 1) <| xb (FX0_bottomOf E t s51 h25) fun v26 h27 => xg (xk h27 w4 = 5) <| xb (FX4_classHolding E w4 v26 h27) fun v28 h29 => if (v24 : Int32) = v28 then (xg ((0 : Int32) = 0 ∨ (0 : Int32) = 1) <| xv 0 h29) else (j107 h29))) fun (j76 : Int32 → XH → XP Int32) => if (v15 : Int32) = v17 then (j76 0 h18) else (j76 1 h18))) xfu 0 h9)) xfu 0 h8
theorem CX0_matchesClasses (E : XG) (t : Nat) (h : XH) : XN E mX0_matchesClasses eI 0 0 [.ref t] h (FX0_matchesClasses E t h) := by
  unfold FX0_matchesClasses
  refine S_enter (L := [some (.ref t), none, none, none, none, none]) (by decide +kernel) rfl rfl rfl ?_
  refine S_aload_0 0 dX0_matchesClasses_0 ?_
  refine S_getR 1 fsX0_18 rfl dX0_matchesClasses_1 (fun w1 => ?_)
  refine S_getR 4 fsX0_98 rfl dX0_matchesClasses_4 (fun w2 => ?_)
  refine S_astore_1 7 dX0_matchesClasses_7 rfl ?_
  refine S_aload_0 8 dX0_matchesClasses_8 ?_
  refine S_getR 9 fsX0_22 rfl dX0_matchesClasses_9 (fun w3 => ?_)
  refine S_getR 12 fsX0_98 rfl dX0_matchesClasses_12 (fun w4 => ?_)
  refine S_astore_2 15 dX0_matchesClasses_15 rfl ?_
  refine S_aload_1 16 dX0_matchesClasses_16 ?_
  refine S_aload_0 17 dX0_matchesClasses_17 ?_
  refine S_getR 18 fsX0_18 rfl dX0_matchesClasses_18 (fun w5 => ?_)
  refine S_callV (a' := 0) (b' := 0) (a := 0) (b := 0) 21 (As := [.ref w5]) (ci := 4) rfl calX4_sortClasses imX4_sortClasses seX4_sortClasses mkX0_102 rfl rfl rfl rfl rfl (by decide) rfl rfl dX0_matchesClasses_21 (CX4_sortClasses E w2 w5 h) (fun _ h6 => kqU ?_)
  refine S_aload_2 24 dX0_matchesClasses_24 ?_
  refine S_aload_0 25 dX0_matchesClasses_25 ?_
  refine S_getR 26 fsX0_22 rfl dX0_matchesClasses_26 (fun w7 => ?_)
  refine S_callV (a' := 0) (b' := 0) (a := 0) (b := 0) 29 (As := [.ref w7]) (ci := 4) rfl calX4_sortClasses imX4_sortClasses seX4_sortClasses mkX0_102 rfl rfl rfl rfl rfl (by decide) rfl rfl dX0_matchesClasses_29 (CX4_sortClasses E w4 w7 h6) (fun _ h8 => kqU ?_)
  refine S_ic 32 0 dX0_matchesClasses_32 (by decide) ?_
  refine S_istore_3 33 dX0_matchesClasses_33 rfl ?_
  refine S_loop (fun (s34 : Int32) => [some (.ref t), some (.ref w2), some (.ref w4), some (.int s34), none, none]) (fun again34 hg34 s34 h9 => ?_) xfu _ _
  refine S_iload_3 34 dX0_matchesClasses_34 ?_
  refine S_aload_0 35 dX0_matchesClasses_35 ?_
  refine S_getR 36 fsX0_18 rfl dX0_matchesClasses_36 (fun w10 => ?_)
  refine S_getR 39 fsX0_43 rfl dX0_matchesClasses_39 (fun w11 => ?_)
  refine S_getI 42 fsX0_53 rfl dX0_matchesClasses_42 ?_
  refine S_icmpge 45 119 dX0_matchesClasses_45 (by decide) ?_ ?_
  · skip
    refine S_aload_1 119 dX0_matchesClasses_119 ?_
    refine S_getI 120 fsX0_111 rfl dX0_matchesClasses_120 ?_
    refine S_aload_2 123 dX0_matchesClasses_123 ?_
    refine S_getI 124 fsX0_111 rfl dX0_matchesClasses_124 ?_
    refine S_join (fun jj => ∀ (v12 : Int32) (h13 : XH), XS E mX0_matchesClasses eI 0 0 135 [none, none, none, none, none, none] [.int v12] h13 (jj v12 h13)) (fun v12 h13 => ?_) (fun j135 hj135 => ?_)
    · skip
      exact S_zret 135 dX0_matchesClasses_135 rfl
    refine S_icmpne 127 134 dX0_matchesClasses_127 (by decide) ?_ ?_
    · skip
      refine S_ic 134 0 dX0_matchesClasses_134 (by decide) ?_
      exact S_drop [0, 1, 2, 3] rfl (hj135 _ _)
    · skip
      refine S_ic 130 1 dX0_matchesClasses_130 (by decide) ?_
      refine S_goto 131 135 dX0_matchesClasses_131 (by decide) ?_
      exact S_drop [0, 1, 2, 3] rfl (hj135 _ _)
  · skip
    refine S_ic 48 0 dX0_matchesClasses_48 (by decide) ?_
    refine S_istore_4 49 dX0_matchesClasses_49 rfl ?_
    refine S_loop (fun (s51 : Int32) => [some (.ref t), some (.ref w2), some (.ref w4), some (.int s34), some (.int s51), none]) (fun again51 hg51 s51 h14 => ?_) xfu _ _
    refine S_iload_4 51 dX0_matchesClasses_51 ?_
    refine S_iload_3 53 dX0_matchesClasses_53 ?_
    refine S_icmpge 54 113 dX0_matchesClasses_54 (by decide) ?_ ?_
    · skip
      refine S_iinc_3 113 (s34 + 1) dX0_matchesClasses_113 (by rfl) rfl ?_
      refine S_goto 116 34 dX0_matchesClasses_116 (by decide) ?_
      exact S_drop [4] rfl (hg34 _ _)
    · skip
      refine S_aload_1 57 dX0_matchesClasses_57 ?_
      refine S_iload_3 58 dX0_matchesClasses_58 ?_
      refine S_callV (a' := 0) (b' := 0) (a := 0) (b := 0) 59 (As := [.int s34]) (ci := 4) rfl calX4_classHolding imX4_classHolding seX4_classHolding mkX0_108 rfl rfl rfl rfl rfl (by decide) rfl rfl dX0_matchesClasses_59 (CX4_classHolding E w2 s34 h14) (fun v15 h16 => kqI ?_)
      refine S_aload_1 62 dX0_matchesClasses_62 ?_
      refine S_iload_4 63 dX0_matchesClasses_63 ?_
      refine S_callV (a' := 0) (b' := 0) (a := 0) (b := 0) 65 (As := [.int s51]) (ci := 4) rfl calX4_classHolding imX4_classHolding seX4_classHolding mkX0_108 rfl rfl rfl rfl rfl (by decide) rfl rfl dX0_matchesClasses_65 (CX4_classHolding E w2 s51 h16) (fun v17 h18 => kqI ?_)
      refine S_join (fun jj => ∀ (v19 : Int32) (h20 : XH), XS E mX0_matchesClasses eI 0 0 76 [some (.ref t), some (.ref w2), some (.ref w4), some (.int s34), some (.int s51), none] [.int v19] h20 (jj v19 h20)) (fun v19 h20 => ?_) (fun j76 hj76 => ?_)
      · skip
        refine S_istore_5 76 dX0_matchesClasses_76 rfl ?_
        refine S_iload_5 78 dX0_matchesClasses_78 ?_
        refine S_join (fun jj => ∀  (h21 : XH), XS E mX0_matchesClasses eI 0 0 107 [some (.ref t), some (.ref w2), some (.ref w4), some (.int s34), some (.int s51), none] [] h21 (jj  h21)) (fun  h21 => ?_) (fun j107 hj107 => ?_)
        · skip
          refine S_iinc_4 107 (s51 + 1) dX0_matchesClasses_107 (by rfl) rfl ?_
          refine S_goto 110 51 dX0_matchesClasses_110 (by decide) ?_
          exact S_drop [] rfl (hg51 _ _)
        refine S_ifeq 80 107 dX0_matchesClasses_80 (by decide) ?_ ?_
        · skip
          exact S_drop [5] rfl (hj107 _)
        · skip
          refine S_aload_2 83 dX0_matchesClasses_83 ?_
          refine S_aload_0 84 dX0_matchesClasses_84 ?_
          refine S_iload_3 85 dX0_matchesClasses_85 ?_
          refine S_callV (a' := 0) (b' := 0) (a := 0) (b := 0) 86 (As := [.int s34]) (ci := 0) rfl calX0_bottomOf imX0_bottomOf seX0_bottomOf mkX0_69 rfl rfl rfl rfl rfl (by decide) rfl rfl dX0_matchesClasses_86 (CX0_bottomOf E t s34 h20) (fun v22 h23 => kqI ?_)
          refine S_callV (a' := 0) (b' := 0) (a := 0) (b := 0) 89 (As := [.int v22]) (ci := 4) rfl calX4_classHolding imX4_classHolding seX4_classHolding mkX0_108 rfl rfl rfl rfl rfl (by decide) rfl rfl dX0_matchesClasses_89 (CX4_classHolding E w4 v22 h23) (fun v24 h25 => kqI ?_)
          refine S_aload_2 92 dX0_matchesClasses_92 ?_
          refine S_aload_0 93 dX0_matchesClasses_93 ?_
          refine S_iload_4 94 dX0_matchesClasses_94 ?_
          refine S_callV (a' := 0) (b' := 0) (a := 0) (b := 0) 96 (As := [.int s51]) (ci := 0) rfl calX0_bottomOf imX0_bottomOf seX0_bottomOf mkX0_69 rfl rfl rfl rfl rfl (by decide) rfl rfl dX0_matchesClasses_96 (CX0_bottomOf E t s51 h25) (fun v26 h27 => kqI ?_)
          refine S_callV (a' := 0) (b' := 0) (a := 0) (b := 0) 99 (As := [.int v26]) (ci := 4) rfl calX4_classHolding imX4_classHolding seX4_classHolding mkX0_108 rfl rfl rfl rfl rfl (by decide) rfl rfl dX0_matchesClasses_99 (CX4_classHolding E w4 v26 h27) (fun v28 h29 => kqI ?_)
          refine S_icmpne 102 107 dX0_matchesClasses_102 (by decide) ?_ ?_
          · skip
            exact S_drop [5] rfl (hj107 _)
          · skip
            refine S_ic 105 0 dX0_matchesClasses_105 (by decide) ?_
            exact S_zret 106 dX0_matchesClasses_106 rfl
      refine S_icmpeq 68 75 dX0_matchesClasses_68 (by decide) ?_ ?_
      · skip
        refine S_ic 75 0 dX0_matchesClasses_75 (by decide) ?_
        exact S_drop [] rfl (hj76 _ _)
      · skip
        refine S_ic 71 1 dX0_matchesClasses_71 (by decide) ?_
        refine S_goto 72 76 dX0_matchesClasses_72 (by decide) ?_
        exact S_drop [] rfl (hj76 _ _)
