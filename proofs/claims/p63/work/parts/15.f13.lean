/-! Methods as functions, 13. -/
set_option linter.unusedVariables false
set_option maxRecDepth 10000
def FX12_init (E : XG) (t : Nat) (p1 : Nat) (h : XH) : XP Unit := xal h 24 0 fun w1 h2 => xb (FJ4_init_a7421 E w1 14 h2) fun _ h3 => xg (xk h3 t = 23) <| xlt (yr h3 t 0 (some w1)) fun h4 => xal h4 19 6 fun w5 h6 => xg (xk h6 t = 23) <| xlt (yr h6 t 1 (some w5)) fun h7 => xal h7 20 6 fun w8 h9 => xg (xk h9 t = 23) <| xlt (yr h9 t 2 (some w8)) fun h10 => xal h10 26 8 fun w11 h12 => xg (xk h12 t = 23) <| xlt (yr h12 t 3 (some w11)) fun h13 => xg ((0 : Int32) ≤ 3 ∧ (3 : Int32).toNatClampNeg ≤ 60000000) <| xal h13 12 (3 : Int32).toNatClampNeg fun w14 h15 => xg (xk h15 t = 23) <| xlt (yr h15 t 4 (some w14)) fun h16 => xg (xk h16 p1 = 21) <| xb (FX10_next E p1 1 3 h16) fun v17 h18 => xlp (fun again58 (s58 : Int32) h19 => if (s58 : Int32) ≤ 0 then (xg (xk h19 p1 = 21) <| xb (FX10_next E p1 1 4 h19) fun v20 h21 => xlp (fun again80 (s80 : Int32) h22 => if (s80 : Int32) ≤ 0 then (xg (xk h22 p1 = 21) <| xb (FX10_next E p1 0 3 h22) fun v23 h24 => xlp (fun again102 (s102 : Int32) h25 => if (s102 : Int32) ≤ 0 then (xv () h25) else (xg (xk h25 t = 23) <| xb (FX12_arrow E t p1 h25) fun _ h26 => again102 (s102 + (-1)) h26)) xfu v23 h24) else (xg (xk h22 t = 23) <| xb (FX12_module E t p1 h22) fun _ h27 => again80 (s80 + (-1)) h27)) xfu v20 h21) else (xg (xk h19 t = 23) <| xb (FX12_group E t p1 h19) fun _ h28 => again58 (s58 + (-1)) h28)) xfu v17 h18
theorem CX12_init (E : XG) (t : Nat) (p1 : Nat) (h : XH) : XN E mX12_init eU 21 30 [.ref t, .ref p1] h (FX12_init E t p1 h) := by
  unfold FX12_init
  refine S_enter (L := [some (.ref t), some (.ref p1), none]) (by decide +kernel) rfl rfl rfl ?_
  refine S_aload_0 0 dX12_init_0 ?_
  refine S_objinit 1 rfl oiX12_1 oiI oiC (by decide) (by decide) (by exact Nat.le_of_ble_eq_true rfl) dX12_init_1 ?_
  refine S_aload_0 4 dX12_init_4 ?_
  refine S_newF (a := 20) (b := 26) 5 (ci := 23) (N := 4) xok23 rfl nwX12_7 inst23 ini23 dv23 dX12_init_5 (fun w1 h2 => ?_)
  refine S_dup 8 dX12_init_8 rfl ?_
  refine S_ldcS 9 14 (by decide) rfl rfl dX12_init_9 ?_
  refine S_callI (a' := 2) (b' := 0) (a := 18) (b := 26) 11 (As := [.ref (eK E 14)]) rfl calJ4_init_a7421 rfl rfl imJ4_init_a7421 mkX12_11 rfl rfl rfl rfl rfl dX12_init_11 (CJ4_init_a7421 E w1 14 h2) (fun _ h3 => kqU ?_)
  refine S_putR 14 frX12_14 rfl rfl (fun _ => rfl) dX12_init_14 (fun h4 => ?_)
  refine S_aload_0 17 dX12_init_17 ?_
  refine S_bip 18 6 dX12_init_18 (by decide) ?_
  refine S_newqA (a := 17) (b := 20) 20 6 19 8 (by decide) rfl (fun U q => q.2.2.2.1.2.2.2.2.1) rfl nqX12_20 (by decide) (by decide) (by decide) dX12_init_20 (fun w5 h6 => ?_)
  refine S_putR 23 frX12_22 rfl rfl (fun _ => rfl) dX12_init_23 (fun h7 => ?_)
  refine S_aload_0 26 dX12_init_26 ?_
  refine S_bip 27 6 dX12_init_27 (by decide) ?_
  refine S_newqF (a := 16) (b := 14) 29 6 20 9 (by decide) rfl (fun U q => q.2.2.2.1.2.2.2.2.2.1) rfl nwX12_26 (by decide) (by decide) (by decide) dX12_init_29 (fun w8 h9 => ?_)
  refine S_putR 32 frX12_28 rfl rfl (fun _ => rfl) dX12_init_32 (fun h10 => ?_)
  refine S_aload_0 35 dX12_init_35 ?_
  refine S_bip 36 8 dX12_init_36 (by decide) ?_
  refine S_newqF (a := 15) (b := 6) 38 8 26 10 (by decide) rfl (fun U q => q.2.2.2.1.2.2.2.2.2.2) rfl nwX12_32 (by decide) (by decide) (by decide) dX12_init_38 (fun w11 h12 => ?_)
  refine S_putR 41 frX12_34 rfl rfl (fun _ => rfl) dX12_init_41 (fun h13 => ?_)
  refine S_aload_0 44 dX12_init_44 ?_
  refine S_ic 45 3 dX12_init_45 (by decide) ?_
  refine S_newG_int 46 ar12 dX12_init_46 (fun w14 h15 => ?_)
  refine S_putR 48 frX12_38 rfl rfl (fun _ => rfl) dX12_init_48 (fun h16 => ?_)
  refine S_aload_1 51 dX12_init_51 ?_
  refine S_ic 52 1 dX12_init_52 (by decide) ?_
  refine S_ic 53 3 dX12_init_53 (by decide) ?_
  refine S_callV (a' := 0) (b' := 0) (a := 14) (b := 6) 54 (As := [.int 1, .int 3]) (ci := 20) rfl calX10_next imX10_next seX10_next mkX12_42 rfl rfl rfl rfl rfl (by decide) rfl rfl dX12_init_54 (CX10_next E p1 1 3 h16) (fun v17 h18 => kqI ?_)
  refine S_istore_2 57 dX12_init_57 rfl ?_
  refine S_loop (fun (s58 : Int32) => [some (.ref t), some (.ref p1), some (.int s58)]) (fun again58 hg58 s58 h19 => ?_) xfu _ _
  refine S_iload_2 58 dX12_init_58 ?_
  refine S_ifle 59 73 dX12_init_59 (by decide) ?_ ?_
  · skip
    refine S_aload_1 73 dX12_init_73 ?_
    refine S_ic 74 1 dX12_init_74 (by decide) ?_
    refine S_ic 75 4 dX12_init_75 (by decide) ?_
    refine S_callV (a' := 0) (b' := 0) (a := 14) (b := 6) 76 (As := [.int 1, .int 4]) (ci := 20) rfl calX10_next imX10_next seX10_next mkX12_42 rfl rfl rfl rfl rfl (by decide) rfl rfl dX12_init_76 (CX10_next E p1 1 4 h19) (fun v20 h21 => kqI ?_)
    refine S_istore_2 79 dX12_init_79 rfl ?_
    refine S_loop (fun (s80 : Int32) => [some (.ref t), some (.ref p1), some (.int s80)]) (fun again80 hg80 s80 h22 => ?_) xfu _ _
    refine S_iload_2 80 dX12_init_80 ?_
    refine S_ifle 81 95 dX12_init_81 (by decide) ?_ ?_
    · skip
      refine S_aload_1 95 dX12_init_95 ?_
      refine S_ic 96 0 dX12_init_96 (by decide) ?_
      refine S_ic 97 3 dX12_init_97 (by decide) ?_
      refine S_callV (a' := 0) (b' := 0) (a := 14) (b := 6) 98 (As := [.int 0, .int 3]) (ci := 20) rfl calX10_next imX10_next seX10_next mkX12_42 rfl rfl rfl rfl rfl (by decide) rfl rfl dX12_init_98 (CX10_next E p1 0 3 h22) (fun v23 h24 => kqI ?_)
      refine S_istore_2 101 dX12_init_101 rfl ?_
      refine S_loop (fun (s102 : Int32) => [some (.ref t), some (.ref p1), some (.int s102)]) (fun again102 hg102 s102 h25 => ?_) xfu _ _
      refine S_iload_2 102 dX12_init_102 ?_
      refine S_ifle 103 117 dX12_init_103 (by decide) ?_ ?_
      · skip
        exact S_ret 117 dX12_init_117 rfl
      · skip
        refine S_aload_0 106 dX12_init_106 ?_
        refine S_aload_1 107 dX12_init_107 ?_
        refine S_callV (a' := 11) (b' := 4) (a := 3) (b := 2) 108 (As := [.ref p1]) (ci := 22) rfl calX12_arrow imX12_arrow seX12_arrow mkX12_55 rfl rfl rfl rfl rfl (by decide) rfl rfl dX12_init_108 (CX12_arrow E t p1 h25) (fun _ h26 => kqU ?_)
        refine S_iinc_2 111 (s102 + (-1)) dX12_init_111 (by rfl) rfl ?_
        refine S_goto 114 102 dX12_init_114 (by decide) ?_
        exact S_drop [] rfl (hg102 _ _)
    · skip
      refine S_aload_0 84 dX12_init_84 ?_
      refine S_aload_1 85 dX12_init_85 ?_
      refine S_callV (a' := 14) (b' := 6) (a := 0) (b := 0) 86 (As := [.ref p1]) (ci := 22) rfl calX12_module imX12_module seX12_module mkX12_52 rfl rfl rfl rfl rfl (by decide) rfl rfl dX12_init_86 (CX12_module E t p1 h22) (fun _ h27 => kqU ?_)
      refine S_iinc_2 89 (s80 + (-1)) dX12_init_89 (by rfl) rfl ?_
      refine S_goto 92 80 dX12_init_92 (by decide) ?_
      exact S_drop [] rfl (hg80 _ _)
  · skip
    refine S_aload_0 62 dX12_init_62 ?_
    refine S_aload_1 63 dX12_init_63 ?_
    refine S_callV (a' := 8) (b' := 4) (a := 6) (b := 2) 64 (As := [.ref p1]) (ci := 22) rfl calX12_group imX12_group seX12_group mkX12_48 rfl rfl rfl rfl rfl (by decide) rfl rfl dX12_init_64 (CX12_group E t p1 h19) (fun _ h28 => kqU ?_)
    refine S_iinc_2 67 (s58 + (-1)) dX12_init_67 (by rfl) rfl ?_
    refine S_goto 70 58 dX12_init_70 (by decide) ?_
    exact S_drop [] rfl (hg58 _ _)
def FX12_lawful (E : XG) (t : Nat) (h : XH) : XP Int32 := xlp (fun again4 (s4 : Int32 × Int32) h1 => xg (xk h1 t = 23) <| if ((xi h1 t 6) : Int32) ≤ s4.2 then (xv s4.1 h1) else (xg (xk h1 t = 23) <| xnn (xr h1 t 2) fun w2 => xg (xk h1 w2 = 20 ∧ xin s4.2 (xn h1 w2)) <| xnn (xr h1 w2 (s4.2 : Int32).toNatClampNeg) fun w3 => xg (xk h1 w3 = 22) <| xb (FX11_why E w3  h1) fun v4 h5 => xjn (fun (v6 : Int32) (h7 : XH) => xlt (s4.1 ||| v6) fun v8 => again4 (v8, (s4.2 + 1)) h7) fun (j32 : Int32 → XH → XP Int32) => if (v4 : Int32) = 0 then (j32 (1 <<< (s4.2 &&& 31)) h5) else (j32 0 h5))) xfu (0, 0) h
theorem CX12_lawful (E : XG) (t : Nat) (h : XH) : XN E mX12_lawful eI 0 0 [.ref t] h (FX12_lawful E t h) := by
  unfold FX12_lawful
  refine S_enter (L := [some (.ref t), none, none]) (by decide +kernel) rfl rfl rfl ?_
  refine S_ic 0 0 dX12_lawful_0 (by decide) ?_
  refine S_istore_1 1 dX12_lawful_1 rfl ?_
  refine S_ic 2 0 dX12_lawful_2 (by decide) ?_
  refine S_istore_2 3 dX12_lawful_3 rfl ?_
  refine S_loop (fun (s4 : Int32 × Int32) => [some (.ref t), some (.int s4.1), some (.int s4.2)]) (fun again4 hg4 s4 h1 => ?_) xfu _ _
  refine S_iload_2 4 dX12_lawful_4 ?_
  refine S_aload_0 5 dX12_lawful_5 ?_
  refine S_getI 6 fsX12_104 rfl dX12_lawful_6 ?_
  refine S_icmpge 9 40 dX12_lawful_9 (by decide) ?_ ?_
  · skip
    refine S_iload_1 40 dX12_lawful_40 ?_
    exact S_iret 41 dX12_lawful_41 rfl
  · skip
    refine S_iload_1 12 dX12_lawful_12 ?_
    refine S_aload_0 13 dX12_lawful_13 ?_
    refine S_getR 14 fsX12_28 rfl dX12_lawful_14 (fun w2 => ?_)
    refine S_iload_2 17 dX12_lawful_17 ?_
    refine S_aald 18 20 9 (by decide) rfl rfl dX12_lawful_18 (fun w3 => ?_)
    refine S_callV (a' := 0) (b' := 0) (a := 0) (b := 0) 19 (As := []) (ci := 21) rfl calX11_why imX11_why seX11_why mkX12_144 rfl rfl rfl rfl rfl (by decide) rfl rfl dX12_lawful_19 (CX11_why E w3  h1) (fun v4 h5 => kqI ?_)
    refine S_join (fun jj => ∀ (v6 : Int32) (h7 : XH), XS E mX12_lawful eI 0 0 32 [some (.ref t), none, some (.int s4.2)] [.int v6, .int s4.1] h7 (jj v6 h7)) (fun v6 h7 => ?_) (fun j32 hj32 => ?_)
    · skip
      refine S_ior 32 dX12_lawful_32 ?_
      refine S_gen (fun v8 => ?_)
      refine S_istore_1 33 dX12_lawful_33 rfl ?_
      refine S_iinc_2 34 (s4.2 + 1) dX12_lawful_34 (by rfl) rfl ?_
      refine S_goto 37 4 dX12_lawful_37 (by decide) ?_
      exact S_drop [] rfl (hg4 _ _)
    refine S_ifne 22 31 dX12_lawful_22 (by decide) ?_ ?_
    · skip
      refine S_ic 31 0 dX12_lawful_31 (by decide) ?_
      exact S_drop [1] rfl (hj32 _ _)
    · skip
      refine S_ic 25 1 dX12_lawful_25 (by decide) ?_
      refine S_iload_2 26 dX12_lawful_26 ?_
      refine S_ishl 27 dX12_lawful_27 ?_
      refine S_goto 28 32 dX12_lawful_28 (by decide) ?_
      exact S_drop [1] rfl (hj32 _ _)
def FJ5_init_d00df (E : XG) (t : Nat) (p1 : Int32) (h : XH) : XP Unit := if (1 : Int32) = 0 then none else (xg ((0 : Int32) ≤ p1 ∧ (p1 : Int32).toNatClampNeg ≤ 60000000) <| xal h 11 (p1 : Int32).toNatClampNeg fun w1 h2 => xg (xk h2 t = 24) <| xlt (yr h2 t 0 (some w1)) fun h3 => xg (xk h3 t = 24 ∧ (0 : Int32) = 0) <| xlt (yi h3 t 1 0) fun h4 => xv () h4)
theorem CJ5_init_d00df (E : XG) (t : Nat) (p1 : Int32) (h : XH) : XN E mJ5_init_d00df eU 1 0 [.ref t, .int p1] h (FJ5_init_d00df E t p1 h) := by
  unfold FJ5_init_d00df
  refine S_enter (L := [some (.ref t), some (.int p1)]) (by decide +kernel) rfl rfl rfl ?_
  refine S_aload_0 0 dJ5_init_d00df_0 ?_
  refine S_objinit 1 rfl oiJ5_3 oiI oiC (by decide) (by decide) (by exact Nat.le_of_ble_eq_true rfl) dJ5_init_d00df_1 ?_
  refine S_compact 4 rfl ⟨List.mem_of_getElem? (i := 420) (by decide +kernel), rfl⟩ dJ5_init_d00df_4 ?_
  refine S_ifeq 7 25 dJ5_init_d00df_7 (by decide) ?_ ?_
  · skip
    refine S_aload_0 25 dJ5_init_d00df_25 ?_
    refine S_iload_1 26 dJ5_init_d00df_26 ?_
    exact S_none
  · skip
    refine S_aload_0 10 dJ5_init_d00df_10 ?_
    refine S_iload_1 11 dJ5_init_d00df_11 ?_
    refine S_newG_byte 12 ar11 dJ5_init_d00df_12 (fun w1 h2 => ?_)
    refine S_putR 14 frJ5_15 rfl rfl (fun q => by cases q) dJ5_init_d00df_14 (fun h3 => ?_)
    refine S_aload_0 17 dJ5_init_d00df_17 ?_
    refine S_ic 18 0 dJ5_init_d00df_18 (by decide) ?_
    refine S_putB 19 frJ5_22 rfl (fun q => by cases q) dJ5_init_d00df_19 (fun h4 => ?_)
    refine S_goto 22 38 dJ5_init_d00df_22 (by decide) ?_
    exact S_ret 38 dJ5_init_d00df_38 rfl
def FJ5_charAt_5068e (E : XG) (t : Nat) (p1 : Int32) (h : XH) : XP Int32 := xg (xk h t = 24) <| xlt (xi h t 1) fun v1 => xg (xk h t = 24) <| xnn (xr h t 0) fun w2 => xg (xk h t = 24) <| xg (xk h w2 = 11) <| xb (FJ9_min_7cf53 E (xi h t 3) ((Int32.ofNat (xn h w2)) >>> (v1 &&& 31)) h) fun v3 h4 => xb (FJ0_checkIndex p1 v3 h4) fun _ h5 => if (v1 : Int32) = 0 then (xg (xk h5 w2 = 11 ∧ xin p1 (xn h5 w2)) <| xg (xch (((Int32.toUInt32 ((xi h5 w2 (p1 : Int32).toNatClampNeg) &&& 255)) % 65536).toInt32)) <| xv (((Int32.toUInt32 ((xi h5 w2 (p1 : Int32).toNatClampNeg) &&& 255)) % 65536).toInt32) h5) else none
theorem CJ5_charAt_5068e (E : XG) (t : Nat) (p1 : Int32) (h : XH) : XN E mJ5_charAt_5068e eI 0 0 [.ref t, .int p1] h (FJ5_charAt_5068e E t p1 h) := by
  unfold FJ5_charAt_5068e
  refine S_enter (L := [some (.ref t), some (.int p1), none, none, none]) (by decide +kernel) rfl rfl rfl ?_
  refine S_aload_0 0 dJ5_charAt_5068e_0 ?_
  refine S_getI 1 fsJ5_22 rfl dJ5_charAt_5068e_1 ?_
  refine S_gen (fun v1 => ?_)
  refine S_istore_2 4 dJ5_charAt_5068e_4 rfl ?_
  refine S_aload_0 5 dJ5_charAt_5068e_5 ?_
  refine S_getR 6 fsJ5_15 rfl dJ5_charAt_5068e_6 (fun w2 => ?_)
  refine S_astore_3 9 dJ5_charAt_5068e_9 rfl ?_
  refine S_aload_0 10 dJ5_charAt_5068e_10 ?_
  refine S_getI 11 fsJ5_79 rfl dJ5_charAt_5068e_11 ?_
  refine S_aload_3 14 dJ5_charAt_5068e_14 ?_
  refine S_alen 15 11 0 (by decide) rfl dJ5_charAt_5068e_15 ?_
  refine S_iload_2 16 dJ5_charAt_5068e_16 ?_
  refine S_ishr 17 dJ5_charAt_5068e_17 ?_
  refine S_callS (a' := 0) (b' := 0) (a := 0) (b := 0) 18 (As := [.int (xi h t 3), .int ((Int32.ofNat (xn h w2)) >>> (v1 &&& 31))]) rfl calJ9_min_7cf53 stJ9_min_7cf53 mkJ5_138 rfl rfl rfl rfl rfl dJ5_charAt_5068e_18 (CJ9_min_7cf53 E (xi h t 3) ((Int32.ofNat (xn h w2)) >>> (v1 &&& 31)) h) (fun v3 h4 => kqI ?_)
  refine S_istore_4 21 dJ5_charAt_5068e_21 rfl ?_
  refine S_iload_1 23 dJ5_charAt_5068e_23 ?_
  refine S_iload_4 24 dJ5_charAt_5068e_24 ?_
  refine S_callS (a' := 0) (b' := 0) (a := 0) (b := 0) 26 (As := [.int p1, .int v3]) rfl calJ0_checkIndex_df160 stJ0_checkIndex_df160 mkJ5_144 rfl rfl rfl rfl rfl dJ5_charAt_5068e_26 (CJ0_checkIndex E p1 v3 h4) (fun _ h5 => kqU ?_)
  refine S_iload_2 29 dJ5_charAt_5068e_29 ?_
  refine S_ifne 30 42 dJ5_charAt_5068e_30 (by decide) ?_ ?_
  · skip
    refine S_aload_3 42 dJ5_charAt_5068e_42 ?_
    refine S_iload_1 43 dJ5_charAt_5068e_43 ?_
    exact S_none
  · skip
    refine S_aload_3 33 dJ5_charAt_5068e_33 ?_
    refine S_iload_1 34 dJ5_charAt_5068e_34 ?_
    refine S_bald 35 dJ5_charAt_5068e_35 ?_
    refine S_sip 36 255 dJ5_charAt_5068e_36 (by decide) ?_
    refine S_iand 39 dJ5_charAt_5068e_39 ?_
    refine S_i2c 40 dJ5_charAt_5068e_40 ?_
    exact S_cret 41 dJ5_charAt_5068e_41 rfl
def FJ5_getValue_6d5f1 (E : XG) (t : Nat) (h : XH) : XP Nat := xg (xk h t = 24) <| xnn (xr h t 0) fun w1 => xv w1 h
theorem CJ5_getValue_6d5f1 (E : XG) (t : Nat) (h : XH) : XN E mJ5_getValue_6d5f1 eR 0 0 [.ref t] h (FJ5_getValue_6d5f1 E t h) := by
  unfold FJ5_getValue_6d5f1
  refine S_enter (L := [some (.ref t)]) (by decide +kernel) rfl rfl rfl ?_
  refine S_aload_0 0 dJ5_getValue_6d5f1_0 ?_
  refine S_getR 1 fsJ5_15 rfl dJ5_getValue_6d5f1_1 (fun w1 => ?_)
  exact S_areta 4 dJ5_getValue_6d5f1_4 rfl
def FJ7_checkLength_df160 (E : XG) (p1 : Int32) (p2 : Int32) (h : XH) : XP Unit := if (p1 : Int32) ≤ p2 then (xv () h) else none
theorem CJ7_checkLength_df160 (E : XG) (p1 : Int32) (p2 : Int32) (h : XH) : XN E mJ7_checkLength_df160 eU 0 0 [.int p1, .int p2] h (FJ7_checkLength_df160 E p1 p2 h) := by
  unfold FJ7_checkLength_df160
  refine S_enter (L := [some (.int p1), some (.int p2)]) (by decide +kernel) rfl rfl rfl ?_
  refine S_iload_1 0 dJ7_checkLength_df160_0 ?_
  refine S_iload_0 1 dJ7_checkLength_df160_1 ?_
  refine S_icmpge 2 37 dJ7_checkLength_df160_2 (by decide) ?_ ?_
  · skip
    exact S_ret 37 dJ7_checkLength_df160_37 rfl
  · skip
    exact S_none
def FJ7_copyOfRangeByte_39247 (E : XG) (p1 : Nat) (p2 : Int32) (p3 : Int32) (h : XH) : XP Nat := xb (FJ7_checkLength_df160 E p2 p3 h) fun _ h1 => xlt (p3 - p2) fun v2 => xg ((0 : Int32) ≤ v2 ∧ (v2 : Int32).toNatClampNeg ≤ 60000000) <| xal h1 11 (v2 : Int32).toNatClampNeg fun w3 h4 => xg (xk h4 p1 = 11) <| xb (FJ9_min_7cf53 E ((Int32.ofNat (xn h4 p1)) - p2) v2 h4) fun v5 h6 => xg ((xk h6 p1 = 11 ∧ xk h6 w3 = 11) ∧ ((0 : Int32) ≤ p2 ∧ (0 : Int32) ≤ 0 ∧ (0 : Int32) ≤ v5) ∧ (p2 : Int32).toNatClampNeg + (v5 : Int32).toNatClampNeg ≤ xn h6 p1 ∧ (0 : Int32).toNatClampNeg + (v5 : Int32).toNatClampNeg ≤ xn h6 w3 ∧ ∀ i, i < (v5 : Int32).toNatClampNeg → xby (xi h6 p1 ((p2 : Int32).toNatClampNeg + i))) <| xlt (yc h6 w3 (va_cpy (xi h6 p1) (xi h6 w3) (p2 : Int32).toNatClampNeg (0 : Int32).toNatClampNeg (v5 : Int32).toNatClampNeg)) fun h7 => xv w3 h7
theorem CJ7_copyOfRangeByte_39247 (E : XG) (p1 : Nat) (p2 : Int32) (p3 : Int32) (h : XH) : XN E mJ7_copyOfRangeByte_39247 eR 1 0 [.ref p1, .int p2, .int p3] h (FJ7_copyOfRangeByte_39247 E p1 p2 p3 h) := by
  unfold FJ7_copyOfRangeByte_39247
  refine S_enter (L := [some (.ref p1), some (.int p2), some (.int p3), none, none]) (by decide +kernel) rfl rfl rfl ?_
  refine S_iload_1 0 dJ7_copyOfRangeByte_39247_0 ?_
  refine S_iload_2 1 dJ7_copyOfRangeByte_39247_1 ?_
  refine S_callS (a' := 0) (b' := 0) (a := 1) (b := 0) 2 (As := [.int p2, .int p3]) rfl calJ7_checkLength_df160 stJ7_checkLength_df160 mkJ7_343 rfl rfl rfl rfl rfl dJ7_copyOfRangeByte_39247_2 (CJ7_checkLength_df160 E p2 p3 h) (fun _ h1 => kqU ?_)
  refine S_iload_2 5 dJ7_copyOfRangeByte_39247_5 ?_
  refine S_iload_1 6 dJ7_copyOfRangeByte_39247_6 ?_
  refine S_isub 7 dJ7_copyOfRangeByte_39247_7 ?_
  refine S_gen (fun v2 => ?_)
  refine S_istore_3 8 dJ7_copyOfRangeByte_39247_8 rfl ?_
  refine S_iload_3 9 dJ7_copyOfRangeByte_39247_9 ?_
  refine S_newG_byte 10 ar11 dJ7_copyOfRangeByte_39247_10 (fun w3 h4 => ?_)
  refine S_astore_4 12 dJ7_copyOfRangeByte_39247_12 rfl ?_
  refine S_aload_0 14 dJ7_copyOfRangeByte_39247_14 ?_
  refine S_iload_1 15 dJ7_copyOfRangeByte_39247_15 ?_
  refine S_aload_4 16 dJ7_copyOfRangeByte_39247_16 ?_
  refine S_ic 18 0 dJ7_copyOfRangeByte_39247_18 (by decide) ?_
  refine S_aload_0 19 dJ7_copyOfRangeByte_39247_19 ?_
  refine S_alen 20 11 0 (by decide) rfl dJ7_copyOfRangeByte_39247_20 ?_
  refine S_iload_1 21 dJ7_copyOfRangeByte_39247_21 ?_
  refine S_isub 22 dJ7_copyOfRangeByte_39247_22 ?_
  refine S_iload_3 23 dJ7_copyOfRangeByte_39247_23 ?_
  refine S_callS (a' := 0) (b' := 0) (a := 0) (b := 0) 24 (As := [.int ((Int32.ofNat (xn h4 p1)) - p2), .int v2]) rfl calJ9_min_7cf53 stJ9_min_7cf53 mkJ7_304 rfl rfl rfl rfl rfl dJ7_copyOfRangeByte_39247_24 (CJ9_min_7cf53 E ((Int32.ofNat (xn h4 p1)) - p2) v2 h4) (fun v5 h6 => kqI ?_)
  refine S_bcopy (M := mJ7_copyOfRangeByte_39247) (own := RJ7) 27 rfl acJ7_150 acN acS acI (by decide) (by exact Nat.le_of_ble_eq_true rfl) dJ7_copyOfRangeByte_39247_27 (fun h7 => ?_)
  refine S_aload_4 30 dJ7_copyOfRangeByte_39247_30 ?_
  exact S_areta 32 dJ7_copyOfRangeByte_39247_32 rfl
def FJ7_copyOfRange_39247 (E : XG) (p1 : Nat) (p2 : Int32) (p3 : Int32) (h : XH) : XP Nat := xjn (fun  (h1 : XH) => xb (FJ7_copyOfRangeByte_39247 E p1 p2 p3 h1) fun v2 h3 => xv v2 h3) fun (j10 : XH → XP Nat) => if (p2 : Int32) = 0 then (xg (xk h p1 = 11) <| if (p3 : Int32) = (Int32.ofNat (xn h p1)) then (xg (xk h p1 = 11 ∧ ∀ i, i < xn h p1 → xby (xi h p1 i)) <| xcl h p1 fun w4 h5 => xg (xk h5 w4 = 11) <| xv w4 h5) else (j10 h)) else (j10 h)
theorem CJ7_copyOfRange_39247 (E : XG) (p1 : Nat) (p2 : Int32) (p3 : Int32) (h : XH) : XN E mJ7_copyOfRange_39247 eR 1 0 [.ref p1, .int p2, .int p3] h (FJ7_copyOfRange_39247 E p1 p2 p3 h) := by
  unfold FJ7_copyOfRange_39247
  refine S_enter (L := [some (.ref p1), some (.int p2), some (.int p3)]) (by decide +kernel) rfl rfl rfl ?_
  refine S_iload_1 0 dJ7_copyOfRange_39247_0 ?_
  refine S_join (fun jj => ∀  (h1 : XH), XS E mJ7_copyOfRange_39247 eR 1 0 10 [some (.ref p1), some (.int p2), some (.int p3)] [] h1 (jj  h1)) (fun  h1 => ?_) (fun j10 hj10 => ?_)
  · skip
    refine S_aload_0 10 dJ7_copyOfRange_39247_10 ?_
    refine S_iload_1 11 dJ7_copyOfRange_39247_11 ?_
    refine S_iload_2 12 dJ7_copyOfRange_39247_12 ?_
    refine S_callS (a' := 1) (b' := 0) (a := 0) (b := 0) 13 (As := [.ref p1, .int p2, .int p3]) rfl calJ7_copyOfRangeByte_39247 stJ7_copyOfRangeByte_39247 mkJ7_339 rfl rfl rfl rfl rfl dJ7_copyOfRange_39247_13 (CJ7_copyOfRangeByte_39247 E p1 p2 p3 h1) (fun v2 h3 => kqR ?_)
    exact S_areta 16 dJ7_copyOfRange_39247_16 rfl
  refine S_ifne 1 10 dJ7_copyOfRange_39247_1 (by decide) ?_ ?_
  · skip
    exact S_drop [] rfl (hj10 _)
  · skip
    refine S_iload_2 4 dJ7_copyOfRange_39247_4 ?_
    refine S_aload_0 5 dJ7_copyOfRange_39247_5 ?_
    refine S_alen 6 11 0 (by decide) rfl dJ7_copyOfRange_39247_6 ?_
    refine S_icmpeq 7 17 dJ7_copyOfRange_39247_7 (by decide) ?_ ?_
    · skip
      refine S_aload_0 17 dJ7_copyOfRange_39247_17 ?_
      refine S_clone 18 rfl clJ7_310 clS clN clI clE (by decide) (by exact Nat.le_of_ble_eq_true rfl) dJ7_copyOfRange_39247_18 (fun w4 h5 => ?_)
      refine S_castB 21 rfl cbJ7_311 dJ7_copyOfRange_39247_21 ?_
      exact S_areta 24 dJ7_copyOfRange_39247_24 rfl
    · skip
      exact S_drop [] rfl (hj10 _)
def FJ0_init_db425 (E : XG) (t : Nat) (p1 : Nat) (h : XH) : XP Unit := xg (xk h p1 = 24) <| xb (FJ5_getValue_6d5f1 E p1  h) fun v1 h2 => xg (xk h2 p1 = 24) <| xb (FJ4_length_8abf5 E p1  h2) fun v3 h4 => xg (xk h4 p1 = 24) <| xb (FJ5_isLatin1_aae02 E p1  h4) fun v5 h6 => xjn (fun  (h7 : XH) => xv () h7) fun (j97 : XH → XP Unit) => if (v5 : Int32) = 0 then (xjn (fun  (h8 : XH) => xg (xk h8 t = 25 ∧ (1 : Int32) = 0) <| xlt (yi h8 t 1 1) fun h9 => xb (FJ7_copyOfRange_39247 E v1 0 (v3 <<< (1 &&& 31)) h9) fun v10 h11 => xg (xk h11 t = 25) <| xlt (yr h11 t 0 (some v10)) fun h12 => j97 h12) fun (j79 : XH → XP Unit) => if (1 : Int32) = 0 then (j79 h6) else (xg (xk h6 p1 = 24) <| if ((xi h6 p1 2) : Int32) = 0 then (j79 h6) else none)) else (xg (xk h6 t = 25 ∧ (0 : Int32) = 0) <| xlt (yi h6 t 1 0) fun h13 => xb (FJ7_copyOfRange_39247 E v1 0 v3 h13) fun v14 h15 => xg (xk h15 t = 25) <| xlt (yr h15 t 0 (some v14)) fun h16 => j97 h16)
theorem CJ0_init_db425 (E : XG) (t : Nat) (p1 : Nat) (h : XH) : XN E mJ0_init_db425 eU 1 0 [.ref t, .ref p1, .null] h (FJ0_init_db425 E t p1 h) := by
  unfold FJ0_init_db425
  refine S_enter (L := [some (.ref t), some (.ref p1), some (.null), none, none]) (by decide +kernel) rfl rfl rfl ?_
  refine S_aload_0 0 dJ0_init_db425_0 ?_
  refine S_objinit 1 rfl oiJ0_1 oiI oiC (by decide) (by decide) (by exact Nat.le_of_ble_eq_true rfl) dJ0_init_db425_1 ?_
  refine S_aload_1 4 dJ0_init_db425_4 ?_
  refine S_callU (a' := 0) (b' := 0) (a := 1) (b := 0) 5 (As := []) rfl calJ5_getValue_6d5f1 calJ5_getValue_6d5f1 imJ5_getValue_6d5f1 imJ5_getValue_6d5f1 smJ5_getValue_6d5f1 (fun U q => q.word ssJ5_getValue_6d5f1 #[]) mkJ0_552 rfl rfl rfl rfl rfl dJ0_init_db425_5 (CJ5_getValue_6d5f1 E p1  h) (fun v1 h2 => kqR ?_)
  refine S_astore_3 8 dJ0_init_db425_8 rfl ?_
  refine S_aload_1 9 dJ0_init_db425_9 ?_
  refine S_callU (a' := 0) (b' := 0) (a := 1) (b := 0) 10 (As := []) rfl calJ5_length_8abf5 calJ4_length_8abf5 imJ5_length_8abf5 imJ4_length_8abf5 smJ5_length_8abf5 (fun U q => q.word ssJ5_length_8abf5 #[]) mkJ0_549 rfl rfl rfl rfl rfl dJ0_init_db425_10 (CJ4_length_8abf5 E p1  h2) (fun v3 h4 => kqI ?_)
  refine S_istore_4 13 dJ0_init_db425_13 rfl ?_
  refine S_aload_1 15 dJ0_init_db425_15 ?_
  refine S_callU (a' := 0) (b' := 0) (a := 1) (b := 0) 16 (As := []) rfl calJ5_isLatin1_aae02 calJ5_isLatin1_aae02 imJ5_isLatin1_aae02 imJ5_isLatin1_aae02 smJ5_isLatin1_aae02 (fun U q => q.word ssJ5_isLatin1_aae02 #[]) mkJ0_1047 rfl rfl rfl rfl rfl dJ0_init_db425_16 (CJ5_isLatin1_aae02 E p1  h4) (fun v5 h6 => kqI ?_)
  refine S_join (fun jj => ∀  (h7 : XH), XS E mJ0_init_db425 eU 1 0 97 [none, none, none, none, none] [] h7 (jj  h7)) (fun  h7 => ?_) (fun j97 hj97 => ?_)
  · skip
    exact S_ret 97 dJ0_init_db425_97 rfl
  refine S_ifeq 19 41 dJ0_init_db425_19 (by decide) ?_ ?_
  · skip
    refine S_compact 41 rfl ⟨List.mem_of_getElem? (i := 352) (by decide +kernel), rfl⟩ dJ0_init_db425_41 ?_
    refine S_join (fun jj => ∀  (h8 : XH), XS E mJ0_init_db425 eU 1 0 79 [some (.ref t), none, none, some (.ref v1), some (.int v3)] [] h8 (jj  h8)) (fun  h8 => ?_) (fun j79 hj79 => ?_)
    · skip
      refine S_aload_0 79 dJ0_init_db425_79 ?_
      refine S_ic 80 1 dJ0_init_db425_80 (by decide) ?_
      refine S_putB 81 frJ0_15 rfl (fun _ => rfl) dJ0_init_db425_81 (fun h9 => ?_)
      refine S_aload_0 84 dJ0_init_db425_84 ?_
      refine S_aload_3 85 dJ0_init_db425_85 ?_
      refine S_ic 86 0 dJ0_init_db425_86 (by decide) ?_
      refine S_iload_4 87 dJ0_init_db425_87 ?_
      refine S_ic 89 1 dJ0_init_db425_89 (by decide) ?_
      refine S_ishl 90 dJ0_init_db425_90 ?_
      refine S_callS (a' := 1) (b' := 0) (a := 0) (b := 0) 91 (As := [.ref v1, .int 0, .int (v3 <<< (1 &&& 31))]) rfl calJ7_copyOfRange_39247 stJ7_copyOfRange_39247 mkJ0_54 rfl rfl rfl rfl rfl dJ0_init_db425_91 (CJ7_copyOfRange_39247 E v1 0 (v3 <<< (1 &&& 31)) h9) (fun v10 h11 => kqR ?_)
      refine S_putR 94 frJ0_9 rfl rfl (fun _ => rfl) dJ0_init_db425_94 (fun h12 => ?_)
      exact S_drop [0, 3, 4] rfl (hj97 _)
    refine S_ifeq 44 79 dJ0_init_db425_44 (by decide) ?_ ?_
    · skip
      exact S_drop [1, 2] rfl (hj79 _)
    · skip
      refine S_aload_1 47 dJ0_init_db425_47 ?_
      refine S_getI 48 fsJ0_1048 rfl dJ0_init_db425_48 ?_
      refine S_ifeq 51 79 dJ0_init_db425_51 (by decide) ?_ ?_
      · skip
        exact S_drop [1, 2] rfl (hj79 _)
      · skip
        refine S_aload_0 54 dJ0_init_db425_54 ?_
        refine S_aload_3 55 dJ0_init_db425_55 ?_
        refine S_ic 56 0 dJ0_init_db425_56 (by decide) ?_
        refine S_iload_4 57 dJ0_init_db425_57 ?_
        exact S_none
  · skip
    refine S_aload_0 22 dJ0_init_db425_22 ?_
    refine S_ic 23 0 dJ0_init_db425_23 (by decide) ?_
    refine S_putB 24 frJ0_15 rfl (fun _ => rfl) dJ0_init_db425_24 (fun h13 => ?_)
    refine S_aload_0 27 dJ0_init_db425_27 ?_
    refine S_aload_3 28 dJ0_init_db425_28 ?_
    refine S_ic 29 0 dJ0_init_db425_29 (by decide) ?_
    refine S_iload_4 30 dJ0_init_db425_30 ?_
    refine S_callS (a' := 1) (b' := 0) (a := 0) (b := 0) 32 (As := [.ref v1, .int 0, .int v3]) rfl calJ7_copyOfRange_39247 stJ7_copyOfRange_39247 mkJ0_54 rfl rfl rfl rfl rfl dJ0_init_db425_32 (CJ7_copyOfRange_39247 E v1 0 v3 h13) (fun v14 h15 => kqR ?_)
    refine S_putR 35 frJ0_9 rfl rfl (fun _ => rfl) dJ0_init_db425_35 (fun h16 => ?_)
    refine S_goto 38 97 dJ0_init_db425_38 (by decide) ?_
    exact S_drop [0, 1, 2, 3, 4] rfl (hj97 _)
def FJ0_init_81219 (E : XG) (t : Nat) (p1 : Nat) (h : XH) : XP Unit := xb (FJ0_init_db425 E t p1 h) fun _ h1 => xv () h1
theorem CJ0_init_81219 (E : XG) (t : Nat) (p1 : Nat) (h : XH) : XN E mJ0_init_81219 eU 1 0 [.ref t, .ref p1] h (FJ0_init_81219 E t p1 h) := by
  unfold FJ0_init_81219
  refine S_enter (L := [some (.ref t), some (.ref p1)]) (by decide +kernel) rfl rfl rfl ?_
  refine S_aload_0 0 dJ0_init_81219_0 ?_
  refine S_aload_1 1 dJ0_init_81219_1 ?_
  refine S_null 2 dJ0_init_81219_2 ?_
  refine S_callI (a' := 1) (b' := 0) (a := 0) (b := 0) 3 (As := [.ref p1, .null]) rfl calJ0_init_db425 rfl rfl imJ0_init_db425 mkJ0_489 rfl rfl rfl rfl rfl dJ0_init_81219_3 (CJ0_init_db425 E t p1 h) (fun _ h1 => kqU ?_)
  exact S_ret 6 dJ0_init_81219_6 rfl
def FJ4_init_da8c8 (E : XG) (t : Nat) (h : XH) : XP Unit := xb (FJ5_init_d00df E t 16 h) fun _ h1 => xv () h1
theorem CJ4_init_da8c8 (E : XG) (t : Nat) (h : XH) : XN E mJ4_init_da8c8 eU 1 0 [.ref t] h (FJ4_init_da8c8 E t h) := by
  unfold FJ4_init_da8c8
  refine S_enter (L := [some (.ref t)]) (by decide +kernel) rfl rfl rfl ?_
  refine S_aload_0 0 dJ4_init_da8c8_0 ?_
  refine S_bip 1 16 dJ4_init_da8c8_1 (by decide) ?_
  refine S_callI (a' := 1) (b' := 0) (a := 0) (b := 0) 3 (As := [.int 16]) rfl calJ5_init_d00df rfl rfl imJ5_init_d00df mkJ4_1 rfl rfl rfl rfl rfl dJ4_init_da8c8_3 (CJ5_init_d00df E t 16 h) (fun _ h1 => kqU ?_)
  exact S_ret 6 dJ4_init_da8c8_6 rfl
def FJ4_toString_0e30d (E : XG) (t : Nat) (h : XH) : XP Nat := xal h 25 0 fun w1 h2 => xb (FJ0_init_81219 E w1 t h2) fun _ h3 => xv w1 h3
theorem CJ4_toString_0e30d (E : XG) (t : Nat) (h : XH) : XN E mJ4_toString_0e30d eR 2 4 [.ref t] h (FJ4_toString_0e30d E t h) := by
  unfold FJ4_toString_0e30d
  refine S_enter (L := [some (.ref t)]) (by decide +kernel) rfl rfl rfl ?_
  refine S_newF (a := 1) (b := 0) 0 (ci := 24) (N := 4) xok24 rfl nwJ4_18 inst24 ini24 dv24 dJ4_toString_0e30d_0 (fun w1 h2 => ?_)
  refine S_dup 3 dJ4_toString_0e30d_3 rfl ?_
  refine S_aload_0 4 dJ4_toString_0e30d_4 ?_
  refine S_callI (a' := 1) (b' := 0) (a := 0) (b := 0) 5 (As := [.ref t]) rfl calJ0_init_81219 rfl rfl imJ0_init_81219 mkJ4_137 rfl rfl rfl rfl rfl dJ4_toString_0e30d_5 (CJ0_init_81219 E w1 t h2) (fun _ h3 => kqU ?_)
  exact S_aret 8 dJ4_toString_0e30d_8 rfl
def FJ4_charAt_5068e (E : XG) (t : Nat) (p1 : Int32) (h : XH) : XP Int32 := xg (xk h t = 24) <| xb (FJ5_charAt_5068e E t p1 h) fun v1 h2 => xg (xch v1) <| xv v1 h2
theorem CJ4_charAt_5068e (E : XG) (t : Nat) (p1 : Int32) (h : XH) : XN E mJ4_charAt_5068e eI 0 0 [.ref t, .int p1] h (FJ4_charAt_5068e E t p1 h) := by
  unfold FJ4_charAt_5068e
  refine S_enter (L := [some (.ref t), some (.int p1)]) (by decide +kernel) rfl rfl rfl ?_
  refine S_aload_0 0 dJ4_charAt_5068e_0 ?_
  refine S_iload_1 1 dJ4_charAt_5068e_1 ?_
  refine S_callSU (a' := 0) (b' := 0) (a := 0) (b := 0) 2 (As := [.int p1]) rfl calJ5_charAt_5068e (by decide) imJ5_charAt_5068e smJ5_charAt_5068e supSB mkJ4_329 rfl rfl rfl rfl rfl dJ4_charAt_5068e_2 (CJ5_charAt_5068e E t p1 h) (fun v1 h2 => kqI ?_)
  exact S_cret 5 dJ4_charAt_5068e_5 rfl
def FL_feeds (E : XG) (p1 : Nat) (p2 : Nat) (h : XH) : XP Int32 := xlp (fun again2 (s2 : Int32) h1 => xg (xk h1 p2 = 25) <| xb (FJ0_length_8abf5T E p2  h1) fun v2 h3 => if (v2 : Int32) ≤ s2 then (xg ((1 : Int32) = 0 ∨ (1 : Int32) = 1) <| xv 1 h3) else (xg ((0 : Int32) ≤ 5 ∧ (5 : Int32).toNatClampNeg ≤ 60000000) <| xal h3 12 (5 : Int32).toNatClampNeg fun w4 h5 => xlp (fun again17 (s17 : Int32) h6 => if (20 : Int32) ≤ s17 then (xg (xk h6 w4 = 12 ∧ xin 0 (xn h6 w4)) <| xg (xk h6 w4 = 12 ∧ xin 1 (xn h6 w4)) <| xg (xk h6 w4 = 12 ∧ xin 2 (xn h6 w4)) <| xg (xk h6 w4 = 12 ∧ xin 3 (xn h6 w4)) <| xg (xk h6 w4 = 12 ∧ xin 4 (xn h6 w4)) <| xg (xk h6 p1 = 9) <| xb (FX8_append E p1 (xi h6 w4 (0 : Int32).toNatClampNeg) (xi h6 w4 (1 : Int32).toNatClampNeg) (xi h6 w4 (2 : Int32).toNatClampNeg) (xi h6 w4 (3 : Int32).toNatClampNeg) (xi h6 w4 (4 : Int32).toNatClampNeg) h6) fun v7 h8 => if (0 : Int32) ≤ v7 then (again2 (s2 + 20) h8) else (xg ((0 : Int32) = 0 ∨ (0 : Int32) = 1) <| xv 0 h8)) else (xg ((4 : Int32) ≠ 0) <| xg ((4 : Int32) ≠ 0) <| xg (xk h6 w4 = 12 ∧ xin (s17 / 4) (xn h6 w4)) <| xg (xk h6 p2 = 25) <| xb (FJ0_length_8abf5T E p2  h6) fun v9 h10 => xjn (fun (v11 : Int32) (h12 : XH) => xg (xk h12 w4 = 12 ∧ xin (s17 / 4) (xn h12 w4)) <| xlt (yi h12 w4 ((s17 / 4) : Int32).toNatClampNeg (((xi h6 w4 ((s17 / 4) : Int32).toNatClampNeg) <<< (8 &&& 31)) ||| v11)) fun h13 => again17 (s17 + 1) h13) fun (j62 : Int32 → XH → XP Int32) => if (v9 : Int32) ≤ (s2 + s17) then (j62 32 h10) else (xg (xk h10 p2 = 25) <| xb (FJ0_charAt_5068eT E p2 (s2 + s17) h10) fun v14 h15 => j62 v14 h15))) xfu 0 h5)) xfu 0 h
theorem CL_feeds (E : XG) (p1 : Nat) (p2 : Nat) (h : XH) : XN E mL_feeds eI 1 0 [.ref p1, .ref p2] h (FL_feeds E p1 p2 h) := by
  unfold FL_feeds
  refine S_enter (L := [some (.ref p1), some (.ref p2), none, none, none]) (by decide +kernel) rfl rfl rfl ?_
  refine S_ic 0 0 dL_feeds_0 (by decide) ?_
  refine S_istore_2 1 dL_feeds_1 rfl ?_
  refine S_loop (fun (s2 : Int32) => [some (.ref p1), some (.ref p2), some (.int s2), none, none]) (fun again2 hg2 s2 h1 => ?_) xfu _ _
  refine S_iload_2 2 dL_feeds_2 ?_
  refine S_aload_1 3 dL_feeds_3 ?_
  refine S_callV (a' := 0) (b' := 0) (a := 1) (b := 0) 4 (As := []) (ci := 24) rfl calJ0_length_8abf5 imJ0_length_8abf5 seJ0_length_8abf5 mkL_7 rfl rfl rfl rfl rfl (by decide) rfl rfl dL_feeds_4 (CJ0_length_8abf5T E p2  h1) (fun v2 h3 => kqI ?_)
  refine S_icmpge 7 100 dL_feeds_7 (by decide) ?_ ?_
  · skip
    refine S_ic 100 1 dL_feeds_100 (by decide) ?_
    exact S_zret 101 dL_feeds_101 rfl
  · skip
    refine S_ic 10 5 dL_feeds_10 (by decide) ?_
    refine S_newG_int 11 ar12 dL_feeds_11 (fun w4 h5 => ?_)
    refine S_astore_3 13 dL_feeds_13 rfl ?_
    refine S_ic 14 0 dL_feeds_14 (by decide) ?_
    refine S_istore_4 15 dL_feeds_15 rfl ?_
    refine S_loop (fun (s17 : Int32) => [some (.ref p1), some (.ref p2), some (.int s2), some (.ref w4), some (.int s17)]) (fun again17 hg17 s17 h6 => ?_) xfu _ _
    refine S_iload_4 17 dL_feeds_17 ?_
    refine S_bip 19 20 dL_feeds_19 (by decide) ?_
    refine S_icmpge 21 70 dL_feeds_21 (by decide) ?_ ?_
    · skip
      refine S_aload_0 70 dL_feeds_70 ?_
      refine S_aload_3 71 dL_feeds_71 ?_
      refine S_ic 72 0 dL_feeds_72 (by decide) ?_
      refine S_iald 73 dL_feeds_73 ?_
      refine S_aload_3 74 dL_feeds_74 ?_
      refine S_ic 75 1 dL_feeds_75 (by decide) ?_
      refine S_iald 76 dL_feeds_76 ?_
      refine S_aload_3 77 dL_feeds_77 ?_
      refine S_ic 78 2 dL_feeds_78 (by decide) ?_
      refine S_iald 79 dL_feeds_79 ?_
      refine S_aload_3 80 dL_feeds_80 ?_
      refine S_ic 81 3 dL_feeds_81 (by decide) ?_
      refine S_iald 82 dL_feeds_82 ?_
      refine S_aload_3 83 dL_feeds_83 ?_
      refine S_ic 84 4 dL_feeds_84 (by decide) ?_
      refine S_iald 85 dL_feeds_85 ?_
      refine S_callV (a' := 0) (b' := 0) (a := 0) (b := 0) 86 (As := [.int (xi h6 w4 (0 : Int32).toNatClampNeg), .int (xi h6 w4 (1 : Int32).toNatClampNeg), .int (xi h6 w4 (2 : Int32).toNatClampNeg), .int (xi h6 w4 (3 : Int32).toNatClampNeg), .int (xi h6 w4 (4 : Int32).toNatClampNeg)]) (ci := 8) rfl calX8_append imX8_append seX8_append mkL_17 rfl rfl rfl rfl rfl (by decide) rfl rfl dL_feeds_86 (CX8_append E p1 (xi h6 w4 (0 : Int32).toNatClampNeg) (xi h6 w4 (1 : Int32).toNatClampNeg) (xi h6 w4 (2 : Int32).toNatClampNeg) (xi h6 w4 (3 : Int32).toNatClampNeg) (xi h6 w4 (4 : Int32).toNatClampNeg) h6) (fun v7 h8 => kqI ?_)
      refine S_ifge 89 94 dL_feeds_89 (by decide) ?_ ?_
      · skip
        refine S_iinc_2 94 (s2 + 20) dL_feeds_94 (by rfl) rfl ?_
        refine S_goto 97 2 dL_feeds_97 (by decide) ?_
        exact S_drop [3, 4] rfl (hg2 _ _)
      · skip
        refine S_ic 92 0 dL_feeds_92 (by decide) ?_
        exact S_zret 93 dL_feeds_93 rfl
    · skip
      refine S_aload_3 24 dL_feeds_24 ?_
      refine S_iload_4 25 dL_feeds_25 ?_
      refine S_ic 27 4 dL_feeds_27 (by decide) ?_
      refine S_idiv 28 dL_feeds_28 ?_
      refine S_aload_3 29 dL_feeds_29 ?_
      refine S_iload_4 30 dL_feeds_30 ?_
      refine S_ic 32 4 dL_feeds_32 (by decide) ?_
      refine S_idiv 33 dL_feeds_33 ?_
      refine S_iald 34 dL_feeds_34 ?_
      refine S_bip 35 8 dL_feeds_35 (by decide) ?_
      refine S_ishl 37 dL_feeds_37 ?_
      refine S_iload_2 38 dL_feeds_38 ?_
      refine S_iload_4 39 dL_feeds_39 ?_
      refine S_iadd 41 dL_feeds_41 ?_
      refine S_aload_1 42 dL_feeds_42 ?_
      refine S_callV (a' := 0) (b' := 0) (a := 0) (b := 0) 43 (As := []) (ci := 24) rfl calJ0_length_8abf5 imJ0_length_8abf5 seJ0_length_8abf5 mkL_7 rfl rfl rfl rfl rfl (by decide) rfl rfl dL_feeds_43 (CJ0_length_8abf5T E p2  h6) (fun v9 h10 => kqI ?_)
      refine S_join (fun jj => ∀ (v11 : Int32) (h12 : XH), XS E mL_feeds eI 0 0 62 [some (.ref p1), some (.ref p2), some (.int s2), some (.ref w4), some (.int s17)] [.int v11, .int ((xi h6 w4 ((s17 / 4) : Int32).toNatClampNeg) <<< (8 &&& 31)), .int (s17 / 4), .ref w4] h12 (jj v11 h12)) (fun v11 h12 => ?_) (fun j62 hj62 => ?_)
      · skip
        refine S_ior 62 dL_feeds_62 ?_
        refine S_iast 63 dL_feeds_63 (fun h13 => ?_)
        refine S_iinc_4 64 (s17 + 1) dL_feeds_64 (by rfl) rfl ?_
        refine S_goto 67 17 dL_feeds_67 (by decide) ?_
        exact S_drop [] rfl (hg17 _ _)
      refine S_icmpge 46 60 dL_feeds_46 (by decide) ?_ ?_
      · skip
        refine S_bip 60 32 dL_feeds_60 (by decide) ?_
        exact S_drop [] rfl (hj62 _ _)
      · skip
        refine S_aload_1 49 dL_feeds_49 ?_
        refine S_iload_2 50 dL_feeds_50 ?_
        refine S_iload_4 51 dL_feeds_51 ?_
        refine S_iadd 53 dL_feeds_53 ?_
        refine S_callV (a' := 0) (b' := 0) (a := 0) (b := 0) 54 (As := [.int (s2 + s17)]) (ci := 24) rfl calJ0_charAt_5068e imJ0_charAt_5068e seJ0_charAt_5068e mkL_13 rfl rfl rfl rfl rfl (by decide) rfl rfl dL_feeds_54 (CJ0_charAt_5068eT E p2 (s2 + s17) h10) (fun v14 h15 => kqI ?_)
        refine S_goto 57 62 dL_feeds_57 (by decide) ?_
        exact S_drop [] rfl (hj62 _ _)
def FL_tell (E : XG) (p1 : Nat) (p2 : Nat) (h : XH) : XP Int32 := xb (FL_feeds E p1 p2 h) fun v1 h2 => xjn (fun (v3 : Int32) (h4 : XH) => xv v3 h4) fun (j21 : Int32 → XH → XP Int32) => if (v1 : Int32) = 0 then (j21 (-9) h2) else (xg (xk h2 p2 = 25) <| xb (FJ0_length_8abf5T E p2  h2) fun v5 h6 => xg (xk h6 p1 = 9) <| xb (FX8_load E p1 v5 h6) fun v7 h8 => j21 v7 h8)
theorem CL_tell (E : XG) (p1 : Nat) (p2 : Nat) (h : XH) : XN E mL_tell eI 3 11 [.ref p1, .ref p2] h (FL_tell E p1 p2 h) := by
  unfold FL_tell
  refine S_enter (L := [some (.ref p1), some (.ref p2)]) (by decide +kernel) rfl rfl rfl ?_
  refine S_aload_0 0 dL_tell_0 ?_
  refine S_aload_1 1 dL_tell_1 ?_
  refine S_callS (a' := 1) (b' := 0) (a := 2) (b := 11) 2 (As := [.ref p1, .ref p2]) rfl calL_feeds stL_feeds mkL_23 rfl rfl rfl rfl rfl dL_tell_2 (CL_feeds E p1 p2 h) (fun v1 h2 => kqI ?_)
  refine S_join (fun jj => ∀ (v3 : Int32) (h4 : XH), XS E mL_tell eI 2 11 21 [none, none] [.int v3] h4 (jj v3 h4)) (fun v3 h4 => ?_) (fun j21 hj21 => ?_)
  · skip
    exact S_iret 21 dL_tell_21 rfl
  refine S_ifeq 5 19 dL_tell_5 (by decide) ?_ ?_
  · skip
    refine S_bip 19 (-9) dL_tell_19 (by decide) ?_
    exact S_drop [0, 1] rfl (hj21 _ _)
  · skip
    refine S_aload_0 8 dL_tell_8 ?_
    refine S_aload_1 9 dL_tell_9 ?_
    refine S_callV (a' := 0) (b' := 0) (a := 2) (b := 11) 10 (As := []) (ci := 24) rfl calJ0_length_8abf5 imJ0_length_8abf5 seJ0_length_8abf5 mkL_7 rfl rfl rfl rfl rfl (by decide) rfl rfl dL_tell_10 (CJ0_length_8abf5T E p2  h2) (fun v5 h6 => kqI ?_)
    refine S_callV (a' := 2) (b' := 11) (a := 0) (b := 0) 13 (As := [.int v5]) (ci := 8) rfl calX8_load imX8_load seX8_load mkL_29 rfl rfl rfl rfl rfl (by decide) rfl rfl dL_tell_13 (CX8_load E p1 v5 h6) (fun v7 h8 => kqI ?_)
    refine S_goto 16 21 dL_tell_16 (by decide) ?_
    exact S_drop [0, 1] rfl (hj21 _ _)
def FL_calls (E : XG) (p1 : Nat) (p2 : Int32) (p3 : Int32) (p4 : Int32) (p5 : Int32) (p6 : Int32) (h : XH) : XP Int64 := if (p2 : Int32) < 0 ∨ (33 : Int32) < p2 then (xg (xk h p1 = 9) <| xb (FX8_arrowWhy E p1 p3 h) fun v1 h2 => xv (Int32.toInt64 v1) h2) else (if (p2 : Int32) = 0 then (xg (xk h p1 = 9) <| xb (FX8_count E p1 p3 h) fun v3 h4 => xv (Int32.toInt64 v3) h4) else (if (p2 : Int32) = 1 then (xg (xk h p1 = 9) <| xb (FX8_letter E p1 p3 p4 p5 h) fun v5 h6 => xv (Int32.toInt64 v5) h6) else (if (p2 : Int32) = 2 then (xg (xk h p1 = 9) <| xb (FX8_times E p1 p3 p4 p5 h) fun v7 h8 => xv (Int32.toInt64 v7) h8) else (if (p2 : Int32) = 3 then (xg (xk h p1 = 9) <| xb (FX8_generated E p1 p3 p4 h) fun v9 h10 => xv (Int32.toInt64 v9) h10) else (if (p2 : Int32) = 4 then (xg (xk h p1 = 9) <| xb (FX8_boundary E p1 p3 p4 h) fun v11 h12 => xv (Int32.toInt64 v11) h12) else (if (p2 : Int32) = 5 then (xg (xk h p1 = 9) <| xb (FX8_act E p1 p3 p4 p5 h) fun v13 h14 => xv (Int32.toInt64 v13) h14) else (if (p2 : Int32) = 6 then (xg (xk h p1 = 9) <| xb (FX8_why E p1 p3 h) fun v15 h16 => xv (Int32.toInt64 v15) h16) else (if (p2 : Int32) = 7 then (xg (xk h p1 = 9) <| xb (FX8_classes E p1 p3 h) fun v17 h18 => xv (Int32.toInt64 v17) h18) else (if (p2 : Int32) = 8 then (xg (xk h p1 = 9) <| xb (FX8_classOf E p1 p3 p4 h) fun v19 h20 => xv (Int32.toInt64 v19) h20) else (if (p2 : Int32) = 9 then (xg (xk h p1 = 9) <| xb (FX8_classTimes E p1 p3 p4 p5 h) fun v21 h22 => xv (Int32.toInt64 v21) h22) else (if (p2 : Int32) = 10 then (xg (xk h p1 = 9) <| xb (FX8_classAct E p1 p3 p4 p5 h) fun v23 h24 => xv (Int32.toInt64 v23) h24) else (if (p2 : Int32) = 11 then (xjn (fun (v25 : Int32) (h26 : XH) => xg (xk h26 p1 = 9) <| xb (FX8_profile E p1 p3 v25 p5 h26) fun v27 h28 => xv (Int32.toInt64 v27) h28) fun (j259 : Int32 → XH → XP Int64) => if (p4 : Int32) = 1 then (j259 1 h) else (j259 0 h)) else (if (p2 : Int32) = 12 then (xg (xk h p1 = 9) <| xb (FX8_areAlike E p1 p3 p4 h) fun v29 h30 => xjn (fun (v31 : Int64) (h32 : XH) => xv v31 h32) fun (j280 : Int64 → XH → XP Int64) => if (v29 : Int32) = 0 then (j280 (Int64.ofNat 0) h30) else (j280 (Int64.ofNat 1) h30)) else (if (p2 : Int32) = 13 then (xg (xk h p1 = 9) <| xb (FX8_firstAlike E p1 p3 h) fun v33 h34 => xv (Int32.toInt64 v33) h34) else (if (p2 : Int32) = 14 then (xg (xk h p1 = 9) <| xb (FX8_largeTimes E p1 p3 p4 p5 h) fun v35 h36 => xv (Int32.toInt64 v35) h36) else (if (p2 : Int32) = 15 then (xg (xk h p1 = 9) <| xb (FX8_target E p1 p3 p4 h) fun v37 h38 => xv (Int32.toInt64 v37) h38) else (if (p2 : Int32) = 16 then (xg (xk h p1 = 9) <| xb (FX8_largeOrder E p1 p3 p4 h) fun v39 h40 => xv (Int32.toInt64 v39) h40) else (if (p2 : Int32) = 17 then (xg (xk h p1 = 9) <| xb (FX8_between E p1 p3 p4 p5 h) fun v41 h42 => xv (Int32.toInt64 v41) h42) else (if (p2 : Int32) = 18 then (xg (xk h p1 = 9) <| xb (FX8_top E p1 p3 p4 h) fun v43 h44 => xv (Int32.toInt64 v43) h44) else (if (p2 : Int32) = 19 then (xg (xk h p1 = 9) <| xb (FX8_bottom E p1 p3 p4 h) fun v45 h46 => xv (Int32.toInt64 v45) h46) else (if (p2 : Int32) = 20 then (xg (xk h p1 = 9) <| xb (FX8_ladder E p1 p3 p4 h) fun v47 h48 => xv (Int32.toInt64 v47) h48) else (if (p2 : Int32) = 21 then (xg (xk h p1 = 9) <| xb (FX8_through E p1 p3 p4 p5 h) fun v49 h50 => xv (Int32.toInt64 v49) h50) else (if (p2 : Int32) = 22 then (xg (xk h p1 = 9) <| xb (FX8_account E p1 p3 h) fun v51 h52 => xv (Int32.toInt64 v51) h52) else (if (p2 : Int32) = 23 then (xg (xk h p1 = 9) <| xb (FX8_textByte E p1 p3 h) fun v53 h54 => xv (Int32.toInt64 v53) h54) else (if (p2 : Int32) = 24 then (xg (xk h p1 = 9) <| xb (FX8_setBoundary E p1 p3 p4 p5 h) fun v55 h56 => xv (Int32.toInt64 v55) h56) else (if (p2 : Int32) = 25 then (xg (xk h p1 = 9) <| xb (FX8_setAct E p1 p3 p4 p5 p6 h) fun v57 h58 => xv (Int32.toInt64 v57) h58) else (if (p2 : Int32) = 26 then (xg (xk h p1 = 9) <| xb (FX8_rest E p1 p3 h) fun v59 h60 => xv (Int32.toInt64 v59) h60) else (if (p2 : Int32) = 27 then (xg (xk h p1 = 9) <| xb (FX8_conjugate E p1 p3 h) fun v61 h62 => xv (Int32.toInt64 v61) h62) else (if (p2 : Int32) = 28 then (xg (xk h p1 = 9) <| xb (FX8_setTop E p1 p3 p4 p5 h) fun v63 h64 => xv (Int32.toInt64 v63) h64) else (if (p2 : Int32) = 29 then (xg (xk h p1 = 9) <| xb (FX8_setBottom E p1 p3 p4 p5 h) fun v65 h66 => xv (Int32.toInt64 v65) h66) else (if (p2 : Int32) = 30 then (xg (xk h p1 = 9) <| xb (FX8_undo E p1  h) fun v67 h68 => xv (Int32.toInt64 v67) h68) else (if (p2 : Int32) = 31 then (xg (xk h p1 = 9) <| xb (FX8_save E p1 p3 h) fun v69 h70 => xv (Int32.toInt64 v69) h70) else (if (p2 : Int32) = 32 then (xg (xk h p1 = 9) <| xb (FX8_restore E p1 p3 h) fun v71 h72 => xv (Int32.toInt64 v71) h72) else (if (p2 : Int32) = 33 then (xg (xk h p1 = 9) <| xb (FX8_load E p1 p3 h) fun v73 h74 => xv (Int32.toInt64 v73) h74) else (none)))))))))))))))))))))))))))))))))))
theorem CL_calls (E : XG) (p1 : Nat) (p2 : Int32) (p3 : Int32) (p4 : Int32) (p5 : Int32) (p6 : Int32) (h : XH) : XN E mL_calls eJ 2 11 [.ref p1, .int p2, .int p3, .int p4, .int p5, .int p6] h (FL_calls E p1 p2 p3 p4 p5 p6 h) := by
  unfold FL_calls
  refine S_enter (L := [some (.ref p1), some (.int p2), some (.int p3), some (.int p4), some (.int p5), some (.int p6)]) (by decide +kernel) rfl rfl rfl ?_
  refine S_iload_1 0 dL_calls_0 ?_
  refine S_tsw 1 455 (c := 33) dL_calls_1 (by decide) (by decide) ?_ ?_
  · skip
    refine S_aload_0 455 dL_calls_455 ?_
    refine S_iload_2 456 dL_calls_456 ?_
    refine S_callV (a' := 0) (b' := 0) (a := 2) (b := 11) 457 (As := [.int p3]) (ci := 8) rfl calX8_arrowWhy imX8_arrowWhy seX8_arrowWhy mkL_137 rfl rfl rfl rfl rfl (by decide) rfl rfl dL_calls_457 (CX8_arrowWhy E p1 p3 h) (fun v1 h2 => kqI ?_)
    refine S_i2l 460 dL_calls_460 ?_
    exact S_lret 461 dL_calls_461 rfl
  refine S_ts 1 0 152 (c := 0) dL_calls_1 (by decide) (by decide) rfl (by decide) ?_ ?_
  · skip
    refine S_aload_0 152 dL_calls_152 ?_
    refine S_iload_2 153 dL_calls_153 ?_
    refine S_callV (a' := 0) (b' := 0) (a := 2) (b := 11) 154 (As := [.int p3]) (ci := 8) rfl calX8_count imX8_count seX8_count mkL_33 rfl rfl rfl rfl rfl (by decide) rfl rfl dL_calls_154 (CX8_count E p1 p3 h) (fun v3 h4 => kqI ?_)
    refine S_i2l 157 dL_calls_157 ?_
    exact S_lret 158 dL_calls_158 rfl
  refine S_ts 1 1 159 (c := 1) dL_calls_1 (by decide) (by decide) rfl (by decide) ?_ ?_
  · skip
    refine S_aload_0 159 dL_calls_159 ?_
    refine S_iload_2 160 dL_calls_160 ?_
    refine S_iload_3 161 dL_calls_161 ?_
    refine S_iload_4 162 dL_calls_162 ?_
    refine S_callV (a' := 0) (b' := 0) (a := 2) (b := 11) 164 (As := [.int p3, .int p4, .int p5]) (ci := 8) rfl calX8_letter imX8_letter seX8_letter mkL_36 rfl rfl rfl rfl rfl (by decide) rfl rfl dL_calls_164 (CX8_letter E p1 p3 p4 p5 h) (fun v5 h6 => kqI ?_)
    refine S_i2l 167 dL_calls_167 ?_
    exact S_lret 168 dL_calls_168 rfl
  refine S_ts 1 2 169 (c := 2) dL_calls_1 (by decide) (by decide) rfl (by decide) ?_ ?_
  · skip
    refine S_aload_0 169 dL_calls_169 ?_
    refine S_iload_2 170 dL_calls_170 ?_
    refine S_iload_3 171 dL_calls_171 ?_
    refine S_iload_4 172 dL_calls_172 ?_
    refine S_callV (a' := 0) (b' := 0) (a := 2) (b := 11) 174 (As := [.int p3, .int p4, .int p5]) (ci := 8) rfl calX8_times imX8_times seX8_times mkL_40 rfl rfl rfl rfl rfl (by decide) rfl rfl dL_calls_174 (CX8_times E p1 p3 p4 p5 h) (fun v7 h8 => kqI ?_)
    refine S_i2l 177 dL_calls_177 ?_
    exact S_lret 178 dL_calls_178 rfl
  refine S_ts 1 3 179 (c := 3) dL_calls_1 (by decide) (by decide) rfl (by decide) ?_ ?_
  · skip
    refine S_aload_0 179 dL_calls_179 ?_
    refine S_iload_2 180 dL_calls_180 ?_
    refine S_iload_3 181 dL_calls_181 ?_
    refine S_callV (a' := 0) (b' := 0) (a := 2) (b := 11) 182 (As := [.int p3, .int p4]) (ci := 8) rfl calX8_generated imX8_generated seX8_generated mkL_43 rfl rfl rfl rfl rfl (by decide) rfl rfl dL_calls_182 (CX8_generated E p1 p3 p4 h) (fun v9 h10 => kqI ?_)
    refine S_i2l 185 dL_calls_185 ?_
    exact S_lret 186 dL_calls_186 rfl
  refine S_ts 1 4 187 (c := 4) dL_calls_1 (by decide) (by decide) rfl (by decide) ?_ ?_
  · skip
    refine S_aload_0 187 dL_calls_187 ?_
    refine S_iload_2 188 dL_calls_188 ?_
    refine S_iload_3 189 dL_calls_189 ?_
    refine S_callV (a' := 0) (b' := 0) (a := 2) (b := 11) 190 (As := [.int p3, .int p4]) (ci := 8) rfl calX8_boundary imX8_boundary seX8_boundary mkL_47 rfl rfl rfl rfl rfl (by decide) rfl rfl dL_calls_190 (CX8_boundary E p1 p3 p4 h) (fun v11 h12 => kqI ?_)
    refine S_i2l 193 dL_calls_193 ?_
    exact S_lret 194 dL_calls_194 rfl
  refine S_ts 1 5 195 (c := 5) dL_calls_1 (by decide) (by decide) rfl (by decide) ?_ ?_
  · skip
    refine S_aload_0 195 dL_calls_195 ?_
    refine S_iload_2 196 dL_calls_196 ?_
    refine S_iload_3 197 dL_calls_197 ?_
    refine S_iload_4 198 dL_calls_198 ?_
    refine S_callV (a' := 0) (b' := 0) (a := 2) (b := 11) 200 (As := [.int p3, .int p4, .int p5]) (ci := 8) rfl calX8_act imX8_act seX8_act mkL_50 rfl rfl rfl rfl rfl (by decide) rfl rfl dL_calls_200 (CX8_act E p1 p3 p4 p5 h) (fun v13 h14 => kqI ?_)
    refine S_i2l 203 dL_calls_203 ?_
    exact S_lret 204 dL_calls_204 rfl
  refine S_ts 1 6 205 (c := 6) dL_calls_1 (by decide) (by decide) rfl (by decide) ?_ ?_
  · skip
    refine S_aload_0 205 dL_calls_205 ?_
    refine S_iload_2 206 dL_calls_206 ?_
    refine S_callV (a' := 0) (b' := 0) (a := 2) (b := 11) 207 (As := [.int p3]) (ci := 8) rfl calX8_why imX8_why seX8_why mkL_53 rfl rfl rfl rfl rfl (by decide) rfl rfl dL_calls_207 (CX8_why E p1 p3 h) (fun v15 h16 => kqI ?_)
    refine S_i2l 210 dL_calls_210 ?_
    exact S_lret 211 dL_calls_211 rfl
  refine S_ts 1 7 212 (c := 7) dL_calls_1 (by decide) (by decide) rfl (by decide) ?_ ?_
  · skip
    refine S_aload_0 212 dL_calls_212 ?_
    refine S_iload_2 213 dL_calls_213 ?_
    refine S_callV (a' := 0) (b' := 0) (a := 2) (b := 11) 214 (As := [.int p3]) (ci := 8) rfl calX8_classes imX8_classes seX8_classes mkL_56 rfl rfl rfl rfl rfl (by decide) rfl rfl dL_calls_214 (CX8_classes E p1 p3 h) (fun v17 h18 => kqI ?_)
    refine S_i2l 217 dL_calls_217 ?_
    exact S_lret 218 dL_calls_218 rfl
  refine S_ts 1 8 219 (c := 8) dL_calls_1 (by decide) (by decide) rfl (by decide) ?_ ?_
  · skip
    refine S_aload_0 219 dL_calls_219 ?_
    refine S_iload_2 220 dL_calls_220 ?_
    refine S_iload_3 221 dL_calls_221 ?_
    refine S_callV (a' := 0) (b' := 0) (a := 2) (b := 11) 222 (As := [.int p3, .int p4]) (ci := 8) rfl calX8_classOf imX8_classOf seX8_classOf mkL_59 rfl rfl rfl rfl rfl (by decide) rfl rfl dL_calls_222 (CX8_classOf E p1 p3 p4 h) (fun v19 h20 => kqI ?_)
    refine S_i2l 225 dL_calls_225 ?_
    exact S_lret 226 dL_calls_226 rfl
  refine S_ts 1 9 227 (c := 9) dL_calls_1 (by decide) (by decide) rfl (by decide) ?_ ?_
  · skip
    refine S_aload_0 227 dL_calls_227 ?_
    refine S_iload_2 228 dL_calls_228 ?_
    refine S_iload_3 229 dL_calls_229 ?_
    refine S_iload_4 230 dL_calls_230 ?_
    refine S_callV (a' := 0) (b' := 0) (a := 2) (b := 11) 232 (As := [.int p3, .int p4, .int p5]) (ci := 8) rfl calX8_classTimes imX8_classTimes seX8_classTimes mkL_62 rfl rfl rfl rfl rfl (by decide) rfl rfl dL_calls_232 (CX8_classTimes E p1 p3 p4 p5 h) (fun v21 h22 => kqI ?_)
    refine S_i2l 235 dL_calls_235 ?_
    exact S_lret 236 dL_calls_236 rfl
  refine S_ts 1 10 237 (c := 10) dL_calls_1 (by decide) (by decide) rfl (by decide) ?_ ?_
  · skip
    refine S_aload_0 237 dL_calls_237 ?_
    refine S_iload_2 238 dL_calls_238 ?_
    refine S_iload_3 239 dL_calls_239 ?_
    refine S_iload_4 240 dL_calls_240 ?_
    refine S_callV (a' := 0) (b' := 0) (a := 2) (b := 11) 242 (As := [.int p3, .int p4, .int p5]) (ci := 8) rfl calX8_classAct imX8_classAct seX8_classAct mkL_65 rfl rfl rfl rfl rfl (by decide) rfl rfl dL_calls_242 (CX8_classAct E p1 p3 p4 p5 h) (fun v23 h24 => kqI ?_)
    refine S_i2l 245 dL_calls_245 ?_
    exact S_lret 246 dL_calls_246 rfl
  refine S_ts 1 11 247 (c := 11) dL_calls_1 (by decide) (by decide) rfl (by decide) ?_ ?_
  · skip
    refine S_aload_0 247 dL_calls_247 ?_
    refine S_iload_2 248 dL_calls_248 ?_
    refine S_iload_3 249 dL_calls_249 ?_
    refine S_ic 250 1 dL_calls_250 (by decide) ?_
    refine S_join (fun jj => ∀ (v25 : Int32) (h26 : XH), XS E mL_calls eJ 2 11 259 [none, none, none, none, some (.int p5), none] [.int v25, .int p3, .ref p1] h26 (jj v25 h26)) (fun v25 h26 => ?_) (fun j259 hj259 => ?_)
    · skip
      refine S_iload_4 259 dL_calls_259 ?_
      refine S_callV (a' := 0) (b' := 0) (a := 2) (b := 11) 261 (As := [.int p3, .int v25, .int p5]) (ci := 8) rfl calX8_profile imX8_profile seX8_profile mkL_68 rfl rfl rfl rfl rfl (by decide) rfl rfl dL_calls_261 (CX8_profile E p1 p3 v25 p5 h26) (fun v27 h28 => kqI ?_)
      refine S_i2l 264 dL_calls_264 ?_
      exact S_lret 265 dL_calls_265 rfl
    refine S_icmpne 251 258 dL_calls_251 (by decide) ?_ ?_
    · skip
      refine S_ic 258 0 dL_calls_258 (by decide) ?_
      exact S_drop [0, 1, 2, 3, 5] rfl (hj259 _ _)
    · skip
      refine S_ic 254 1 dL_calls_254 (by decide) ?_
      refine S_goto 255 259 dL_calls_255 (by decide) ?_
      exact S_drop [0, 1, 2, 3, 5] rfl (hj259 _ _)
  refine S_ts 1 12 266 (c := 12) dL_calls_1 (by decide) (by decide) rfl (by decide) ?_ ?_
  · skip
    refine S_aload_0 266 dL_calls_266 ?_
    refine S_iload_2 267 dL_calls_267 ?_
    refine S_iload_3 268 dL_calls_268 ?_
    refine S_callV (a' := 0) (b' := 0) (a := 2) (b := 11) 269 (As := [.int p3, .int p4]) (ci := 8) rfl calX8_areAlike imX8_areAlike seX8_areAlike mkL_72 rfl rfl rfl rfl rfl (by decide) rfl rfl dL_calls_269 (CX8_areAlike E p1 p3 p4 h) (fun v29 h30 => kqI ?_)
    refine S_join (fun jj => ∀ (v31 : Int64) (h32 : XH), XS E mL_calls eJ 2 11 280 [none, none, none, none, none, none] [.long v31] h32 (jj v31 h32)) (fun v31 h32 => ?_) (fun j280 hj280 => ?_)
    · skip
      exact S_lret 280 dL_calls_280 rfl
    refine S_ifeq 272 279 dL_calls_272 (by decide) ?_ ?_
    · skip
      refine S_lconst 279 0 dL_calls_279 ?_
      exact S_drop [0, 1, 2, 3, 4, 5] rfl (hj280 _ _)
    · skip
      refine S_lconst 275 1 dL_calls_275 ?_
      refine S_goto 276 280 dL_calls_276 (by decide) ?_
      exact S_drop [0, 1, 2, 3, 4, 5] rfl (hj280 _ _)
  refine S_ts 1 13 281 (c := 13) dL_calls_1 (by decide) (by decide) rfl (by decide) ?_ ?_
  · skip
    refine S_aload_0 281 dL_calls_281 ?_
    refine S_iload_2 282 dL_calls_282 ?_
    refine S_callV (a' := 0) (b' := 0) (a := 2) (b := 11) 283 (As := [.int p3]) (ci := 8) rfl calX8_firstAlike imX8_firstAlike seX8_firstAlike mkL_76 rfl rfl rfl rfl rfl (by decide) rfl rfl dL_calls_283 (CX8_firstAlike E p1 p3 h) (fun v33 h34 => kqI ?_)
    refine S_i2l 286 dL_calls_286 ?_
    exact S_lret 287 dL_calls_287 rfl
  refine S_ts 1 14 288 (c := 14) dL_calls_1 (by decide) (by decide) rfl (by decide) ?_ ?_
  · skip
    refine S_aload_0 288 dL_calls_288 ?_
    refine S_iload_2 289 dL_calls_289 ?_
    refine S_iload_3 290 dL_calls_290 ?_
    refine S_iload_4 291 dL_calls_291 ?_
    refine S_callV (a' := 0) (b' := 0) (a := 2) (b := 11) 293 (As := [.int p3, .int p4, .int p5]) (ci := 8) rfl calX8_largeTimes imX8_largeTimes seX8_largeTimes mkL_79 rfl rfl rfl rfl rfl (by decide) rfl rfl dL_calls_293 (CX8_largeTimes E p1 p3 p4 p5 h) (fun v35 h36 => kqI ?_)
    refine S_i2l 296 dL_calls_296 ?_
    exact S_lret 297 dL_calls_297 rfl
  refine S_ts 1 15 298 (c := 15) dL_calls_1 (by decide) (by decide) rfl (by decide) ?_ ?_
  · skip
    refine S_aload_0 298 dL_calls_298 ?_
    refine S_iload_2 299 dL_calls_299 ?_
    refine S_iload_3 300 dL_calls_300 ?_
    refine S_callV (a' := 0) (b' := 0) (a := 2) (b := 11) 301 (As := [.int p3, .int p4]) (ci := 8) rfl calX8_target imX8_target seX8_target mkL_82 rfl rfl rfl rfl rfl (by decide) rfl rfl dL_calls_301 (CX8_target E p1 p3 p4 h) (fun v37 h38 => kqI ?_)
    refine S_i2l 304 dL_calls_304 ?_
    exact S_lret 305 dL_calls_305 rfl
  refine S_ts 1 16 306 (c := 16) dL_calls_1 (by decide) (by decide) rfl (by decide) ?_ ?_
  · skip
    refine S_aload_0 306 dL_calls_306 ?_
    refine S_iload_2 307 dL_calls_307 ?_
    refine S_iload_3 308 dL_calls_308 ?_
    refine S_callV (a' := 0) (b' := 0) (a := 2) (b := 11) 309 (As := [.int p3, .int p4]) (ci := 8) rfl calX8_largeOrder imX8_largeOrder seX8_largeOrder mkL_85 rfl rfl rfl rfl rfl (by decide) rfl rfl dL_calls_309 (CX8_largeOrder E p1 p3 p4 h) (fun v39 h40 => kqI ?_)
    refine S_i2l 312 dL_calls_312 ?_
    exact S_lret 313 dL_calls_313 rfl
  refine S_ts 1 17 314 (c := 17) dL_calls_1 (by decide) (by decide) rfl (by decide) ?_ ?_
  · skip
    refine S_aload_0 314 dL_calls_314 ?_
    refine S_iload_2 315 dL_calls_315 ?_
    refine S_iload_3 316 dL_calls_316 ?_
    refine S_iload_4 317 dL_calls_317 ?_
    refine S_callV (a' := 0) (b' := 0) (a := 2) (b := 11) 319 (As := [.int p3, .int p4, .int p5]) (ci := 8) rfl calX8_between imX8_between seX8_between mkL_88 rfl rfl rfl rfl rfl (by decide) rfl rfl dL_calls_319 (CX8_between E p1 p3 p4 p5 h) (fun v41 h42 => kqI ?_)
    refine S_i2l 322 dL_calls_322 ?_
    exact S_lret 323 dL_calls_323 rfl
  refine S_ts 1 18 324 (c := 18) dL_calls_1 (by decide) (by decide) rfl (by decide) ?_ ?_
  · skip
    refine S_aload_0 324 dL_calls_324 ?_
    refine S_iload_2 325 dL_calls_325 ?_
    refine S_iload_3 326 dL_calls_326 ?_
    refine S_callV (a' := 0) (b' := 0) (a := 2) (b := 11) 327 (As := [.int p3, .int p4]) (ci := 8) rfl calX8_top imX8_top seX8_top mkL_91 rfl rfl rfl rfl rfl (by decide) rfl rfl dL_calls_327 (CX8_top E p1 p3 p4 h) (fun v43 h44 => kqI ?_)
    refine S_i2l 330 dL_calls_330 ?_
    exact S_lret 331 dL_calls_331 rfl
  refine S_ts 1 19 332 (c := 19) dL_calls_1 (by decide) (by decide) rfl (by decide) ?_ ?_
  · skip
    refine S_aload_0 332 dL_calls_332 ?_
    refine S_iload_2 333 dL_calls_333 ?_
    refine S_iload_3 334 dL_calls_334 ?_
    refine S_callV (a' := 0) (b' := 0) (a := 2) (b := 11) 335 (As := [.int p3, .int p4]) (ci := 8) rfl calX8_bottom imX8_bottom seX8_bottom mkL_94 rfl rfl rfl rfl rfl (by decide) rfl rfl dL_calls_335 (CX8_bottom E p1 p3 p4 h) (fun v45 h46 => kqI ?_)
    refine S_i2l 338 dL_calls_338 ?_
    exact S_lret 339 dL_calls_339 rfl
  refine S_ts 1 20 340 (c := 20) dL_calls_1 (by decide) (by decide) rfl (by decide) ?_ ?_
  · skip
    refine S_aload_0 340 dL_calls_340 ?_
    refine S_iload_2 341 dL_calls_341 ?_
    refine S_iload_3 342 dL_calls_342 ?_
    refine S_callV (a' := 0) (b' := 0) (a := 2) (b := 11) 343 (As := [.int p3, .int p4]) (ci := 8) rfl calX8_ladder imX8_ladder seX8_ladder mkL_97 rfl rfl rfl rfl rfl (by decide) rfl rfl dL_calls_343 (CX8_ladder E p1 p3 p4 h) (fun v47 h48 => kqI ?_)
    refine S_i2l 346 dL_calls_346 ?_
    exact S_lret 347 dL_calls_347 rfl
  refine S_ts 1 21 348 (c := 21) dL_calls_1 (by decide) (by decide) rfl (by decide) ?_ ?_
  · skip
    refine S_aload_0 348 dL_calls_348 ?_
    refine S_iload_2 349 dL_calls_349 ?_
    refine S_iload_3 350 dL_calls_350 ?_
    refine S_iload_4 351 dL_calls_351 ?_
    refine S_callV (a' := 0) (b' := 0) (a := 2) (b := 11) 353 (As := [.int p3, .int p4, .int p5]) (ci := 8) rfl calX8_through imX8_through seX8_through mkL_100 rfl rfl rfl rfl rfl (by decide) rfl rfl dL_calls_353 (CX8_through E p1 p3 p4 p5 h) (fun v49 h50 => kqI ?_)
    refine S_i2l 356 dL_calls_356 ?_
    exact S_lret 357 dL_calls_357 rfl
  refine S_ts 1 22 358 (c := 22) dL_calls_1 (by decide) (by decide) rfl (by decide) ?_ ?_
  · skip
    refine S_aload_0 358 dL_calls_358 ?_
    refine S_iload_2 359 dL_calls_359 ?_
    refine S_callV (a' := 0) (b' := 0) (a := 2) (b := 11) 360 (As := [.int p3]) (ci := 8) rfl calX8_account imX8_account seX8_account mkL_103 rfl rfl rfl rfl rfl (by decide) rfl rfl dL_calls_360 (CX8_account E p1 p3 h) (fun v51 h52 => kqI ?_)
    refine S_i2l 363 dL_calls_363 ?_
    exact S_lret 364 dL_calls_364 rfl
  refine S_ts 1 23 365 (c := 23) dL_calls_1 (by decide) (by decide) rfl (by decide) ?_ ?_
  · skip
    refine S_aload_0 365 dL_calls_365 ?_
    refine S_iload_2 366 dL_calls_366 ?_
    refine S_callV (a' := 0) (b' := 0) (a := 2) (b := 11) 367 (As := [.int p3]) (ci := 8) rfl calX8_textByte imX8_textByte seX8_textByte mkL_106 rfl rfl rfl rfl rfl (by decide) rfl rfl dL_calls_367 (CX8_textByte E p1 p3 h) (fun v53 h54 => kqI ?_)
    refine S_i2l 370 dL_calls_370 ?_
    exact S_lret 371 dL_calls_371 rfl
  refine S_ts 1 24 372 (c := 24) dL_calls_1 (by decide) (by decide) rfl (by decide) ?_ ?_
  · skip
    refine S_aload_0 372 dL_calls_372 ?_
    refine S_iload_2 373 dL_calls_373 ?_
    refine S_iload_3 374 dL_calls_374 ?_
    refine S_iload_4 375 dL_calls_375 ?_
    refine S_callV (a' := 0) (b' := 0) (a := 2) (b := 11) 377 (As := [.int p3, .int p4, .int p5]) (ci := 8) rfl calX8_setBoundary imX8_setBoundary seX8_setBoundary mkL_109 rfl rfl rfl rfl rfl (by decide) rfl rfl dL_calls_377 (CX8_setBoundary E p1 p3 p4 p5 h) (fun v55 h56 => kqI ?_)
    refine S_i2l 380 dL_calls_380 ?_
    exact S_lret 381 dL_calls_381 rfl
  refine S_ts 1 25 382 (c := 25) dL_calls_1 (by decide) (by decide) rfl (by decide) ?_ ?_
  · skip
    refine S_aload_0 382 dL_calls_382 ?_
    refine S_iload_2 383 dL_calls_383 ?_
    refine S_iload_3 384 dL_calls_384 ?_
    refine S_iload_4 385 dL_calls_385 ?_
    refine S_iload_5 387 dL_calls_387 ?_
    refine S_callV (a' := 0) (b' := 0) (a := 2) (b := 11) 389 (As := [.int p3, .int p4, .int p5, .int p6]) (ci := 8) rfl calX8_setAct imX8_setAct seX8_setAct mkL_112 rfl rfl rfl rfl rfl (by decide) rfl rfl dL_calls_389 (CX8_setAct E p1 p3 p4 p5 p6 h) (fun v57 h58 => kqI ?_)
    refine S_i2l 392 dL_calls_392 ?_
    exact S_lret 393 dL_calls_393 rfl
  refine S_ts 1 26 394 (c := 26) dL_calls_1 (by decide) (by decide) rfl (by decide) ?_ ?_
  · skip
    refine S_aload_0 394 dL_calls_394 ?_
    refine S_iload_2 395 dL_calls_395 ?_
    refine S_callV (a' := 0) (b' := 0) (a := 2) (b := 11) 396 (As := [.int p3]) (ci := 8) rfl calX8_rest imX8_rest seX8_rest mkL_116 rfl rfl rfl rfl rfl (by decide) rfl rfl dL_calls_396 (CX8_rest E p1 p3 h) (fun v59 h60 => kqI ?_)
    refine S_i2l 399 dL_calls_399 ?_
    exact S_lret 400 dL_calls_400 rfl
  refine S_ts 1 27 401 (c := 27) dL_calls_1 (by decide) (by decide) rfl (by decide) ?_ ?_
  · skip
    refine S_aload_0 401 dL_calls_401 ?_
    refine S_iload_2 402 dL_calls_402 ?_
    refine S_callV (a' := 0) (b' := 0) (a := 2) (b := 11) 403 (As := [.int p3]) (ci := 8) rfl calX8_conjugate imX8_conjugate seX8_conjugate mkL_119 rfl rfl rfl rfl rfl (by decide) rfl rfl dL_calls_403 (CX8_conjugate E p1 p3 h) (fun v61 h62 => kqI ?_)
    refine S_i2l 406 dL_calls_406 ?_
    exact S_lret 407 dL_calls_407 rfl
  refine S_ts 1 28 408 (c := 28) dL_calls_1 (by decide) (by decide) rfl (by decide) ?_ ?_
  · skip
    refine S_aload_0 408 dL_calls_408 ?_
    refine S_iload_2 409 dL_calls_409 ?_
    refine S_iload_3 410 dL_calls_410 ?_
    refine S_iload_4 411 dL_calls_411 ?_
    refine S_callV (a' := 0) (b' := 0) (a := 2) (b := 11) 413 (As := [.int p3, .int p4, .int p5]) (ci := 8) rfl calX8_setTop imX8_setTop seX8_setTop mkL_122 rfl rfl rfl rfl rfl (by decide) rfl rfl dL_calls_413 (CX8_setTop E p1 p3 p4 p5 h) (fun v63 h64 => kqI ?_)
    refine S_i2l 416 dL_calls_416 ?_
    exact S_lret 417 dL_calls_417 rfl
  refine S_ts 1 29 418 (c := 29) dL_calls_1 (by decide) (by decide) rfl (by decide) ?_ ?_
  · skip
    refine S_aload_0 418 dL_calls_418 ?_
    refine S_iload_2 419 dL_calls_419 ?_
    refine S_iload_3 420 dL_calls_420 ?_
    refine S_iload_4 421 dL_calls_421 ?_
    refine S_callV (a' := 0) (b' := 0) (a := 2) (b := 11) 423 (As := [.int p3, .int p4, .int p5]) (ci := 8) rfl calX8_setBottom imX8_setBottom seX8_setBottom mkL_125 rfl rfl rfl rfl rfl (by decide) rfl rfl dL_calls_423 (CX8_setBottom E p1 p3 p4 p5 h) (fun v65 h66 => kqI ?_)
    refine S_i2l 426 dL_calls_426 ?_
    exact S_lret 427 dL_calls_427 rfl
  refine S_ts 1 30 428 (c := 30) dL_calls_1 (by decide) (by decide) rfl (by decide) ?_ ?_
  · skip
    refine S_aload_0 428 dL_calls_428 ?_
    refine S_callV (a' := 0) (b' := 0) (a := 2) (b := 11) 429 (As := []) (ci := 8) rfl calX8_undo imX8_undo seX8_undo mkL_128 rfl rfl rfl rfl rfl (by decide) rfl rfl dL_calls_429 (CX8_undo E p1  h) (fun v67 h68 => kqI ?_)
    refine S_i2l 432 dL_calls_432 ?_
    exact S_lret 433 dL_calls_433 rfl
  refine S_ts 1 31 434 (c := 31) dL_calls_1 (by decide) (by decide) rfl (by decide) ?_ ?_
  · skip
    refine S_aload_0 434 dL_calls_434 ?_
    refine S_iload_2 435 dL_calls_435 ?_
    refine S_callV (a' := 0) (b' := 0) (a := 2) (b := 11) 436 (As := [.int p3]) (ci := 8) rfl calX8_save imX8_save seX8_save mkL_131 rfl rfl rfl rfl rfl (by decide) rfl rfl dL_calls_436 (CX8_save E p1 p3 h) (fun v69 h70 => kqI ?_)
    refine S_i2l 439 dL_calls_439 ?_
    exact S_lret 440 dL_calls_440 rfl
  refine S_ts 1 32 441 (c := 32) dL_calls_1 (by decide) (by decide) rfl (by decide) ?_ ?_
  · skip
    refine S_aload_0 441 dL_calls_441 ?_
    refine S_iload_2 442 dL_calls_442 ?_
    refine S_callV (a' := 0) (b' := 0) (a := 2) (b := 11) 443 (As := [.int p3]) (ci := 8) rfl calX8_restore imX8_restore seX8_restore mkL_134 rfl rfl rfl rfl rfl (by decide) rfl rfl dL_calls_443 (CX8_restore E p1 p3 h) (fun v71 h72 => kqI ?_)
    refine S_i2l 446 dL_calls_446 ?_
    exact S_lret 447 dL_calls_447 rfl
  refine S_ts 1 33 448 (c := 33) dL_calls_1 (by decide) (by decide) rfl (by decide) ?_ ?_
  · skip
    refine S_aload_0 448 dL_calls_448 ?_
    refine S_iload_2 449 dL_calls_449 ?_
    refine S_callV (a' := 2) (b' := 11) (a := 0) (b := 0) 450 (As := [.int p3]) (ci := 8) rfl calX8_load imX8_load seX8_load mkL_29 rfl rfl rfl rfl rfl (by decide) rfl rfl dL_calls_450 (CX8_load E p1 p3 h) (fun v73 h74 => kqI ?_)
    refine S_i2l 453 dL_calls_453 ?_
    exact S_lret 454 dL_calls_454 rfl
  exact S_none
