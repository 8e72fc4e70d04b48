/-! Methods as functions, 16. -/
set_option linter.unusedVariables false
set_option maxRecDepth 10000
def FX9_firstLike (E : XG) (t : Nat) (p1 : Int32) (h : XH) : XP Int32 := xlp (fun again2 (s2 : Int32) h1 => xg (xk h1 t = 10) <| xb (FX9_whyOf E t s2 h1) fun v2 h3 => xjn (fun  (h4 : XH) => again2 (s2 + 1) h4) fun (j19 : XH → XP Int32) => if (v2 : Int32) = 0 then (xg (xk h3 t = 10) <| xb (FX9_alike E t s2 p1 h3) fun v5 h6 => if (v5 : Int32) = 0 then (j19 h6) else (xv s2 h6)) else (j19 h3)) xfu 0 h
theorem CX9_firstLike (E : XG) (t : Nat) (p1 : Int32) (h : XH) : XN E mX9_firstLike eI 0 0 [.ref t, .int p1] h (FX9_firstLike E t p1 h) := by
  unfold FX9_firstLike
  refine S_enter (L := [some (.ref t), some (.int p1), none]) (by decide +kernel) rfl rfl rfl ?_
  refine S_ic 0 0 dX9_firstLike_0 (by decide) ?_
  refine S_istore_2 1 dX9_firstLike_1 rfl ?_
  refine S_loop (fun (s2 : Int32) => [some (.ref t), some (.int p1), some (.int s2)]) (fun again2 hg2 s2 h1 => ?_) xfu _ _
  refine S_aload_0 2 dX9_firstLike_2 ?_
  refine S_iload_2 3 dX9_firstLike_3 ?_
  refine S_callV (a' := 0) (b' := 0) (a := 0) (b := 0) 4 (As := [.int s2]) (ci := 9) rfl calX9_whyOf imX9_whyOf seX9_whyOf mkX9_350 rfl rfl rfl rfl rfl (by decide) rfl rfl dX9_firstLike_4 (CX9_whyOf E t s2 h1) (fun v2 h3 => kqI ?_)
  refine S_join (fun jj => ∀  (h4 : XH), XS E mX9_firstLike eI 0 0 19 [some (.ref t), some (.int p1), some (.int s2)] [] h4 (jj  h4)) (fun  h4 => ?_) (fun j19 hj19 => ?_)
  · skip
    refine S_iinc_2 19 (s2 + 1) dX9_firstLike_19 (by rfl) rfl ?_
    refine S_goto 22 2 dX9_firstLike_22 (by decide) ?_
    exact S_drop [] rfl (hg2 _ _)
  refine S_ifne 7 19 dX9_firstLike_7 (by decide) ?_ ?_
  · skip
    exact S_drop [] rfl (hj19 _)
  · skip
    refine S_aload_0 10 dX9_firstLike_10 ?_
    refine S_iload_2 11 dX9_firstLike_11 ?_
    refine S_iload_1 12 dX9_firstLike_12 ?_
    refine S_callV (a' := 0) (b' := 0) (a := 0) (b := 0) 13 (As := [.int s2, .int p1]) (ci := 9) rfl calX9_alike imX9_alike seX9_alike mkX9_375 rfl rfl rfl rfl rfl (by decide) rfl rfl dX9_firstLike_13 (CX9_alike E t s2 p1 h3) (fun v5 h6 => kqI ?_)
    refine S_ifne 16 25 dX9_firstLike_16 (by decide) ?_ ?_
    · skip
      refine S_iload_2 25 dX9_firstLike_25 ?_
      exact S_iret 26 dX9_firstLike_26 rfl
    · skip
      exact S_drop [] rfl (hj19 _)
def FX9_kinds (E : XG) (t : Nat) (h : XH) : XP Int32 := xg (xk h t = 10) <| xb (FX9_notLoaded E t  h) fun v1 h2 => if (v1 : Int32) = 0 then (xlp (fun again13 (s13 : Int32 × Int32) h3 => xg (xk h3 t = 10) <| if ((xi h3 t 3) : Int32) ≤ s13.2 then (xv s13.1 h3) else (xg (xk h3 t = 10) <| xb (FX9_whyOf E t s13.2 h3) fun v4 h5 => xjn (fun (v6 : Int32) (h7 : XH) => xb (FX9_flag E v6 h7) fun v8 h9 => xlt (s13.1 + v8) fun v10 => again13 (v10, (s13.2 + 1)) h9) fun (j44 : Int32 → XH → XP Int32) => xjn (fun  (h11 : XH) => j44 0 h11) fun (j43 : XH → XP Int32) => if (v4 : Int32) = 0 then (xg (xk h5 t = 10) <| xb (FX9_firstLike E t s13.2 h5) fun v12 h13 => if (v12 : Int32) = s13.2 then (j44 1 h13) else (j43 h13)) else (j43 h5))) xfu (0, 0) h2) else (xv 0 h2)
theorem CX9_kinds (E : XG) (t : Nat) (h : XH) : XN E mX9_kinds eI 0 0 [.ref t] h (FX9_kinds E t h) := by
  unfold FX9_kinds
  refine S_enter (L := [some (.ref t), none, none]) (by decide +kernel) rfl rfl rfl ?_
  refine S_aload_0 0 dX9_kinds_0 ?_
  refine S_callV (a' := 0) (b' := 0) (a := 0) (b := 0) 1 (As := []) (ci := 9) rfl calX9_notLoaded imX9_notLoaded seX9_notLoaded mkX9_272 rfl rfl rfl rfl rfl (by decide) rfl rfl dX9_kinds_1 (CX9_notLoaded E t  h) (fun v1 h2 => kqI ?_)
  refine S_ifeq 4 9 dX9_kinds_4 (by decide) ?_ ?_
  · skip
    refine S_ic 9 0 dX9_kinds_9 (by decide) ?_
    refine S_istore_1 10 dX9_kinds_10 rfl ?_
    refine S_ic 11 0 dX9_kinds_11 (by decide) ?_
    refine S_istore_2 12 dX9_kinds_12 rfl ?_
    refine S_loop (fun (s13 : Int32 × Int32) => [some (.ref t), some (.int s13.1), some (.int s13.2)]) (fun again13 hg13 s13 h3 => ?_) xfu _ _
    refine S_iload_2 13 dX9_kinds_13 ?_
    refine S_aload_0 14 dX9_kinds_14 ?_
    refine S_getI 15 fsX9_259 rfl dX9_kinds_15 ?_
    refine S_icmpge 18 55 dX9_kinds_18 (by decide) ?_ ?_
    · skip
      refine S_iload_1 55 dX9_kinds_55 ?_
      exact S_iret 56 dX9_kinds_56 rfl
    · skip
      refine S_iload_1 21 dX9_kinds_21 ?_
      refine S_aload_0 22 dX9_kinds_22 ?_
      refine S_iload_2 23 dX9_kinds_23 ?_
      refine S_callV (a' := 0) (b' := 0) (a := 0) (b := 0) 24 (As := [.int s13.2]) (ci := 9) rfl calX9_whyOf imX9_whyOf seX9_whyOf mkX9_350 rfl rfl rfl rfl rfl (by decide) rfl rfl dX9_kinds_24 (CX9_whyOf E t s13.2 h3) (fun v4 h5 => kqI ?_)
      refine S_join (fun jj => ∀ (v6 : Int32) (h7 : XH), XS E mX9_kinds eI 0 0 44 [some (.ref t), none, some (.int s13.2)] [.int v6, .int s13.1] h7 (jj v6 h7)) (fun v6 h7 => ?_) (fun j44 hj44 => ?_)
      · skip
        refine S_callS (a' := 0) (b' := 0) (a := 0) (b := 0) 44 (As := [.int v6]) rfl calX9_flag stX9_flag mkX9_207 rfl rfl rfl rfl rfl dX9_kinds_44 (CX9_flag E v6 h7) (fun v8 h9 => kqI ?_)
        refine S_iadd 47 dX9_kinds_47 ?_
        refine S_gen (fun v10 => ?_)
        refine S_istore_1 48 dX9_kinds_48 rfl ?_
        refine S_iinc_2 49 (s13.2 + 1) dX9_kinds_49 (by rfl) rfl ?_
        refine S_goto 52 13 dX9_kinds_52 (by decide) ?_
        exact S_drop [] rfl (hg13 _ _)
      refine S_join (fun jj => ∀  (h11 : XH), XS E mX9_kinds eI 0 0 43 [some (.ref t), none, some (.int s13.2)] [.int s13.1] h11 (jj  h11)) (fun  h11 => ?_) (fun j43 hj43 => ?_)
      · skip
        refine S_ic 43 0 dX9_kinds_43 (by decide) ?_
        exact S_drop [] rfl (hj44 _ _)
      refine S_ifne 27 43 dX9_kinds_27 (by decide) ?_ ?_
      · skip
        exact S_drop [1] rfl (hj43 _)
      · skip
        refine S_aload_0 30 dX9_kinds_30 ?_
        refine S_iload_2 31 dX9_kinds_31 ?_
        refine S_callV (a' := 0) (b' := 0) (a := 0) (b := 0) 32 (As := [.int s13.2]) (ci := 9) rfl calX9_firstLike imX9_firstLike seX9_firstLike mkX9_378 rfl rfl rfl rfl rfl (by decide) rfl rfl dX9_kinds_32 (CX9_firstLike E t s13.2 h5) (fun v12 h13 => kqI ?_)
        refine S_iload_2 35 dX9_kinds_35 ?_
        refine S_icmpne 36 43 dX9_kinds_36 (by decide) ?_ ?_
        · skip
          exact S_drop [1] rfl (hj43 _)
        · skip
          refine S_ic 39 1 dX9_kinds_39 (by decide) ?_
          refine S_goto 40 44 dX9_kinds_40 (by decide) ?_
          exact S_drop [1] rfl (hj44 _ _)
  · skip
    refine S_ic 7 0 dX9_kinds_7 (by decide) ?_
    exact S_iret 8 dX9_kinds_8 rfl
def FX9_firstAlike (E : XG) (t : Nat) (p1 : Int32) (h : XH) : XP Int32 := xg (xk h t = 10) <| xb (FX9_notLawful E t p1 h) fun v1 h2 => xjn (fun (v3 : Int32) (h4 : XH) => xv v3 h4) fun (j17 : Int32 → XH → XP Int32) => if (v1 : Int32) = 0 then (xg (xk h2 t = 10) <| xb (FX9_firstLike E t p1 h2) fun v5 h6 => j17 v5 h6) else (j17 0 h2)
theorem CX9_firstAlike (E : XG) (t : Nat) (p1 : Int32) (h : XH) : XN E mX9_firstAlike eI 0 0 [.ref t, .int p1] h (FX9_firstAlike E t p1 h) := by
  unfold FX9_firstAlike
  refine S_enter (L := [some (.ref t), some (.int p1)]) (by decide +kernel) rfl rfl rfl ?_
  refine S_aload_0 0 dX9_firstAlike_0 ?_
  refine S_iload_1 1 dX9_firstAlike_1 ?_
  refine S_callV (a' := 0) (b' := 0) (a := 0) (b := 0) 2 (As := [.int p1]) (ci := 9) rfl calX9_notLawful imX9_notLawful seX9_notLawful mkX9_362 rfl rfl rfl rfl rfl (by decide) rfl rfl dX9_firstAlike_2 (CX9_notLawful E t p1 h) (fun v1 h2 => kqI ?_)
  refine S_join (fun jj => ∀ (v3 : Int32) (h4 : XH), XS E mX9_firstAlike eI 0 0 17 [none, none] [.int v3] h4 (jj v3 h4)) (fun v3 h4 => ?_) (fun j17 hj17 => ?_)
  · skip
    exact S_iret 17 dX9_firstAlike_17 rfl
  refine S_ifeq 5 12 dX9_firstAlike_5 (by decide) ?_ ?_
  · skip
    refine S_aload_0 12 dX9_firstAlike_12 ?_
    refine S_iload_1 13 dX9_firstAlike_13 ?_
    refine S_callV (a' := 0) (b' := 0) (a := 0) (b := 0) 14 (As := [.int p1]) (ci := 9) rfl calX9_firstLike imX9_firstLike seX9_firstLike mkX9_378 rfl rfl rfl rfl rfl (by decide) rfl rfl dX9_firstAlike_14 (CX9_firstLike E t p1 h2) (fun v5 h6 => kqI ?_)
    exact S_drop [0, 1] rfl (hj17 _ _)
  · skip
    refine S_ic 8 0 dX9_firstAlike_8 (by decide) ?_
    refine S_goto 9 17 dX9_firstAlike_9 (by decide) ?_
    exact S_drop [0, 1] rfl (hj17 _ _)
def FX9_noLarge (E : XG) (t : Nat) (p1 : Int32) (p2 : Int32) (h : XH) : XP Int32 := xg (xk h t = 10) <| xb (FX9_notLawful E t p1 h) fun v1 h2 => xjn (fun (v3 : Int32) (h4 : XH) => xg ((v3 : Int32) = 0 ∨ (v3 : Int32) = 1) <| xv v3 h4) fun (j47 : Int32 → XH → XP Int32) => xjn (fun  (h5 : XH) => j47 1 h5) fun (j42 : XH → XP Int32) => if (v1 : Int32) = 0 then (xg (xk h2 t = 10) <| xb (FX9_uppers E t p1 h2) fun v6 h7 => xg (xk h7 t = 10) <| xb (FX9_lowers E t p1 h7) fun v8 h9 => xb (FX9_in E p2 0 ((v6 * v8) - 1) h9) fun v10 h11 => xjn (fun (v12 : Int32) (h13 : XH) => xg (xk h13 t = 10) <| xb (FX9_refuse E t v12 3 h13) fun v14 h15 => if (v14 : Int32) = 0 then (j47 0 h15) else (j42 h15)) fun (j35 : Int32 → XH → XP Int32) => if (v10 : Int32) = 0 then (j35 1 h11) else (j35 0 h11)) else (j42 h2)
theorem CX9_noLarge (E : XG) (t : Nat) (p1 : Int32) (p2 : Int32) (h : XH) : XN E mX9_noLarge eI 0 0 [.ref t, .int p1, .int p2] h (FX9_noLarge E t p1 p2 h) := by
  unfold FX9_noLarge
  refine S_enter (L := [some (.ref t), some (.int p1), some (.int p2)]) (by decide +kernel) rfl rfl rfl ?_
  refine S_aload_0 0 dX9_noLarge_0 ?_
  refine S_iload_1 1 dX9_noLarge_1 ?_
  refine S_callV (a' := 0) (b' := 0) (a := 0) (b := 0) 2 (As := [.int p1]) (ci := 9) rfl calX9_notLawful imX9_notLawful seX9_notLawful mkX9_362 rfl rfl rfl rfl rfl (by decide) rfl rfl dX9_noLarge_2 (CX9_notLawful E t p1 h) (fun v1 h2 => kqI ?_)
  refine S_join (fun jj => ∀ (v3 : Int32) (h4 : XH), XS E mX9_noLarge eI 0 0 47 [none, none, none] [.int v3] h4 (jj v3 h4)) (fun v3 h4 => ?_) (fun j47 hj47 => ?_)
  · skip
    exact S_zret 47 dX9_noLarge_47 rfl
  refine S_join (fun jj => ∀  (h5 : XH), XS E mX9_noLarge eI 0 0 42 [none, none, none] [] h5 (jj  h5)) (fun  h5 => ?_) (fun j42 hj42 => ?_)
  · skip
    refine S_ic 42 1 dX9_noLarge_42 (by decide) ?_
    refine S_goto 43 47 dX9_noLarge_43 (by decide) ?_
    exact S_drop [] rfl (hj47 _ _)
  refine S_ifne 5 42 dX9_noLarge_5 (by decide) ?_ ?_
  · skip
    exact S_drop [0, 1, 2] rfl (hj42 _)
  · skip
    refine S_aload_0 8 dX9_noLarge_8 ?_
    refine S_iload_2 9 dX9_noLarge_9 ?_
    refine S_ic 10 0 dX9_noLarge_10 (by decide) ?_
    refine S_aload_0 11 dX9_noLarge_11 ?_
    refine S_iload_1 12 dX9_noLarge_12 ?_
    refine S_callV (a' := 0) (b' := 0) (a := 0) (b := 0) 13 (As := [.int p1]) (ci := 9) rfl calX9_uppers imX9_uppers seX9_uppers mkX9_323 rfl rfl rfl rfl rfl (by decide) rfl rfl dX9_noLarge_13 (CX9_uppers E t p1 h2) (fun v6 h7 => kqI ?_)
    refine S_aload_0 16 dX9_noLarge_16 ?_
    refine S_iload_1 17 dX9_noLarge_17 ?_
    refine S_callV (a' := 0) (b' := 0) (a := 0) (b := 0) 18 (As := [.int p1]) (ci := 9) rfl calX9_lowers imX9_lowers seX9_lowers mkX9_332 rfl rfl rfl rfl rfl (by decide) rfl rfl dX9_noLarge_18 (CX9_lowers E t p1 h7) (fun v8 h9 => kqI ?_)
    refine S_imul 21 dX9_noLarge_21 ?_
    refine S_ic 22 1 dX9_noLarge_22 (by decide) ?_
    refine S_isub 23 dX9_noLarge_23 ?_
    refine S_callS (a' := 0) (b' := 0) (a := 0) (b := 0) 24 (As := [.int p2, .int 0, .int ((v6 * v8) - 1)]) rfl calX9_in stX9_in mkX9_152 rfl rfl rfl rfl rfl dX9_noLarge_24 (CX9_in E p2 0 ((v6 * v8) - 1) h9) (fun v10 h11 => kqI ?_)
    refine S_join (fun jj => ∀ (v12 : Int32) (h13 : XH), XS E mX9_noLarge eI 0 0 35 [none, none, none] [.int v12, .ref t] h13 (jj v12 h13)) (fun v12 h13 => ?_) (fun j35 hj35 => ?_)
    · skip
      refine S_ic 35 3 dX9_noLarge_35 (by decide) ?_
      refine S_callV (a' := 0) (b' := 0) (a := 0) (b := 0) 36 (As := [.int v12, .int 3]) (ci := 9) rfl calX9_refuse imX9_refuse seX9_refuse mkX9_94 rfl rfl rfl rfl rfl (by decide) rfl rfl dX9_noLarge_36 (CX9_refuse E t v12 3 h13) (fun v14 h15 => kqI ?_)
      refine S_ifeq 39 46 dX9_noLarge_39 (by decide) ?_ ?_
      · skip
        refine S_ic 46 0 dX9_noLarge_46 (by decide) ?_
        exact S_drop [] rfl (hj47 _ _)
      · skip
        exact S_drop [] rfl (hj42 _)
    refine S_ifne 27 34 dX9_noLarge_27 (by decide) ?_ ?_
    · skip
      refine S_ic 34 0 dX9_noLarge_34 (by decide) ?_
      exact S_drop [0, 1, 2] rfl (hj35 _ _)
    · skip
      refine S_ic 30 1 dX9_noLarge_30 (by decide) ?_
      refine S_goto 31 35 dX9_noLarge_31 (by decide) ?_
      exact S_drop [0, 1, 2] rfl (hj35 _ _)
def FX9_large (E : XG) (t : Nat) (p1 : Int32) (p2 : Int32) (p3 : Int32) (h : XH) : XP Int32 := xg (xk h t = 10) <| xb (FX9_lowers E t p1 h) fun v1 h2 => xg ((v1 : Int32) ≠ 0) <| xg ((v1 : Int32) ≠ 0) <| xg ((v1 : Int32) ≠ 0) <| xg (xk h2 t = 10) <| xb (FX9_on E t p1 (xrem p2 v1) (p3 / v1) h2) fun v3 h4 => xg (xk h4 t = 10) <| xb (FX9_up E t p1 (p2 / v1) v3 h4) fun v5 h6 => xg ((v1 : Int32) ≠ 0) <| xg ((v1 : Int32) ≠ 0) <| xg (xk h6 t = 10) <| xb (FX9_down E t p1 (xrem p2 v1) (xrem p3 v1) h6) fun v7 h8 => xv ((v5 * v1) + v7) h8
theorem CX9_large (E : XG) (t : Nat) (p1 : Int32) (p2 : Int32) (p3 : Int32) (h : XH) : XN E mX9_large eI 0 0 [.ref t, .int p1, .int p2, .int p3] h (FX9_large E t p1 p2 p3 h) := by
  unfold FX9_large
  refine S_enter (L := [some (.ref t), some (.int p1), some (.int p2), some (.int p3), none]) (by decide +kernel) rfl rfl rfl ?_
  refine S_aload_0 0 dX9_large_0 ?_
  refine S_iload_1 1 dX9_large_1 ?_
  refine S_callV (a' := 0) (b' := 0) (a := 0) (b := 0) 2 (As := [.int p1]) (ci := 9) rfl calX9_lowers imX9_lowers seX9_lowers mkX9_332 rfl rfl rfl rfl rfl (by decide) rfl rfl dX9_large_2 (CX9_lowers E t p1 h) (fun v1 h2 => kqI ?_)
  refine S_istore_4 5 dX9_large_5 rfl ?_
  refine S_aload_0 7 dX9_large_7 ?_
  refine S_iload_1 8 dX9_large_8 ?_
  refine S_iload_2 9 dX9_large_9 ?_
  refine S_iload_4 10 dX9_large_10 ?_
  refine S_idiv 12 dX9_large_12 ?_
  refine S_aload_0 13 dX9_large_13 ?_
  refine S_iload_1 14 dX9_large_14 ?_
  refine S_iload_2 15 dX9_large_15 ?_
  refine S_iload_4 16 dX9_large_16 ?_
  refine S_irem 18 dX9_large_18 ?_
  refine S_iload_3 19 dX9_large_19 ?_
  refine S_iload_4 20 dX9_large_20 ?_
  refine S_idiv 22 dX9_large_22 ?_
  refine S_callV (a' := 0) (b' := 0) (a := 0) (b := 0) 23 (As := [.int p1, .int (xrem p2 v1), .int (p3 / v1)]) (ci := 9) rfl calX9_on imX9_on seX9_on mkX9_320 rfl rfl rfl rfl rfl (by decide) rfl rfl dX9_large_23 (CX9_on E t p1 (xrem p2 v1) (p3 / v1) h2) (fun v3 h4 => kqI ?_)
  refine S_callV (a' := 0) (b' := 0) (a := 0) (b := 0) 26 (As := [.int p1, .int (p2 / v1), .int v3]) (ci := 9) rfl calX9_up imX9_up seX9_up mkX9_326 rfl rfl rfl rfl rfl (by decide) rfl rfl dX9_large_26 (CX9_up E t p1 (p2 / v1) v3 h4) (fun v5 h6 => kqI ?_)
  refine S_iload_4 29 dX9_large_29 ?_
  refine S_imul 31 dX9_large_31 ?_
  refine S_aload_0 32 dX9_large_32 ?_
  refine S_iload_1 33 dX9_large_33 ?_
  refine S_iload_2 34 dX9_large_34 ?_
  refine S_iload_4 35 dX9_large_35 ?_
  refine S_irem 37 dX9_large_37 ?_
  refine S_iload_3 38 dX9_large_38 ?_
  refine S_iload_4 39 dX9_large_39 ?_
  refine S_irem 41 dX9_large_41 ?_
  refine S_callV (a' := 0) (b' := 0) (a := 0) (b := 0) 42 (As := [.int p1, .int (xrem p2 v1), .int (xrem p3 v1)]) (ci := 9) rfl calX9_down imX9_down seX9_down mkX9_329 rfl rfl rfl rfl rfl (by decide) rfl rfl dX9_large_42 (CX9_down E t p1 (xrem p2 v1) (xrem p3 v1) h6) (fun v7 h8 => kqI ?_)
  refine S_iadd 45 dX9_large_45 ?_
  exact S_iret 46 dX9_large_46 rfl
def FX9_largeTimes (E : XG) (t : Nat) (p1 : Int32) (p2 : Int32) (p3 : Int32) (h : XH) : XP Int32 := xg (xk h t = 10) <| xb (FX9_noLarge E t p1 p2 h) fun v1 h2 => xjn (fun (v3 : Int32) (h4 : XH) => xv v3 h4) fun (j29 : Int32 → XH → XP Int32) => xjn (fun  (h5 : XH) => j29 0 h5) fun (j18 : XH → XP Int32) => if (v1 : Int32) = 0 then (xg (xk h2 t = 10) <| xb (FX9_noLarge E t p1 p3 h2) fun v6 h7 => if (v6 : Int32) = 0 then (xg (xk h7 t = 10) <| xb (FX9_large E t p1 p2 p3 h7) fun v8 h9 => j29 v8 h9) else (j18 h7)) else (j18 h2)
theorem CX9_largeTimes (E : XG) (t : Nat) (p1 : Int32) (p2 : Int32) (p3 : Int32) (h : XH) : XN E mX9_largeTimes eI 0 0 [.ref t, .int p1, .int p2, .int p3] h (FX9_largeTimes E t p1 p2 p3 h) := by
  unfold FX9_largeTimes
  refine S_enter (L := [some (.ref t), some (.int p1), some (.int p2), some (.int p3)]) (by decide +kernel) rfl rfl rfl ?_
  refine S_aload_0 0 dX9_largeTimes_0 ?_
  refine S_iload_1 1 dX9_largeTimes_1 ?_
  refine S_iload_2 2 dX9_largeTimes_2 ?_
  refine S_callV (a' := 0) (b' := 0) (a := 0) (b := 0) 3 (As := [.int p1, .int p2]) (ci := 9) rfl calX9_noLarge imX9_noLarge seX9_noLarge mkX9_381 rfl rfl rfl rfl rfl (by decide) rfl rfl dX9_largeTimes_3 (CX9_noLarge E t p1 p2 h) (fun v1 h2 => kqI ?_)
  refine S_join (fun jj => ∀ (v3 : Int32) (h4 : XH), XS E mX9_largeTimes eI 0 0 29 [none, none, none, none] [.int v3] h4 (jj v3 h4)) (fun v3 h4 => ?_) (fun j29 hj29 => ?_)
  · skip
    exact S_iret 29 dX9_largeTimes_29 rfl
  refine S_join (fun jj => ∀  (h5 : XH), XS E mX9_largeTimes eI 0 0 18 [none, none, none, none] [] h5 (jj  h5)) (fun  h5 => ?_) (fun j18 hj18 => ?_)
  · skip
    refine S_ic 18 0 dX9_largeTimes_18 (by decide) ?_
    refine S_goto 19 29 dX9_largeTimes_19 (by decide) ?_
    exact S_drop [] rfl (hj29 _ _)
  refine S_ifne 6 18 dX9_largeTimes_6 (by decide) ?_ ?_
  · skip
    exact S_drop [0, 1, 2, 3] rfl (hj18 _)
  · skip
    refine S_aload_0 9 dX9_largeTimes_9 ?_
    refine S_iload_1 10 dX9_largeTimes_10 ?_
    refine S_iload_3 11 dX9_largeTimes_11 ?_
    refine S_callV (a' := 0) (b' := 0) (a := 0) (b := 0) 12 (As := [.int p1, .int p3]) (ci := 9) rfl calX9_noLarge imX9_noLarge seX9_noLarge mkX9_381 rfl rfl rfl rfl rfl (by decide) rfl rfl dX9_largeTimes_12 (CX9_noLarge E t p1 p3 h2) (fun v6 h7 => kqI ?_)
    refine S_ifeq 15 22 dX9_largeTimes_15 (by decide) ?_ ?_
    · skip
      refine S_aload_0 22 dX9_largeTimes_22 ?_
      refine S_iload_1 23 dX9_largeTimes_23 ?_
      refine S_iload_2 24 dX9_largeTimes_24 ?_
      refine S_iload_3 25 dX9_largeTimes_25 ?_
      refine S_callV (a' := 0) (b' := 0) (a := 0) (b := 0) 26 (As := [.int p1, .int p2, .int p3]) (ci := 9) rfl calX9_large imX9_large seX9_large mkX9_384 rfl rfl rfl rfl rfl (by decide) rfl rfl dX9_largeTimes_26 (CX9_large E t p1 p2 p3 h7) (fun v8 h9 => kqI ?_)
      exact S_drop [0, 1, 2, 3] rfl (hj29 _ _)
    · skip
      exact S_drop [0, 1, 2, 3] rfl (hj18 _)
def FX9_targetOf (E : XG) (t : Nat) (p1 : Int32) (p2 : Int32) (h : XH) : XP Int32 := xg (xk h t = 10) <| xb (FX9_lowers E t p1 h) fun v1 h2 => xg ((v1 : Int32) ≠ 0) <| xg (xk h2 t = 10) <| xb (FX9_boundaryOf E t p1 (p2 / v1) h2) fun v3 h4 => xg (xk h4 t = 10) <| xb (FX9_lowers E t p1 h4) fun v5 h6 => xg ((v5 : Int32) ≠ 0) <| xg (xk h6 t = 10) <| xb (FX9_down E t p1 v3 (xrem p2 v5) h6) fun v7 h8 => xv v7 h8
theorem CX9_targetOf (E : XG) (t : Nat) (p1 : Int32) (p2 : Int32) (h : XH) : XN E mX9_targetOf eI 0 0 [.ref t, .int p1, .int p2] h (FX9_targetOf E t p1 p2 h) := by
  unfold FX9_targetOf
  refine S_enter (L := [some (.ref t), some (.int p1), some (.int p2)]) (by decide +kernel) rfl rfl rfl ?_
  refine S_aload_0 0 dX9_targetOf_0 ?_
  refine S_iload_1 1 dX9_targetOf_1 ?_
  refine S_aload_0 2 dX9_targetOf_2 ?_
  refine S_iload_1 3 dX9_targetOf_3 ?_
  refine S_iload_2 4 dX9_targetOf_4 ?_
  refine S_aload_0 5 dX9_targetOf_5 ?_
  refine S_iload_1 6 dX9_targetOf_6 ?_
  refine S_callV (a' := 0) (b' := 0) (a := 0) (b := 0) 7 (As := [.int p1]) (ci := 9) rfl calX9_lowers imX9_lowers seX9_lowers mkX9_332 rfl rfl rfl rfl rfl (by decide) rfl rfl dX9_targetOf_7 (CX9_lowers E t p1 h) (fun v1 h2 => kqI ?_)
  refine S_idiv 10 dX9_targetOf_10 ?_
  refine S_callV (a' := 0) (b' := 0) (a := 0) (b := 0) 11 (As := [.int p1, .int (p2 / v1)]) (ci := 9) rfl calX9_boundaryOf imX9_boundaryOf seX9_boundaryOf mkX9_314 rfl rfl rfl rfl rfl (by decide) rfl rfl dX9_targetOf_11 (CX9_boundaryOf E t p1 (p2 / v1) h2) (fun v3 h4 => kqI ?_)
  refine S_iload_2 14 dX9_targetOf_14 ?_
  refine S_aload_0 15 dX9_targetOf_15 ?_
  refine S_iload_1 16 dX9_targetOf_16 ?_
  refine S_callV (a' := 0) (b' := 0) (a := 0) (b := 0) 17 (As := [.int p1]) (ci := 9) rfl calX9_lowers imX9_lowers seX9_lowers mkX9_332 rfl rfl rfl rfl rfl (by decide) rfl rfl dX9_targetOf_17 (CX9_lowers E t p1 h4) (fun v5 h6 => kqI ?_)
  refine S_irem 20 dX9_targetOf_20 ?_
  refine S_callV (a' := 0) (b' := 0) (a := 0) (b := 0) 21 (As := [.int p1, .int v3, .int (xrem p2 v5)]) (ci := 9) rfl calX9_down imX9_down seX9_down mkX9_329 rfl rfl rfl rfl rfl (by decide) rfl rfl dX9_targetOf_21 (CX9_down E t p1 v3 (xrem p2 v5) h6) (fun v7 h8 => kqI ?_)
  exact S_iret 24 dX9_targetOf_24 rfl
def FX9_target (E : XG) (t : Nat) (p1 : Int32) (p2 : Int32) (h : XH) : XP Int32 := xg (xk h t = 10) <| xb (FX9_noLarge E t p1 p2 h) fun v1 h2 => xjn (fun (v3 : Int32) (h4 : XH) => xv v3 h4) fun (j19 : Int32 → XH → XP Int32) => if (v1 : Int32) = 0 then (xg (xk h2 t = 10) <| xb (FX9_targetOf E t p1 p2 h2) fun v5 h6 => j19 v5 h6) else (j19 0 h2)
theorem CX9_target (E : XG) (t : Nat) (p1 : Int32) (p2 : Int32) (h : XH) : XN E mX9_target eI 0 0 [.ref t, .int p1, .int p2] h (FX9_target E t p1 p2 h) := by
  unfold FX9_target
  refine S_enter (L := [some (.ref t), some (.int p1), some (.int p2)]) (by decide +kernel) rfl rfl rfl ?_
  refine S_aload_0 0 dX9_target_0 ?_
  refine S_iload_1 1 dX9_target_1 ?_
  refine S_iload_2 2 dX9_target_2 ?_
  refine S_callV (a' := 0) (b' := 0) (a := 0) (b := 0) 3 (As := [.int p1, .int p2]) (ci := 9) rfl calX9_noLarge imX9_noLarge seX9_noLarge mkX9_381 rfl rfl rfl rfl rfl (by decide) rfl rfl dX9_target_3 (CX9_noLarge E t p1 p2 h) (fun v1 h2 => kqI ?_)
  refine S_join (fun jj => ∀ (v3 : Int32) (h4 : XH), XS E mX9_target eI 0 0 19 [none, none, none] [.int v3] h4 (jj v3 h4)) (fun v3 h4 => ?_) (fun j19 hj19 => ?_)
  · skip
    exact S_iret 19 dX9_target_19 rfl
  refine S_ifeq 6 13 dX9_target_6 (by decide) ?_ ?_
  · skip
    refine S_aload_0 13 dX9_target_13 ?_
    refine S_iload_1 14 dX9_target_14 ?_
    refine S_iload_2 15 dX9_target_15 ?_
    refine S_callV (a' := 0) (b' := 0) (a := 0) (b := 0) 16 (As := [.int p1, .int p2]) (ci := 9) rfl calX9_targetOf imX9_targetOf seX9_targetOf mkX9_387 rfl rfl rfl rfl rfl (by decide) rfl rfl dX9_target_16 (CX9_targetOf E t p1 p2 h2) (fun v5 h6 => kqI ?_)
    exact S_drop [0, 1, 2] rfl (hj19 _ _)
  · skip
    refine S_ic 9 0 dX9_target_9 (by decide) ?_
    refine S_goto 10 19 dX9_target_10 (by decide) ?_
    exact S_drop [0, 1, 2] rfl (hj19 _ _)
def FX9_largeOrder (E : XG) (t : Nat) (p1 : Int32) (p2 : Int32) (h : XH) : XP Int32 := xg (xk h t = 10) <| xb (FX9_noLarge E t p1 p2 h) fun v1 h2 => if (v1 : Int32) = 0 then (xlp (fun again16 (s16 : Int32 × Int32) h3 => if (s16.2 : Int32) = 0 then (xv s16.1 h3) else (xg (xk h3 t = 10) <| xb (FX9_large E t p1 s16.2 p2 h3) fun v4 h5 => again16 ((s16.1 + 1), v4) h5)) xfu (1, p2) h2) else (xv 0 h2)
theorem CX9_largeOrder (E : XG) (t : Nat) (p1 : Int32) (p2 : Int32) (h : XH) : XN E mX9_largeOrder eI 0 0 [.ref t, .int p1, .int p2] h (FX9_largeOrder E t p1 p2 h) := by
  unfold FX9_largeOrder
  refine S_enter (L := [some (.ref t), some (.int p1), some (.int p2), none, none]) (by decide +kernel) rfl rfl rfl ?_
  refine S_aload_0 0 dX9_largeOrder_0 ?_
  refine S_iload_1 1 dX9_largeOrder_1 ?_
  refine S_iload_2 2 dX9_largeOrder_2 ?_
  refine S_callV (a' := 0) (b' := 0) (a := 0) (b := 0) 3 (As := [.int p1, .int p2]) (ci := 9) rfl calX9_noLarge imX9_noLarge seX9_noLarge mkX9_381 rfl rfl rfl rfl rfl (by decide) rfl rfl dX9_largeOrder_3 (CX9_noLarge E t p1 p2 h) (fun v1 h2 => kqI ?_)
  refine S_ifeq 6 11 dX9_largeOrder_6 (by decide) ?_ ?_
  · skip
    refine S_ic 11 1 dX9_largeOrder_11 (by decide) ?_
    refine S_istore_3 12 dX9_largeOrder_12 rfl ?_
    refine S_iload_2 13 dX9_largeOrder_13 ?_
    refine S_istore_4 14 dX9_largeOrder_14 rfl ?_
    refine S_loop (fun (s16 : Int32 × Int32) => [some (.ref t), some (.int p1), some (.int p2), some (.int s16.1), some (.int s16.2)]) (fun again16 hg16 s16 h3 => ?_) xfu _ _
    refine S_iload_4 16 dX9_largeOrder_16 ?_
    refine S_ifeq 18 37 dX9_largeOrder_18 (by decide) ?_ ?_
    · skip
      refine S_iload_3 37 dX9_largeOrder_37 ?_
      exact S_iret 38 dX9_largeOrder_38 rfl
    · skip
      refine S_iinc_3 21 (s16.1 + 1) dX9_largeOrder_21 (by rfl) rfl ?_
      refine S_aload_0 24 dX9_largeOrder_24 ?_
      refine S_iload_1 25 dX9_largeOrder_25 ?_
      refine S_iload_4 26 dX9_largeOrder_26 ?_
      refine S_iload_2 28 dX9_largeOrder_28 ?_
      refine S_callV (a' := 0) (b' := 0) (a := 0) (b := 0) 29 (As := [.int p1, .int s16.2, .int p2]) (ci := 9) rfl calX9_large imX9_large seX9_large mkX9_384 rfl rfl rfl rfl rfl (by decide) rfl rfl dX9_largeOrder_29 (CX9_large E t p1 s16.2 p2 h3) (fun v4 h5 => kqI ?_)
      refine S_istore_4 32 dX9_largeOrder_32 rfl ?_
      refine S_goto 34 16 dX9_largeOrder_34 (by decide) ?_
      exact S_drop [] rfl (hg16 _ _)
  · skip
    refine S_ic 9 0 dX9_largeOrder_9 (by decide) ?_
    exact S_iret 10 dX9_largeOrder_10 rfl
def FX9_between (E : XG) (t : Nat) (p1 : Int32) (p2 : Int32) (p3 : Int32) (h : XH) : XP Int32 := xg (xk h t = 10) <| xb (FX9_noLower E t p1 p2 h) fun v1 h2 => xjn (fun  (h3 : XH) => xv 0 h3) fun (j39 : XH → XP Int32) => if (v1 : Int32) = 0 then (xg (xk h2 t = 10) <| xb (FX9_noLower E t p1 p3 h2) fun v4 h5 => if (v4 : Int32) = 0 then (xg (xk h5 t = 10) <| xb (FX9_whyOf E t p1 h5) fun v6 h7 => xjn (fun (v8 : Int32) (h9 : XH) => xg (xk h9 t = 10) <| xb (FX9_refuse E t v8 3 h9) fun v10 h11 => if (v10 : Int32) = 0 then (xlp (fun again47 (s47 : Int32 × Int32) h12 => xg (xk h12 t = 10) <| xb (FX9_uppers E t p1 h12) fun v13 h14 => if (v13 : Int32) ≤ s47.2 then (xv s47.1 h14) else (xg (xk h14 t = 10) <| xb (FX9_lowers E t p1 h14) fun v15 h16 => xg (xk h16 t = 10) <| xb (FX9_targetOf E t p1 ((s47.2 * v15) + p2) h16) fun v17 h18 => xjn (fun (v19 : Int32) (h20 : XH) => xb (FX9_flag E v19 h20) fun v21 h22 => xlt (s47.1 + v21) fun v23 => again47 (v23, (s47.2 + 1)) h22) fun (j83 : Int32 → XH → XP Int32) => if (v17 : Int32) = p3 then (j83 1 h18) else (j83 0 h18))) xfu (0, 0) h11) else (j39 h11)) fun (j32 : Int32 → XH → XP Int32) => if (v6 : Int32) = 0 then (j32 0 h7) else (j32 1 h7)) else (j39 h5)) else (j39 h2)
theorem CX9_between (E : XG) (t : Nat) (p1 : Int32) (p2 : Int32) (p3 : Int32) (h : XH) : XN E mX9_between eI 0 0 [.ref t, .int p1, .int p2, .int p3] h (FX9_between E t p1 p2 p3 h) := by
  unfold FX9_between
  refine S_enter (L := [some (.ref t), some (.int p1), some (.int p2), some (.int p3), none, none]) (by decide +kernel) rfl rfl rfl ?_
  refine S_aload_0 0 dX9_between_0 ?_
  refine S_iload_1 1 dX9_between_1 ?_
  refine S_iload_2 2 dX9_between_2 ?_
  refine S_callV (a' := 0) (b' := 0) (a := 0) (b := 0) 3 (As := [.int p1, .int p2]) (ci := 9) rfl calX9_noLower imX9_noLower seX9_noLower mkX9_317 rfl rfl rfl rfl rfl (by decide) rfl rfl dX9_between_3 (CX9_noLower E t p1 p2 h) (fun v1 h2 => kqI ?_)
  refine S_join (fun jj => ∀  (h3 : XH), XS E mX9_between eI 0 0 39 [none, none, none, none, none, none] [] h3 (jj  h3)) (fun  h3 => ?_) (fun j39 hj39 => ?_)
  · skip
    refine S_ic 39 0 dX9_between_39 (by decide) ?_
    exact S_iret 40 dX9_between_40 rfl
  refine S_ifne 6 39 dX9_between_6 (by decide) ?_ ?_
  · skip
    exact S_drop [0, 1, 2, 3] rfl (hj39 _)
  · skip
    refine S_aload_0 9 dX9_between_9 ?_
    refine S_iload_1 10 dX9_between_10 ?_
    refine S_iload_3 11 dX9_between_11 ?_
    refine S_callV (a' := 0) (b' := 0) (a := 0) (b := 0) 12 (As := [.int p1, .int p3]) (ci := 9) rfl calX9_noLower imX9_noLower seX9_noLower mkX9_317 rfl rfl rfl rfl rfl (by decide) rfl rfl dX9_between_12 (CX9_noLower E t p1 p3 h2) (fun v4 h5 => kqI ?_)
    refine S_ifne 15 39 dX9_between_15 (by decide) ?_ ?_
    · skip
      exact S_drop [0, 1, 2, 3] rfl (hj39 _)
    · skip
      refine S_aload_0 18 dX9_between_18 ?_
      refine S_aload_0 19 dX9_between_19 ?_
      refine S_iload_1 20 dX9_between_20 ?_
      refine S_callV (a' := 0) (b' := 0) (a := 0) (b := 0) 21 (As := [.int p1]) (ci := 9) rfl calX9_whyOf imX9_whyOf seX9_whyOf mkX9_350 rfl rfl rfl rfl rfl (by decide) rfl rfl dX9_between_21 (CX9_whyOf E t p1 h5) (fun v6 h7 => kqI ?_)
      refine S_join (fun jj => ∀ (v8 : Int32) (h9 : XH), XS E mX9_between eI 0 0 32 [some (.ref t), some (.int p1), some (.int p2), some (.int p3), none, none] [.int v8, .ref t] h9 (jj v8 h9)) (fun v8 h9 => ?_) (fun j32 hj32 => ?_)
      · skip
        refine S_ic 32 3 dX9_between_32 (by decide) ?_
        refine S_callV (a' := 0) (b' := 0) (a := 0) (b := 0) 33 (As := [.int v8, .int 3]) (ci := 9) rfl calX9_refuse imX9_refuse seX9_refuse mkX9_94 rfl rfl rfl rfl rfl (by decide) rfl rfl dX9_between_33 (CX9_refuse E t v8 3 h9) (fun v10 h11 => kqI ?_)
        refine S_ifeq 36 41 dX9_between_36 (by decide) ?_ ?_
        · skip
          refine S_ic 41 0 dX9_between_41 (by decide) ?_
          refine S_istore_4 42 dX9_between_42 rfl ?_
          refine S_ic 44 0 dX9_between_44 (by decide) ?_
          refine S_istore_5 45 dX9_between_45 rfl ?_
          refine S_loop (fun (s47 : Int32 × Int32) => [some (.ref t), some (.int p1), some (.int p2), some (.int p3), some (.int s47.1), some (.int s47.2)]) (fun again47 hg47 s47 h12 => ?_) xfu _ _
          refine S_iload_5 47 dX9_between_47 ?_
          refine S_aload_0 49 dX9_between_49 ?_
          refine S_iload_1 50 dX9_between_50 ?_
          refine S_callV (a' := 0) (b' := 0) (a := 0) (b := 0) 51 (As := [.int p1]) (ci := 9) rfl calX9_uppers imX9_uppers seX9_uppers mkX9_323 rfl rfl rfl rfl rfl (by decide) rfl rfl dX9_between_51 (CX9_uppers E t p1 h12) (fun v13 h14 => kqI ?_)
          refine S_icmpge 54 95 dX9_between_54 (by decide) ?_ ?_
          · skip
            refine S_iload_4 95 dX9_between_95 ?_
            exact S_iret 97 dX9_between_97 rfl
          · skip
            refine S_iload_4 57 dX9_between_57 ?_
            refine S_aload_0 59 dX9_between_59 ?_
            refine S_iload_1 60 dX9_between_60 ?_
            refine S_iload_5 61 dX9_between_61 ?_
            refine S_aload_0 63 dX9_between_63 ?_
            refine S_iload_1 64 dX9_between_64 ?_
            refine S_callV (a' := 0) (b' := 0) (a := 0) (b := 0) 65 (As := [.int p1]) (ci := 9) rfl calX9_lowers imX9_lowers seX9_lowers mkX9_332 rfl rfl rfl rfl rfl (by decide) rfl rfl dX9_between_65 (CX9_lowers E t p1 h14) (fun v15 h16 => kqI ?_)
            refine S_imul 68 dX9_between_68 ?_
            refine S_iload_2 69 dX9_between_69 ?_
            refine S_iadd 70 dX9_between_70 ?_
            refine S_callV (a' := 0) (b' := 0) (a := 0) (b := 0) 71 (As := [.int p1, .int ((s47.2 * v15) + p2)]) (ci := 9) rfl calX9_targetOf imX9_targetOf seX9_targetOf mkX9_387 rfl rfl rfl rfl rfl (by decide) rfl rfl dX9_between_71 (CX9_targetOf E t p1 ((s47.2 * v15) + p2) h16) (fun v17 h18 => kqI ?_)
            refine S_iload_3 74 dX9_between_74 ?_
            refine S_join (fun jj => ∀ (v19 : Int32) (h20 : XH), XS E mX9_between eI 0 0 83 [some (.ref t), some (.int p1), some (.int p2), some (.int p3), none, some (.int s47.2)] [.int v19, .int s47.1] h20 (jj v19 h20)) (fun v19 h20 => ?_) (fun j83 hj83 => ?_)
            · skip
              refine S_callS (a' := 0) (b' := 0) (a := 0) (b := 0) 83 (As := [.int v19]) rfl calX9_flag stX9_flag mkX9_207 rfl rfl rfl rfl rfl dX9_between_83 (CX9_flag E v19 h20) (fun v21 h22 => kqI ?_)
              refine S_iadd 86 dX9_between_86 ?_
              refine S_gen (fun v23 => ?_)
              refine S_istore_4 87 dX9_between_87 rfl ?_
              refine S_iinc_5 89 (s47.2 + 1) dX9_between_89 (by rfl) rfl ?_
              refine S_goto 92 47 dX9_between_92 (by decide) ?_
              exact S_drop [] rfl (hg47 _ _)
            refine S_icmpne 75 82 dX9_between_75 (by decide) ?_ ?_
            · skip
              refine S_ic 82 0 dX9_between_82 (by decide) ?_
              exact S_drop [4] rfl (hj83 _ _)
            · skip
              refine S_ic 78 1 dX9_between_78 (by decide) ?_
              refine S_goto 79 83 dX9_between_79 (by decide) ?_
              exact S_drop [4] rfl (hj83 _ _)
        · skip
          exact S_drop [0, 1, 2, 3] rfl (hj39 _)
      refine S_ifeq 24 31 dX9_between_24 (by decide) ?_ ?_
      · skip
        refine S_ic 31 0 dX9_between_31 (by decide) ?_
        exact S_drop [] rfl (hj32 _ _)
      · skip
        refine S_ic 27 1 dX9_between_27 (by decide) ?_
        refine S_goto 28 32 dX9_between_28 (by decide) ?_
        exact S_drop [] rfl (hj32 _ _)
def FX9_noArrow (E : XG) (t : Nat) (p1 : Int32) (h : XH) : XP Int32 := xg (xk h t = 10) <| xb (FX9_notLoaded E t  h) fun v1 h2 => xjn (fun (v3 : Int32) (h4 : XH) => xg ((v3 : Int32) = 0 ∨ (v3 : Int32) = 1) <| xv v3 h4) fun (j39 : Int32 → XH → XP Int32) => xjn (fun  (h5 : XH) => j39 1 h5) fun (j34 : XH → XP Int32) => if (v1 : Int32) = 0 then (xg (xk h2 t = 10) <| xb (FX9_in E p1 0 ((xi h2 t 4) - 1) h2) fun v6 h7 => xjn (fun (v8 : Int32) (h9 : XH) => xg (xk h9 t = 10) <| xb (FX9_refuse E t v8 2 h9) fun v10 h11 => if (v10 : Int32) = 0 then (j39 0 h11) else (j34 h11)) fun (j27 : Int32 → XH → XP Int32) => if (v6 : Int32) = 0 then (j27 1 h7) else (j27 0 h7)) else (j34 h2)
theorem CX9_noArrow (E : XG) (t : Nat) (p1 : Int32) (h : XH) : XN E mX9_noArrow eI 0 0 [.ref t, .int p1] h (FX9_noArrow E t p1 h) := by
  unfold FX9_noArrow
  refine S_enter (L := [some (.ref t), some (.int p1)]) (by decide +kernel) rfl rfl rfl ?_
  refine S_aload_0 0 dX9_noArrow_0 ?_
  refine S_callV (a' := 0) (b' := 0) (a := 0) (b := 0) 1 (As := []) (ci := 9) rfl calX9_notLoaded imX9_notLoaded seX9_notLoaded mkX9_272 rfl rfl rfl rfl rfl (by decide) rfl rfl dX9_noArrow_1 (CX9_notLoaded E t  h) (fun v1 h2 => kqI ?_)
  refine S_join (fun jj => ∀ (v3 : Int32) (h4 : XH), XS E mX9_noArrow eI 0 0 39 [none, none] [.int v3] h4 (jj v3 h4)) (fun v3 h4 => ?_) (fun j39 hj39 => ?_)
  · skip
    exact S_zret 39 dX9_noArrow_39 rfl
  refine S_join (fun jj => ∀  (h5 : XH), XS E mX9_noArrow eI 0 0 34 [none, none] [] h5 (jj  h5)) (fun  h5 => ?_) (fun j34 hj34 => ?_)
  · skip
    refine S_ic 34 1 dX9_noArrow_34 (by decide) ?_
    refine S_goto 35 39 dX9_noArrow_35 (by decide) ?_
    exact S_drop [] rfl (hj39 _ _)
  refine S_ifne 4 34 dX9_noArrow_4 (by decide) ?_ ?_
  · skip
    exact S_drop [0, 1] rfl (hj34 _)
  · skip
    refine S_aload_0 7 dX9_noArrow_7 ?_
    refine S_iload_1 8 dX9_noArrow_8 ?_
    refine S_ic 9 0 dX9_noArrow_9 (by decide) ?_
    refine S_aload_0 10 dX9_noArrow_10 ?_
    refine S_getI 11 fsX9_262 rfl dX9_noArrow_11 ?_
    refine S_ic 14 1 dX9_noArrow_14 (by decide) ?_
    refine S_isub 15 dX9_noArrow_15 ?_
    refine S_callS (a' := 0) (b' := 0) (a := 0) (b := 0) 16 (As := [.int p1, .int 0, .int ((xi h2 t 4) - 1)]) rfl calX9_in stX9_in mkX9_152 rfl rfl rfl rfl rfl dX9_noArrow_16 (CX9_in E p1 0 ((xi h2 t 4) - 1) h2) (fun v6 h7 => kqI ?_)
    refine S_join (fun jj => ∀ (v8 : Int32) (h9 : XH), XS E mX9_noArrow eI 0 0 27 [none, none] [.int v8, .ref t] h9 (jj v8 h9)) (fun v8 h9 => ?_) (fun j27 hj27 => ?_)
    · skip
      refine S_ic 27 2 dX9_noArrow_27 (by decide) ?_
      refine S_callV (a' := 0) (b' := 0) (a := 0) (b := 0) 28 (As := [.int v8, .int 2]) (ci := 9) rfl calX9_refuse imX9_refuse seX9_refuse mkX9_94 rfl rfl rfl rfl rfl (by decide) rfl rfl dX9_noArrow_28 (CX9_refuse E t v8 2 h9) (fun v10 h11 => kqI ?_)
      refine S_ifeq 31 38 dX9_noArrow_31 (by decide) ?_ ?_
      · skip
        refine S_ic 38 0 dX9_noArrow_38 (by decide) ?_
        exact S_drop [] rfl (hj39 _ _)
      · skip
        exact S_drop [] rfl (hj34 _)
    refine S_ifne 19 26 dX9_noArrow_19 (by decide) ?_ ?_
    · skip
      refine S_ic 26 0 dX9_noArrow_26 (by decide) ?_
      exact S_drop [0, 1] rfl (hj27 _ _)
    · skip
      refine S_ic 22 1 dX9_noArrow_22 (by decide) ?_
      refine S_goto 23 27 dX9_noArrow_23 (by decide) ?_
      exact S_drop [0, 1] rfl (hj27 _ _)
def FX9_topOf (E : XG) (t : Nat) (p1 : Int32) (p2 : Int32) (h : XH) : XP Int32 := xg (xk h t = 10) <| xnn (xr h t 12) fun w1 => xg (xk h w1 = 12 ∧ xin ((432 + (8 * p1)) + p2) (xn h w1)) <| xv (xi h w1 (((432 + (8 * p1)) + p2) : Int32).toNatClampNeg) h
theorem CX9_topOf (E : XG) (t : Nat) (p1 : Int32) (p2 : Int32) (h : XH) : XN E mX9_topOf eI 0 0 [.ref t, .int p1, .int p2] h (FX9_topOf E t p1 p2 h) := by
  unfold FX9_topOf
  refine S_enter (L := [some (.ref t), some (.int p1), some (.int p2)]) (by decide +kernel) rfl rfl rfl ?_
  refine S_aload_0 0 dX9_topOf_0 ?_
  refine S_getR 1 fsX9_31 rfl dX9_topOf_1 (fun w1 => ?_)
  refine S_sip 4 432 dX9_topOf_4 (by decide) ?_
  refine S_bip 7 8 dX9_topOf_7 (by decide) ?_
  refine S_iload_1 9 dX9_topOf_9 ?_
  refine S_imul 10 dX9_topOf_10 ?_
  refine S_iadd 11 dX9_topOf_11 ?_
  refine S_iload_2 12 dX9_topOf_12 ?_
  refine S_iadd 13 dX9_topOf_13 ?_
  refine S_iald 14 dX9_topOf_14 ?_
  exact S_iret 15 dX9_topOf_15 rfl
def FX9_bottomOf (E : XG) (t : Nat) (p1 : Int32) (p2 : Int32) (h : XH) : XP Int32 := xg (xk h t = 10) <| xnn (xr h t 12) fun w1 => xg (xk h w1 = 12 ∧ xin ((496 + (8 * p1)) + p2) (xn h w1)) <| xv (xi h w1 (((496 + (8 * p1)) + p2) : Int32).toNatClampNeg) h
theorem CX9_bottomOf (E : XG) (t : Nat) (p1 : Int32) (p2 : Int32) (h : XH) : XN E mX9_bottomOf eI 0 0 [.ref t, .int p1, .int p2] h (FX9_bottomOf E t p1 p2 h) := by
  unfold FX9_bottomOf
  refine S_enter (L := [some (.ref t), some (.int p1), some (.int p2)]) (by decide +kernel) rfl rfl rfl ?_
  refine S_aload_0 0 dX9_bottomOf_0 ?_
  refine S_getR 1 fsX9_31 rfl dX9_bottomOf_1 (fun w1 => ?_)
  refine S_sip 4 496 dX9_bottomOf_4 (by decide) ?_
  refine S_bip 7 8 dX9_bottomOf_7 (by decide) ?_
  refine S_iload_1 9 dX9_bottomOf_9 ?_
  refine S_imul 10 dX9_bottomOf_10 ?_
  refine S_iadd 11 dX9_bottomOf_11 ?_
  refine S_iload_2 12 dX9_bottomOf_12 ?_
  refine S_iadd 13 dX9_bottomOf_13 ?_
  refine S_iald 14 dX9_bottomOf_14 ?_
  exact S_iret 15 dX9_bottomOf_15 rfl
def FX9_end (E : XG) (t : Nat) (p1 : Int32) (p2 : Int32) (h : XH) : XP Int32 := xg (xk h t = 10) <| xb (FX9_noArrow E t p1 h) fun v1 h2 => xjn (fun (v3 : Int32) (h4 : XH) => xv v3 h4) fun (j31 : Int32 → XH → XP Int32) => if (v1 : Int32) = 0 then (if (p2 : Int32) = 0 then (xg (xk h2 t = 10) <| xnn (xr h2 t 9) fun w5 => xg (xk h2 w5 = 12 ∧ xin p1 (xn h2 w5)) <| j31 (xi h2 w5 (p1 : Int32).toNatClampNeg) h2) else (xg (xk h2 t = 10) <| xnn (xr h2 t 10) fun w6 => xg (xk h2 w6 = 12 ∧ xin p1 (xn h2 w6)) <| j31 (xi h2 w6 (p1 : Int32).toNatClampNeg) h2)) else (j31 0 h2)
theorem CX9_end (E : XG) (t : Nat) (p1 : Int32) (p2 : Int32) (h : XH) : XN E mX9_end eI 0 0 [.ref t, .int p1, .int p2] h (FX9_end E t p1 p2 h) := by
  unfold FX9_end
  refine S_enter (L := [some (.ref t), some (.int p1), some (.int p2)]) (by decide +kernel) rfl rfl rfl ?_
  refine S_aload_0 0 dX9_end_0 ?_
  refine S_iload_1 1 dX9_end_1 ?_
  refine S_callV (a' := 0) (b' := 0) (a := 0) (b := 0) 2 (As := [.int p1]) (ci := 9) rfl calX9_noArrow imX9_noArrow seX9_noArrow mkX9_390 rfl rfl rfl rfl rfl (by decide) rfl rfl dX9_end_2 (CX9_noArrow E t p1 h) (fun v1 h2 => kqI ?_)
  refine S_join (fun jj => ∀ (v3 : Int32) (h4 : XH), XS E mX9_end eI 0 0 31 [none, none, none] [.int v3] h4 (jj v3 h4)) (fun v3 h4 => ?_) (fun j31 hj31 => ?_)
  · skip
    exact S_iret 31 dX9_end_31 rfl
  refine S_ifeq 5 12 dX9_end_5 (by decide) ?_ ?_
  · skip
    refine S_iload_2 12 dX9_end_12 ?_
    refine S_ifeq 13 25 dX9_end_13 (by decide) ?_ ?_
    · skip
      refine S_aload_0 25 dX9_end_25 ?_
      refine S_getR 26 fsX9_22 rfl dX9_end_26 (fun w5 => ?_)
      refine S_iload_1 29 dX9_end_29 ?_
      refine S_iald 30 dX9_end_30 ?_
      exact S_drop [0, 1, 2] rfl (hj31 _ _)
    · skip
      refine S_aload_0 16 dX9_end_16 ?_
      refine S_getR 17 fsX9_25 rfl dX9_end_17 (fun w6 => ?_)
      refine S_iload_1 20 dX9_end_20 ?_
      refine S_iald 21 dX9_end_21 ?_
      refine S_goto 22 31 dX9_end_22 (by decide) ?_
      exact S_drop [0, 1, 2] rfl (hj31 _ _)
  · skip
    refine S_ic 8 0 dX9_end_8 (by decide) ?_
    refine S_goto 9 31 dX9_end_9 (by decide) ?_
    exact S_drop [0, 1, 2] rfl (hj31 _ _)
def FX9_noTop (E : XG) (t : Nat) (p1 : Int32) (p2 : Int32) (h : XH) : XP Int32 := xg (xk h t = 10) <| xb (FX9_noArrow E t p1 h) fun v1 h2 => xjn (fun (v3 : Int32) (h4 : XH) => xg ((v3 : Int32) = 0 ∨ (v3 : Int32) = 1) <| xv v3 h4) fun (j46 : Int32 → XH → XP Int32) => xjn (fun  (h5 : XH) => j46 1 h5) fun (j41 : XH → XP Int32) => if (v1 : Int32) = 0 then (xg (xk h2 t = 10) <| xnn (xr h2 t 9) fun w6 => xg (xk h2 w6 = 12 ∧ xin p1 (xn h2 w6)) <| xg (xk h2 t = 10) <| xb (FX9_uppers E t (xi h2 w6 (p1 : Int32).toNatClampNeg) h2) fun v7 h8 => xb (FX9_in E p2 0 (v7 - 1) h8) fun v9 h10 => xjn (fun (v11 : Int32) (h12 : XH) => xg (xk h12 t = 10) <| xb (FX9_refuse E t v11 2 h12) fun v13 h14 => if (v13 : Int32) = 0 then (j46 0 h14) else (j41 h14)) fun (j34 : Int32 → XH → XP Int32) => if (v9 : Int32) = 0 then (j34 1 h10) else (j34 0 h10)) else (j41 h2)
theorem CX9_noTop (E : XG) (t : Nat) (p1 : Int32) (p2 : Int32) (h : XH) : XN E mX9_noTop eI 0 0 [.ref t, .int p1, .int p2] h (FX9_noTop E t p1 p2 h) := by
  unfold FX9_noTop
  refine S_enter (L := [some (.ref t), some (.int p1), some (.int p2)]) (by decide +kernel) rfl rfl rfl ?_
  refine S_aload_0 0 dX9_noTop_0 ?_
  refine S_iload_1 1 dX9_noTop_1 ?_
  refine S_callV (a' := 0) (b' := 0) (a := 0) (b := 0) 2 (As := [.int p1]) (ci := 9) rfl calX9_noArrow imX9_noArrow seX9_noArrow mkX9_390 rfl rfl rfl rfl rfl (by decide) rfl rfl dX9_noTop_2 (CX9_noArrow E t p1 h) (fun v1 h2 => kqI ?_)
  refine S_join (fun jj => ∀ (v3 : Int32) (h4 : XH), XS E mX9_noTop eI 0 0 46 [none, none, none] [.int v3] h4 (jj v3 h4)) (fun v3 h4 => ?_) (fun j46 hj46 => ?_)
  · skip
    exact S_zret 46 dX9_noTop_46 rfl
  refine S_join (fun jj => ∀  (h5 : XH), XS E mX9_noTop eI 0 0 41 [none, none, none] [] h5 (jj  h5)) (fun  h5 => ?_) (fun j41 hj41 => ?_)
  · skip
    refine S_ic 41 1 dX9_noTop_41 (by decide) ?_
    refine S_goto 42 46 dX9_noTop_42 (by decide) ?_
    exact S_drop [] rfl (hj46 _ _)
  refine S_ifne 5 41 dX9_noTop_5 (by decide) ?_ ?_
  · skip
    exact S_drop [0, 1, 2] rfl (hj41 _)
  · skip
    refine S_aload_0 8 dX9_noTop_8 ?_
    refine S_iload_2 9 dX9_noTop_9 ?_
    refine S_ic 10 0 dX9_noTop_10 (by decide) ?_
    refine S_aload_0 11 dX9_noTop_11 ?_
    refine S_aload_0 12 dX9_noTop_12 ?_
    refine S_getR 13 fsX9_22 rfl dX9_noTop_13 (fun w6 => ?_)
    refine S_iload_1 16 dX9_noTop_16 ?_
    refine S_iald 17 dX9_noTop_17 ?_
    refine S_callV (a' := 0) (b' := 0) (a := 0) (b := 0) 18 (As := [.int (xi h2 w6 (p1 : Int32).toNatClampNeg)]) (ci := 9) rfl calX9_uppers imX9_uppers seX9_uppers mkX9_323 rfl rfl rfl rfl rfl (by decide) rfl rfl dX9_noTop_18 (CX9_uppers E t (xi h2 w6 (p1 : Int32).toNatClampNeg) h2) (fun v7 h8 => kqI ?_)
    refine S_ic 21 1 dX9_noTop_21 (by decide) ?_
    refine S_isub 22 dX9_noTop_22 ?_
    refine S_callS (a' := 0) (b' := 0) (a := 0) (b := 0) 23 (As := [.int p2, .int 0, .int (v7 - 1)]) rfl calX9_in stX9_in mkX9_152 rfl rfl rfl rfl rfl dX9_noTop_23 (CX9_in E p2 0 (v7 - 1) h8) (fun v9 h10 => kqI ?_)
    refine S_join (fun jj => ∀ (v11 : Int32) (h12 : XH), XS E mX9_noTop eI 0 0 34 [none, none, none] [.int v11, .ref t] h12 (jj v11 h12)) (fun v11 h12 => ?_) (fun j34 hj34 => ?_)
    · skip
      refine S_ic 34 2 dX9_noTop_34 (by decide) ?_
      refine S_callV (a' := 0) (b' := 0) (a := 0) (b := 0) 35 (As := [.int v11, .int 2]) (ci := 9) rfl calX9_refuse imX9_refuse seX9_refuse mkX9_94 rfl rfl rfl rfl rfl (by decide) rfl rfl dX9_noTop_35 (CX9_refuse E t v11 2 h12) (fun v13 h14 => kqI ?_)
      refine S_ifeq 38 45 dX9_noTop_38 (by decide) ?_ ?_
      · skip
        refine S_ic 45 0 dX9_noTop_45 (by decide) ?_
        exact S_drop [] rfl (hj46 _ _)
      · skip
        exact S_drop [] rfl (hj41 _)
    refine S_ifne 26 33 dX9_noTop_26 (by decide) ?_ ?_
    · skip
      refine S_ic 33 0 dX9_noTop_33 (by decide) ?_
      exact S_drop [0, 1, 2] rfl (hj34 _ _)
    · skip
      refine S_ic 29 1 dX9_noTop_29 (by decide) ?_
      refine S_goto 30 34 dX9_noTop_30 (by decide) ?_
      exact S_drop [0, 1, 2] rfl (hj34 _ _)
def FX9_noBottom (E : XG) (t : Nat) (p1 : Int32) (p2 : Int32) (h : XH) : XP Int32 := xg (xk h t = 10) <| xb (FX9_noArrow E t p1 h) fun v1 h2 => xjn (fun (v3 : Int32) (h4 : XH) => xg ((v3 : Int32) = 0 ∨ (v3 : Int32) = 1) <| xv v3 h4) fun (j46 : Int32 → XH → XP Int32) => xjn (fun  (h5 : XH) => j46 1 h5) fun (j41 : XH → XP Int32) => if (v1 : Int32) = 0 then (xg (xk h2 t = 10) <| xnn (xr h2 t 9) fun w6 => xg (xk h2 w6 = 12 ∧ xin p1 (xn h2 w6)) <| xg (xk h2 t = 10) <| xb (FX9_lowers E t (xi h2 w6 (p1 : Int32).toNatClampNeg) h2) fun v7 h8 => xb (FX9_in E p2 0 (v7 - 1) h8) fun v9 h10 => xjn (fun (v11 : Int32) (h12 : XH) => xg (xk h12 t = 10) <| xb (FX9_refuse E t v11 2 h12) fun v13 h14 => if (v13 : Int32) = 0 then (j46 0 h14) else (j41 h14)) fun (j34 : Int32 → XH → XP Int32) => if (v9 : Int32) = 0 then (j34 1 h10) else (j34 0 h10)) else (j41 h2)
theorem CX9_noBottom (E : XG) (t : Nat) (p1 : Int32) (p2 : Int32) (h : XH) : XN E mX9_noBottom eI 0 0 [.ref t, .int p1, .int p2] h (FX9_noBottom E t p1 p2 h) := by
  unfold FX9_noBottom
  refine S_enter (L := [some (.ref t), some (.int p1), some (.int p2)]) (by decide +kernel) rfl rfl rfl ?_
  refine S_aload_0 0 dX9_noBottom_0 ?_
  refine S_iload_1 1 dX9_noBottom_1 ?_
  refine S_callV (a' := 0) (b' := 0) (a := 0) (b := 0) 2 (As := [.int p1]) (ci := 9) rfl calX9_noArrow imX9_noArrow seX9_noArrow mkX9_390 rfl rfl rfl rfl rfl (by decide) rfl rfl dX9_noBottom_2 (CX9_noArrow E t p1 h) (fun v1 h2 => kqI ?_)
  refine S_join (fun jj => ∀ (v3 : Int32) (h4 : XH), XS E mX9_noBottom eI 0 0 46 [none, none, none] [.int v3] h4 (jj v3 h4)) (fun v3 h4 => ?_) (fun j46 hj46 => ?_)
  · skip
    exact S_zret 46 dX9_noBottom_46 rfl
  refine S_join (fun jj => ∀  (h5 : XH), XS E mX9_noBottom eI 0 0 41 [none, none, none] [] h5 (jj  h5)) (fun  h5 => ?_) (fun j41 hj41 => ?_)
  · skip
    refine S_ic 41 1 dX9_noBottom_41 (by decide) ?_
    refine S_goto 42 46 dX9_noBottom_42 (by decide) ?_
    exact S_drop [] rfl (hj46 _ _)
  refine S_ifne 5 41 dX9_noBottom_5 (by decide) ?_ ?_
  · skip
    exact S_drop [0, 1, 2] rfl (hj41 _)
  · skip
    refine S_aload_0 8 dX9_noBottom_8 ?_
    refine S_iload_2 9 dX9_noBottom_9 ?_
    refine S_ic 10 0 dX9_noBottom_10 (by decide) ?_
    refine S_aload_0 11 dX9_noBottom_11 ?_
    refine S_aload_0 12 dX9_noBottom_12 ?_
    refine S_getR 13 fsX9_22 rfl dX9_noBottom_13 (fun w6 => ?_)
    refine S_iload_1 16 dX9_noBottom_16 ?_
    refine S_iald 17 dX9_noBottom_17 ?_
    refine S_callV (a' := 0) (b' := 0) (a := 0) (b := 0) 18 (As := [.int (xi h2 w6 (p1 : Int32).toNatClampNeg)]) (ci := 9) rfl calX9_lowers imX9_lowers seX9_lowers mkX9_332 rfl rfl rfl rfl rfl (by decide) rfl rfl dX9_noBottom_18 (CX9_lowers E t (xi h2 w6 (p1 : Int32).toNatClampNeg) h2) (fun v7 h8 => kqI ?_)
    refine S_ic 21 1 dX9_noBottom_21 (by decide) ?_
    refine S_isub 22 dX9_noBottom_22 ?_
    refine S_callS (a' := 0) (b' := 0) (a := 0) (b := 0) 23 (As := [.int p2, .int 0, .int (v7 - 1)]) rfl calX9_in stX9_in mkX9_152 rfl rfl rfl rfl rfl dX9_noBottom_23 (CX9_in E p2 0 (v7 - 1) h8) (fun v9 h10 => kqI ?_)
    refine S_join (fun jj => ∀ (v11 : Int32) (h12 : XH), XS E mX9_noBottom eI 0 0 34 [none, none, none] [.int v11, .ref t] h12 (jj v11 h12)) (fun v11 h12 => ?_) (fun j34 hj34 => ?_)
    · skip
      refine S_ic 34 2 dX9_noBottom_34 (by decide) ?_
      refine S_callV (a' := 0) (b' := 0) (a := 0) (b := 0) 35 (As := [.int v11, .int 2]) (ci := 9) rfl calX9_refuse imX9_refuse seX9_refuse mkX9_94 rfl rfl rfl rfl rfl (by decide) rfl rfl dX9_noBottom_35 (CX9_refuse E t v11 2 h12) (fun v13 h14 => kqI ?_)
      refine S_ifeq 38 45 dX9_noBottom_38 (by decide) ?_ ?_
      · skip
        refine S_ic 45 0 dX9_noBottom_45 (by decide) ?_
        exact S_drop [] rfl (hj46 _ _)
      · skip
        exact S_drop [] rfl (hj41 _)
    refine S_ifne 26 33 dX9_noBottom_26 (by decide) ?_ ?_
    · skip
      refine S_ic 33 0 dX9_noBottom_33 (by decide) ?_
      exact S_drop [0, 1, 2] rfl (hj34 _ _)
    · skip
      refine S_ic 29 1 dX9_noBottom_29 (by decide) ?_
      refine S_goto 30 34 dX9_noBottom_30 (by decide) ?_
      exact S_drop [0, 1, 2] rfl (hj34 _ _)
def FX9_top (E : XG) (t : Nat) (p1 : Int32) (p2 : Int32) (h : XH) : XP Int32 := xg (xk h t = 10) <| xb (FX9_noTop E t p1 p2 h) fun v1 h2 => xjn (fun (v3 : Int32) (h4 : XH) => xv v3 h4) fun (j19 : Int32 → XH → XP Int32) => if (v1 : Int32) = 0 then (xg (xk h2 t = 10) <| xb (FX9_topOf E t p1 p2 h2) fun v5 h6 => j19 v5 h6) else (j19 0 h2)
theorem CX9_top (E : XG) (t : Nat) (p1 : Int32) (p2 : Int32) (h : XH) : XN E mX9_top eI 0 0 [.ref t, .int p1, .int p2] h (FX9_top E t p1 p2 h) := by
  unfold FX9_top
  refine S_enter (L := [some (.ref t), some (.int p1), some (.int p2)]) (by decide +kernel) rfl rfl rfl ?_
  refine S_aload_0 0 dX9_top_0 ?_
  refine S_iload_1 1 dX9_top_1 ?_
  refine S_iload_2 2 dX9_top_2 ?_
  refine S_callV (a' := 0) (b' := 0) (a := 0) (b := 0) 3 (As := [.int p1, .int p2]) (ci := 9) rfl calX9_noTop imX9_noTop seX9_noTop mkX9_393 rfl rfl rfl rfl rfl (by decide) rfl rfl dX9_top_3 (CX9_noTop E t p1 p2 h) (fun v1 h2 => kqI ?_)
  refine S_join (fun jj => ∀ (v3 : Int32) (h4 : XH), XS E mX9_top eI 0 0 19 [none, none, none] [.int v3] h4 (jj v3 h4)) (fun v3 h4 => ?_) (fun j19 hj19 => ?_)
  · skip
    exact S_iret 19 dX9_top_19 rfl
  refine S_ifeq 6 13 dX9_top_6 (by decide) ?_ ?_
  · skip
    refine S_aload_0 13 dX9_top_13 ?_
    refine S_iload_1 14 dX9_top_14 ?_
    refine S_iload_2 15 dX9_top_15 ?_
    refine S_callV (a' := 0) (b' := 0) (a := 0) (b := 0) 16 (As := [.int p1, .int p2]) (ci := 9) rfl calX9_topOf imX9_topOf seX9_topOf mkX9_396 rfl rfl rfl rfl rfl (by decide) rfl rfl dX9_top_16 (CX9_topOf E t p1 p2 h2) (fun v5 h6 => kqI ?_)
    exact S_drop [0, 1, 2] rfl (hj19 _ _)
  · skip
    refine S_ic 9 0 dX9_top_9 (by decide) ?_
    refine S_goto 10 19 dX9_top_10 (by decide) ?_
    exact S_drop [0, 1, 2] rfl (hj19 _ _)
def FX9_bottom (E : XG) (t : Nat) (p1 : Int32) (p2 : Int32) (h : XH) : XP Int32 := xg (xk h t = 10) <| xb (FX9_noBottom E t p1 p2 h) fun v1 h2 => xjn (fun (v3 : Int32) (h4 : XH) => xv v3 h4) fun (j19 : Int32 → XH → XP Int32) => if (v1 : Int32) = 0 then (xg (xk h2 t = 10) <| xb (FX9_bottomOf E t p1 p2 h2) fun v5 h6 => j19 v5 h6) else (j19 0 h2)
theorem CX9_bottom (E : XG) (t : Nat) (p1 : Int32) (p2 : Int32) (h : XH) : XN E mX9_bottom eI 0 0 [.ref t, .int p1, .int p2] h (FX9_bottom E t p1 p2 h) := by
  unfold FX9_bottom
  refine S_enter (L := [some (.ref t), some (.int p1), some (.int p2)]) (by decide +kernel) rfl rfl rfl ?_
  refine S_aload_0 0 dX9_bottom_0 ?_
  refine S_iload_1 1 dX9_bottom_1 ?_
  refine S_iload_2 2 dX9_bottom_2 ?_
  refine S_callV (a' := 0) (b' := 0) (a := 0) (b := 0) 3 (As := [.int p1, .int p2]) (ci := 9) rfl calX9_noBottom imX9_noBottom seX9_noBottom mkX9_399 rfl rfl rfl rfl rfl (by decide) rfl rfl dX9_bottom_3 (CX9_noBottom E t p1 p2 h) (fun v1 h2 => kqI ?_)
  refine S_join (fun jj => ∀ (v3 : Int32) (h4 : XH), XS E mX9_bottom eI 0 0 19 [none, none, none] [.int v3] h4 (jj v3 h4)) (fun v3 h4 => ?_) (fun j19 hj19 => ?_)
  · skip
    exact S_iret 19 dX9_bottom_19 rfl
  refine S_ifeq 6 13 dX9_bottom_6 (by decide) ?_ ?_
  · skip
    refine S_aload_0 13 dX9_bottom_13 ?_
    refine S_iload_1 14 dX9_bottom_14 ?_
    refine S_iload_2 15 dX9_bottom_15 ?_
    refine S_callV (a' := 0) (b' := 0) (a := 0) (b := 0) 16 (As := [.int p1, .int p2]) (ci := 9) rfl calX9_bottomOf imX9_bottomOf seX9_bottomOf mkX9_402 rfl rfl rfl rfl rfl (by decide) rfl rfl dX9_bottom_16 (CX9_bottomOf E t p1 p2 h2) (fun v5 h6 => kqI ?_)
    exact S_drop [0, 1, 2] rfl (hj19 _ _)
  · skip
    refine S_ic 9 0 dX9_bottom_9 (by decide) ?_
    refine S_goto 10 19 dX9_bottom_10 (by decide) ?_
    exact S_drop [0, 1, 2] rfl (hj19 _ _)
def FX9_breaksTops (E : XG) (t : Nat) (p1 : Int32) (h : XH) : XP Int32 := xg (xk h t = 10) <| xnn (xr h t 9) fun w1 => xg (xk h w1 = 12 ∧ xin p1 (xn h w1)) <| xlt (xi h w1 (p1 : Int32).toNatClampNeg) fun v2 => xg (xk h t = 10) <| xnn (xr h t 10) fun w3 => xg (xk h w3 = 12 ∧ xin p1 (xn h w3)) <| xlt (xi h w3 (p1 : Int32).toNatClampNeg) fun v4 => xlp (fun again17 (s17 : Int32) h5 => xg (xk h5 t = 10) <| xb (FX9_uppers E t v2 h5) fun v6 h7 => if (v6 : Int32) ≤ s17 then (xg ((0 : Int32) = 0 ∨ (0 : Int32) = 1) <| xv 0 h7) else (xlp (fun again30 (s30 : Int32) h8 => xg (xk h8 t = 10) <| xb (FX9_uppers E t v2 h8) fun v9 h10 => if (v9 : Int32) ≤ s30 then (again17 (s17 + 1) h10) else (xg (xk h10 t = 10) <| xb (FX9_up E t v2 s17 s30 h10) fun v11 h12 => xg (xk h12 t = 10) <| xb (FX9_topOf E t p1 v11 h12) fun v13 h14 => xg (xk h14 t = 10) <| xb (FX9_topOf E t p1 s17 h14) fun v15 h16 => xg (xk h16 t = 10) <| xb (FX9_topOf E t p1 s30 h16) fun v17 h18 => xg (xk h18 t = 10) <| xb (FX9_up E t v4 v15 v17 h18) fun v19 h20 => if (v13 : Int32) = v19 then (again30 (s30 + 1) h20) else (xg ((1 : Int32) = 0 ∨ (1 : Int32) = 1) <| xv 1 h20))) xfu 0 h7)) xfu 0 h
theorem CX9_breaksTops (E : XG) (t : Nat) (p1 : Int32) (h : XH) : XN E mX9_breaksTops eI 0 0 [.ref t, .int p1] h (FX9_breaksTops E t p1 h) := by
  unfold FX9_breaksTops
  refine S_enter (L := [some (.ref t), some (.int p1), none, none, none, none]) (by decide +kernel) rfl rfl rfl ?_
  refine S_aload_0 0 dX9_breaksTops_0 ?_
  refine S_getR 1 fsX9_22 rfl dX9_breaksTops_1 (fun w1 => ?_)
  refine S_iload_1 4 dX9_breaksTops_4 ?_
  refine S_iald 5 dX9_breaksTops_5 ?_
  refine S_gen (fun v2 => ?_)
  refine S_istore_2 6 dX9_breaksTops_6 rfl ?_
  refine S_aload_0 7 dX9_breaksTops_7 ?_
  refine S_getR 8 fsX9_25 rfl dX9_breaksTops_8 (fun w3 => ?_)
  refine S_iload_1 11 dX9_breaksTops_11 ?_
  refine S_iald 12 dX9_breaksTops_12 ?_
  refine S_gen (fun v4 => ?_)
  refine S_istore_3 13 dX9_breaksTops_13 rfl ?_
  refine S_ic 14 0 dX9_breaksTops_14 (by decide) ?_
  refine S_istore_4 15 dX9_breaksTops_15 rfl ?_
  refine S_loop (fun (s17 : Int32) => [some (.ref t), some (.int p1), some (.int v2), some (.int v4), some (.int s17), none]) (fun again17 hg17 s17 h5 => ?_) xfu _ _
  refine S_iload_4 17 dX9_breaksTops_17 ?_
  refine S_aload_0 19 dX9_breaksTops_19 ?_
  refine S_iload_2 20 dX9_breaksTops_20 ?_
  refine S_callV (a' := 0) (b' := 0) (a := 0) (b := 0) 21 (As := [.int v2]) (ci := 9) rfl calX9_uppers imX9_uppers seX9_uppers mkX9_323 rfl rfl rfl rfl rfl (by decide) rfl rfl dX9_breaksTops_21 (CX9_uppers E t v2 h5) (fun v6 h7 => kqI ?_)
  refine S_icmpge 24 90 dX9_breaksTops_24 (by decide) ?_ ?_
  · skip
    refine S_ic 90 0 dX9_breaksTops_90 (by decide) ?_
    exact S_zret 91 dX9_breaksTops_91 rfl
  · skip
    refine S_ic 27 0 dX9_breaksTops_27 (by decide) ?_
    refine S_istore_5 28 dX9_breaksTops_28 rfl ?_
    refine S_loop (fun (s30 : Int32) => [some (.ref t), some (.int p1), some (.int v2), some (.int v4), some (.int s17), some (.int s30)]) (fun again30 hg30 s30 h8 => ?_) xfu _ _
    refine S_iload_5 30 dX9_breaksTops_30 ?_
    refine S_aload_0 32 dX9_breaksTops_32 ?_
    refine S_iload_2 33 dX9_breaksTops_33 ?_
    refine S_callV (a' := 0) (b' := 0) (a := 0) (b := 0) 34 (As := [.int v2]) (ci := 9) rfl calX9_uppers imX9_uppers seX9_uppers mkX9_323 rfl rfl rfl rfl rfl (by decide) rfl rfl dX9_breaksTops_34 (CX9_uppers E t v2 h8) (fun v9 h10 => kqI ?_)
    refine S_icmpge 37 84 dX9_breaksTops_37 (by decide) ?_ ?_
    · skip
      refine S_iinc_4 84 (s17 + 1) dX9_breaksTops_84 (by rfl) rfl ?_
      refine S_goto 87 17 dX9_breaksTops_87 (by decide) ?_
      exact S_drop [5] rfl (hg17 _ _)
    · skip
      refine S_aload_0 40 dX9_breaksTops_40 ?_
      refine S_iload_1 41 dX9_breaksTops_41 ?_
      refine S_aload_0 42 dX9_breaksTops_42 ?_
      refine S_iload_2 43 dX9_breaksTops_43 ?_
      refine S_iload_4 44 dX9_breaksTops_44 ?_
      refine S_iload_5 46 dX9_breaksTops_46 ?_
      refine S_callV (a' := 0) (b' := 0) (a := 0) (b := 0) 48 (As := [.int v2, .int s17, .int s30]) (ci := 9) rfl calX9_up imX9_up seX9_up mkX9_326 rfl rfl rfl rfl rfl (by decide) rfl rfl dX9_breaksTops_48 (CX9_up E t v2 s17 s30 h10) (fun v11 h12 => kqI ?_)
      refine S_callV (a' := 0) (b' := 0) (a := 0) (b := 0) 51 (As := [.int p1, .int v11]) (ci := 9) rfl calX9_topOf imX9_topOf seX9_topOf mkX9_396 rfl rfl rfl rfl rfl (by decide) rfl rfl dX9_breaksTops_51 (CX9_topOf E t p1 v11 h12) (fun v13 h14 => kqI ?_)
      refine S_aload_0 54 dX9_breaksTops_54 ?_
      refine S_iload_3 55 dX9_breaksTops_55 ?_
      refine S_aload_0 56 dX9_breaksTops_56 ?_
      refine S_iload_1 57 dX9_breaksTops_57 ?_
      refine S_iload_4 58 dX9_breaksTops_58 ?_
      refine S_callV (a' := 0) (b' := 0) (a := 0) (b := 0) 60 (As := [.int p1, .int s17]) (ci := 9) rfl calX9_topOf imX9_topOf seX9_topOf mkX9_396 rfl rfl rfl rfl rfl (by decide) rfl rfl dX9_breaksTops_60 (CX9_topOf E t p1 s17 h14) (fun v15 h16 => kqI ?_)
      refine S_aload_0 63 dX9_breaksTops_63 ?_
      refine S_iload_1 64 dX9_breaksTops_64 ?_
      refine S_iload_5 65 dX9_breaksTops_65 ?_
      refine S_callV (a' := 0) (b' := 0) (a := 0) (b := 0) 67 (As := [.int p1, .int s30]) (ci := 9) rfl calX9_topOf imX9_topOf seX9_topOf mkX9_396 rfl rfl rfl rfl rfl (by decide) rfl rfl dX9_breaksTops_67 (CX9_topOf E t p1 s30 h16) (fun v17 h18 => kqI ?_)
      refine S_callV (a' := 0) (b' := 0) (a := 0) (b := 0) 70 (As := [.int v4, .int v15, .int v17]) (ci := 9) rfl calX9_up imX9_up seX9_up mkX9_326 rfl rfl rfl rfl rfl (by decide) rfl rfl dX9_breaksTops_70 (CX9_up E t v4 v15 v17 h18) (fun v19 h20 => kqI ?_)
      refine S_icmpeq 73 78 dX9_breaksTops_73 (by decide) ?_ ?_
      · skip
        refine S_iinc_5 78 (s30 + 1) dX9_breaksTops_78 (by rfl) rfl ?_
        refine S_goto 81 30 dX9_breaksTops_81 (by decide) ?_
        exact S_drop [] rfl (hg30 _ _)
      · skip
        refine S_ic 76 1 dX9_breaksTops_76 (by decide) ?_
        exact S_zret 77 dX9_breaksTops_77 rfl
def FX9_breaksBottoms (E : XG) (t : Nat) (p1 : Int32) (h : XH) : XP Int32 := xg (xk h t = 10) <| xnn (xr h t 9) fun w1 => xg (xk h w1 = 12 ∧ xin p1 (xn h w1)) <| xlt (xi h w1 (p1 : Int32).toNatClampNeg) fun v2 => xg (xk h t = 10) <| xnn (xr h t 10) fun w3 => xg (xk h w3 = 12 ∧ xin p1 (xn h w3)) <| xlt (xi h w3 (p1 : Int32).toNatClampNeg) fun v4 => xlp (fun again17 (s17 : Int32) h5 => xg (xk h5 t = 10) <| xb (FX9_lowers E t v2 h5) fun v6 h7 => if (v6 : Int32) ≤ s17 then (xg ((0 : Int32) = 0 ∨ (0 : Int32) = 1) <| xv 0 h7) else (xlp (fun again30 (s30 : Int32) h8 => xg (xk h8 t = 10) <| xb (FX9_lowers E t v2 h8) fun v9 h10 => if (v9 : Int32) ≤ s30 then (again17 (s17 + 1) h10) else (xg (xk h10 t = 10) <| xb (FX9_down E t v2 s17 s30 h10) fun v11 h12 => xg (xk h12 t = 10) <| xb (FX9_bottomOf E t p1 v11 h12) fun v13 h14 => xg (xk h14 t = 10) <| xb (FX9_bottomOf E t p1 s17 h14) fun v15 h16 => xg (xk h16 t = 10) <| xb (FX9_bottomOf E t p1 s30 h16) fun v17 h18 => xg (xk h18 t = 10) <| xb (FX9_down E t v4 v15 v17 h18) fun v19 h20 => if (v13 : Int32) = v19 then (again30 (s30 + 1) h20) else (xg ((1 : Int32) = 0 ∨ (1 : Int32) = 1) <| xv 1 h20))) xfu 0 h7)) xfu 0 h
theorem CX9_breaksBottoms (E : XG) (t : Nat) (p1 : Int32) (h : XH) : XN E mX9_breaksBottoms eI 0 0 [.ref t, .int p1] h (FX9_breaksBottoms E t p1 h) := by
  unfold FX9_breaksBottoms
  refine S_enter (L := [some (.ref t), some (.int p1), none, none, none, none]) (by decide +kernel) rfl rfl rfl ?_
  refine S_aload_0 0 dX9_breaksBottoms_0 ?_
  refine S_getR 1 fsX9_22 rfl dX9_breaksBottoms_1 (fun w1 => ?_)
  refine S_iload_1 4 dX9_breaksBottoms_4 ?_
  refine S_iald 5 dX9_breaksBottoms_5 ?_
  refine S_gen (fun v2 => ?_)
  refine S_istore_2 6 dX9_breaksBottoms_6 rfl ?_
  refine S_aload_0 7 dX9_breaksBottoms_7 ?_
  refine S_getR 8 fsX9_25 rfl dX9_breaksBottoms_8 (fun w3 => ?_)
  refine S_iload_1 11 dX9_breaksBottoms_11 ?_
  refine S_iald 12 dX9_breaksBottoms_12 ?_
  refine S_gen (fun v4 => ?_)
  refine S_istore_3 13 dX9_breaksBottoms_13 rfl ?_
  refine S_ic 14 0 dX9_breaksBottoms_14 (by decide) ?_
  refine S_istore_4 15 dX9_breaksBottoms_15 rfl ?_
  refine S_loop (fun (s17 : Int32) => [some (.ref t), some (.int p1), some (.int v2), some (.int v4), some (.int s17), none]) (fun again17 hg17 s17 h5 => ?_) xfu _ _
  refine S_iload_4 17 dX9_breaksBottoms_17 ?_
  refine S_aload_0 19 dX9_breaksBottoms_19 ?_
  refine S_iload_2 20 dX9_breaksBottoms_20 ?_
  refine S_callV (a' := 0) (b' := 0) (a := 0) (b := 0) 21 (As := [.int v2]) (ci := 9) rfl calX9_lowers imX9_lowers seX9_lowers mkX9_332 rfl rfl rfl rfl rfl (by decide) rfl rfl dX9_breaksBottoms_21 (CX9_lowers E t v2 h5) (fun v6 h7 => kqI ?_)
  refine S_icmpge 24 90 dX9_breaksBottoms_24 (by decide) ?_ ?_
  · skip
    refine S_ic 90 0 dX9_breaksBottoms_90 (by decide) ?_
    exact S_zret 91 dX9_breaksBottoms_91 rfl
  · skip
    refine S_ic 27 0 dX9_breaksBottoms_27 (by decide) ?_
    refine S_istore_5 28 dX9_breaksBottoms_28 rfl ?_
    refine S_loop (fun (s30 : Int32) => [some (.ref t), some (.int p1), some (.int v2), some (.int v4), some (.int s17), some (.int s30)]) (fun again30 hg30 s30 h8 => ?_) xfu _ _
    refine S_iload_5 30 dX9_breaksBottoms_30 ?_
    refine S_aload_0 32 dX9_breaksBottoms_32 ?_
    refine S_iload_2 33 dX9_breaksBottoms_33 ?_
    refine S_callV (a' := 0) (b' := 0) (a := 0) (b := 0) 34 (As := [.int v2]) (ci := 9) rfl calX9_lowers imX9_lowers seX9_lowers mkX9_332 rfl rfl rfl rfl rfl (by decide) rfl rfl dX9_breaksBottoms_34 (CX9_lowers E t v2 h8) (fun v9 h10 => kqI ?_)
    refine S_icmpge 37 84 dX9_breaksBottoms_37 (by decide) ?_ ?_
    · skip
      refine S_iinc_4 84 (s17 + 1) dX9_breaksBottoms_84 (by rfl) rfl ?_
      refine S_goto 87 17 dX9_breaksBottoms_87 (by decide) ?_
      exact S_drop [5] rfl (hg17 _ _)
    · skip
      refine S_aload_0 40 dX9_breaksBottoms_40 ?_
      refine S_iload_1 41 dX9_breaksBottoms_41 ?_
      refine S_aload_0 42 dX9_breaksBottoms_42 ?_
      refine S_iload_2 43 dX9_breaksBottoms_43 ?_
      refine S_iload_4 44 dX9_breaksBottoms_44 ?_
      refine S_iload_5 46 dX9_breaksBottoms_46 ?_
      refine S_callV (a' := 0) (b' := 0) (a := 0) (b := 0) 48 (As := [.int v2, .int s17, .int s30]) (ci := 9) rfl calX9_down imX9_down seX9_down mkX9_329 rfl rfl rfl rfl rfl (by decide) rfl rfl dX9_breaksBottoms_48 (CX9_down E t v2 s17 s30 h10) (fun v11 h12 => kqI ?_)
      refine S_callV (a' := 0) (b' := 0) (a := 0) (b := 0) 51 (As := [.int p1, .int v11]) (ci := 9) rfl calX9_bottomOf imX9_bottomOf seX9_bottomOf mkX9_402 rfl rfl rfl rfl rfl (by decide) rfl rfl dX9_breaksBottoms_51 (CX9_bottomOf E t p1 v11 h12) (fun v13 h14 => kqI ?_)
      refine S_aload_0 54 dX9_breaksBottoms_54 ?_
      refine S_iload_3 55 dX9_breaksBottoms_55 ?_
      refine S_aload_0 56 dX9_breaksBottoms_56 ?_
      refine S_iload_1 57 dX9_breaksBottoms_57 ?_
      refine S_iload_4 58 dX9_breaksBottoms_58 ?_
      refine S_callV (a' := 0) (b' := 0) (a := 0) (b := 0) 60 (As := [.int p1, .int s17]) (ci := 9) rfl calX9_bottomOf imX9_bottomOf seX9_bottomOf mkX9_402 rfl rfl rfl rfl rfl (by decide) rfl rfl dX9_breaksBottoms_60 (CX9_bottomOf E t p1 s17 h14) (fun v15 h16 => kqI ?_)
      refine S_aload_0 63 dX9_breaksBottoms_63 ?_
      refine S_iload_1 64 dX9_breaksBottoms_64 ?_
      refine S_iload_5 65 dX9_breaksBottoms_65 ?_
      refine S_callV (a' := 0) (b' := 0) (a := 0) (b := 0) 67 (As := [.int p1, .int s30]) (ci := 9) rfl calX9_bottomOf imX9_bottomOf seX9_bottomOf mkX9_402 rfl rfl rfl rfl rfl (by decide) rfl rfl dX9_breaksBottoms_67 (CX9_bottomOf E t p1 s30 h16) (fun v17 h18 => kqI ?_)
      refine S_callV (a' := 0) (b' := 0) (a := 0) (b := 0) 70 (As := [.int v4, .int v15, .int v17]) (ci := 9) rfl calX9_down imX9_down seX9_down mkX9_329 rfl rfl rfl rfl rfl (by decide) rfl rfl dX9_breaksBottoms_70 (CX9_down E t v4 v15 v17 h18) (fun v19 h20 => kqI ?_)
      refine S_icmpeq 73 78 dX9_breaksBottoms_73 (by decide) ?_ ?_
      · skip
        refine S_iinc_5 78 (s30 + 1) dX9_breaksBottoms_78 (by rfl) rfl ?_
        refine S_goto 81 30 dX9_breaksBottoms_81 (by decide) ?_
        exact S_drop [] rfl (hg30 _ _)
      · skip
        refine S_ic 76 1 dX9_breaksBottoms_76 (by decide) ?_
        exact S_zret 77 dX9_breaksBottoms_77 rfl
