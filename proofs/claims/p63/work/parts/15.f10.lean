/-! Methods as functions, 10. -/
set_option linter.unusedVariables false
set_option maxRecDepth 10000
def FL_inverse (E : XG) (p1 : Nat) (p2 : Int32) (h : XH) : XP Int32 := xlp (fun again2 (s2 : Int32) h1 => xg (xk h1 p1 = 18 ∧ xin p2 (xn h1 p1)) <| xnn (xr h1 p1 (p2 : Int32).toNatClampNeg) fun w2 => xg (xk h1 w2 = 12 ∧ xin s2 (xn h1 w2)) <| if ((xi h1 w2 (s2 : Int32).toNatClampNeg) : Int32) = 0 then (xv s2 h1) else (again2 (s2 + 1) h1)) xfu 0 h
theorem CL_inverse (E : XG) (p1 : Nat) (p2 : Int32) (h : XH) : XN E mL_inverse eI 0 0 [.ref p1, .int p2] h (FL_inverse E p1 p2 h) := by
  unfold FL_inverse
  refine S_enter (L := [some (.ref p1), some (.int p2), none]) (by decide +kernel) rfl rfl rfl ?_
  refine S_ic 0 0 dL_inverse_0 (by decide) ?_
  refine S_istore_2 1 dL_inverse_1 rfl ?_
  refine S_loop (fun (s2 : Int32) => [some (.ref p1), some (.int p2), some (.int s2)]) (fun again2 hg2 s2 h1 => ?_) xfu _ _
  refine S_aload_0 2 dL_inverse_2 ?_
  refine S_iload_1 3 dL_inverse_3 ?_
  refine S_aald 4 18 7 (by decide) rfl rfl dL_inverse_4 (fun w2 => ?_)
  refine S_iload_2 5 dL_inverse_5 ?_
  refine S_iald 6 dL_inverse_6 ?_
  refine S_ifeq 7 16 dL_inverse_7 (by decide) ?_ ?_
  · skip
    refine S_iload_2 16 dL_inverse_16 ?_
    exact S_iret 17 dL_inverse_17 rfl
  · skip
    refine S_iinc_2 10 (s2 + 1) dL_inverse_10 (by rfl) rfl ?_
    refine S_goto 13 2 dL_inverse_13 (by decide) ?_
    exact S_drop [] rfl (hg2 _ _)
def FX11_conjugate (E : XG) (t : Nat) (p1 : Int32) (p2 : Int32) (h : XH) : XP Int32 := xg (xk h t = 22) <| xnn (xr h t 2) fun w1 => xg (xk h t = 22) <| xnn (xr h t 2) fun w2 => xg (xk h w2 = 18 ∧ xin p1 (xn h w2)) <| xnn (xr h w2 (p1 : Int32).toNatClampNeg) fun w3 => xg (xk h w3 = 12 ∧ xin p2 (xn h w3)) <| xg (xk h w1 = 18 ∧ xin (xi h w3 (p2 : Int32).toNatClampNeg) (xn h w1)) <| xnn (xr h w1 ((xi h w3 (p2 : Int32).toNatClampNeg) : Int32).toNatClampNeg) fun w4 => xg (xk h t = 22) <| xnn (xr h t 2) fun w5 => xb (FL_inverse E w5 p1 h) fun v6 h7 => xg (xk h7 w4 = 12 ∧ xin v6 (xn h7 w4)) <| xv (xi h7 w4 (v6 : Int32).toNatClampNeg) h7
theorem CX11_conjugate (E : XG) (t : Nat) (p1 : Int32) (p2 : Int32) (h : XH) : XN E mX11_conjugate eI 0 0 [.ref t, .int p1, .int p2] h (FX11_conjugate E t p1 p2 h) := by
  unfold FX11_conjugate
  refine S_enter (L := [some (.ref t), some (.int p1), some (.int p2)]) (by decide +kernel) rfl rfl rfl ?_
  refine S_aload_0 0 dX11_conjugate_0 ?_
  refine S_getR 1 fsX11_16 rfl dX11_conjugate_1 (fun w1 => ?_)
  refine S_aload_0 4 dX11_conjugate_4 ?_
  refine S_getR 5 fsX11_16 rfl dX11_conjugate_5 (fun w2 => ?_)
  refine S_iload_1 8 dX11_conjugate_8 ?_
  refine S_aald 9 18 7 (by decide) rfl rfl dX11_conjugate_9 (fun w3 => ?_)
  refine S_iload_2 10 dX11_conjugate_10 ?_
  refine S_iald 11 dX11_conjugate_11 ?_
  refine S_aald 12 18 7 (by decide) rfl rfl dX11_conjugate_12 (fun w4 => ?_)
  refine S_aload_0 13 dX11_conjugate_13 ?_
  refine S_getR 14 fsX11_16 rfl dX11_conjugate_14 (fun w5 => ?_)
  refine S_iload_1 17 dX11_conjugate_17 ?_
  refine S_callSN (a' := 0) (b' := 0) (a := 0) (b := 0) 18 (As := [.ref w5, .int p1]) rfl calL_inverse stL_inverse (List.mem_of_getElem? (i := 20) rfl) rfl rfl rfl rfl rfl dX11_conjugate_18 (CL_inverse E w5 p1 h) (fun v6 h7 => kqI ?_)
  refine S_iald 21 dX11_conjugate_21 ?_
  exact S_iret 22 dX11_conjugate_22 rfl
def FX11_why (E : XG) (t : Nat) (h : XH) : XP Int32 := xg (xk h t = 22) <| xnn (xr h t 3) fun w1 => xg (xk h w1 = 18) <| xlt (Int32.ofNat (xn h w1)) fun v2 => xg (xk h t = 22) <| xnn (xr h t 2) fun w3 => xg (xk h w3 = 18) <| xlt (Int32.ofNat (xn h w3)) fun v4 => xlp (fun again18 (s18 : Int32 × Int32) h5 => if (v4 : Int32) ≤ s18.2 then (xlp (fun again88 (s88 : Int32 × Int32) h6 => xjn (fun  (h7 : XH) => xlp (fun again217 (s217 : Int32 × Int32) h8 => xjn (fun  (h9 : XH) => xlp (fun again322 (s322 : Int32 × Int32) h10 => xjn (fun  (h11 : XH) => xlp (fun again407 (s407 : Int32 × Int32) h12 => xjn (fun  (h13 : XH) => xjn (fun (v14 : Int32) (h15 : XH) => xv v14 h15) fun (j478 : Int32 → XH → XP Int32) => if (s407.1 : Int32) = 9 then (j478 0 h13) else (j478 s407.1 h13)) fun (j467 : XH → XP Int32) => if (v4 : Int32) ≤ s407.2 then (j467 h12) else (if (s407.1 : Int32) ≤ 5 then (j467 h12) else (xlp (fun again421 (s421 : Int32 × Int32) h16 => if (v4 : Int32) ≤ s421.2 then (again407 (s421.1, (s407.2 + 1)) h16) else (xg (xk h16 t = 22) <| xnn (xr h16 t 4) fun w17 => xg (xk h16 t = 22) <| xnn (xr h16 t 5) fun w18 => xg (xk h16 w18 = 12 ∧ xin s407.2 (xn h16 w18)) <| xg (xk h16 w17 = 18 ∧ xin (xi h16 w18 (s407.2 : Int32).toNatClampNeg) (xn h16 w17)) <| xnn (xr h16 w17 ((xi h16 w18 (s407.2 : Int32).toNatClampNeg) : Int32).toNatClampNeg) fun w19 => xg (xk h16 w19 = 12 ∧ xin s421.2 (xn h16 w19)) <| xg (xk h16 t = 22) <| xb (FX11_conjugate E t s407.2 s421.2 h16) fun v20 h21 => xjn (fun (v22 : Int32) (h23 : XH) => again421 (v22, (s421.2 + 1)) h23) fun (j455 : Int32 → XH → XP Int32) => if ((xi h16 w19 (s421.2 : Int32).toNatClampNeg) : Int32) = v20 then (j455 s421.1 h21) else (j455 5 h21))) xfu (s407.1, 0) h12))) xfu (s322.1, 0) h11) fun (j404 : XH → XP Int32) => if (v2 : Int32) ≤ s322.2 then (j404 h10) else (if (s322.1 : Int32) ≤ 4 then (j404 h10) else (xlp (fun again336 (s336 : Int32 × Int32) h24 => if (v4 : Int32) ≤ s336.2 then (again322 (s336.1, (s322.2 + 1)) h24) else (xg (xk h24 t = 22) <| xnn (xr h24 t 5) fun w25 => xg (xk h24 t = 22) <| xnn (xr h24 t 4) fun w26 => xg (xk h24 w26 = 18 ∧ xin s322.2 (xn h24 w26)) <| xnn (xr h24 w26 (s322.2 : Int32).toNatClampNeg) fun w27 => xg (xk h24 w27 = 12 ∧ xin s336.2 (xn h24 w27)) <| xg (xk h24 w25 = 12 ∧ xin (xi h24 w27 (s336.2 : Int32).toNatClampNeg) (xn h24 w25)) <| xg (xk h24 t = 22) <| xnn (xr h24 t 3) fun w28 => xg (xk h24 t = 22) <| xnn (xr h24 t 3) fun w29 => xg (xk h24 w29 = 18 ∧ xin s322.2 (xn h24 w29)) <| xnn (xr h24 w29 (s322.2 : Int32).toNatClampNeg) fun w30 => xg (xk h24 t = 22) <| xnn (xr h24 t 5) fun w31 => xg (xk h24 w31 = 12 ∧ xin s336.2 (xn h24 w31)) <| xg (xk h24 w30 = 12 ∧ xin (xi h24 w31 (s336.2 : Int32).toNatClampNeg) (xn h24 w30)) <| xg (xk h24 w28 = 18 ∧ xin (xi h24 w30 ((xi h24 w31 (s336.2 : Int32).toNatClampNeg) : Int32).toNatClampNeg) (xn h24 w28)) <| xnn (xr h24 w28 ((xi h24 w30 ((xi h24 w31 (s336.2 : Int32).toNatClampNeg) : Int32).toNatClampNeg) : Int32).toNatClampNeg) fun w32 => xg (xk h24 t = 22) <| xnn (xr h24 t 3) fun w33 => xb (FL_inverse E w33 s322.2 h24) fun v34 h35 => xg (xk h35 w32 = 12 ∧ xin v34 (xn h35 w32)) <| xjn (fun (v36 : Int32) (h37 : XH) => again336 (v36, (s336.2 + 1)) h37) fun (j392 : Int32 → XH → XP Int32) => if ((xi h24 w25 ((xi h24 w27 (s336.2 : Int32).toNatClampNeg) : Int32).toNatClampNeg) : Int32) = (xi h35 w32 (v34 : Int32).toNatClampNeg) then (j392 s336.1 h35) else (j392 4 h35))) xfu (s322.1, 0) h10))) xfu (s217.1, 0) h9) fun (j319 : XH → XP Int32) => if (v2 : Int32) ≤ s217.2 then (j319 h8) else (if (s217.1 : Int32) ≤ 3 then (j319 h8) else (xlp (fun again231 (s231 : Int32 × Int32) h38 => if (v2 : Int32) ≤ s231.2 then (again217 (s231.1, (s217.2 + 1)) h38) else (xlp (fun again240 (s240 : Int32 × Int32) h39 => if (v4 : Int32) ≤ s240.2 then (again231 (s240.1, (s231.2 + 1)) h39) else (xg (xk h39 t = 22) <| xnn (xr h39 t 4) fun w40 => xg (xk h39 w40 = 18 ∧ xin 0 (xn h39 w40)) <| xnn (xr h39 w40 (0 : Int32).toNatClampNeg) fun w41 => xg (xk h39 w41 = 12 ∧ xin s240.2 (xn h39 w41)) <| xjn (fun (v42 : Int32) (h43 : XH) => again240 (v42, (s240.2 + 1)) h43) fun (j301 : Int32 → XH → XP Int32) => xjn (fun  (h44 : XH) => j301 3 h44) fun (j299 : XH → XP Int32) => if ((xi h39 w41 (s240.2 : Int32).toNatClampNeg) : Int32) = s240.2 then (xg (xk h39 t = 22) <| xnn (xr h39 t 4) fun w45 => xg (xk h39 t = 22) <| xnn (xr h39 t 3) fun w46 => xg (xk h39 w46 = 18 ∧ xin s217.2 (xn h39 w46)) <| xnn (xr h39 w46 (s217.2 : Int32).toNatClampNeg) fun w47 => xg (xk h39 w47 = 12 ∧ xin s231.2 (xn h39 w47)) <| xg (xk h39 w45 = 18 ∧ xin (xi h39 w47 (s231.2 : Int32).toNatClampNeg) (xn h39 w45)) <| xnn (xr h39 w45 ((xi h39 w47 (s231.2 : Int32).toNatClampNeg) : Int32).toNatClampNeg) fun w48 => xg (xk h39 w48 = 12 ∧ xin s240.2 (xn h39 w48)) <| xg (xk h39 t = 22) <| xnn (xr h39 t 4) fun w49 => xg (xk h39 w49 = 18 ∧ xin s217.2 (xn h39 w49)) <| xnn (xr h39 w49 (s217.2 : Int32).toNatClampNeg) fun w50 => xg (xk h39 t = 22) <| xnn (xr h39 t 4) fun w51 => xg (xk h39 w51 = 18 ∧ xin s231.2 (xn h39 w51)) <| xnn (xr h39 w51 (s231.2 : Int32).toNatClampNeg) fun w52 => xg (xk h39 w52 = 12 ∧ xin s240.2 (xn h39 w52)) <| xg (xk h39 w50 = 12 ∧ xin (xi h39 w52 (s240.2 : Int32).toNatClampNeg) (xn h39 w50)) <| if ((xi h39 w48 (s240.2 : Int32).toNatClampNeg) : Int32) = (xi h39 w50 ((xi h39 w52 (s240.2 : Int32).toNatClampNeg) : Int32).toNatClampNeg) then (j301 s240.1 h39) else (j299 h39)) else (j299 h39))) xfu (s231.1, 0) h38)) xfu (s217.1, 0) h8))) xfu (s88.1, 0) h7) fun (j214 : XH → XP Int32) => if (v2 : Int32) ≤ s88.2 then (j214 h6) else (if (s88.1 : Int32) ≤ 2 then (j214 h6) else (xlp (fun again102 (s102 : Int32 × Int32) h53 => if (v4 : Int32) ≤ s102.2 then (again88 (s102.1, (s88.2 + 1)) h53) else (xlp (fun again111 (s111 : Int32 × Int32) h54 => if (v4 : Int32) ≤ s111.2 then (again102 (s111.1, (s102.2 + 1)) h54) else (xjn (fun (v55 : Int32) (h56 : XH) => again111 (v55, (s111.2 + 1)) h56) fun (j196 : Int32 → XH → XP Int32) => xjn (fun  (h57 : XH) => j196 2 h57) fun (j194 : XH → XP Int32) => xjn (fun  (h58 : XH) => xg (xk h58 t = 22) <| xnn (xr h58 t 4) fun w59 => xg (xk h58 w59 = 18 ∧ xin s88.2 (xn h58 w59)) <| xnn (xr h58 w59 (s88.2 : Int32).toNatClampNeg) fun w60 => xg (xk h58 t = 22) <| xnn (xr h58 t 2) fun w61 => xg (xk h58 w61 = 18 ∧ xin s102.2 (xn h58 w61)) <| xnn (xr h58 w61 (s102.2 : Int32).toNatClampNeg) fun w62 => xg (xk h58 w62 = 12 ∧ xin s111.2 (xn h58 w62)) <| xg (xk h58 w60 = 12 ∧ xin (xi h58 w62 (s111.2 : Int32).toNatClampNeg) (xn h58 w60)) <| xg (xk h58 t = 22) <| xnn (xr h58 t 2) fun w63 => xg (xk h58 t = 22) <| xnn (xr h58 t 4) fun w64 => xg (xk h58 w64 = 18 ∧ xin s88.2 (xn h58 w64)) <| xnn (xr h58 w64 (s88.2 : Int32).toNatClampNeg) fun w65 => xg (xk h58 w65 = 12 ∧ xin s102.2 (xn h58 w65)) <| xg (xk h58 w63 = 18 ∧ xin (xi h58 w65 (s102.2 : Int32).toNatClampNeg) (xn h58 w63)) <| xnn (xr h58 w63 ((xi h58 w65 (s102.2 : Int32).toNatClampNeg) : Int32).toNatClampNeg) fun w66 => xg (xk h58 t = 22) <| xnn (xr h58 t 4) fun w67 => xg (xk h58 w67 = 18 ∧ xin s88.2 (xn h58 w67)) <| xnn (xr h58 w67 (s88.2 : Int32).toNatClampNeg) fun w68 => xg (xk h58 w68 = 12 ∧ xin s111.2 (xn h58 w68)) <| xg (xk h58 w66 = 12 ∧ xin (xi h58 w68 (s111.2 : Int32).toNatClampNeg) (xn h58 w66)) <| if ((xi h58 w60 ((xi h58 w62 (s111.2 : Int32).toNatClampNeg) : Int32).toNatClampNeg) : Int32) = (xi h58 w66 ((xi h58 w68 (s111.2 : Int32).toNatClampNeg) : Int32).toNatClampNeg) then (j196 s111.1 h58) else (j194 h58)) fun (j147 : XH → XP Int32) => if (s102.2 : Int32) = s111.2 then (j147 h54) else (xg (xk h54 t = 22) <| xnn (xr h54 t 4) fun w69 => xg (xk h54 w69 = 18 ∧ xin s88.2 (xn h54 w69)) <| xnn (xr h54 w69 (s88.2 : Int32).toNatClampNeg) fun w70 => xg (xk h54 w70 = 12 ∧ xin s102.2 (xn h54 w70)) <| xg (xk h54 t = 22) <| xnn (xr h54 t 4) fun w71 => xg (xk h54 w71 = 18 ∧ xin s88.2 (xn h54 w71)) <| xnn (xr h54 w71 (s88.2 : Int32).toNatClampNeg) fun w72 => xg (xk h54 w72 = 12 ∧ xin s111.2 (xn h54 w72)) <| if ((xi h54 w70 (s102.2 : Int32).toNatClampNeg) : Int32) = (xi h54 w72 (s111.2 : Int32).toNatClampNeg) then (j194 h54) else (j147 h54)))) xfu (s102.1, 0) h53)) xfu (s88.1, 0) h6))) xfu (s18.1, 0) h5) else (xlp (fun again27 (s27 : Int32 × Int32) h73 => if (v4 : Int32) ≤ s27.2 then (again18 (s27.1, (s18.2 + 1)) h73) else (xg (xk h73 t = 22) <| xnn (xr h73 t 5) fun w74 => xg (xk h73 t = 22) <| xnn (xr h73 t 2) fun w75 => xg (xk h73 w75 = 18 ∧ xin s18.2 (xn h73 w75)) <| xnn (xr h73 w75 (s18.2 : Int32).toNatClampNeg) fun w76 => xg (xk h73 w76 = 12 ∧ xin s27.2 (xn h73 w76)) <| xg (xk h73 w74 = 12 ∧ xin (xi h73 w76 (s27.2 : Int32).toNatClampNeg) (xn h73 w74)) <| xg (xk h73 t = 22) <| xnn (xr h73 t 3) fun w77 => xg (xk h73 t = 22) <| xnn (xr h73 t 5) fun w78 => xg (xk h73 w78 = 12 ∧ xin s18.2 (xn h73 w78)) <| xg (xk h73 w77 = 18 ∧ xin (xi h73 w78 (s18.2 : Int32).toNatClampNeg) (xn h73 w77)) <| xnn (xr h73 w77 ((xi h73 w78 (s18.2 : Int32).toNatClampNeg) : Int32).toNatClampNeg) fun w79 => xg (xk h73 t = 22) <| xnn (xr h73 t 5) fun w80 => xg (xk h73 w80 = 12 ∧ xin s27.2 (xn h73 w80)) <| xg (xk h73 w79 = 12 ∧ xin (xi h73 w80 (s27.2 : Int32).toNatClampNeg) (xn h73 w79)) <| xjn (fun (v81 : Int32) (h82 : XH) => again27 (v81, (s27.2 + 1)) h82) fun (j73 : Int32 → XH → XP Int32) => if ((xi h73 w74 ((xi h73 w76 (s27.2 : Int32).toNatClampNeg) : Int32).toNatClampNeg) : Int32) = (xi h73 w79 ((xi h73 w80 (s27.2 : Int32).toNatClampNeg) : Int32).toNatClampNeg) then (j73 s27.1 h73) else (j73 1 h73))) xfu (s18.1, 0) h5)) xfu (9, 0) h
theorem CX11_why (E : XG) (t : Nat) (h : XH) : XN E mX11_why eI 0 0 [.ref t] h (FX11_why E t h) := by
  unfold FX11_why
  refine S_enter (L := [some (.ref t), none, none, none, none, none, none]) (by decide +kernel) rfl rfl rfl ?_
  refine S_bip 0 9 dX11_why_0 (by decide) ?_
  refine S_istore_1 2 dX11_why_2 rfl ?_
  refine S_aload_0 3 dX11_why_3 ?_
  refine S_getR 4 fsX11_20 rfl dX11_why_4 (fun w1 => ?_)
  refine S_alen 7 18 7 (by decide) rfl dX11_why_7 ?_
  refine S_gen (fun v2 => ?_)
  refine S_istore_2 8 dX11_why_8 rfl ?_
  refine S_aload_0 9 dX11_why_9 ?_
  refine S_getR 10 fsX11_16 rfl dX11_why_10 (fun w3 => ?_)
  refine S_alen 13 18 7 (by decide) rfl dX11_why_13 ?_
  refine S_gen (fun v4 => ?_)
  refine S_istore_3 14 dX11_why_14 rfl ?_
  refine S_ic 15 0 dX11_why_15 (by decide) ?_
  refine S_istore_4 16 dX11_why_16 rfl ?_
  refine S_loop (fun (s18 : Int32 × Int32) => [some (.ref t), some (.int s18.1), some (.int v2), some (.int v4), some (.int s18.2), none, none]) (fun again18 hg18 s18 h5 => ?_) xfu _ _
  refine S_iload_4 18 dX11_why_18 ?_
  refine S_iload_3 20 dX11_why_20 ?_
  refine S_icmpge 21 85 dX11_why_21 (by decide) ?_ ?_
  · skip
    refine S_ic 85 0 dX11_why_85 (by decide) ?_
    refine S_istore_4 86 dX11_why_86 rfl ?_
    refine S_loop (fun (s88 : Int32 × Int32) => [some (.ref t), some (.int s88.1), some (.int v2), some (.int v4), some (.int s88.2), none, none]) (fun again88 hg88 s88 h6 => ?_) xfu _ _
    refine S_iload_4 88 dX11_why_88 ?_
    refine S_iload_2 90 dX11_why_90 ?_
    refine S_join (fun jj => ∀  (h7 : XH), XS E mX11_why eI 0 0 214 [some (.ref t), some (.int s88.1), some (.int v2), some (.int v4), none, none, none] [] h7 (jj  h7)) (fun  h7 => ?_) (fun j214 hj214 => ?_)
    · skip
      refine S_ic 214 0 dX11_why_214 (by decide) ?_
      refine S_istore_4 215 dX11_why_215 rfl ?_
      refine S_loop (fun (s217 : Int32 × Int32) => [some (.ref t), some (.int s217.1), some (.int v2), some (.int v4), some (.int s217.2), none, none]) (fun again217 hg217 s217 h8 => ?_) xfu _ _
      refine S_iload_4 217 dX11_why_217 ?_
      refine S_iload_2 219 dX11_why_219 ?_
      refine S_join (fun jj => ∀  (h9 : XH), XS E mX11_why eI 0 0 319 [some (.ref t), some (.int s217.1), some (.int v2), some (.int v4), none, none, none] [] h9 (jj  h9)) (fun  h9 => ?_) (fun j319 hj319 => ?_)
      · skip
        refine S_ic 319 0 dX11_why_319 (by decide) ?_
        refine S_istore_4 320 dX11_why_320 rfl ?_
        refine S_loop (fun (s322 : Int32 × Int32) => [some (.ref t), some (.int s322.1), some (.int v2), some (.int v4), some (.int s322.2), none, none]) (fun again322 hg322 s322 h10 => ?_) xfu _ _
        refine S_iload_4 322 dX11_why_322 ?_
        refine S_iload_2 324 dX11_why_324 ?_
        refine S_join (fun jj => ∀  (h11 : XH), XS E mX11_why eI 0 0 404 [some (.ref t), some (.int s322.1), none, some (.int v4), none, none, none] [] h11 (jj  h11)) (fun  h11 => ?_) (fun j404 hj404 => ?_)
        · skip
          refine S_ic 404 0 dX11_why_404 (by decide) ?_
          refine S_istore_4 405 dX11_why_405 rfl ?_
          refine S_loop (fun (s407 : Int32 × Int32) => [some (.ref t), some (.int s407.1), none, some (.int v4), some (.int s407.2), none, none]) (fun again407 hg407 s407 h12 => ?_) xfu _ _
          refine S_iload_4 407 dX11_why_407 ?_
          refine S_iload_3 409 dX11_why_409 ?_
          refine S_join (fun jj => ∀  (h13 : XH), XS E mX11_why eI 0 0 467 [none, some (.int s407.1), none, none, none, none, none] [] h13 (jj  h13)) (fun  h13 => ?_) (fun j467 hj467 => ?_)
          · skip
            refine S_iload_1 467 dX11_why_467 ?_
            refine S_bip 468 9 dX11_why_468 (by decide) ?_
            refine S_join (fun jj => ∀ (v14 : Int32) (h15 : XH), XS E mX11_why eI 0 0 478 [none, none, none, none, none, none, none] [.int v14] h15 (jj v14 h15)) (fun v14 h15 => ?_) (fun j478 hj478 => ?_)
            · skip
              exact S_iret 478 dX11_why_478 rfl
            refine S_icmpne 470 477 dX11_why_470 (by decide) ?_ ?_
            · skip
              refine S_iload_1 477 dX11_why_477 ?_
              exact S_drop [1] rfl (hj478 _ _)
            · skip
              refine S_ic 473 0 dX11_why_473 (by decide) ?_
              refine S_goto 474 478 dX11_why_474 (by decide) ?_
              exact S_drop [1] rfl (hj478 _ _)
          refine S_icmpge 410 467 dX11_why_410 (by decide) ?_ ?_
          · skip
            exact S_drop [0, 3, 4] rfl (hj467 _)
          · skip
            refine S_iload_1 413 dX11_why_413 ?_
            refine S_ic 414 5 dX11_why_414 (by decide) ?_
            refine S_icmple 415 467 dX11_why_415 (by decide) ?_ ?_
            · skip
              exact S_drop [0, 3, 4] rfl (hj467 _)
            · skip
              refine S_ic 418 0 dX11_why_418 (by decide) ?_
              refine S_istore_5 419 dX11_why_419 rfl ?_
              refine S_loop (fun (s421 : Int32 × Int32) => [some (.ref t), some (.int s421.1), none, some (.int v4), some (.int s407.2), some (.int s421.2), none]) (fun again421 hg421 s421 h16 => ?_) xfu _ _
              refine S_iload_5 421 dX11_why_421 ?_
              refine S_iload_3 423 dX11_why_423 ?_
              refine S_icmpge 424 461 dX11_why_424 (by decide) ?_ ?_
              · skip
                refine S_iinc_4 461 (s407.2 + 1) dX11_why_461 (by rfl) rfl ?_
                refine S_goto 464 407 dX11_why_464 (by decide) ?_
                exact S_drop [5] rfl (hg407 _ _)
              · skip
                refine S_aload_0 427 dX11_why_427 ?_
                refine S_getR 428 fsX11_28 rfl dX11_why_428 (fun w17 => ?_)
                refine S_aload_0 431 dX11_why_431 ?_
                refine S_getR 432 fsX11_23 rfl dX11_why_432 (fun w18 => ?_)
                refine S_iload_4 435 dX11_why_435 ?_
                refine S_iald 437 dX11_why_437 ?_
                refine S_aald 438 18 7 (by decide) rfl rfl dX11_why_438 (fun w19 => ?_)
                refine S_iload_5 439 dX11_why_439 ?_
                refine S_iald 441 dX11_why_441 ?_
                refine S_aload_0 442 dX11_why_442 ?_
                refine S_iload_4 443 dX11_why_443 ?_
                refine S_iload_5 445 dX11_why_445 ?_
                refine S_callV (a' := 0) (b' := 0) (a := 0) (b := 0) 447 (As := [.int s407.2, .int s421.2]) (ci := 21) rfl calX11_conjugate imX11_conjugate seX11_conjugate mkX11_37 rfl rfl rfl rfl rfl (by decide) rfl rfl dX11_why_447 (CX11_conjugate E t s407.2 s421.2 h16) (fun v20 h21 => kqI ?_)
                refine S_join (fun jj => ∀ (v22 : Int32) (h23 : XH), XS E mX11_why eI 0 0 455 [some (.ref t), some (.int v22), none, some (.int v4), some (.int s407.2), some (.int s421.2), none] [] h23 (jj v22 h23)) (fun v22 h23 => ?_) (fun j455 hj455 => ?_)
                · skip
                  refine S_iinc_5 455 (s421.2 + 1) dX11_why_455 (by rfl) rfl ?_
                  refine S_goto 458 421 dX11_why_458 (by decide) ?_
                  exact S_drop [] rfl (hg421 _ _)
                refine S_icmpeq 450 455 dX11_why_450 (by decide) ?_ ?_
                · skip
                  exact S_drop [] rfl (hj455 _ _)
                · skip
                  refine S_ic 453 5 dX11_why_453 (by decide) ?_
                  refine S_istore_1 454 dX11_why_454 rfl ?_
                  exact S_drop [] rfl (hj455 _ _)
        refine S_icmpge 325 404 dX11_why_325 (by decide) ?_ ?_
        · skip
          exact S_drop [2, 4] rfl (hj404 _)
        · skip
          refine S_iload_1 328 dX11_why_328 ?_
          refine S_ic 329 4 dX11_why_329 (by decide) ?_
          refine S_icmple 330 404 dX11_why_330 (by decide) ?_ ?_
          · skip
            exact S_drop [2, 4] rfl (hj404 _)
          · skip
            refine S_ic 333 0 dX11_why_333 (by decide) ?_
            refine S_istore_5 334 dX11_why_334 rfl ?_
            refine S_loop (fun (s336 : Int32 × Int32) => [some (.ref t), some (.int s336.1), some (.int v2), some (.int v4), some (.int s322.2), some (.int s336.2), none]) (fun again336 hg336 s336 h24 => ?_) xfu _ _
            refine S_iload_5 336 dX11_why_336 ?_
            refine S_iload_3 338 dX11_why_338 ?_
            refine S_icmpge 339 398 dX11_why_339 (by decide) ?_ ?_
            · skip
              refine S_iinc_4 398 (s322.2 + 1) dX11_why_398 (by rfl) rfl ?_
              refine S_goto 401 322 dX11_why_401 (by decide) ?_
              exact S_drop [5] rfl (hg322 _ _)
            · skip
              refine S_aload_0 342 dX11_why_342 ?_
              refine S_getR 343 fsX11_23 rfl dX11_why_343 (fun w25 => ?_)
              refine S_aload_0 346 dX11_why_346 ?_
              refine S_getR 347 fsX11_28 rfl dX11_why_347 (fun w26 => ?_)
              refine S_iload_4 350 dX11_why_350 ?_
              refine S_aald 352 18 7 (by decide) rfl rfl dX11_why_352 (fun w27 => ?_)
              refine S_iload_5 353 dX11_why_353 ?_
              refine S_iald 355 dX11_why_355 ?_
              refine S_iald 356 dX11_why_356 ?_
              refine S_aload_0 357 dX11_why_357 ?_
              refine S_getR 358 fsX11_20 rfl dX11_why_358 (fun w28 => ?_)
              refine S_aload_0 361 dX11_why_361 ?_
              refine S_getR 362 fsX11_20 rfl dX11_why_362 (fun w29 => ?_)
              refine S_iload_4 365 dX11_why_365 ?_
              refine S_aald 367 18 7 (by decide) rfl rfl dX11_why_367 (fun w30 => ?_)
              refine S_aload_0 368 dX11_why_368 ?_
              refine S_getR 369 fsX11_23 rfl dX11_why_369 (fun w31 => ?_)
              refine S_iload_5 372 dX11_why_372 ?_
              refine S_iald 374 dX11_why_374 ?_
              refine S_iald 375 dX11_why_375 ?_
              refine S_aald 376 18 7 (by decide) rfl rfl dX11_why_376 (fun w32 => ?_)
              refine S_aload_0 377 dX11_why_377 ?_
              refine S_getR 378 fsX11_20 rfl dX11_why_378 (fun w33 => ?_)
              refine S_iload_4 381 dX11_why_381 ?_
              refine S_callSN (a' := 0) (b' := 0) (a := 0) (b := 0) 383 (As := [.ref w33, .int s322.2]) rfl calL_inverse stL_inverse (List.mem_of_getElem? (i := 20) rfl) rfl rfl rfl rfl rfl dX11_why_383 (CL_inverse E w33 s322.2 h24) (fun v34 h35 => kqI ?_)
              refine S_iald 386 dX11_why_386 ?_
              refine S_join (fun jj => ∀ (v36 : Int32) (h37 : XH), XS E mX11_why eI 0 0 392 [some (.ref t), some (.int v36), some (.int v2), some (.int v4), some (.int s322.2), some (.int s336.2), none] [] h37 (jj v36 h37)) (fun v36 h37 => ?_) (fun j392 hj392 => ?_)
              · skip
                refine S_iinc_5 392 (s336.2 + 1) dX11_why_392 (by rfl) rfl ?_
                refine S_goto 395 336 dX11_why_395 (by decide) ?_
                exact S_drop [] rfl (hg336 _ _)
              refine S_icmpeq 387 392 dX11_why_387 (by decide) ?_ ?_
              · skip
                exact S_drop [] rfl (hj392 _ _)
              · skip
                refine S_ic 390 4 dX11_why_390 (by decide) ?_
                refine S_istore_1 391 dX11_why_391 rfl ?_
                exact S_drop [] rfl (hj392 _ _)
      refine S_icmpge 220 319 dX11_why_220 (by decide) ?_ ?_
      · skip
        exact S_drop [4] rfl (hj319 _)
      · skip
        refine S_iload_1 223 dX11_why_223 ?_
        refine S_ic 224 3 dX11_why_224 (by decide) ?_
        refine S_icmple 225 319 dX11_why_225 (by decide) ?_ ?_
        · skip
          exact S_drop [4] rfl (hj319 _)
        · skip
          refine S_ic 228 0 dX11_why_228 (by decide) ?_
          refine S_istore_5 229 dX11_why_229 rfl ?_
          refine S_loop (fun (s231 : Int32 × Int32) => [some (.ref t), some (.int s231.1), some (.int v2), some (.int v4), some (.int s217.2), some (.int s231.2), none]) (fun again231 hg231 s231 h38 => ?_) xfu _ _
          refine S_iload_5 231 dX11_why_231 ?_
          refine S_iload_2 233 dX11_why_233 ?_
          refine S_icmpge 234 313 dX11_why_234 (by decide) ?_ ?_
          · skip
            refine S_iinc_4 313 (s217.2 + 1) dX11_why_313 (by rfl) rfl ?_
            refine S_goto 316 217 dX11_why_316 (by decide) ?_
            exact S_drop [5] rfl (hg217 _ _)
          · skip
            refine S_ic 237 0 dX11_why_237 (by decide) ?_
            refine S_istore_6 238 dX11_why_238 rfl ?_
            refine S_loop (fun (s240 : Int32 × Int32) => [some (.ref t), some (.int s240.1), some (.int v2), some (.int v4), some (.int s217.2), some (.int s231.2), some (.int s240.2)]) (fun again240 hg240 s240 h39 => ?_) xfu _ _
            refine S_iload_6 240 dX11_why_240 ?_
            refine S_iload_3 242 dX11_why_242 ?_
            refine S_icmpge 243 307 dX11_why_243 (by decide) ?_ ?_
            · skip
              refine S_iinc_5 307 (s231.2 + 1) dX11_why_307 (by rfl) rfl ?_
              refine S_goto 310 231 dX11_why_310 (by decide) ?_
              exact S_drop [6] rfl (hg231 _ _)
            · skip
              refine S_aload_0 246 dX11_why_246 ?_
              refine S_getR 247 fsX11_28 rfl dX11_why_247 (fun w40 => ?_)
              refine S_ic 250 0 dX11_why_250 (by decide) ?_
              refine S_aald 251 18 7 (by decide) rfl rfl dX11_why_251 (fun w41 => ?_)
              refine S_iload_6 252 dX11_why_252 ?_
              refine S_iald 254 dX11_why_254 ?_
              refine S_iload_6 255 dX11_why_255 ?_
              refine S_join (fun jj => ∀ (v42 : Int32) (h43 : XH), XS E mX11_why eI 0 0 301 [some (.ref t), some (.int v42), some (.int v2), some (.int v4), some (.int s217.2), some (.int s231.2), some (.int s240.2)] [] h43 (jj v42 h43)) (fun v42 h43 => ?_) (fun j301 hj301 => ?_)
              · skip
                refine S_iinc_6 301 (s240.2 + 1) dX11_why_301 (by rfl) rfl ?_
                refine S_goto 304 240 dX11_why_304 (by decide) ?_
                exact S_drop [] rfl (hg240 _ _)
              refine S_join (fun jj => ∀  (h44 : XH), XS E mX11_why eI 0 0 299 [some (.ref t), none, some (.int v2), some (.int v4), some (.int s217.2), some (.int s231.2), some (.int s240.2)] [] h44 (jj  h44)) (fun  h44 => ?_) (fun j299 hj299 => ?_)
              · skip
                refine S_ic 299 3 dX11_why_299 (by decide) ?_
                refine S_istore_1 300 dX11_why_300 rfl ?_
                exact S_drop [] rfl (hj301 _ _)
              refine S_icmpne 257 299 dX11_why_257 (by decide) ?_ ?_
              · skip
                exact S_drop [1] rfl (hj299 _)
              · skip
                refine S_aload_0 260 dX11_why_260 ?_
                refine S_getR 261 fsX11_28 rfl dX11_why_261 (fun w45 => ?_)
                refine S_aload_0 264 dX11_why_264 ?_
                refine S_getR 265 fsX11_20 rfl dX11_why_265 (fun w46 => ?_)
                refine S_iload_4 268 dX11_why_268 ?_
                refine S_aald 270 18 7 (by decide) rfl rfl dX11_why_270 (fun w47 => ?_)
                refine S_iload_5 271 dX11_why_271 ?_
                refine S_iald 273 dX11_why_273 ?_
                refine S_aald 274 18 7 (by decide) rfl rfl dX11_why_274 (fun w48 => ?_)
                refine S_iload_6 275 dX11_why_275 ?_
                refine S_iald 277 dX11_why_277 ?_
                refine S_aload_0 278 dX11_why_278 ?_
                refine S_getR 279 fsX11_28 rfl dX11_why_279 (fun w49 => ?_)
                refine S_iload_4 282 dX11_why_282 ?_
                refine S_aald 284 18 7 (by decide) rfl rfl dX11_why_284 (fun w50 => ?_)
                refine S_aload_0 285 dX11_why_285 ?_
                refine S_getR 286 fsX11_28 rfl dX11_why_286 (fun w51 => ?_)
                refine S_iload_5 289 dX11_why_289 ?_
                refine S_aald 291 18 7 (by decide) rfl rfl dX11_why_291 (fun w52 => ?_)
                refine S_iload_6 292 dX11_why_292 ?_
                refine S_iald 294 dX11_why_294 ?_
                refine S_iald 295 dX11_why_295 ?_
                refine S_icmpeq 296 301 dX11_why_296 (by decide) ?_ ?_
                · skip
                  exact S_drop [] rfl (hj301 _ _)
                · skip
                  exact S_drop [1] rfl (hj299 _)
    refine S_icmpge 91 214 dX11_why_91 (by decide) ?_ ?_
    · skip
      exact S_drop [4] rfl (hj214 _)
    · skip
      refine S_iload_1 94 dX11_why_94 ?_
      refine S_ic 95 2 dX11_why_95 (by decide) ?_
      refine S_icmple 96 214 dX11_why_96 (by decide) ?_ ?_
      · skip
        exact S_drop [4] rfl (hj214 _)
      · skip
        refine S_ic 99 0 dX11_why_99 (by decide) ?_
        refine S_istore_5 100 dX11_why_100 rfl ?_
        refine S_loop (fun (s102 : Int32 × Int32) => [some (.ref t), some (.int s102.1), some (.int v2), some (.int v4), some (.int s88.2), some (.int s102.2), none]) (fun again102 hg102 s102 h53 => ?_) xfu _ _
        refine S_iload_5 102 dX11_why_102 ?_
        refine S_iload_3 104 dX11_why_104 ?_
        refine S_icmpge 105 208 dX11_why_105 (by decide) ?_ ?_
        · skip
          refine S_iinc_4 208 (s88.2 + 1) dX11_why_208 (by rfl) rfl ?_
          refine S_goto 211 88 dX11_why_211 (by decide) ?_
          exact S_drop [5] rfl (hg88 _ _)
        · skip
          refine S_ic 108 0 dX11_why_108 (by decide) ?_
          refine S_istore_6 109 dX11_why_109 rfl ?_
          refine S_loop (fun (s111 : Int32 × Int32) => [some (.ref t), some (.int s111.1), some (.int v2), some (.int v4), some (.int s88.2), some (.int s102.2), some (.int s111.2)]) (fun again111 hg111 s111 h54 => ?_) xfu _ _
          refine S_iload_6 111 dX11_why_111 ?_
          refine S_iload_3 113 dX11_why_113 ?_
          refine S_icmpge 114 202 dX11_why_114 (by decide) ?_ ?_
          · skip
            refine S_iinc_5 202 (s102.2 + 1) dX11_why_202 (by rfl) rfl ?_
            refine S_goto 205 102 dX11_why_205 (by decide) ?_
            exact S_drop [6] rfl (hg102 _ _)
          · skip
            refine S_iload_5 117 dX11_why_117 ?_
            refine S_iload_6 119 dX11_why_119 ?_
            refine S_join (fun jj => ∀ (v55 : Int32) (h56 : XH), XS E mX11_why eI 0 0 196 [some (.ref t), some (.int v55), some (.int v2), some (.int v4), some (.int s88.2), some (.int s102.2), some (.int s111.2)] [] h56 (jj v55 h56)) (fun v55 h56 => ?_) (fun j196 hj196 => ?_)
            · skip
              refine S_iinc_6 196 (s111.2 + 1) dX11_why_196 (by rfl) rfl ?_
              refine S_goto 199 111 dX11_why_199 (by decide) ?_
              exact S_drop [] rfl (hg111 _ _)
            refine S_join (fun jj => ∀  (h57 : XH), XS E mX11_why eI 0 0 194 [some (.ref t), none, some (.int v2), some (.int v4), some (.int s88.2), some (.int s102.2), some (.int s111.2)] [] h57 (jj  h57)) (fun  h57 => ?_) (fun j194 hj194 => ?_)
            · skip
              refine S_ic 194 2 dX11_why_194 (by decide) ?_
              refine S_istore_1 195 dX11_why_195 rfl ?_
              exact S_drop [] rfl (hj196 _ _)
            refine S_join (fun jj => ∀  (h58 : XH), XS E mX11_why eI 0 0 147 [some (.ref t), some (.int s111.1), some (.int v2), some (.int v4), some (.int s88.2), some (.int s102.2), some (.int s111.2)] [] h58 (jj  h58)) (fun  h58 => ?_) (fun j147 hj147 => ?_)
            · skip
              refine S_aload_0 147 dX11_why_147 ?_
              refine S_getR 148 fsX11_28 rfl dX11_why_148 (fun w59 => ?_)
              refine S_iload_4 151 dX11_why_151 ?_
              refine S_aald 153 18 7 (by decide) rfl rfl dX11_why_153 (fun w60 => ?_)
              refine S_aload_0 154 dX11_why_154 ?_
              refine S_getR 155 fsX11_16 rfl dX11_why_155 (fun w61 => ?_)
              refine S_iload_5 158 dX11_why_158 ?_
              refine S_aald 160 18 7 (by decide) rfl rfl dX11_why_160 (fun w62 => ?_)
              refine S_iload_6 161 dX11_why_161 ?_
              refine S_iald 163 dX11_why_163 ?_
              refine S_iald 164 dX11_why_164 ?_
              refine S_aload_0 165 dX11_why_165 ?_
              refine S_getR 166 fsX11_16 rfl dX11_why_166 (fun w63 => ?_)
              refine S_aload_0 169 dX11_why_169 ?_
              refine S_getR 170 fsX11_28 rfl dX11_why_170 (fun w64 => ?_)
              refine S_iload_4 173 dX11_why_173 ?_
              refine S_aald 175 18 7 (by decide) rfl rfl dX11_why_175 (fun w65 => ?_)
              refine S_iload_5 176 dX11_why_176 ?_
              refine S_iald 178 dX11_why_178 ?_
              refine S_aald 179 18 7 (by decide) rfl rfl dX11_why_179 (fun w66 => ?_)
              refine S_aload_0 180 dX11_why_180 ?_
              refine S_getR 181 fsX11_28 rfl dX11_why_181 (fun w67 => ?_)
              refine S_iload_4 184 dX11_why_184 ?_
              refine S_aald 186 18 7 (by decide) rfl rfl dX11_why_186 (fun w68 => ?_)
              refine S_iload_6 187 dX11_why_187 ?_
              refine S_iald 189 dX11_why_189 ?_
              refine S_iald 190 dX11_why_190 ?_
              refine S_icmpeq 191 196 dX11_why_191 (by decide) ?_ ?_
              · skip
                exact S_drop [] rfl (hj196 _ _)
              · skip
                exact S_drop [1] rfl (hj194 _)
            refine S_icmpeq 121 147 dX11_why_121 (by decide) ?_ ?_
            · skip
              exact S_drop [] rfl (hj147 _)
            · skip
              refine S_aload_0 124 dX11_why_124 ?_
              refine S_getR 125 fsX11_28 rfl dX11_why_125 (fun w69 => ?_)
              refine S_iload_4 128 dX11_why_128 ?_
              refine S_aald 130 18 7 (by decide) rfl rfl dX11_why_130 (fun w70 => ?_)
              refine S_iload_5 131 dX11_why_131 ?_
              refine S_iald 133 dX11_why_133 ?_
              refine S_aload_0 134 dX11_why_134 ?_
              refine S_getR 135 fsX11_28 rfl dX11_why_135 (fun w71 => ?_)
              refine S_iload_4 138 dX11_why_138 ?_
              refine S_aald 140 18 7 (by decide) rfl rfl dX11_why_140 (fun w72 => ?_)
              refine S_iload_6 141 dX11_why_141 ?_
              refine S_iald 143 dX11_why_143 ?_
              refine S_icmpeq 144 194 dX11_why_144 (by decide) ?_ ?_
              · skip
                exact S_drop [1] rfl (hj194 _)
              · skip
                exact S_drop [] rfl (hj147 _)
  · skip
    refine S_ic 24 0 dX11_why_24 (by decide) ?_
    refine S_istore_5 25 dX11_why_25 rfl ?_
    refine S_loop (fun (s27 : Int32 × Int32) => [some (.ref t), some (.int s27.1), some (.int v2), some (.int v4), some (.int s18.2), some (.int s27.2), none]) (fun again27 hg27 s27 h73 => ?_) xfu _ _
    refine S_iload_5 27 dX11_why_27 ?_
    refine S_iload_3 29 dX11_why_29 ?_
    refine S_icmpge 30 79 dX11_why_30 (by decide) ?_ ?_
    · skip
      refine S_iinc_4 79 (s18.2 + 1) dX11_why_79 (by rfl) rfl ?_
      refine S_goto 82 18 dX11_why_82 (by decide) ?_
      exact S_drop [5] rfl (hg18 _ _)
    · skip
      refine S_aload_0 33 dX11_why_33 ?_
      refine S_getR 34 fsX11_23 rfl dX11_why_34 (fun w74 => ?_)
      refine S_aload_0 37 dX11_why_37 ?_
      refine S_getR 38 fsX11_16 rfl dX11_why_38 (fun w75 => ?_)
      refine S_iload_4 41 dX11_why_41 ?_
      refine S_aald 43 18 7 (by decide) rfl rfl dX11_why_43 (fun w76 => ?_)
      refine S_iload_5 44 dX11_why_44 ?_
      refine S_iald 46 dX11_why_46 ?_
      refine S_iald 47 dX11_why_47 ?_
      refine S_aload_0 48 dX11_why_48 ?_
      refine S_getR 49 fsX11_20 rfl dX11_why_49 (fun w77 => ?_)
      refine S_aload_0 52 dX11_why_52 ?_
      refine S_getR 53 fsX11_23 rfl dX11_why_53 (fun w78 => ?_)
      refine S_iload_4 56 dX11_why_56 ?_
      refine S_iald 58 dX11_why_58 ?_
      refine S_aald 59 18 7 (by decide) rfl rfl dX11_why_59 (fun w79 => ?_)
      refine S_aload_0 60 dX11_why_60 ?_
      refine S_getR 61 fsX11_23 rfl dX11_why_61 (fun w80 => ?_)
      refine S_iload_5 64 dX11_why_64 ?_
      refine S_iald 66 dX11_why_66 ?_
      refine S_iald 67 dX11_why_67 ?_
      refine S_join (fun jj => ∀ (v81 : Int32) (h82 : XH), XS E mX11_why eI 0 0 73 [some (.ref t), some (.int v81), some (.int v2), some (.int v4), some (.int s18.2), some (.int s27.2), none] [] h82 (jj v81 h82)) (fun v81 h82 => ?_) (fun j73 hj73 => ?_)
      · skip
        refine S_iinc_5 73 (s27.2 + 1) dX11_why_73 (by rfl) rfl ?_
        refine S_goto 76 27 dX11_why_76 (by decide) ?_
        exact S_drop [] rfl (hg27 _ _)
      refine S_icmpeq 68 73 dX11_why_68 (by decide) ?_ ?_
      · skip
        exact S_drop [] rfl (hj73 _ _)
      · skip
        refine S_ic 71 1 dX11_why_71 (by decide) ?_
        refine S_istore_1 72 dX11_why_72 rfl ?_
        exact S_drop [] rfl (hj73 _ _)
def FX11_kernel (E : XG) (t : Nat) (h : XH) : XP Int32 := xlp (fun again4 (s4 : Int32 × Int32) h1 => xg (xk h1 t = 22) <| xnn (xr h1 t 2) fun w2 => xg (xk h1 w2 = 18) <| if ((Int32.ofNat (xn h1 w2)) : Int32) ≤ s4.2 then (xv s4.1 h1) else (xg (xk h1 t = 22) <| xnn (xr h1 t 5) fun w3 => xg (xk h1 w3 = 12 ∧ xin s4.2 (xn h1 w3)) <| xjn (fun (v4 : Int32) (h5 : XH) => xlt (s4.1 ||| v4) fun v6 => again4 (v6, (s4.2 + 1)) h5) fun (j30 : Int32 → XH → XP Int32) => if ((xi h1 w3 (s4.2 : Int32).toNatClampNeg) : Int32) = 0 then (j30 (1 <<< (s4.2 &&& 31)) h1) else (j30 0 h1))) xfu (0, 0) h
theorem CX11_kernel (E : XG) (t : Nat) (h : XH) : XN E mX11_kernel eI 0 0 [.ref t] h (FX11_kernel E t h) := by
  unfold FX11_kernel
  refine S_enter (L := [some (.ref t), none, none]) (by decide +kernel) rfl rfl rfl ?_
  refine S_ic 0 0 dX11_kernel_0 (by decide) ?_
  refine S_istore_1 1 dX11_kernel_1 rfl ?_
  refine S_ic 2 0 dX11_kernel_2 (by decide) ?_
  refine S_istore_2 3 dX11_kernel_3 rfl ?_
  refine S_loop (fun (s4 : Int32 × Int32) => [some (.ref t), some (.int s4.1), some (.int s4.2)]) (fun again4 hg4 s4 h1 => ?_) xfu _ _
  refine S_iload_2 4 dX11_kernel_4 ?_
  refine S_aload_0 5 dX11_kernel_5 ?_
  refine S_getR 6 fsX11_16 rfl dX11_kernel_6 (fun w2 => ?_)
  refine S_alen 9 18 7 (by decide) rfl dX11_kernel_9 ?_
  refine S_icmpge 10 38 dX11_kernel_10 (by decide) ?_ ?_
  · skip
    refine S_iload_1 38 dX11_kernel_38 ?_
    exact S_iret 39 dX11_kernel_39 rfl
  · skip
    refine S_iload_1 13 dX11_kernel_13 ?_
    refine S_aload_0 14 dX11_kernel_14 ?_
    refine S_getR 15 fsX11_23 rfl dX11_kernel_15 (fun w3 => ?_)
    refine S_iload_2 18 dX11_kernel_18 ?_
    refine S_iald 19 dX11_kernel_19 ?_
    refine S_join (fun jj => ∀ (v4 : Int32) (h5 : XH), XS E mX11_kernel eI 0 0 30 [some (.ref t), none, some (.int s4.2)] [.int v4, .int s4.1] h5 (jj v4 h5)) (fun v4 h5 => ?_) (fun j30 hj30 => ?_)
    · skip
      refine S_ior 30 dX11_kernel_30 ?_
      refine S_gen (fun v6 => ?_)
      refine S_istore_1 31 dX11_kernel_31 rfl ?_
      refine S_iinc_2 32 (s4.2 + 1) dX11_kernel_32 (by rfl) rfl ?_
      refine S_goto 35 4 dX11_kernel_35 (by decide) ?_
      exact S_drop [] rfl (hg4 _ _)
    refine S_ifne 20 29 dX11_kernel_20 (by decide) ?_ ?_
    · skip
      refine S_ic 29 0 dX11_kernel_29 (by decide) ?_
      exact S_drop [1] rfl (hj30 _ _)
    · skip
      refine S_ic 23 1 dX11_kernel_23 (by decide) ?_
      refine S_iload_2 24 dX11_kernel_24 ?_
      refine S_ishl 25 dX11_kernel_25 ?_
      refine S_goto 26 30 dX11_kernel_26 (by decide) ?_
      exact S_drop [1] rfl (hj30 _ _)
def FX11_image (E : XG) (t : Nat) (h : XH) : XP Int32 := xg (xk h t = 22) <| xnn (xr h t 5) fun w1 => xg (xk h w1 = 12) <| xlt (Int32.ofNat (xn h w1)) fun v2 => xlp (fun again13 (s13 : Int32 × Int32) h3 => if (v2 : Int32) ≤ s13.2 then (xv s13.1 h3) else (xg (xk h3 w1 = 12 ∧ xin s13.2 (xn h3 w1)) <| xlt (xi h3 w1 (s13.2 : Int32).toNatClampNeg) fun v4 => xlt (s13.1 ||| (1 <<< (v4 &&& 31))) fun v5 => again13 (v5, (s13.2 + 1)) h3)) xfu (0, 0) h
theorem CX11_image (E : XG) (t : Nat) (h : XH) : XN E mX11_image eI 0 0 [.ref t] h (FX11_image E t h) := by
  unfold FX11_image
  refine S_enter (L := [some (.ref t), none, none, none, none, none]) (by decide +kernel) rfl rfl rfl ?_
  refine S_ic 0 0 dX11_image_0 (by decide) ?_
  refine S_istore_1 1 dX11_image_1 rfl ?_
  refine S_aload_0 2 dX11_image_2 ?_
  refine S_getR 3 fsX11_23 rfl dX11_image_3 (fun w1 => ?_)
  refine S_astore_2 6 dX11_image_6 rfl ?_
  refine S_aload_2 7 dX11_image_7 ?_
  refine S_alen 8 12 1 (by decide) rfl dX11_image_8 ?_
  refine S_gen (fun v2 => ?_)
  refine S_istore_3 9 dX11_image_9 rfl ?_
  refine S_ic 10 0 dX11_image_10 (by decide) ?_
  refine S_istore_4 11 dX11_image_11 rfl ?_
  refine S_drop [0] rfl ?_
  refine S_loop (fun (s13 : Int32 × Int32) => [none, some (.int s13.1), some (.ref w1), some (.int v2), some (.int s13.2), none]) (fun again13 hg13 s13 h3 => ?_) xfu _ _
  refine S_iload_4 13 dX11_image_13 ?_
  refine S_iload_3 15 dX11_image_15 ?_
  refine S_icmpge 16 38 dX11_image_16 (by decide) ?_ ?_
  · skip
    refine S_iload_1 38 dX11_image_38 ?_
    exact S_iret 39 dX11_image_39 rfl
  · skip
    refine S_aload_2 19 dX11_image_19 ?_
    refine S_iload_4 20 dX11_image_20 ?_
    refine S_iald 22 dX11_image_22 ?_
    refine S_gen (fun v4 => ?_)
    refine S_istore_5 23 dX11_image_23 rfl ?_
    refine S_iload_1 25 dX11_image_25 ?_
    refine S_ic 26 1 dX11_image_26 (by decide) ?_
    refine S_iload_5 27 dX11_image_27 ?_
    refine S_ishl 29 dX11_image_29 ?_
    refine S_ior 30 dX11_image_30 ?_
    refine S_gen (fun v5 => ?_)
    refine S_istore_1 31 dX11_image_31 rfl ?_
    refine S_iinc_4 32 (s13.2 + 1) dX11_image_32 (by rfl) rfl ?_
    refine S_goto 35 13 dX11_image_35 (by decide) ?_
    exact S_drop [5] rfl (hg13 _ _)
def FX11_classes (E : XG) (t : Nat) (h : XH) : XP Nat := xg (xk h t = 22) <| xnn (xr h t 3) fun w1 => xg (xk h w1 = 18) <| xg ((0 : Int32) ≤ (Int32.ofNat (xn h w1)) ∧ ((Int32.ofNat (xn h w1)) : Int32).toNatClampNeg ≤ 60000000) <| xal h 12 ((Int32.ofNat (xn h w1)) : Int32).toNatClampNeg fun w2 h3 => xlp (fun again12 (s12 : Int32 × Int32) h4 => xg (xk h4 w2 = 12) <| if ((Int32.ofNat (xn h4 w2)) : Int32) ≤ s12.2 then (xv w2 h4) else (xg (xk h4 w2 = 12 ∧ xin s12.2 (xn h4 w2)) <| xlt (yi h4 w2 (s12.2 : Int32).toNatClampNeg (-1)) fun h5 => xlp (fun again25 (s25 : Int32) h6 => xjn (fun  (h7 : XH) => xg (xk h7 w2 = 12 ∧ xin s12.2 (xn h7 w2)) <| xjn (fun (v8 : Int32) (h9 : XH) => again12 (v8, (s12.2 + 1)) h9) fun (j93 : Int32 → XH → XP Nat) => if ((xi h7 w2 (s12.2 : Int32).toNatClampNeg) : Int32) < 0 then (xg (xk h7 w2 = 12 ∧ xin s12.2 (xn h7 w2)) <| xlt (yi h7 w2 (s12.2 : Int32).toNatClampNeg s12.1) fun h10 => j93 (s12.1 + 1) h10) else (j93 s12.1 h7)) fun (j77 : XH → XP Nat) => if (s12.2 : Int32) ≤ s25 then (j77 h6) else (xg (xk h6 w2 = 12 ∧ xin s12.2 (xn h6 w2)) <| if (0 : Int32) ≤ (xi h6 w2 (s12.2 : Int32).toNatClampNeg) then (j77 h6) else (xg (xk h6 t = 22) <| xb (FX11_image E t  h6) fun v11 h12 => xg (xk h12 t = 22) <| xnn (xr h12 t 3) fun w13 => xg (xk h12 t = 22) <| xnn (xr h12 t 3) fun w14 => xb (FL_inverse E w14 s25 h12) fun v15 h16 => xg (xk h16 w13 = 18 ∧ xin v15 (xn h16 w13)) <| xnn (xr h16 w13 (v15 : Int32).toNatClampNeg) fun w17 => xg (xk h16 w17 = 12 ∧ xin s12.2 (xn h16 w17)) <| xjn (fun  (h18 : XH) => again25 (s25 + 1) h18) fun (j71 : XH → XP Nat) => if (((v11 >>> ((xi h16 w17 (s12.2 : Int32).toNatClampNeg) &&& 31)) &&& 1) : Int32) = 1 then (xg (xk h16 w2 = 12 ∧ xin s25 (xn h16 w2)) <| xg (xk h16 w2 = 12 ∧ xin s12.2 (xn h16 w2)) <| xlt (yi h16 w2 (s12.2 : Int32).toNatClampNeg (xi h16 w2 (s25 : Int32).toNatClampNeg)) fun h19 => j71 h19) else (j71 h16)))) xfu 0 h5)) xfu (0, 0) h3
theorem CX11_classes (E : XG) (t : Nat) (h : XH) : XN E mX11_classes eR 1 0 [.ref t] h (FX11_classes E t h) := by
  unfold FX11_classes
  refine S_enter (L := [some (.ref t), none, none, none, none]) (by decide +kernel) rfl rfl rfl ?_
  refine S_aload_0 0 dX11_classes_0 ?_
  refine S_getR 1 fsX11_20 rfl dX11_classes_1 (fun w1 => ?_)
  refine S_alen 4 18 7 (by decide) rfl dX11_classes_4 ?_
  refine S_newG_int 5 ar12 dX11_classes_5 (fun w2 h3 => ?_)
  refine S_astore_1 7 dX11_classes_7 rfl ?_
  refine S_ic 8 0 dX11_classes_8 (by decide) ?_
  refine S_istore_2 9 dX11_classes_9 rfl ?_
  refine S_ic 10 0 dX11_classes_10 (by decide) ?_
  refine S_istore_3 11 dX11_classes_11 rfl ?_
  refine S_loop (fun (s12 : Int32 × Int32) => [some (.ref t), some (.ref w2), some (.int s12.1), some (.int s12.2), none]) (fun again12 hg12 s12 h4 => ?_) xfu _ _
  refine S_iload_3 12 dX11_classes_12 ?_
  refine S_aload_1 13 dX11_classes_13 ?_
  refine S_alen 14 12 1 (by decide) rfl dX11_classes_14 ?_
  refine S_icmpge 15 99 dX11_classes_15 (by decide) ?_ ?_
  · skip
    refine S_aload_1 99 dX11_classes_99 ?_
    exact S_areta 100 dX11_classes_100 rfl
  · skip
    refine S_aload_1 18 dX11_classes_18 ?_
    refine S_iload_3 19 dX11_classes_19 ?_
    refine S_ic 20 (-1) dX11_classes_20 (by decide) ?_
    refine S_iast 21 dX11_classes_21 (fun h5 => ?_)
    refine S_ic 22 0 dX11_classes_22 (by decide) ?_
    refine S_istore_4 23 dX11_classes_23 rfl ?_
    refine S_loop (fun (s25 : Int32) => [some (.ref t), some (.ref w2), some (.int s12.1), some (.int s12.2), some (.int s25)]) (fun again25 hg25 s25 h6 => ?_) xfu _ _
    refine S_iload_4 25 dX11_classes_25 ?_
    refine S_iload_3 27 dX11_classes_27 ?_
    refine S_join (fun jj => ∀  (h7 : XH), XS E mX11_classes eR 0 0 77 [some (.ref t), some (.ref w2), some (.int s12.1), some (.int s12.2), none] [] h7 (jj  h7)) (fun  h7 => ?_) (fun j77 hj77 => ?_)
    · skip
      refine S_aload_1 77 dX11_classes_77 ?_
      refine S_iload_3 78 dX11_classes_78 ?_
      refine S_iald 79 dX11_classes_79 ?_
      refine S_join (fun jj => ∀ (v8 : Int32) (h9 : XH), XS E mX11_classes eR 0 0 93 [some (.ref t), some (.ref w2), some (.int v8), some (.int s12.2), none] [] h9 (jj v8 h9)) (fun v8 h9 => ?_) (fun j93 hj93 => ?_)
      · skip
        refine S_iinc_3 93 (s12.2 + 1) dX11_classes_93 (by rfl) rfl ?_
        refine S_goto 96 12 dX11_classes_96 (by decide) ?_
        exact S_drop [] rfl (hg12 _ _)
      refine S_iflt 80 86 dX11_classes_80 (by decide) ?_ ?_
      · skip
        refine S_aload_1 86 dX11_classes_86 ?_
        refine S_iload_3 87 dX11_classes_87 ?_
        refine S_iload_2 88 dX11_classes_88 ?_
        refine S_iast 89 dX11_classes_89 (fun h10 => ?_)
        refine S_iinc_2 90 (s12.1 + 1) dX11_classes_90 (by rfl) rfl ?_
        exact S_drop [] rfl (hj93 _ _)
      · skip
        refine S_goto 83 93 dX11_classes_83 (by decide) ?_
        exact S_drop [] rfl (hj93 _ _)
    refine S_icmpge 28 77 dX11_classes_28 (by decide) ?_ ?_
    · skip
      exact S_drop [4] rfl (hj77 _)
    · skip
      refine S_aload_1 31 dX11_classes_31 ?_
      refine S_iload_3 32 dX11_classes_32 ?_
      refine S_iald 33 dX11_classes_33 ?_
      refine S_ifge 34 77 dX11_classes_34 (by decide) ?_ ?_
      · skip
        exact S_drop [4] rfl (hj77 _)
      · skip
        refine S_aload_0 37 dX11_classes_37 ?_
        refine S_callV (a' := 0) (b' := 0) (a := 0) (b := 0) 38 (As := []) (ci := 21) rfl calX11_image imX11_image seX11_image mkX11_41 rfl rfl rfl rfl rfl (by decide) rfl rfl dX11_classes_38 (CX11_image E t  h6) (fun v11 h12 => kqI ?_)
        refine S_aload_0 41 dX11_classes_41 ?_
        refine S_getR 42 fsX11_20 rfl dX11_classes_42 (fun w13 => ?_)
        refine S_aload_0 45 dX11_classes_45 ?_
        refine S_getR 46 fsX11_20 rfl dX11_classes_46 (fun w14 => ?_)
        refine S_iload_4 49 dX11_classes_49 ?_
        refine S_callSN (a' := 0) (b' := 0) (a := 0) (b := 0) 51 (As := [.ref w14, .int s25]) rfl calL_inverse stL_inverse (List.mem_of_getElem? (i := 20) rfl) rfl rfl rfl rfl rfl dX11_classes_51 (CL_inverse E w14 s25 h12) (fun v15 h16 => kqI ?_)
        refine S_aald 54 18 7 (by decide) rfl rfl dX11_classes_54 (fun w17 => ?_)
        refine S_iload_3 55 dX11_classes_55 ?_
        refine S_iald 56 dX11_classes_56 ?_
        refine S_ishr 57 dX11_classes_57 ?_
        refine S_ic 58 1 dX11_classes_58 (by decide) ?_
        refine S_iand 59 dX11_classes_59 ?_
        refine S_ic 60 1 dX11_classes_60 (by decide) ?_
        refine S_join (fun jj => ∀  (h18 : XH), XS E mX11_classes eR 0 0 71 [some (.ref t), some (.ref w2), some (.int s12.1), some (.int s12.2), some (.int s25)] [] h18 (jj  h18)) (fun  h18 => ?_) (fun j71 hj71 => ?_)
        · skip
          refine S_iinc_4 71 (s25 + 1) dX11_classes_71 (by rfl) rfl ?_
          refine S_goto 74 25 dX11_classes_74 (by decide) ?_
          exact S_drop [] rfl (hg25 _ _)
        refine S_icmpne 61 71 dX11_classes_61 (by decide) ?_ ?_
        · skip
          exact S_drop [] rfl (hj71 _)
        · skip
          refine S_aload_1 64 dX11_classes_64 ?_
          refine S_iload_3 65 dX11_classes_65 ?_
          refine S_aload_1 66 dX11_classes_66 ?_
          refine S_iload_4 67 dX11_classes_67 ?_
          refine S_iald 69 dX11_classes_69 ?_
          refine S_iast 70 dX11_classes_70 (fun h19 => ?_)
          exact S_drop [] rfl (hj71 _)
def FX11_leastOf (E : XG) (t : Nat) (p1 : Int32) (h : XH) : XP Int32 := xg (xk h t = 22) <| xb (FX11_classes E t  h) fun v1 h2 => xlp (fun again7 (s7 : Int32) h3 => xg (xk h3 v1 = 12) <| xjn (fun  (h4 : XH) => xv s7 h4) fun (j26 : XH → XP Int32) => if ((Int32.ofNat (xn h3 v1)) : Int32) ≤ s7 then (j26 h3) else (xg (xk h3 v1 = 12 ∧ xin s7 (xn h3 v1)) <| if ((xi h3 v1 (s7 : Int32).toNatClampNeg) : Int32) = p1 then (j26 h3) else (again7 (s7 + 1) h3))) xfu 0 h2
theorem CX11_leastOf (E : XG) (t : Nat) (p1 : Int32) (h : XH) : XN E mX11_leastOf eI 1 0 [.ref t, .int p1] h (FX11_leastOf E t p1 h) := by
  unfold FX11_leastOf
  refine S_enter (L := [some (.ref t), some (.int p1), none, none]) (by decide +kernel) rfl rfl rfl ?_
  refine S_aload_0 0 dX11_leastOf_0 ?_
  refine S_callV (a' := 1) (b' := 0) (a := 0) (b := 0) 1 (As := []) (ci := 21) rfl calX11_classes imX11_classes seX11_classes mkX11_45 rfl rfl rfl rfl rfl (by decide) rfl rfl dX11_leastOf_1 (CX11_classes E t  h) (fun v1 h2 => kqR ?_)
  refine S_astore_2 4 dX11_leastOf_4 rfl ?_
  refine S_ic 5 0 dX11_leastOf_5 (by decide) ?_
  refine S_istore_3 6 dX11_leastOf_6 rfl ?_
  refine S_drop [0] rfl ?_
  refine S_loop (fun (s7 : Int32) => [none, some (.int p1), some (.ref v1), some (.int s7)]) (fun again7 hg7 s7 h3 => ?_) xfu _ _
  refine S_iload_3 7 dX11_leastOf_7 ?_
  refine S_aload_2 8 dX11_leastOf_8 ?_
  refine S_alen 9 12 1 (by decide) rfl dX11_leastOf_9 ?_
  refine S_join (fun jj => ∀  (h4 : XH), XS E mX11_leastOf eI 0 0 26 [none, none, none, some (.int s7)] [] h4 (jj  h4)) (fun  h4 => ?_) (fun j26 hj26 => ?_)
  · skip
    refine S_iload_3 26 dX11_leastOf_26 ?_
    exact S_iret 27 dX11_leastOf_27 rfl
  refine S_icmpge 10 26 dX11_leastOf_10 (by decide) ?_ ?_
  · skip
    exact S_drop [1, 2] rfl (hj26 _)
  · skip
    refine S_aload_2 13 dX11_leastOf_13 ?_
    refine S_iload_3 14 dX11_leastOf_14 ?_
    refine S_iald 15 dX11_leastOf_15 ?_
    refine S_iload_1 16 dX11_leastOf_16 ?_
    refine S_icmpeq 17 26 dX11_leastOf_17 (by decide) ?_ ?_
    · skip
      exact S_drop [1, 2] rfl (hj26 _)
    · skip
      refine S_iinc_3 20 (s7 + 1) dX11_leastOf_20 (by rfl) rfl ?_
      refine S_goto 23 7 dX11_leastOf_23 (by decide) ?_
      exact S_drop [] rfl (hg7 _ _)
def FJ9_max_7cf53 (E : XG) (p1 : Int32) (p2 : Int32) (h : XH) : XP Int32 := xjn (fun (v1 : Int32) (h2 : XH) => xv v1 h2) fun (j10 : Int32 → XH → XP Int32) => if (p1 : Int32) < p2 then (j10 p2 h) else (j10 p1 h)
theorem CJ9_max_7cf53 (E : XG) (p1 : Int32) (p2 : Int32) (h : XH) : XN E mJ9_max_7cf53 eI 0 0 [.int p1, .int p2] h (FJ9_max_7cf53 E p1 p2 h) := by
  unfold FJ9_max_7cf53
  refine S_enterF (L := [some (.int p1), some (.int p2)]) (by decide +kernel) rfl rfl rfl ?_
  refine S_iload_0 0 dJ9_max_7cf53_0 ?_
  refine S_iload_1 1 dJ9_max_7cf53_1 ?_
  refine S_join (fun jj => ∀ (v1 : Int32) (h2 : XH), XS E mJ9_max_7cf53 eI 0 0 10 [none, none] [.int v1] h2 (jj v1 h2)) (fun v1 h2 => ?_) (fun j10 hj10 => ?_)
  · skip
    exact S_iret 10 dJ9_max_7cf53_10 rfl
  refine S_icmplt 2 9 dJ9_max_7cf53_2 (by decide) ?_ ?_
  · skip
    refine S_iload_1 9 dJ9_max_7cf53_9 ?_
    exact S_drop [0, 1] rfl (hj10 _ _)
  · skip
    refine S_iload_0 5 dJ9_max_7cf53_5 ?_
    refine S_goto 6 10 dJ9_max_7cf53_6 (by decide) ?_
    exact S_drop [0, 1] rfl (hj10 _ _)
def FX11_many (E : XG) (t : Nat) (h : XH) : XP Int32 := xg (xk h t = 22) <| xb (FX11_classes E t  h) fun v1 h2 => xg (xk h2 v1 = 12) <| xlt (Int32.ofNat (xn h2 v1)) fun v3 => xlp (fun again13 (s13 : Int32 × Int32) h4 => if (v3 : Int32) ≤ s13.2 then (xv s13.1 h4) else (xg (xk h4 v1 = 12 ∧ xin s13.2 (xn h4 v1)) <| xlt (xi h4 v1 (s13.2 : Int32).toNatClampNeg) fun v5 => xb (FJ9_max_7cf53 E s13.1 (v5 + 1) h4) fun v6 h7 => again13 (v6, (s13.2 + 1)) h7)) xfu (0, 0) h2
theorem CX11_many (E : XG) (t : Nat) (h : XH) : XN E mX11_many eI 1 0 [.ref t] h (FX11_many E t h) := by
  unfold FX11_many
  refine S_enter (L := [some (.ref t), none, none, none, none, none]) (by decide +kernel) rfl rfl rfl ?_
  refine S_ic 0 0 dX11_many_0 (by decide) ?_
  refine S_istore_1 1 dX11_many_1 rfl ?_
  refine S_aload_0 2 dX11_many_2 ?_
  refine S_callV (a' := 1) (b' := 0) (a := 0) (b := 0) 3 (As := []) (ci := 21) rfl calX11_classes imX11_classes seX11_classes mkX11_45 rfl rfl rfl rfl rfl (by decide) rfl rfl dX11_many_3 (CX11_classes E t  h) (fun v1 h2 => kqR ?_)
  refine S_astore_2 6 dX11_many_6 rfl ?_
  refine S_aload_2 7 dX11_many_7 ?_
  refine S_alen 8 12 1 (by decide) rfl dX11_many_8 ?_
  refine S_gen (fun v3 => ?_)
  refine S_istore_3 9 dX11_many_9 rfl ?_
  refine S_ic 10 0 dX11_many_10 (by decide) ?_
  refine S_istore_4 11 dX11_many_11 rfl ?_
  refine S_drop [0] rfl ?_
  refine S_loop (fun (s13 : Int32 × Int32) => [none, some (.int s13.1), some (.ref v1), some (.int v3), some (.int s13.2), none]) (fun again13 hg13 s13 h4 => ?_) xfu _ _
  refine S_iload_4 13 dX11_many_13 ?_
  refine S_iload_3 15 dX11_many_15 ?_
  refine S_icmpge 16 40 dX11_many_16 (by decide) ?_ ?_
  · skip
    refine S_iload_1 40 dX11_many_40 ?_
    exact S_iret 41 dX11_many_41 rfl
  · skip
    refine S_aload_2 19 dX11_many_19 ?_
    refine S_iload_4 20 dX11_many_20 ?_
    refine S_iald 22 dX11_many_22 ?_
    refine S_gen (fun v5 => ?_)
    refine S_istore_5 23 dX11_many_23 rfl ?_
    refine S_iload_1 25 dX11_many_25 ?_
    refine S_iload_5 26 dX11_many_26 ?_
    refine S_ic 28 1 dX11_many_28 (by decide) ?_
    refine S_iadd 29 dX11_many_29 ?_
    refine S_callS (a' := 0) (b' := 0) (a := 0) (b := 0) 30 (As := [.int s13.1, .int (v5 + 1)]) rfl calJ9_max_7cf53 stJ9_max_7cf53 mkX11_49 rfl rfl rfl rfl rfl dX11_many_30 (CJ9_max_7cf53 E s13.1 (v5 + 1) h4) (fun v6 h7 => kqI ?_)
    refine S_istore_1 33 dX11_many_33 rfl ?_
    refine S_iinc_4 34 (s13.2 + 1) dX11_many_34 (by rfl) rfl ?_
    refine S_goto 37 13 dX11_many_37 (by decide) ?_
    exact S_drop [5] rfl (hg13 _ _)
def FL_order (E : XG) (p1 : Nat) (p2 : Int32) (h : XH) : XP Int32 := xlp (fun again4 (s4 : Int32 × Int32) h1 => if (s4.2 : Int32) = 0 then (xv s4.1 h1) else (xg (xk h1 p1 = 18 ∧ xin s4.2 (xn h1 p1)) <| xnn (xr h1 p1 (s4.2 : Int32).toNatClampNeg) fun w2 => xg (xk h1 w2 = 12 ∧ xin p2 (xn h1 w2)) <| xlt (xi h1 w2 (p2 : Int32).toNatClampNeg) fun v3 => again4 ((s4.1 + 1), v3) h1)) xfu (1, p2) h
theorem CL_order (E : XG) (p1 : Nat) (p2 : Int32) (h : XH) : XN E mL_order eI 0 0 [.ref p1, .int p2] h (FL_order E p1 p2 h) := by
  unfold FL_order
  refine S_enter (L := [some (.ref p1), some (.int p2), none, none]) (by decide +kernel) rfl rfl rfl ?_
  refine S_ic 0 1 dL_order_0 (by decide) ?_
  refine S_istore_2 1 dL_order_1 rfl ?_
  refine S_iload_1 2 dL_order_2 ?_
  refine S_istore_3 3 dL_order_3 rfl ?_
  refine S_loop (fun (s4 : Int32 × Int32) => [some (.ref p1), some (.int p2), some (.int s4.1), some (.int s4.2)]) (fun again4 hg4 s4 h1 => ?_) xfu _ _
  refine S_iload_3 4 dL_order_4 ?_
  refine S_ifeq 5 20 dL_order_5 (by decide) ?_ ?_
  · skip
    refine S_iload_2 20 dL_order_20 ?_
    exact S_iret 21 dL_order_21 rfl
  · skip
    refine S_iinc_2 8 (s4.1 + 1) dL_order_8 (by rfl) rfl ?_
    refine S_aload_0 11 dL_order_11 ?_
    refine S_iload_3 12 dL_order_12 ?_
    refine S_aald 13 18 7 (by decide) rfl rfl dL_order_13 (fun w2 => ?_)
    refine S_iload_1 14 dL_order_14 ?_
    refine S_iald 15 dL_order_15 ?_
    refine S_gen (fun v3 => ?_)
    refine S_istore_3 16 dL_order_16 rfl ?_
    refine S_goto 17 4 dL_order_17 (by decide) ?_
    exact S_drop [] rfl (hg4 _ _)
def FX11_pair (E : XG) (t : Nat) (h : XH) : XP Nat := xg ((0 : Int32) ≤ 18 ∧ (18 : Int32).toNatClampNeg ≤ 60000000) <| xal h 12 (18 : Int32).toNatClampNeg fun w1 h2 => xg (xk h2 t = 22) <| xb (FX11_classes E t  h2) fun v3 h4 => xlp (fun again12 (s12 : Int32) h5 => xg (xk h5 t = 22) <| xnn (xr h5 t 2) fun w6 => xg (xk h5 w6 = 18) <| if ((Int32.ofNat (xn h5 w6)) : Int32) ≤ s12 then (xlp (fun again52 (s52 : Int32) h7 => xg (xk h7 t = 22) <| xb (FX11_many E t  h7) fun v8 h9 => if (v8 : Int32) ≤ s52 then (xv w1 h9) else (xg (xk h9 t = 22) <| xb (FX11_leastOf E t s52 h9) fun v10 h11 => xlp (fun again70 (s70 : Int32 × Int32) h12 => xg (xk h12 v3 = 12 ∧ xin s70.2 (xn h12 v3)) <| if ((xi h12 v3 (s70.2 : Int32).toNatClampNeg) : Int32) = 0 then (xg (xk h12 w1 = 12 ∧ xin (9 + s70.1) (xn h12 w1)) <| xg (xk h12 w1 = 12 ∧ xin (9 + s70.1) (xn h12 w1)) <| xlt (yi h12 w1 ((9 + s70.1) : Int32).toNatClampNeg ((xi h12 w1 ((9 + s70.1) : Int32).toNatClampNeg) + 1)) fun h13 => again52 (s52 + 1) h13) else (xg (xk h12 t = 22) <| xnn (xr h12 t 3) fun w14 => xg (xk h12 w14 = 18 ∧ xin s70.2 (xn h12 w14)) <| xnn (xr h12 w14 (s70.2 : Int32).toNatClampNeg) fun w15 => xg (xk h12 t = 22) <| xb (FX11_leastOf E t s52 h12) fun v16 h17 => xg (xk h17 w15 = 12 ∧ xin v16 (xn h17 w15)) <| xlt (xi h17 w15 (v16 : Int32).toNatClampNeg) fun v18 => again70 ((s70.1 + 1), v18) h17)) xfu (1, v10) h11)) xfu 0 h5) else (xg (xk h5 t = 22) <| xnn (xr h5 t 5) fun w19 => xg (xk h5 w19 = 12 ∧ xin s12 (xn h5 w19)) <| xjn (fun  (h20 : XH) => again12 (s12 + 1) h20) fun (j44 : XH → XP Nat) => if ((xi h5 w19 (s12 : Int32).toNatClampNeg) : Int32) = 0 then (xg (xk h5 t = 22) <| xnn (xr h5 t 2) fun w21 => xb (FL_order E w21 s12 h5) fun v22 h23 => xg (xk h23 w1 = 12 ∧ xin v22 (xn h23 w1)) <| xg (xk h23 w1 = 12 ∧ xin v22 (xn h23 w1)) <| xlt (yi h23 w1 (v22 : Int32).toNatClampNeg ((xi h23 w1 (v22 : Int32).toNatClampNeg) + 1)) fun h24 => j44 h24) else (j44 h5))) xfu 0 h4
theorem CX11_pair (E : XG) (t : Nat) (h : XH) : XN E mX11_pair eR 5 0 [.ref t] h (FX11_pair E t h) := by
  unfold FX11_pair
  refine S_enter (L := [some (.ref t), none, none, none, none, none]) (by decide +kernel) rfl rfl rfl ?_
  refine S_bip 0 18 dX11_pair_0 (by decide) ?_
  refine S_newG_int 2 ar12 dX11_pair_2 (fun w1 h2 => ?_)
  refine S_astore_1 4 dX11_pair_4 rfl ?_
  refine S_aload_0 5 dX11_pair_5 ?_
  refine S_callV (a' := 1) (b' := 0) (a := 3) (b := 0) 6 (As := []) (ci := 21) rfl calX11_classes imX11_classes seX11_classes mkX11_45 rfl rfl rfl rfl rfl (by decide) rfl rfl dX11_pair_6 (CX11_classes E t  h2) (fun v3 h4 => kqR ?_)
  refine S_astore_2 9 dX11_pair_9 rfl ?_
  refine S_ic 10 0 dX11_pair_10 (by decide) ?_
  refine S_istore_3 11 dX11_pair_11 rfl ?_
  refine S_loop (fun (s12 : Int32) => [some (.ref t), some (.ref w1), some (.ref v3), some (.int s12), none, none]) (fun again12 hg12 s12 h5 => ?_) xfu _ _
  refine S_iload_3 12 dX11_pair_12 ?_
  refine S_aload_0 13 dX11_pair_13 ?_
  refine S_getR 14 fsX11_16 rfl dX11_pair_14 (fun w6 => ?_)
  refine S_alen 17 18 7 (by decide) rfl dX11_pair_17 ?_
  refine S_icmpge 18 50 dX11_pair_18 (by decide) ?_ ?_
  · skip
    refine S_ic 50 0 dX11_pair_50 (by decide) ?_
    refine S_istore_3 51 dX11_pair_51 rfl ?_
    refine S_loop (fun (s52 : Int32) => [some (.ref t), some (.ref w1), some (.ref v3), some (.int s52), none, none]) (fun again52 hg52 s52 h7 => ?_) xfu _ _
    refine S_iload_3 52 dX11_pair_52 ?_
    refine S_aload_0 53 dX11_pair_53 ?_
    refine S_callV (a' := 1) (b' := 0) (a := 2) (b := 0) 54 (As := []) (ci := 21) rfl calX11_many imX11_many seX11_many mkX11_57 rfl rfl rfl rfl rfl (by decide) rfl rfl dX11_pair_54 (CX11_many E t  h7) (fun v8 h9 => kqI ?_)
    refine S_icmpge 57 115 dX11_pair_57 (by decide) ?_ ?_
    · skip
      refine S_aload_1 115 dX11_pair_115 ?_
      exact S_areta 116 dX11_pair_116 rfl
    · skip
      refine S_ic 60 1 dX11_pair_60 (by decide) ?_
      refine S_istore_4 61 dX11_pair_61 rfl ?_
      refine S_aload_0 63 dX11_pair_63 ?_
      refine S_iload_3 64 dX11_pair_64 ?_
      refine S_callV (a' := 1) (b' := 0) (a := 1) (b := 0) 65 (As := [.int s52]) (ci := 21) rfl calX11_leastOf imX11_leastOf seX11_leastOf mkX11_60 rfl rfl rfl rfl rfl (by decide) rfl rfl dX11_pair_65 (CX11_leastOf E t s52 h9) (fun v10 h11 => kqI ?_)
      refine S_istore_5 68 dX11_pair_68 rfl ?_
      refine S_loop (fun (s70 : Int32 × Int32) => [some (.ref t), some (.ref w1), some (.ref v3), some (.int s52), some (.int s70.1), some (.int s70.2)]) (fun again70 hg70 s70 h12 => ?_) xfu _ _
      refine S_aload_2 70 dX11_pair_70 ?_
      refine S_iload_5 71 dX11_pair_71 ?_
      refine S_iald 73 dX11_pair_73 ?_
      refine S_ifeq 74 98 dX11_pair_74 (by decide) ?_ ?_
      · skip
        refine S_aload_1 98 dX11_pair_98 ?_
        refine S_bip 99 9 dX11_pair_99 (by decide) ?_
        refine S_iload_4 101 dX11_pair_101 ?_
        refine S_iadd 103 dX11_pair_103 ?_
        refine S_dup2 104 dX11_pair_104 rfl rfl ?_
        refine S_iald 105 dX11_pair_105 ?_
        refine S_ic 106 1 dX11_pair_106 (by decide) ?_
        refine S_iadd 107 dX11_pair_107 ?_
        refine S_iast 108 dX11_pair_108 (fun h13 => ?_)
        refine S_iinc_3 109 (s52 + 1) dX11_pair_109 (by rfl) rfl ?_
        refine S_goto 112 52 dX11_pair_112 (by decide) ?_
        exact S_drop [4, 5] rfl (hg52 _ _)
      · skip
        refine S_iinc_4 77 (s70.1 + 1) dX11_pair_77 (by rfl) rfl ?_
        refine S_aload_0 80 dX11_pair_80 ?_
        refine S_getR 81 fsX11_20 rfl dX11_pair_81 (fun w14 => ?_)
        refine S_iload_5 84 dX11_pair_84 ?_
        refine S_aald 86 18 7 (by decide) rfl rfl dX11_pair_86 (fun w15 => ?_)
        refine S_aload_0 87 dX11_pair_87 ?_
        refine S_iload_3 88 dX11_pair_88 ?_
        refine S_callV (a' := 1) (b' := 0) (a := 0) (b := 0) 89 (As := [.int s52]) (ci := 21) rfl calX11_leastOf imX11_leastOf seX11_leastOf mkX11_60 rfl rfl rfl rfl rfl (by decide) rfl rfl dX11_pair_89 (CX11_leastOf E t s52 h12) (fun v16 h17 => kqI ?_)
        refine S_iald 92 dX11_pair_92 ?_
        refine S_gen (fun v18 => ?_)
        refine S_istore_5 93 dX11_pair_93 rfl ?_
        refine S_goto 95 70 dX11_pair_95 (by decide) ?_
        exact S_drop [] rfl (hg70 _ _)
  · skip
    refine S_aload_0 21 dX11_pair_21 ?_
    refine S_getR 22 fsX11_23 rfl dX11_pair_22 (fun w19 => ?_)
    refine S_iload_3 25 dX11_pair_25 ?_
    refine S_iald 26 dX11_pair_26 ?_
    refine S_join (fun jj => ∀  (h20 : XH), XS E mX11_pair eR 3 0 44 [some (.ref t), some (.ref w1), some (.ref v3), some (.int s12), none, none] [] h20 (jj  h20)) (fun  h20 => ?_) (fun j44 hj44 => ?_)
    · skip
      refine S_iinc_3 44 (s12 + 1) dX11_pair_44 (by rfl) rfl ?_
      refine S_goto 47 12 dX11_pair_47 (by decide) ?_
      exact S_drop [] rfl (hg12 _ _)
    refine S_ifne 27 44 dX11_pair_27 (by decide) ?_ ?_
    · skip
      exact S_drop [] rfl (hj44 _)
    · skip
      refine S_aload_1 30 dX11_pair_30 ?_
      refine S_aload_0 31 dX11_pair_31 ?_
      refine S_getR 32 fsX11_16 rfl dX11_pair_32 (fun w21 => ?_)
      refine S_iload_3 35 dX11_pair_35 ?_
      refine S_callSN (a' := 0) (b' := 0) (a := 3) (b := 0) 36 (As := [.ref w21, .int s12]) rfl calL_order stL_order (List.mem_of_getElem? (i := 21) rfl) rfl rfl rfl rfl rfl dX11_pair_36 (CL_order E w21 s12 h5) (fun v22 h23 => kqI ?_)
      refine S_dup2 39 dX11_pair_39 rfl rfl ?_
      refine S_iald 40 dX11_pair_40 ?_
      refine S_ic 41 1 dX11_pair_41 (by decide) ?_
      refine S_iadd 42 dX11_pair_42 ?_
      refine S_iast 43 dX11_pair_43 (fun h24 => ?_)
      exact S_drop [] rfl (hj44 _)
