/-! Methods as functions, 14. -/
set_option linter.unusedVariables false
set_option maxRecDepth 10000
def FL_thrown (E : XG) (p1 : Nat) (p2 : Int32) (p3 : Int32) (p4 : Int32) (p5 : Int32) (p6 : Int32) (h : XH) : XP Int32 := xct (FL_calls E p1 p2 p3 p4 p5 p6 h)
theorem CL_thrown (E : XG) (p1 : Nat) (p2 : Int32) (p3 : Int32) (p4 : Int32) (p5 : Int32) (p6 : Int32) (h : XH) : XN E mL_thrown eI 0 0 [.ref p1, .int p2, .int p3, .int p4, .int p5, .int p6] h (FL_thrown E p1 p2 p3 p4 p5 p6 h) := by
  intro r h' e
  unfold FL_thrown at e
  cases hm : FL_calls E p1 p2 p3 p4 p5 p6 h with
  | none => rw [hm] at e; cases e
  | some z =>
    obtain ⟨z, h1⟩ := z
    rw [hm] at e
    obtain ⟨⟨c1, c2⟩, hc⟩ := CL_calls E p1 p2 p3 p4 p5 p6 h z h1 hm
    cases z with
    | inl v =>
      cases e
      refine ⟨⟨c1, c2⟩, ?_⟩
      refine X_enterH (L := [some (.ref p1), some (.int p2), some (.int p3), some (.int p4), some (.int p5), some (.int p6), none]) (by decide +kernel) rfl okL_thrown.1 rfl rfl ?_
      refine X_aload_0 0 dL_thrown_0 (X_iload_1 1 dL_thrown_1 (X_iload_2 2 dL_thrown_2 (X_iload_3 3 dL_thrown_3 (X_iload_4 4 dL_thrown_4 (X_iload_5 6 dL_thrown_6 ?_)))))
      refine X_less (k' := xc h' - xc h + 0 + 0) (u' := xu h' - xu h + 0 + 0) (Nat.le_refl _) (Nat.le_refl _) ?_
      refine X_callS (k := 0) (u := 0) (k' := xc h' - xc h + 0) (u' := xu h' - xu h + 0) 8 (As := [.ref p1, .int p2, .int p3, .int p4, .int p5, .int p6]) calL_calls stL_calls mkL_140 rfl rfl rfl rfl rfl dL_thrown_8 hc (fun ec h2 q => by cases q) (fun v2 h2 q => ?_)
      cases q
      refine X_ldc2 11 (v := -99) rfl ⟨List.mem_of_getElem? (i := 1527) (by decide +kernel), rfl⟩ dL_thrown_11 (X_lcmp 14 dL_thrown_14 (X_ifne 15 22 dL_thrown_15 (by decide) (fun _ => ?_) (fun _ => ?_)))
      · exact X_ic 22 0 dL_thrown_22 (by decide) (X_iret 23 dL_thrown_23 rfl rfl rfl)
      · exact X_ic 18 0 dL_thrown_18 (by decide) (X_goto 19 23 dL_thrown_19 (by decide) (X_iret 23 dL_thrown_23 rfl rfl rfl))
    | inr ec =>
      obtain ⟨hlt, e⟩ := xg_of e
      cases e
      have e1 : xc (yx h1) = xc h1 + 1 := rfl
      have e2 : xu (yx h1) = xu h1 + 6 := rfl
      refine ⟨⟨by omega, by omega⟩, ?_⟩
      refine X_enterH (L := [some (.ref p1), some (.int p2), some (.int p3), some (.int p4), some (.int p5), some (.int p6), none]) (by decide +kernel) rfl okL_thrown.1 rfl rfl ?_
      refine X_aload_0 0 dL_thrown_0 (X_iload_1 1 dL_thrown_1 (X_iload_2 2 dL_thrown_2 (X_iload_3 3 dL_thrown_3 (X_iload_4 4 dL_thrown_4 (X_iload_5 6 dL_thrown_6 ?_)))))
      refine X_less (k' := xc h1 - xc h + 1 + 0) (u' := xu h1 - xu h + 6 + 0) (by show _ ≤ _ + 0; omega) (by show _ ≤ _ + 0; omega) ?_
      refine X_callS (k := 0) (u := 0) (k' := xc h1 - xc h + 1) (u' := xu h1 - xu h + 6) 8 (As := [.ref p1, .int p2, .int p3, .int p4, .int p5, .int p6]) calL_calls stL_calls mkL_140 rfl rfl rfl rfl rfl dL_thrown_8 hc (fun ec2 h2 q => ?_) (fun v2 h2 q => by cases q)
      cases q
      have c4 : ec = 0 ∨ ec = 1 ∨ ec = 2 := by omega
      rcases c4 with rfl | rfl | rfl
      · refine XT_catch rfl [] ⟨0, 23, 24, 146⟩ [⟨0, 23, 28, 148⟩, ⟨0, 23, 32, 150⟩] rfl (fun z hz => by cases hz) rfl (by decide) clL_146 (fun w => XW_yx ?_)
        exact X_astore_6 24 dL_thrown_24 rfl (X_ic 26 1 dL_thrown_26 (by decide) (X_iret 27 dL_thrown_27 rfl rfl rfl))
      · refine XT_catch rfl [⟨0, 23, 24, 146⟩] ⟨0, 23, 28, 148⟩ [⟨0, 23, 32, 150⟩] rfl (fun z hz => by
          simp only [List.mem_cons, List.not_mem_nil, or_false] at hz
          rcases hz with rfl
          exact Or.inr ⟨by decide, 0, clL_146, by decide⟩) rfl (by decide) clL_148 (fun w => XW_yx ?_)
        exact X_astore_6 28 dL_thrown_28 rfl (X_ic 30 2 dL_thrown_30 (by decide) (X_iret 31 dL_thrown_31 rfl rfl rfl))
      · refine XT_catch rfl [⟨0, 23, 24, 146⟩, ⟨0, 23, 28, 148⟩] ⟨0, 23, 32, 150⟩ [] rfl (fun z hz => by
          simp only [List.mem_cons, List.not_mem_nil, or_false] at hz
          rcases hz with rfl | rfl
          · exact Or.inr ⟨by decide, 0, clL_146, by decide⟩
          · exact Or.inr ⟨by decide, 1, clL_148, by decide⟩) rfl (by decide) clL_150 (fun w => XW_yx ?_)
        exact X_astore_6 32 dL_thrown_32 rfl (X_ic 34 3 dL_thrown_34 (by decide) (X_iret 35 dL_thrown_35 rfl rfl rfl))
def FL_isLike (E : XG) (p1 : Nat) (p2 : Nat) (h : XH) : XP Int32 := xg (xk h p1 = 9) <| xb (FX8_count E p1 0 h) fun v1 h2 => xg (xk h2 p2 = 23) <| xjn (fun  (h3 : XH) => xg ((0 : Int32) = 0 ∨ (0 : Int32) = 1) <| xv 0 h3) fun (j47 : XH → XP Int32) => if (v1 : Int32) = (xi h2 p2 5) then (xg (xk h2 p1 = 9) <| xb (FX8_count E p1 1 h2) fun v4 h5 => xg (xk h5 p2 = 23) <| if (v4 : Int32) = (xi h5 p2 6) then (xg (xk h5 p1 = 9) <| xb (FX8_count E p1 2 h5) fun v6 h7 => xg (xk h7 p2 = 23) <| if (v6 : Int32) = (xi h7 p2 7) then (xg (xk h7 p1 = 9) <| xb (FX8_lawful E p1  h7) fun v8 h9 => xg (xk h9 p2 = 23) <| xb (FX12_lawful E p2  h9) fun v10 h11 => if (v8 : Int32) = v10 then (xlp (fun again51 (s51 : Int32) h12 => xg (xk h12 p2 = 23) <| if ((xi h12 p2 6) : Int32) ≤ s51 then (xlp (fun again155 (s155 : Int32) h13 => xg (xk h13 p2 = 23) <| if ((xi h13 p2 7) : Int32) ≤ s155 then (xlp (fun again259 (s259 : Int32) h14 => if (3 : Int32) ≤ s259 then (xg ((1 : Int32) = 0 ∨ (1 : Int32) = 1) <| xv 1 h14) else (xg (xk h14 p1 = 9) <| xb (FX8_account E p1 s259 h14) fun v15 h16 => xg (xk h16 p2 = 23) <| xnn (xr h16 p2 4) fun w17 => xg (xk h16 w17 = 12 ∧ xin s259 (xn h16 w17)) <| if (v15 : Int32) = (xi h16 w17 (s259 : Int32).toNatClampNeg) then (again259 (s259 + 1) h16) else (xg ((0 : Int32) = 0 ∨ (0 : Int32) = 1) <| xv 0 h16))) xfu 0 h13) else (xlp (fun again165 (s165 : Int32) h18 => xg (xk h18 p2 = 23) <| xnn (xr h18 p2 3) fun w19 => xg (xk h18 w19 = 26 ∧ xin s155 (xn h18 w19)) <| xnn (xr h18 w19 (s155 : Int32).toNatClampNeg) fun w20 => xg (xk h18 w20 = 10) <| xnn (xr h18 w20 2) fun w21 => xg (xk h18 w21 = 12) <| if ((Int32.ofNat (xn h18 w21)) : Int32) ≤ s165 then (xlp (fun again209 (s209 : Int32) h22 => xg (xk h22 p2 = 23) <| xnn (xr h22 p2 3) fun w23 => xg (xk h22 w23 = 26 ∧ xin s155 (xn h22 w23)) <| xnn (xr h22 w23 (s155 : Int32).toNatClampNeg) fun w24 => xg (xk h22 w24 = 10) <| xnn (xr h22 w24 3) fun w25 => xg (xk h22 w25 = 12) <| if ((Int32.ofNat (xn h22 w25)) : Int32) ≤ s209 then (again155 (s155 + 1) h22) else (xg (xk h22 p1 = 9) <| xb (FX8_bottom E p1 s155 s209 h22) fun v26 h27 => xg (xk h27 p2 = 23) <| xnn (xr h27 p2 3) fun w28 => xg (xk h27 w28 = 26 ∧ xin s155 (xn h27 w28)) <| xnn (xr h27 w28 (s155 : Int32).toNatClampNeg) fun w29 => xg (xk h27 w29 = 10) <| xnn (xr h27 w29 3) fun w30 => xg (xk h27 w30 = 12 ∧ xin s209 (xn h27 w30)) <| if (v26 : Int32) = (xi h27 w30 (s209 : Int32).toNatClampNeg) then (again209 (s209 + 1) h27) else (xg ((0 : Int32) = 0 ∨ (0 : Int32) = 1) <| xv 0 h27))) xfu 0 h18) else (xg (xk h18 p1 = 9) <| xb (FX8_top E p1 s155 s165 h18) fun v31 h32 => xg (xk h32 p2 = 23) <| xnn (xr h32 p2 3) fun w33 => xg (xk h32 w33 = 26 ∧ xin s155 (xn h32 w33)) <| xnn (xr h32 w33 (s155 : Int32).toNatClampNeg) fun w34 => xg (xk h32 w34 = 10) <| xnn (xr h32 w34 2) fun w35 => xg (xk h32 w35 = 12 ∧ xin s165 (xn h32 w35)) <| if (v31 : Int32) = (xi h32 w35 (s165 : Int32).toNatClampNeg) then (again165 (s165 + 1) h32) else (xg ((0 : Int32) = 0 ∨ (0 : Int32) = 1) <| xv 0 h32))) xfu 0 h13)) xfu 0 h12) else (xg (xk h12 p2 = 23) <| xnn (xr h12 p2 2) fun w36 => xg (xk h12 w36 = 20 ∧ xin s51 (xn h12 w36)) <| xnn (xr h12 w36 (s51 : Int32).toNatClampNeg) fun w37 => xlp (fun again69 (s69 : Int32) h38 => xg (xk h38 w37 = 22) <| xnn (xr h38 w37 5) fun w39 => xg (xk h38 w39 = 12) <| if ((Int32.ofNat (xn h38 w39)) : Int32) ≤ s69 then (again51 (s51 + 1) h38) else (xg (xk h38 p1 = 9) <| xb (FX8_boundary E p1 s51 s69 h38) fun v40 h41 => xg (xk h41 w37 = 22) <| xnn (xr h41 w37 5) fun w42 => xg (xk h41 w42 = 12 ∧ xin s69 (xn h41 w42)) <| if (v40 : Int32) = (xi h41 w42 (s69 : Int32).toNatClampNeg) then (xlp (fun again101 (s101 : Int32) h43 => xg (xk h43 w37 = 22) <| xnn (xr h43 w37 4) fun w44 => xg (xk h43 w44 = 18) <| if ((Int32.ofNat (xn h43 w44)) : Int32) ≤ s101 then (again69 (s69 + 1) h43) else (xg (xk h43 p1 = 9) <| xb (FX8_act E p1 s51 s101 s69 h43) fun v45 h46 => xg (xk h46 w37 = 22) <| xnn (xr h46 w37 4) fun w47 => xg (xk h46 w47 = 18 ∧ xin s101 (xn h46 w47)) <| xnn (xr h46 w47 (s101 : Int32).toNatClampNeg) fun w48 => xg (xk h46 w48 = 12 ∧ xin s69 (xn h46 w48)) <| if (v45 : Int32) = (xi h46 w48 (s69 : Int32).toNatClampNeg) then (again101 (s101 + 1) h46) else (xg ((0 : Int32) = 0 ∨ (0 : Int32) = 1) <| xv 0 h46))) xfu 0 h41) else (xg ((0 : Int32) = 0 ∨ (0 : Int32) = 1) <| xv 0 h41))) xfu 0 h12)) xfu 0 h11) else (j47 h11)) else (j47 h7)) else (j47 h5)) else (j47 h2)
theorem CL_isLike (E : XG) (p1 : Nat) (p2 : Nat) (h : XH) : XN E mL_isLike eI 0 0 [.ref p1, .ref p2] h (FL_isLike E p1 p2 h) := by
  unfold FL_isLike
  refine S_enter (L := [some (.ref p1), some (.ref p2), none, none, none, none]) (by decide +kernel) rfl rfl rfl ?_
  refine S_aload_0 0 dL_isLike_0 ?_
  refine S_ic 1 0 dL_isLike_1 (by decide) ?_
  refine S_callV (a' := 0) (b' := 0) (a := 0) (b := 0) 2 (As := [.int 0]) (ci := 8) rfl calX8_count imX8_count seX8_count mkL_33 rfl rfl rfl rfl rfl (by decide) rfl rfl dL_isLike_2 (CX8_count E p1 0 h) (fun v1 h2 => kqI ?_)
  refine S_aload_1 5 dL_isLike_5 ?_
  refine S_getIN 6 fnL_156 rfl dL_isLike_6 ?_
  refine S_join (fun jj => ∀  (h3 : XH), XS E mL_isLike eI 0 0 47 [none, none, none, none, none, none] [] h3 (jj  h3)) (fun  h3 => ?_) (fun j47 hj47 => ?_)
  · skip
    refine S_ic 47 0 dL_isLike_47 (by decide) ?_
    exact S_zret 48 dL_isLike_48 rfl
  refine S_icmpne 9 47 dL_isLike_9 (by decide) ?_ ?_
  · skip
    exact S_drop [0, 1] rfl (hj47 _)
  · skip
    refine S_aload_0 12 dL_isLike_12 ?_
    refine S_ic 13 1 dL_isLike_13 (by decide) ?_
    refine S_callV (a' := 0) (b' := 0) (a := 0) (b := 0) 14 (As := [.int 1]) (ci := 8) rfl calX8_count imX8_count seX8_count mkL_33 rfl rfl rfl rfl rfl (by decide) rfl rfl dL_isLike_14 (CX8_count E p1 1 h2) (fun v4 h5 => kqI ?_)
    refine S_aload_1 17 dL_isLike_17 ?_
    refine S_getIN 18 fnL_162 rfl dL_isLike_18 ?_
    refine S_icmpne 21 47 dL_isLike_21 (by decide) ?_ ?_
    · skip
      exact S_drop [0, 1] rfl (hj47 _)
    · skip
      refine S_aload_0 24 dL_isLike_24 ?_
      refine S_ic 25 2 dL_isLike_25 (by decide) ?_
      refine S_callV (a' := 0) (b' := 0) (a := 0) (b := 0) 26 (As := [.int 2]) (ci := 8) rfl calX8_count imX8_count seX8_count mkL_33 rfl rfl rfl rfl rfl (by decide) rfl rfl dL_isLike_26 (CX8_count E p1 2 h5) (fun v6 h7 => kqI ?_)
      refine S_aload_1 29 dL_isLike_29 ?_
      refine S_getIN 30 fnL_165 rfl dL_isLike_30 ?_
      refine S_icmpne 33 47 dL_isLike_33 (by decide) ?_ ?_
      · skip
        exact S_drop [0, 1] rfl (hj47 _)
      · skip
        refine S_aload_0 36 dL_isLike_36 ?_
        refine S_callV (a' := 0) (b' := 0) (a := 0) (b := 0) 37 (As := []) (ci := 8) rfl calX8_lawful imX8_lawful seX8_lawful mkL_168 rfl rfl rfl rfl rfl (by decide) rfl rfl dL_isLike_37 (CX8_lawful E p1  h7) (fun v8 h9 => kqI ?_)
        refine S_aload_1 40 dL_isLike_40 ?_
        refine S_callV (a' := 0) (b' := 0) (a := 0) (b := 0) 41 (As := []) (ci := 22) rfl calX12_lawful imX12_lawful seX12_lawful mkL_171 rfl rfl rfl rfl rfl (by decide) rfl rfl dL_isLike_41 (CX12_lawful E p2  h9) (fun v10 h11 => kqI ?_)
        refine S_icmpeq 44 49 dL_isLike_44 (by decide) ?_ ?_
        · skip
          refine S_ic 49 0 dL_isLike_49 (by decide) ?_
          refine S_istore_2 50 dL_isLike_50 rfl ?_
          refine S_loop (fun (s51 : Int32) => [some (.ref p1), some (.ref p2), some (.int s51), none, none, none]) (fun again51 hg51 s51 h12 => ?_) xfu _ _
          refine S_iload_2 51 dL_isLike_51 ?_
          refine S_aload_1 52 dL_isLike_52 ?_
          refine S_getIN 53 fnL_162 rfl dL_isLike_53 ?_
          refine S_icmpge 56 153 dL_isLike_56 (by decide) ?_ ?_
          · skip
            refine S_ic 153 0 dL_isLike_153 (by decide) ?_
            refine S_istore_2 154 dL_isLike_154 rfl ?_
            refine S_loop (fun (s155 : Int32) => [some (.ref p1), some (.ref p2), some (.int s155), none, none, none]) (fun again155 hg155 s155 h13 => ?_) xfu _ _
            refine S_iload_2 155 dL_isLike_155 ?_
            refine S_aload_1 156 dL_isLike_156 ?_
            refine S_getIN 157 fnL_165 rfl dL_isLike_157 ?_
            refine S_icmpge 160 257 dL_isLike_160 (by decide) ?_ ?_
            · skip
              refine S_ic 257 0 dL_isLike_257 (by decide) ?_
              refine S_istore_2 258 dL_isLike_258 rfl ?_
              refine S_loop (fun (s259 : Int32) => [some (.ref p1), some (.ref p2), some (.int s259), none, none, none]) (fun again259 hg259 s259 h14 => ?_) xfu _ _
              refine S_iload_2 259 dL_isLike_259 ?_
              refine S_ic 260 3 dL_isLike_260 (by decide) ?_
              refine S_icmpge 261 286 dL_isLike_261 (by decide) ?_ ?_
              · skip
                refine S_ic 286 1 dL_isLike_286 (by decide) ?_
                exact S_zret 287 dL_isLike_287 rfl
              · skip
                refine S_aload_0 264 dL_isLike_264 ?_
                refine S_iload_2 265 dL_isLike_265 ?_
                refine S_callV (a' := 0) (b' := 0) (a := 0) (b := 0) 266 (As := [.int s259]) (ci := 8) rfl calX8_account imX8_account seX8_account mkL_103 rfl rfl rfl rfl rfl (by decide) rfl rfl dL_isLike_266 (CX8_account E p1 s259 h14) (fun v15 h16 => kqI ?_)
                refine S_aload_1 269 dL_isLike_269 ?_
                refine S_getRN 270 fnL_193 rfl dL_isLike_270 (fun w17 => ?_)
                refine S_iload_2 273 dL_isLike_273 ?_
                refine S_iald 274 dL_isLike_274 ?_
                refine S_icmpeq 275 280 dL_isLike_275 (by decide) ?_ ?_
                · skip
                  refine S_iinc_2 280 (s259 + 1) dL_isLike_280 (by rfl) rfl ?_
                  refine S_goto 283 259 dL_isLike_283 (by decide) ?_
                  exact S_drop [] rfl (hg259 _ _)
                · skip
                  refine S_ic 278 0 dL_isLike_278 (by decide) ?_
                  exact S_zret 279 dL_isLike_279 rfl
            · skip
              refine S_ic 163 0 dL_isLike_163 (by decide) ?_
              refine S_istore_3 164 dL_isLike_164 rfl ?_
              refine S_loop (fun (s165 : Int32) => [some (.ref p1), some (.ref p2), some (.int s155), some (.int s165), none, none]) (fun again165 hg165 s165 h18 => ?_) xfu _ _
              refine S_iload_3 165 dL_isLike_165 ?_
              refine S_aload_1 166 dL_isLike_166 ?_
              refine S_getRN 167 fnL_183 rfl dL_isLike_167 (fun w19 => ?_)
              refine S_iload_2 170 dL_isLike_170 ?_
              refine S_aald 171 26 10 (by decide) rfl rfl dL_isLike_171 (fun w20 => ?_)
              refine S_getRN 172 fnL_187 rfl dL_isLike_172 (fun w21 => ?_)
              refine S_alen 175 12 1 (by decide) rfl dL_isLike_175 ?_
              refine S_icmpge 176 207 dL_isLike_176 (by decide) ?_ ?_
              · skip
                refine S_ic 207 0 dL_isLike_207 (by decide) ?_
                refine S_istore_3 208 dL_isLike_208 rfl ?_
                refine S_loop (fun (s209 : Int32) => [some (.ref p1), some (.ref p2), some (.int s155), some (.int s209), none, none]) (fun again209 hg209 s209 h22 => ?_) xfu _ _
                refine S_iload_3 209 dL_isLike_209 ?_
                refine S_aload_1 210 dL_isLike_210 ?_
                refine S_getRN 211 fnL_183 rfl dL_isLike_211 (fun w23 => ?_)
                refine S_iload_2 214 dL_isLike_214 ?_
                refine S_aald 215 26 10 (by decide) rfl rfl dL_isLike_215 (fun w24 => ?_)
                refine S_getRN 216 fnL_191 rfl dL_isLike_216 (fun w25 => ?_)
                refine S_alen 219 12 1 (by decide) rfl dL_isLike_219 ?_
                refine S_icmpge 220 251 dL_isLike_220 (by decide) ?_ ?_
                · skip
                  refine S_iinc_2 251 (s155 + 1) dL_isLike_251 (by rfl) rfl ?_
                  refine S_goto 254 155 dL_isLike_254 (by decide) ?_
                  exact S_drop [3] rfl (hg155 _ _)
                · skip
                  refine S_aload_0 223 dL_isLike_223 ?_
                  refine S_iload_2 224 dL_isLike_224 ?_
                  refine S_iload_3 225 dL_isLike_225 ?_
                  refine S_callV (a' := 0) (b' := 0) (a := 0) (b := 0) 226 (As := [.int s155, .int s209]) (ci := 8) rfl calX8_bottom imX8_bottom seX8_bottom mkL_94 rfl rfl rfl rfl rfl (by decide) rfl rfl dL_isLike_226 (CX8_bottom E p1 s155 s209 h22) (fun v26 h27 => kqI ?_)
                  refine S_aload_1 229 dL_isLike_229 ?_
                  refine S_getRN 230 fnL_183 rfl dL_isLike_230 (fun w28 => ?_)
                  refine S_iload_2 233 dL_isLike_233 ?_
                  refine S_aald 234 26 10 (by decide) rfl rfl dL_isLike_234 (fun w29 => ?_)
                  refine S_getRN 235 fnL_191 rfl dL_isLike_235 (fun w30 => ?_)
                  refine S_iload_3 238 dL_isLike_238 ?_
                  refine S_iald 239 dL_isLike_239 ?_
                  refine S_icmpeq 240 245 dL_isLike_240 (by decide) ?_ ?_
                  · skip
                    refine S_iinc_3 245 (s209 + 1) dL_isLike_245 (by rfl) rfl ?_
                    refine S_goto 248 209 dL_isLike_248 (by decide) ?_
                    exact S_drop [] rfl (hg209 _ _)
                  · skip
                    refine S_ic 243 0 dL_isLike_243 (by decide) ?_
                    exact S_zret 244 dL_isLike_244 rfl
              · skip
                refine S_aload_0 179 dL_isLike_179 ?_
                refine S_iload_2 180 dL_isLike_180 ?_
                refine S_iload_3 181 dL_isLike_181 ?_
                refine S_callV (a' := 0) (b' := 0) (a := 0) (b := 0) 182 (As := [.int s155, .int s165]) (ci := 8) rfl calX8_top imX8_top seX8_top mkL_91 rfl rfl rfl rfl rfl (by decide) rfl rfl dL_isLike_182 (CX8_top E p1 s155 s165 h18) (fun v31 h32 => kqI ?_)
                refine S_aload_1 185 dL_isLike_185 ?_
                refine S_getRN 186 fnL_183 rfl dL_isLike_186 (fun w33 => ?_)
                refine S_iload_2 189 dL_isLike_189 ?_
                refine S_aald 190 26 10 (by decide) rfl rfl dL_isLike_190 (fun w34 => ?_)
                refine S_getRN 191 fnL_187 rfl dL_isLike_191 (fun w35 => ?_)
                refine S_iload_3 194 dL_isLike_194 ?_
                refine S_iald 195 dL_isLike_195 ?_
                refine S_icmpeq 196 201 dL_isLike_196 (by decide) ?_ ?_
                · skip
                  refine S_iinc_3 201 (s165 + 1) dL_isLike_201 (by rfl) rfl ?_
                  refine S_goto 204 165 dL_isLike_204 (by decide) ?_
                  exact S_drop [] rfl (hg165 _ _)
                · skip
                  refine S_ic 199 0 dL_isLike_199 (by decide) ?_
                  exact S_zret 200 dL_isLike_200 rfl
          · skip
            refine S_aload_1 59 dL_isLike_59 ?_
            refine S_getRN 60 fnL_172 rfl dL_isLike_60 (fun w36 => ?_)
            refine S_iload_2 63 dL_isLike_63 ?_
            refine S_aald 64 20 9 (by decide) rfl rfl dL_isLike_64 (fun w37 => ?_)
            refine S_astore_3 65 dL_isLike_65 rfl ?_
            refine S_ic 66 0 dL_isLike_66 (by decide) ?_
            refine S_istore_4 67 dL_isLike_67 rfl ?_
            refine S_loop (fun (s69 : Int32) => [some (.ref p1), some (.ref p2), some (.int s51), some (.ref w37), some (.int s69), none]) (fun again69 hg69 s69 h38 => ?_) xfu _ _
            refine S_iload_4 69 dL_isLike_69 ?_
            refine S_aload_3 71 dL_isLike_71 ?_
            refine S_getRN 72 fnL_176 rfl dL_isLike_72 (fun w39 => ?_)
            refine S_alen 75 12 1 (by decide) rfl dL_isLike_75 ?_
            refine S_icmpge 76 147 dL_isLike_76 (by decide) ?_ ?_
            · skip
              refine S_iinc_2 147 (s51 + 1) dL_isLike_147 (by rfl) rfl ?_
              refine S_goto 150 51 dL_isLike_150 (by decide) ?_
              exact S_drop [3, 4] rfl (hg51 _ _)
            · skip
              refine S_aload_0 79 dL_isLike_79 ?_
              refine S_iload_2 80 dL_isLike_80 ?_
              refine S_iload_4 81 dL_isLike_81 ?_
              refine S_callV (a' := 0) (b' := 0) (a := 0) (b := 0) 83 (As := [.int s51, .int s69]) (ci := 8) rfl calX8_boundary imX8_boundary seX8_boundary mkL_47 rfl rfl rfl rfl rfl (by decide) rfl rfl dL_isLike_83 (CX8_boundary E p1 s51 s69 h38) (fun v40 h41 => kqI ?_)
              refine S_aload_3 86 dL_isLike_86 ?_
              refine S_getRN 87 fnL_176 rfl dL_isLike_87 (fun w42 => ?_)
              refine S_iload_4 90 dL_isLike_90 ?_
              refine S_iald 92 dL_isLike_92 ?_
              refine S_icmpeq 93 98 dL_isLike_93 (by decide) ?_ ?_
              · skip
                refine S_ic 98 0 dL_isLike_98 (by decide) ?_
                refine S_istore_5 99 dL_isLike_99 rfl ?_
                refine S_loop (fun (s101 : Int32) => [some (.ref p1), some (.ref p2), some (.int s51), some (.ref w37), some (.int s69), some (.int s101)]) (fun again101 hg101 s101 h43 => ?_) xfu _ _
                refine S_iload_5 101 dL_isLike_101 ?_
                refine S_aload_3 103 dL_isLike_103 ?_
                refine S_getRN 104 fnL_180 rfl dL_isLike_104 (fun w44 => ?_)
                refine S_alen 107 18 7 (by decide) rfl dL_isLike_107 ?_
                refine S_icmpge 108 141 dL_isLike_108 (by decide) ?_ ?_
                · skip
                  refine S_iinc_4 141 (s69 + 1) dL_isLike_141 (by rfl) rfl ?_
                  refine S_goto 144 69 dL_isLike_144 (by decide) ?_
                  exact S_drop [5] rfl (hg69 _ _)
                · skip
                  refine S_aload_0 111 dL_isLike_111 ?_
                  refine S_iload_2 112 dL_isLike_112 ?_
                  refine S_iload_5 113 dL_isLike_113 ?_
                  refine S_iload_4 115 dL_isLike_115 ?_
                  refine S_callV (a' := 0) (b' := 0) (a := 0) (b := 0) 117 (As := [.int s51, .int s101, .int s69]) (ci := 8) rfl calX8_act imX8_act seX8_act mkL_50 rfl rfl rfl rfl rfl (by decide) rfl rfl dL_isLike_117 (CX8_act E p1 s51 s101 s69 h43) (fun v45 h46 => kqI ?_)
                  refine S_aload_3 120 dL_isLike_120 ?_
                  refine S_getRN 121 fnL_180 rfl dL_isLike_121 (fun w47 => ?_)
                  refine S_iload_5 124 dL_isLike_124 ?_
                  refine S_aald 126 18 7 (by decide) rfl rfl dL_isLike_126 (fun w48 => ?_)
                  refine S_iload_4 127 dL_isLike_127 ?_
                  refine S_iald 129 dL_isLike_129 ?_
                  refine S_icmpeq 130 135 dL_isLike_130 (by decide) ?_ ?_
                  · skip
                    refine S_iinc_5 135 (s101 + 1) dL_isLike_135 (by rfl) rfl ?_
                    refine S_goto 138 101 dL_isLike_138 (by decide) ?_
                    exact S_drop [] rfl (hg101 _ _)
                  · skip
                    refine S_ic 133 0 dL_isLike_133 (by decide) ?_
                    exact S_zret 134 dL_isLike_134 rfl
              · skip
                refine S_ic 96 0 dL_isLike_96 (by decide) ?_
                exact S_zret 97 dL_isLike_97 rfl
        · skip
          exact S_drop [0, 1] rfl (hj47 _)
def FL_turns (E : XG) (p1 : Nat) (p2 : Nat) (p3 : Nat) (h : XH) : XP Int32 := xg (xk h p2 = 23) <| xg (xk h p3 = 21) <| xb (FX10_next E p3 0 ((xi h p2 7) - 1) h) fun v1 h2 => xg (xk h2 p2 = 23) <| xnn (xr h2 p2 3) fun w3 => xg (xk h2 w3 = 26 ∧ xin v1 (xn h2 w3)) <| xnn (xr h2 w3 (v1 : Int32).toNatClampNeg) fun w4 => xg (xk h2 p2 = 23) <| xnn (xr h2 p2 4) fun w5 => xg (xk h2 w5 = 12 ∧ xin 0 (xn h2 w5)) <| xg (xk h2 w5 = 12 ∧ xin 0 (xn h2 w5)) <| xlt (yi h2 w5 (0 : Int32).toNatClampNeg ((xi h2 w5 (0 : Int32).toNatClampNeg) + 1)) fun h6 => xg (xk h6 p3 = 21) <| xb (FX10_next E p3 0 1 h6) fun v7 h8 => if (v7 : Int32) = 0 then (xg (xk h8 w4 = 10) <| xnn (xr h8 w4 2) fun w28 => xg (xk h8 w28 = 12) <| xg (xk h8 p3 = 21) <| xb (FX10_next E p3 0 ((Int32.ofNat (xn h8 w28)) - 1) h8) fun v29 h30 => xg (xk h30 p2 = 23) <| xnn (xr h30 p2 2) fun w31 => xg (xk h30 w4 = 10) <| xg (xk h30 w31 = 20 ∧ xin (xi h30 w4 1) (xn h30 w31)) <| xnn (xr h30 w31 ((xi h30 w4 1) : Int32).toNatClampNeg) fun w32 => xg (xk h30 w32 = 22) <| xnn (xr h30 w32 5) fun w33 => xg (xk h30 w33 = 12) <| xg (xk h30 p3 = 21) <| xb (FX10_next E p3 0 ((Int32.ofNat (xn h30 w33)) - 1) h30) fun v34 h35 => xg (xk h35 w4 = 10) <| xnn (xr h35 w4 2) fun w36 => xg (xk h35 w36 = 12 ∧ xin v29 (xn h35 w36)) <| xlt (xi h35 w36 (v29 : Int32).toNatClampNeg) fun v37 => xg (xk h35 w4 = 10) <| xnn (xr h35 w4 2) fun w38 => xg (xk h35 w38 = 12 ∧ xin v29 (xn h35 w38)) <| xlt (yi h35 w38 (v29 : Int32).toNatClampNeg v34) fun h39 => xg (xk h39 p1 = 9) <| xb (FX8_setTop E p1 v1 v29 v34 h39) fun v40 h41 => xjn (fun (v42 : Int32) (h43 : XH) => xg ((v42 : Int32) = 0 ∨ (v42 : Int32) = 1) <| xv v42 h43) fun (j135 : Int32 → XH → XP Int32) => xjn (fun  (h44 : XH) => j135 0 h44) fun (j134 : XH → XP Int32) => if (v40 : Int32) = v37 then (xg (xk h41 w4 = 10) <| xnn (xr h41 w4 2) fun w45 => xg (xk h41 w45 = 12) <| xb (FL_thrown E p1 28 v1 (Int32.ofNat (xn h41 w45)) 0 0 h41) fun v46 h47 => if (v46 : Int32) = 2 then (j135 1 h47) else (j134 h47)) else (j134 h41)) else (xg (xk h8 w4 = 10) <| xnn (xr h8 w4 3) fun w9 => xg (xk h8 w9 = 12) <| xg (xk h8 p3 = 21) <| xb (FX10_next E p3 0 ((Int32.ofNat (xn h8 w9)) - 1) h8) fun v10 h11 => xg (xk h11 p2 = 23) <| xnn (xr h11 p2 2) fun w12 => xg (xk h11 w4 = 10) <| xg (xk h11 w12 = 20 ∧ xin (xi h11 w4 1) (xn h11 w12)) <| xnn (xr h11 w12 ((xi h11 w4 1) : Int32).toNatClampNeg) fun w13 => xg (xk h11 w13 = 22) <| xnn (xr h11 w13 4) fun w14 => xg (xk h11 w14 = 18) <| xg (xk h11 p3 = 21) <| xb (FX10_next E p3 0 ((Int32.ofNat (xn h11 w14)) - 1) h11) fun v15 h16 => xg (xk h16 w4 = 10) <| xnn (xr h16 w4 3) fun w17 => xg (xk h16 w17 = 12 ∧ xin v10 (xn h16 w17)) <| xlt (xi h16 w17 (v10 : Int32).toNatClampNeg) fun v18 => xg (xk h16 w4 = 10) <| xnn (xr h16 w4 3) fun w19 => xg (xk h16 w19 = 12 ∧ xin v10 (xn h16 w19)) <| xlt (yi h16 w19 (v10 : Int32).toNatClampNeg v15) fun h20 => xg (xk h20 p1 = 9) <| xb (FX8_setBottom E p1 v1 v10 v15 h20) fun v21 h22 => xjn (fun (v23 : Int32) (h24 : XH) => xg ((v23 : Int32) = 0 ∨ (v23 : Int32) = 1) <| xv v23 h24) fun (j227 : Int32 → XH → XP Int32) => xjn (fun  (h25 : XH) => j227 0 h25) fun (j226 : XH → XP Int32) => if (v21 : Int32) = v18 then (xb (FL_thrown E p1 29 v1 0 (-1) 0 h22) fun v26 h27 => if (v26 : Int32) = 2 then (j227 1 h27) else (j226 h27)) else (j226 h22))
theorem CL_turns (E : XG) (p1 : Nat) (p2 : Nat) (p3 : Nat) (h : XH) : XN E mL_turns eI 0 0 [.ref p1, .ref p2, .ref p3] h (FL_turns E p1 p2 p3 h) := by
  unfold FL_turns
  refine S_enter (L := [some (.ref p1), some (.ref p2), some (.ref p3), none, none, none, none, none]) (by decide +kernel) rfl rfl rfl ?_
  refine S_aload_2 0 dL_turns_0 ?_
  refine S_ic 1 0 dL_turns_1 (by decide) ?_
  refine S_aload_1 2 dL_turns_2 ?_
  refine S_getIN 3 fnL_165 rfl dL_turns_3 ?_
  refine S_ic 6 1 dL_turns_6 (by decide) ?_
  refine S_isub 7 dL_turns_7 ?_
  refine S_callV (a' := 0) (b' := 0) (a := 0) (b := 0) 8 (As := [.int 0, .int ((xi h p2 7) - 1)]) (ci := 20) rfl calX10_next imX10_next seX10_next mkL_196 rfl rfl rfl rfl rfl (by decide) rfl rfl dL_turns_8 (CX10_next E p3 0 ((xi h p2 7) - 1) h) (fun v1 h2 => kqI ?_)
  refine S_istore_3 11 dL_turns_11 rfl ?_
  refine S_aload_1 12 dL_turns_12 ?_
  refine S_getRN 13 fnL_183 rfl dL_turns_13 (fun w3 => ?_)
  refine S_iload_3 16 dL_turns_16 ?_
  refine S_aald 17 26 10 (by decide) rfl rfl dL_turns_17 (fun w4 => ?_)
  refine S_astore_4 18 dL_turns_18 rfl ?_
  refine S_aload_1 20 dL_turns_20 ?_
  refine S_getRN 21 fnL_193 rfl dL_turns_21 (fun w5 => ?_)
  refine S_ic 24 0 dL_turns_24 (by decide) ?_
  refine S_dup2 25 dL_turns_25 rfl rfl ?_
  refine S_iald 26 dL_turns_26 ?_
  refine S_ic 27 1 dL_turns_27 (by decide) ?_
  refine S_iadd 28 dL_turns_28 ?_
  refine S_iast 29 dL_turns_29 (fun h6 => ?_)
  refine S_aload_2 30 dL_turns_30 ?_
  refine S_ic 31 0 dL_turns_31 (by decide) ?_
  refine S_ic 32 1 dL_turns_32 (by decide) ?_
  refine S_callV (a' := 0) (b' := 0) (a := 0) (b := 0) 33 (As := [.int 0, .int 1]) (ci := 20) rfl calX10_next imX10_next seX10_next mkL_196 rfl rfl rfl rfl rfl (by decide) rfl rfl dL_turns_33 (CX10_next E p3 0 1 h6) (fun v7 h8 => kqI ?_)
  refine S_ifne 36 136 dL_turns_36 (by decide) ?_ ?_
  · skip
    refine S_aload_2 136 dL_turns_136 ?_
    refine S_ic 137 0 dL_turns_137 (by decide) ?_
    refine S_aload_4 138 dL_turns_138 ?_
    refine S_getRN 140 fnL_191 rfl dL_turns_140 (fun w9 => ?_)
    refine S_alen 143 12 1 (by decide) rfl dL_turns_143 ?_
    refine S_ic 144 1 dL_turns_144 (by decide) ?_
    refine S_isub 145 dL_turns_145 ?_
    refine S_callV (a' := 0) (b' := 0) (a := 0) (b := 0) 146 (As := [.int 0, .int ((Int32.ofNat (xn h8 w9)) - 1)]) (ci := 20) rfl calX10_next imX10_next seX10_next mkL_196 rfl rfl rfl rfl rfl (by decide) rfl rfl dL_turns_146 (CX10_next E p3 0 ((Int32.ofNat (xn h8 w9)) - 1) h8) (fun v10 h11 => kqI ?_)
    refine S_istore_5 149 dL_turns_149 rfl ?_
    refine S_aload_2 151 dL_turns_151 ?_
    refine S_ic 152 0 dL_turns_152 (by decide) ?_
    refine S_aload_1 153 dL_turns_153 ?_
    refine S_getRN 154 fnL_172 rfl dL_turns_154 (fun w12 => ?_)
    refine S_aload_4 157 dL_turns_157 ?_
    refine S_getIN 159 fnL_223 rfl dL_turns_159 ?_
    refine S_aald 162 20 9 (by decide) rfl rfl dL_turns_162 (fun w13 => ?_)
    refine S_getRN 163 fnL_180 rfl dL_turns_163 (fun w14 => ?_)
    refine S_alen 166 18 7 (by decide) rfl dL_turns_166 ?_
    refine S_ic 167 1 dL_turns_167 (by decide) ?_
    refine S_isub 168 dL_turns_168 ?_
    refine S_callV (a' := 0) (b' := 0) (a := 0) (b := 0) 169 (As := [.int 0, .int ((Int32.ofNat (xn h11 w14)) - 1)]) (ci := 20) rfl calX10_next imX10_next seX10_next mkL_196 rfl rfl rfl rfl rfl (by decide) rfl rfl dL_turns_169 (CX10_next E p3 0 ((Int32.ofNat (xn h11 w14)) - 1) h11) (fun v15 h16 => kqI ?_)
    refine S_istore_6 172 dL_turns_172 rfl ?_
    refine S_aload_4 174 dL_turns_174 ?_
    refine S_getRN 176 fnL_191 rfl dL_turns_176 (fun w17 => ?_)
    refine S_iload_5 179 dL_turns_179 ?_
    refine S_iald 181 dL_turns_181 ?_
    refine S_gen (fun v18 => ?_)
    refine S_istore_7 182 dL_turns_182 rfl ?_
    refine S_aload_4 184 dL_turns_184 ?_
    refine S_getRN 186 fnL_191 rfl dL_turns_186 (fun w19 => ?_)
    refine S_iload_5 189 dL_turns_189 ?_
    refine S_iload_6 191 dL_turns_191 ?_
    refine S_iast 193 dL_turns_193 (fun h20 => ?_)
    refine S_aload_0 194 dL_turns_194 ?_
    refine S_iload_3 195 dL_turns_195 ?_
    refine S_iload_5 196 dL_turns_196 ?_
    refine S_iload_6 198 dL_turns_198 ?_
    refine S_callV (a' := 0) (b' := 0) (a := 0) (b := 0) 200 (As := [.int v1, .int v10, .int v15]) (ci := 8) rfl calX8_setBottom imX8_setBottom seX8_setBottom mkL_125 rfl rfl rfl rfl rfl (by decide) rfl rfl dL_turns_200 (CX8_setBottom E p1 v1 v10 v15 h20) (fun v21 h22 => kqI ?_)
    refine S_iload_7 203 dL_turns_203 ?_
    refine S_join (fun jj => ∀ (v23 : Int32) (h24 : XH), XS E mL_turns eI 0 0 227 [none, none, none, none, none, none, none, none] [.int v23] h24 (jj v23 h24)) (fun v23 h24 => ?_) (fun j227 hj227 => ?_)
    · skip
      exact S_zret 227 dL_turns_227 rfl
    refine S_join (fun jj => ∀  (h25 : XH), XS E mL_turns eI 0 0 226 [none, none, none, none, none, none, none, none] [] h25 (jj  h25)) (fun  h25 => ?_) (fun j226 hj226 => ?_)
    · skip
      refine S_ic 226 0 dL_turns_226 (by decide) ?_
      exact S_drop [] rfl (hj227 _ _)
    refine S_icmpne 205 226 dL_turns_205 (by decide) ?_ ?_
    · skip
      exact S_drop [0, 1, 2, 3, 4, 5, 6, 7] rfl (hj226 _)
    · skip
      refine S_aload_0 208 dL_turns_208 ?_
      refine S_bip 209 29 dL_turns_209 (by decide) ?_
      refine S_iload_3 211 dL_turns_211 ?_
      refine S_ic 212 0 dL_turns_212 (by decide) ?_
      refine S_ic 213 (-1) dL_turns_213 (by decide) ?_
      refine S_ic 214 0 dL_turns_214 (by decide) ?_
      refine S_callSH (a' := 0) (b' := 0) (a := 0) (b := 0) 215 (As := [.ref p1, .int 29, .int v1, .int 0, .int (-1), .int 0]) rfl calL_thrown stL_thrown mkL_205 rfl rfl rfl rfl rfl dL_turns_215 (CL_thrown E p1 29 v1 0 (-1) 0 h22) (fun v26 h27 => kqI ?_)
      refine S_ic 218 2 dL_turns_218 (by decide) ?_
      refine S_icmpne 219 226 dL_turns_219 (by decide) ?_ ?_
      · skip
        exact S_drop [0, 1, 2, 3, 4, 5, 6, 7] rfl (hj226 _)
      · skip
        refine S_ic 222 1 dL_turns_222 (by decide) ?_
        refine S_goto 223 227 dL_turns_223 (by decide) ?_
        exact S_drop [0, 1, 2, 3, 4, 5, 6, 7] rfl (hj227 _ _)
  · skip
    refine S_aload_2 39 dL_turns_39 ?_
    refine S_ic 40 0 dL_turns_40 (by decide) ?_
    refine S_aload_4 41 dL_turns_41 ?_
    refine S_getRN 43 fnL_187 rfl dL_turns_43 (fun w28 => ?_)
    refine S_alen 46 12 1 (by decide) rfl dL_turns_46 ?_
    refine S_ic 47 1 dL_turns_47 (by decide) ?_
    refine S_isub 48 dL_turns_48 ?_
    refine S_callV (a' := 0) (b' := 0) (a := 0) (b := 0) 49 (As := [.int 0, .int ((Int32.ofNat (xn h8 w28)) - 1)]) (ci := 20) rfl calX10_next imX10_next seX10_next mkL_196 rfl rfl rfl rfl rfl (by decide) rfl rfl dL_turns_49 (CX10_next E p3 0 ((Int32.ofNat (xn h8 w28)) - 1) h8) (fun v29 h30 => kqI ?_)
    refine S_istore_5 52 dL_turns_52 rfl ?_
    refine S_aload_2 54 dL_turns_54 ?_
    refine S_ic 55 0 dL_turns_55 (by decide) ?_
    refine S_aload_1 56 dL_turns_56 ?_
    refine S_getRN 57 fnL_172 rfl dL_turns_57 (fun w31 => ?_)
    refine S_aload_4 60 dL_turns_60 ?_
    refine S_getIN 62 fnL_223 rfl dL_turns_62 ?_
    refine S_aald 65 20 9 (by decide) rfl rfl dL_turns_65 (fun w32 => ?_)
    refine S_getRN 66 fnL_176 rfl dL_turns_66 (fun w33 => ?_)
    refine S_alen 69 12 1 (by decide) rfl dL_turns_69 ?_
    refine S_ic 70 1 dL_turns_70 (by decide) ?_
    refine S_isub 71 dL_turns_71 ?_
    refine S_callV (a' := 0) (b' := 0) (a := 0) (b := 0) 72 (As := [.int 0, .int ((Int32.ofNat (xn h30 w33)) - 1)]) (ci := 20) rfl calX10_next imX10_next seX10_next mkL_196 rfl rfl rfl rfl rfl (by decide) rfl rfl dL_turns_72 (CX10_next E p3 0 ((Int32.ofNat (xn h30 w33)) - 1) h30) (fun v34 h35 => kqI ?_)
    refine S_istore_6 75 dL_turns_75 rfl ?_
    refine S_aload_4 77 dL_turns_77 ?_
    refine S_getRN 79 fnL_187 rfl dL_turns_79 (fun w36 => ?_)
    refine S_iload_5 82 dL_turns_82 ?_
    refine S_iald 84 dL_turns_84 ?_
    refine S_gen (fun v37 => ?_)
    refine S_istore_7 85 dL_turns_85 rfl ?_
    refine S_aload_4 87 dL_turns_87 ?_
    refine S_getRN 89 fnL_187 rfl dL_turns_89 (fun w38 => ?_)
    refine S_iload_5 92 dL_turns_92 ?_
    refine S_iload_6 94 dL_turns_94 ?_
    refine S_iast 96 dL_turns_96 (fun h39 => ?_)
    refine S_aload_0 97 dL_turns_97 ?_
    refine S_iload_3 98 dL_turns_98 ?_
    refine S_iload_5 99 dL_turns_99 ?_
    refine S_iload_6 101 dL_turns_101 ?_
    refine S_callV (a' := 0) (b' := 0) (a := 0) (b := 0) 103 (As := [.int v1, .int v29, .int v34]) (ci := 8) rfl calX8_setTop imX8_setTop seX8_setTop mkL_122 rfl rfl rfl rfl rfl (by decide) rfl rfl dL_turns_103 (CX8_setTop E p1 v1 v29 v34 h39) (fun v40 h41 => kqI ?_)
    refine S_iload_7 106 dL_turns_106 ?_
    refine S_join (fun jj => ∀ (v42 : Int32) (h43 : XH), XS E mL_turns eI 0 0 135 [none, none, none, none, none, none, none, none] [.int v42] h43 (jj v42 h43)) (fun v42 h43 => ?_) (fun j135 hj135 => ?_)
    · skip
      exact S_zret 135 dL_turns_135 rfl
    refine S_join (fun jj => ∀  (h44 : XH), XS E mL_turns eI 0 0 134 [none, none, none, none, none, none, none, none] [] h44 (jj  h44)) (fun  h44 => ?_) (fun j134 hj134 => ?_)
    · skip
      refine S_ic 134 0 dL_turns_134 (by decide) ?_
      exact S_drop [] rfl (hj135 _ _)
    refine S_icmpne 108 134 dL_turns_108 (by decide) ?_ ?_
    · skip
      exact S_drop [0, 1, 2, 3, 4, 5, 6, 7] rfl (hj134 _)
    · skip
      refine S_aload_0 111 dL_turns_111 ?_
      refine S_bip 112 28 dL_turns_112 (by decide) ?_
      refine S_iload_3 114 dL_turns_114 ?_
      refine S_aload_4 115 dL_turns_115 ?_
      refine S_getRN 117 fnL_187 rfl dL_turns_117 (fun w45 => ?_)
      refine S_alen 120 12 1 (by decide) rfl dL_turns_120 ?_
      refine S_ic 121 0 dL_turns_121 (by decide) ?_
      refine S_ic 122 0 dL_turns_122 (by decide) ?_
      refine S_callSH (a' := 0) (b' := 0) (a := 0) (b := 0) 123 (As := [.ref p1, .int 28, .int v1, .int (Int32.ofNat (xn h41 w45)), .int 0, .int 0]) rfl calL_thrown stL_thrown mkL_205 rfl rfl rfl rfl rfl dL_turns_123 (CL_thrown E p1 28 v1 (Int32.ofNat (xn h41 w45)) 0 0 h41) (fun v46 h47 => kqI ?_)
      refine S_ic 126 2 dL_turns_126 (by decide) ?_
      refine S_icmpne 127 134 dL_turns_127 (by decide) ?_ ?_
      · skip
        exact S_drop [0, 1, 2, 3, 4, 5, 6, 7] rfl (hj134 _)
      · skip
        refine S_ic 130 1 dL_turns_130 (by decide) ?_
        refine S_goto 131 135 dL_turns_131 (by decide) ?_
        exact S_drop [0, 1, 2, 3, 4, 5, 6, 7] rfl (hj135 _ _)
def FL_moves (E : XG) (p1 : Nat) (p2 : Nat) (p3 : Int32) (p4 : Int32) (p5 : Nat) (h : XH) : XP Int32 := xg (xk h p2 = 22) <| xnn (xr h p2 5) fun w1 => xg (xk h w1 = 12) <| xg (xk h p5 = 21) <| xb (FX10_next E p5 0 ((Int32.ofNat (xn h w1)) - 1) h) fun v2 h3 => xg (xk h3 p2 = 22) <| xnn (xr h3 p2 4) fun w4 => xg (xk h3 w4 = 18) <| xg (xk h3 p5 = 21) <| xb (FX10_next E p5 0 ((Int32.ofNat (xn h3 w4)) - 1) h3) fun v5 h6 => if (2 : Int32) ≤ p4 then (if (4 : Int32) ≤ p4 then (xg (xk h6 p2 = 22) <| xnn (xr h6 p2 4) fun w7 => xg (xk h6 w7 = 18 ∧ xin v5 (xn h6 w7)) <| xnn (xr h6 w7 (v5 : Int32).toNatClampNeg) fun w8 => xg (xk h6 w8 = 12 ∧ xin v2 (xn h6 w8)) <| xlt (xi h6 w8 (v2 : Int32).toNatClampNeg) fun v9 => xg (xk h6 p2 = 22) <| xnn (xr h6 p2 5) fun w10 => xg (xk h6 w10 = 12) <| xg (xk h6 p5 = 21) <| xb (FX10_next E p5 0 ((Int32.ofNat (xn h6 w10)) - 1) h6) fun v11 h12 => xg (xk h12 p2 = 22) <| xnn (xr h12 p2 4) fun w13 => xg (xk h12 w13 = 18 ∧ xin v5 (xn h12 w13)) <| xnn (xr h12 w13 (v5 : Int32).toNatClampNeg) fun w14 => xg (xk h12 w14 = 12 ∧ xin v2 (xn h12 w14)) <| xlt (yi h12 w14 (v2 : Int32).toNatClampNeg v11) fun h15 => xg (xk h15 p1 = 9) <| xb (FX8_setAct E p1 p3 v5 v2 v11 h15) fun v16 h17 => xjn (fun (v18 : Int32) (h19 : XH) => xg ((v18 : Int32) = 0 ∨ (v18 : Int32) = 1) <| xv v18 h19) fun (j318 : Int32 → XH → XP Int32) => xjn (fun  (h20 : XH) => j318 0 h20) fun (j317 : XH → XP Int32) => if (v16 : Int32) = v9 then (xb (FL_thrown E p1 25 p3 v5 v2 (-1) h17) fun v21 h22 => if (v21 : Int32) = 2 then (j318 1 h22) else (j317 h22)) else (j317 h17)) else (xg (xk h6 p2 = 22) <| xnn (xr h6 p2 5) fun w23 => xg (xk h6 w23 = 12 ∧ xin v2 (xn h6 w23)) <| xlt (xi h6 w23 (v2 : Int32).toNatClampNeg) fun v24 => xg (xk h6 p5 = 21) <| xb (FX10_next E p5 0 1 h6) fun v25 h26 => xjn (fun (v27 : Int32) (h28 : XH) => xg (xk h28 p2 = 22) <| xnn (xr h28 p2 5) fun w29 => xg (xk h28 w29 = 12 ∧ xin v2 (xn h28 w29)) <| xlt (yi h28 w29 (v2 : Int32).toNatClampNeg v27) fun h30 => xg (xk h30 p1 = 9) <| xb (FX8_setBoundary E p1 p3 v2 v27 h30) fun v31 h32 => xjn (fun (v33 : Int32) (h34 : XH) => xg ((v33 : Int32) = 0 ∨ (v33 : Int32) = 1) <| xv v33 h34) fun (j241 : Int32 → XH → XP Int32) => xjn (fun  (h35 : XH) => j241 0 h35) fun (j240 : XH → XP Int32) => if (v31 : Int32) = v24 then (xg (xk h32 p2 = 22) <| xnn (xr h32 p2 4) fun w36 => xg (xk h32 w36 = 18) <| xb (FL_thrown E p1 24 p3 v2 (Int32.ofNat (xn h32 w36)) 0 h32) fun v37 h38 => if (v37 : Int32) = 2 then (j241 1 h38) else (j240 h38)) else (j240 h32)) fun (j192 : Int32 → XH → XP Int32) => if (v25 : Int32) = 0 then (j192 0 h26) else (j192 v5 h26))) else (xlp (fun again41 (s41 : Int32 × Int32) h39 => xg (xk h39 p2 = 22) <| xnn (xr h39 p2 4) fun w40 => xg (xk h39 w40 = 18) <| if ((Int32.ofNat (xn h39 w40)) : Int32) ≤ s41.2 then (xjn (fun (v41 : Int32) (h42 : XH) => xjn (fun (v43 : Int32) (h44 : XH) => xg ((v43 : Int32) = 0 ∨ (v43 : Int32) = 1) <| xv v43 h44) fun (j161 : Int32 → XH → XP Int32) => if (v41 : Int32) = s41.1 then (j161 1 h42) else (j161 0 h42)) fun (j151 : Int32 → XH → XP Int32) => if (p4 : Int32) = 1 then (xg (xk h39 p1 = 9) <| xb (FX8_conjugate E p1 p3 h39) fun v47 h48 => j151 v47 h48) else (xg (xk h39 p1 = 9) <| xb (FX8_rest E p1 p3 h39) fun v45 h46 => j151 v45 h46)) else (xlp (fun again54 (s54 : Int32 × Int32) h49 => xg (xk h49 p2 = 22) <| xnn (xr h49 p2 5) fun w50 => xg (xk h49 w50 = 12) <| if ((Int32.ofNat (xn h49 w50)) : Int32) ≤ s54.2 then (again41 (s54.1, (s41.2 + 1)) h49) else (xjn (fun (v51 : Int32) (h52 : XH) => xg (xk h52 p2 = 22) <| xnn (xr h52 p2 4) fun w53 => xg (xk h52 w53 = 18 ∧ xin s41.2 (xn h52 w53)) <| xnn (xr h52 w53 (s41.2 : Int32).toNatClampNeg) fun w54 => xg (xk h52 w54 = 12 ∧ xin s54.2 (xn h52 w54)) <| xjn (fun (v55 : Int32) (h56 : XH) => xlt (s54.1 + v55) fun v57 => xg (xk h56 p2 = 22) <| xnn (xr h56 p2 4) fun w58 => xg (xk h56 w58 = 18 ∧ xin s41.2 (xn h56 w58)) <| xnn (xr h56 w58 (s41.2 : Int32).toNatClampNeg) fun w59 => xg (xk h56 w59 = 12 ∧ xin s54.2 (xn h56 w59)) <| xlt (yi h56 w59 (s54.2 : Int32).toNatClampNeg v51) fun h60 => again54 (v57, (s54.2 + 1)) h60) fun (j106 : Int32 → XH → XP Int32) => if ((xi h52 w54 (s54.2 : Int32).toNatClampNeg) : Int32) = v51 then (j106 0 h52) else (j106 1 h52)) fun (j82 : Int32 → XH → XP Int32) => if (p4 : Int32) = 1 then (xg (xk h49 p2 = 22) <| xb (FX11_conjugate E p2 s41.2 s54.2 h49) fun v61 h62 => j82 v61 h62) else (j82 s54.2 h49))) xfu (s41.1, 0) h39)) xfu (0, 0) h6)
theorem CL_moves (E : XG) (p1 : Nat) (p2 : Nat) (p3 : Int32) (p4 : Int32) (p5 : Nat) (h : XH) : XN E mL_moves eI 0 0 [.ref p1, .ref p2, .int p3, .int p4, .ref p5] h (FL_moves E p1 p2 p3 p4 p5 h) := by
  unfold FL_moves
  refine S_enter (L := [some (.ref p1), some (.ref p2), some (.int p3), some (.int p4), some (.ref p5), none, none, none, none, none, none]) (by decide +kernel) rfl rfl rfl ?_
  refine S_aload_4 0 dL_moves_0 ?_
  refine S_ic 2 0 dL_moves_2 (by decide) ?_
  refine S_aload_1 3 dL_moves_3 ?_
  refine S_getRN 4 fnL_176 rfl dL_moves_4 (fun w1 => ?_)
  refine S_alen 7 12 1 (by decide) rfl dL_moves_7 ?_
  refine S_ic 8 1 dL_moves_8 (by decide) ?_
  refine S_isub 9 dL_moves_9 ?_
  refine S_callV (a' := 0) (b' := 0) (a := 0) (b := 0) 10 (As := [.int 0, .int ((Int32.ofNat (xn h w1)) - 1)]) (ci := 20) rfl calX10_next imX10_next seX10_next mkL_196 rfl rfl rfl rfl rfl (by decide) rfl rfl dL_moves_10 (CX10_next E p5 0 ((Int32.ofNat (xn h w1)) - 1) h) (fun v2 h3 => kqI ?_)
  refine S_istore_5 13 dL_moves_13 rfl ?_
  refine S_aload_4 15 dL_moves_15 ?_
  refine S_ic 17 0 dL_moves_17 (by decide) ?_
  refine S_aload_1 18 dL_moves_18 ?_
  refine S_getRN 19 fnL_180 rfl dL_moves_19 (fun w4 => ?_)
  refine S_alen 22 18 7 (by decide) rfl dL_moves_22 ?_
  refine S_ic 23 1 dL_moves_23 (by decide) ?_
  refine S_isub 24 dL_moves_24 ?_
  refine S_callV (a' := 0) (b' := 0) (a := 0) (b := 0) 25 (As := [.int 0, .int ((Int32.ofNat (xn h3 w4)) - 1)]) (ci := 20) rfl calX10_next imX10_next seX10_next mkL_196 rfl rfl rfl rfl rfl (by decide) rfl rfl dL_moves_25 (CX10_next E p5 0 ((Int32.ofNat (xn h3 w4)) - 1) h3) (fun v5 h6 => kqI ?_)
  refine S_istore_6 28 dL_moves_28 rfl ?_
  refine S_ic 30 0 dL_moves_30 (by decide) ?_
  refine S_istore_7 31 dL_moves_31 rfl ?_
  refine S_iload_3 33 dL_moves_33 ?_
  refine S_ic 34 2 dL_moves_34 (by decide) ?_
  refine S_icmpge 35 162 dL_moves_35 (by decide) ?_ ?_
  · skip
    refine S_iload_3 162 dL_moves_162 ?_
    refine S_ic 163 4 dL_moves_163 (by decide) ?_
    refine S_icmpge 164 242 dL_moves_164 (by decide) ?_ ?_
    · skip
      refine S_aload_1 242 dL_moves_242 ?_
      refine S_getRN 243 fnL_180 rfl dL_moves_243 (fun w7 => ?_)
      refine S_iload_6 246 dL_moves_246 ?_
      refine S_aald 248 18 7 (by decide) rfl rfl dL_moves_248 (fun w8 => ?_)
      refine S_iload_5 249 dL_moves_249 ?_
      refine S_iald 251 dL_moves_251 ?_
      refine S_gen (fun v9 => ?_)
      refine S_istore_8 252 dL_moves_252 rfl ?_
      refine S_aload_4 254 dL_moves_254 ?_
      refine S_ic 256 0 dL_moves_256 (by decide) ?_
      refine S_aload_1 257 dL_moves_257 ?_
      refine S_getRN 258 fnL_176 rfl dL_moves_258 (fun w10 => ?_)
      refine S_alen 261 12 1 (by decide) rfl dL_moves_261 ?_
      refine S_ic 262 1 dL_moves_262 (by decide) ?_
      refine S_isub 263 dL_moves_263 ?_
      refine S_callV (a' := 0) (b' := 0) (a := 0) (b := 0) 264 (As := [.int 0, .int ((Int32.ofNat (xn h6 w10)) - 1)]) (ci := 20) rfl calX10_next imX10_next seX10_next mkL_196 rfl rfl rfl rfl rfl (by decide) rfl rfl dL_moves_264 (CX10_next E p5 0 ((Int32.ofNat (xn h6 w10)) - 1) h6) (fun v11 h12 => kqI ?_)
      refine S_istore_9 267 dL_moves_267 rfl ?_
      refine S_aload_1 269 dL_moves_269 ?_
      refine S_getRN 270 fnL_180 rfl dL_moves_270 (fun w13 => ?_)
      refine S_iload_6 273 dL_moves_273 ?_
      refine S_aald 275 18 7 (by decide) rfl rfl dL_moves_275 (fun w14 => ?_)
      refine S_iload_5 276 dL_moves_276 ?_
      refine S_iload_9 278 dL_moves_278 ?_
      refine S_iast 280 dL_moves_280 (fun h15 => ?_)
      refine S_aload_0 281 dL_moves_281 ?_
      refine S_iload_2 282 dL_moves_282 ?_
      refine S_iload_6 283 dL_moves_283 ?_
      refine S_iload_5 285 dL_moves_285 ?_
      refine S_iload_9 287 dL_moves_287 ?_
      refine S_callV (a' := 0) (b' := 0) (a := 0) (b := 0) 289 (As := [.int p3, .int v5, .int v2, .int v11]) (ci := 8) rfl calX8_setAct imX8_setAct seX8_setAct mkL_112 rfl rfl rfl rfl rfl (by decide) rfl rfl dL_moves_289 (CX8_setAct E p1 p3 v5 v2 v11 h15) (fun v16 h17 => kqI ?_)
      refine S_iload_8 292 dL_moves_292 ?_
      refine S_join (fun jj => ∀ (v18 : Int32) (h19 : XH), XS E mL_moves eI 0 0 318 [none, none, none, none, none, none, none, none, none, none, none] [.int v18] h19 (jj v18 h19)) (fun v18 h19 => ?_) (fun j318 hj318 => ?_)
      · skip
        exact S_zret 318 dL_moves_318 rfl
      refine S_join (fun jj => ∀  (h20 : XH), XS E mL_moves eI 0 0 317 [none, none, none, none, none, none, none, none, none, none, none] [] h20 (jj  h20)) (fun  h20 => ?_) (fun j317 hj317 => ?_)
      · skip
        refine S_ic 317 0 dL_moves_317 (by decide) ?_
        exact S_drop [] rfl (hj318 _ _)
      refine S_icmpne 294 317 dL_moves_294 (by decide) ?_ ?_
      · skip
        exact S_drop [0, 1, 2, 3, 4, 5, 6, 7, 8, 9] rfl (hj317 _)
      · skip
        refine S_aload_0 297 dL_moves_297 ?_
        refine S_bip 298 25 dL_moves_298 (by decide) ?_
        refine S_iload_2 300 dL_moves_300 ?_
        refine S_iload_6 301 dL_moves_301 ?_
        refine S_iload_5 303 dL_moves_303 ?_
        refine S_ic 305 (-1) dL_moves_305 (by decide) ?_
        refine S_callSH (a' := 0) (b' := 0) (a := 0) (b := 0) 306 (As := [.ref p1, .int 25, .int p3, .int v5, .int v2, .int (-1)]) rfl calL_thrown stL_thrown mkL_205 rfl rfl rfl rfl rfl dL_moves_306 (CL_thrown E p1 25 p3 v5 v2 (-1) h17) (fun v21 h22 => kqI ?_)
        refine S_ic 309 2 dL_moves_309 (by decide) ?_
        refine S_icmpne 310 317 dL_moves_310 (by decide) ?_ ?_
        · skip
          exact S_drop [0, 1, 2, 3, 4, 5, 6, 7, 8, 9] rfl (hj317 _)
        · skip
          refine S_ic 313 1 dL_moves_313 (by decide) ?_
          refine S_goto 314 318 dL_moves_314 (by decide) ?_
          exact S_drop [0, 1, 2, 3, 4, 5, 6, 7, 8, 9] rfl (hj318 _ _)
    · skip
      refine S_aload_1 167 dL_moves_167 ?_
      refine S_getRN 168 fnL_176 rfl dL_moves_168 (fun w23 => ?_)
      refine S_iload_5 171 dL_moves_171 ?_
      refine S_iald 173 dL_moves_173 ?_
      refine S_gen (fun v24 => ?_)
      refine S_istore_8 174 dL_moves_174 rfl ?_
      refine S_aload_4 176 dL_moves_176 ?_
      refine S_ic 178 0 dL_moves_178 (by decide) ?_
      refine S_ic 179 1 dL_moves_179 (by decide) ?_
      refine S_callV (a' := 0) (b' := 0) (a := 0) (b := 0) 180 (As := [.int 0, .int 1]) (ci := 20) rfl calX10_next imX10_next seX10_next mkL_196 rfl rfl rfl rfl rfl (by decide) rfl rfl dL_moves_180 (CX10_next E p5 0 1 h6) (fun v25 h26 => kqI ?_)
      refine S_join (fun jj => ∀ (v27 : Int32) (h28 : XH), XS E mL_moves eI 0 0 192 [some (.ref p1), some (.ref p2), some (.int p3), none, none, some (.int v2), none, none, some (.int v24), none, none] [.int v27] h28 (jj v27 h28)) (fun v27 h28 => ?_) (fun j192 hj192 => ?_)
      · skip
        refine S_istore_9 192 dL_moves_192 rfl ?_
        refine S_aload_1 194 dL_moves_194 ?_
        refine S_getRN 195 fnL_176 rfl dL_moves_195 (fun w29 => ?_)
        refine S_iload_5 198 dL_moves_198 ?_
        refine S_iload_9 200 dL_moves_200 ?_
        refine S_iast 202 dL_moves_202 (fun h30 => ?_)
        refine S_aload_0 203 dL_moves_203 ?_
        refine S_iload_2 204 dL_moves_204 ?_
        refine S_iload_5 205 dL_moves_205 ?_
        refine S_iload_9 207 dL_moves_207 ?_
        refine S_callV (a' := 0) (b' := 0) (a := 0) (b := 0) 209 (As := [.int p3, .int v2, .int v27]) (ci := 8) rfl calX8_setBoundary imX8_setBoundary seX8_setBoundary mkL_109 rfl rfl rfl rfl rfl (by decide) rfl rfl dL_moves_209 (CX8_setBoundary E p1 p3 v2 v27 h30) (fun v31 h32 => kqI ?_)
        refine S_iload_8 212 dL_moves_212 ?_
        refine S_join (fun jj => ∀ (v33 : Int32) (h34 : XH), XS E mL_moves eI 0 0 241 [none, none, none, none, none, none, none, none, none, none, none] [.int v33] h34 (jj v33 h34)) (fun v33 h34 => ?_) (fun j241 hj241 => ?_)
        · skip
          exact S_zret 241 dL_moves_241 rfl
        refine S_join (fun jj => ∀  (h35 : XH), XS E mL_moves eI 0 0 240 [none, none, none, none, none, none, none, none, none, none, none] [] h35 (jj  h35)) (fun  h35 => ?_) (fun j240 hj240 => ?_)
        · skip
          refine S_ic 240 0 dL_moves_240 (by decide) ?_
          exact S_drop [] rfl (hj241 _ _)
        refine S_icmpne 214 240 dL_moves_214 (by decide) ?_ ?_
        · skip
          exact S_drop [0, 1, 2, 5, 8, 9] rfl (hj240 _)
        · skip
          refine S_aload_0 217 dL_moves_217 ?_
          refine S_bip 218 24 dL_moves_218 (by decide) ?_
          refine S_iload_2 220 dL_moves_220 ?_
          refine S_iload_5 221 dL_moves_221 ?_
          refine S_aload_1 223 dL_moves_223 ?_
          refine S_getRN 224 fnL_180 rfl dL_moves_224 (fun w36 => ?_)
          refine S_alen 227 18 7 (by decide) rfl dL_moves_227 ?_
          refine S_ic 228 0 dL_moves_228 (by decide) ?_
          refine S_callSH (a' := 0) (b' := 0) (a := 0) (b := 0) 229 (As := [.ref p1, .int 24, .int p3, .int v2, .int (Int32.ofNat (xn h32 w36)), .int 0]) rfl calL_thrown stL_thrown mkL_205 rfl rfl rfl rfl rfl dL_moves_229 (CL_thrown E p1 24 p3 v2 (Int32.ofNat (xn h32 w36)) 0 h32) (fun v37 h38 => kqI ?_)
          refine S_ic 232 2 dL_moves_232 (by decide) ?_
          refine S_icmpne 233 240 dL_moves_233 (by decide) ?_ ?_
          · skip
            exact S_drop [0, 1, 2, 5, 8, 9] rfl (hj240 _)
          · skip
            refine S_ic 236 1 dL_moves_236 (by decide) ?_
            refine S_goto 237 241 dL_moves_237 (by decide) ?_
            exact S_drop [0, 1, 2, 5, 8, 9] rfl (hj241 _ _)
      refine S_ifne 183 190 dL_moves_183 (by decide) ?_ ?_
      · skip
        refine S_iload_6 190 dL_moves_190 ?_
        exact S_drop [3, 4, 6, 7] rfl (hj192 _ _)
      · skip
        refine S_ic 186 0 dL_moves_186 (by decide) ?_
        refine S_goto 187 192 dL_moves_187 (by decide) ?_
        exact S_drop [3, 4, 6, 7] rfl (hj192 _ _)
  · skip
    refine S_ic 38 0 dL_moves_38 (by decide) ?_
    refine S_istore_8 39 dL_moves_39 rfl ?_
    refine S_drop [4, 5, 6] rfl ?_
    refine S_loop (fun (s41 : Int32 × Int32) => [some (.ref p1), some (.ref p2), some (.int p3), some (.int p4), none, none, none, some (.int s41.1), some (.int s41.2), none, none]) (fun again41 hg41 s41 h39 => ?_) xfu _ _
    refine S_iload_8 41 dL_moves_41 ?_
    refine S_aload_1 43 dL_moves_43 ?_
    refine S_getRN 44 fnL_180 rfl dL_moves_44 (fun w40 => ?_)
    refine S_alen 47 18 7 (by decide) rfl dL_moves_47 ?_
    refine S_icmpge 48 133 dL_moves_48 (by decide) ?_ ?_
    · skip
      refine S_iload_3 133 dL_moves_133 ?_
      refine S_ic 134 1 dL_moves_134 (by decide) ?_
      refine S_join (fun jj => ∀ (v41 : Int32) (h42 : XH), XS E mL_moves eI 0 0 151 [none, none, none, none, none, none, none, some (.int s41.1), none, none, none] [.int v41] h42 (jj v41 h42)) (fun v41 h42 => ?_) (fun j151 hj151 => ?_)
      · skip
        refine S_iload_7 151 dL_moves_151 ?_
        refine S_join (fun jj => ∀ (v43 : Int32) (h44 : XH), XS E mL_moves eI 0 0 161 [none, none, none, none, none, none, none, none, none, none, none] [.int v43] h44 (jj v43 h44)) (fun v43 h44 => ?_) (fun j161 hj161 => ?_)
        · skip
          exact S_zret 161 dL_moves_161 rfl
        refine S_icmpne 153 160 dL_moves_153 (by decide) ?_ ?_
        · skip
          refine S_ic 160 0 dL_moves_160 (by decide) ?_
          exact S_drop [7] rfl (hj161 _ _)
        · skip
          refine S_ic 156 1 dL_moves_156 (by decide) ?_
          refine S_goto 157 161 dL_moves_157 (by decide) ?_
          exact S_drop [7] rfl (hj161 _ _)
      refine S_icmpne 135 146 dL_moves_135 (by decide) ?_ ?_
      · skip
        refine S_aload_0 146 dL_moves_146 ?_
        refine S_iload_2 147 dL_moves_147 ?_
        refine S_callV (a' := 0) (b' := 0) (a := 0) (b := 0) 148 (As := [.int p3]) (ci := 8) rfl calX8_rest imX8_rest seX8_rest mkL_116 rfl rfl rfl rfl rfl (by decide) rfl rfl dL_moves_148 (CX8_rest E p1 p3 h39) (fun v45 h46 => kqI ?_)
        exact S_drop [0, 1, 2, 3, 8] rfl (hj151 _ _)
      · skip
        refine S_aload_0 138 dL_moves_138 ?_
        refine S_iload_2 139 dL_moves_139 ?_
        refine S_callV (a' := 0) (b' := 0) (a := 0) (b := 0) 140 (As := [.int p3]) (ci := 8) rfl calX8_conjugate imX8_conjugate seX8_conjugate mkL_119 rfl rfl rfl rfl rfl (by decide) rfl rfl dL_moves_140 (CX8_conjugate E p1 p3 h39) (fun v47 h48 => kqI ?_)
        refine S_goto 143 151 dL_moves_143 (by decide) ?_
        exact S_drop [0, 1, 2, 3, 8] rfl (hj151 _ _)
    · skip
      refine S_ic 51 0 dL_moves_51 (by decide) ?_
      refine S_istore_9 52 dL_moves_52 rfl ?_
      refine S_loop (fun (s54 : Int32 × Int32) => [some (.ref p1), some (.ref p2), some (.int p3), some (.int p4), none, none, none, some (.int s54.1), some (.int s41.2), some (.int s54.2), none]) (fun again54 hg54 s54 h49 => ?_) xfu _ _
      refine S_iload_9 54 dL_moves_54 ?_
      refine S_aload_1 56 dL_moves_56 ?_
      refine S_getRN 57 fnL_176 rfl dL_moves_57 (fun w50 => ?_)
      refine S_alen 60 12 1 (by decide) rfl dL_moves_60 ?_
      refine S_icmpge 61 127 dL_moves_61 (by decide) ?_ ?_
      · skip
        refine S_iinc_8 127 (s41.2 + 1) dL_moves_127 (by rfl) rfl ?_
        refine S_goto 130 41 dL_moves_130 (by decide) ?_
        exact S_drop [9] rfl (hg41 _ _)
      · skip
        refine S_iload_3 64 dL_moves_64 ?_
        refine S_ic 65 1 dL_moves_65 (by decide) ?_
        refine S_join (fun jj => ∀ (v51 : Int32) (h52 : XH), XS E mL_moves eI 0 0 82 [some (.ref p1), some (.ref p2), some (.int p3), some (.int p4), none, none, none, some (.int s54.1), some (.int s41.2), some (.int s54.2), none] [.int v51] h52 (jj v51 h52)) (fun v51 h52 => ?_) (fun j82 hj82 => ?_)
        · skip
          refine S_istore_10 82 dL_moves_82 rfl ?_
          refine S_iload_7 84 dL_moves_84 ?_
          refine S_aload_1 86 dL_moves_86 ?_
          refine S_getRN 87 fnL_180 rfl dL_moves_87 (fun w53 => ?_)
          refine S_iload_8 90 dL_moves_90 ?_
          refine S_aald 92 18 7 (by decide) rfl rfl dL_moves_92 (fun w54 => ?_)
          refine S_iload_9 93 dL_moves_93 ?_
          refine S_iald 95 dL_moves_95 ?_
          refine S_iload_10 96 dL_moves_96 ?_
          refine S_join (fun jj => ∀ (v55 : Int32) (h56 : XH), XS E mL_moves eI 0 0 106 [some (.ref p1), some (.ref p2), some (.int p3), some (.int p4), none, none, none, none, some (.int s41.2), some (.int s54.2), some (.int v51)] [.int v55, .int s54.1] h56 (jj v55 h56)) (fun v55 h56 => ?_) (fun j106 hj106 => ?_)
          · skip
            refine S_iadd 106 dL_moves_106 ?_
            refine S_gen (fun v57 => ?_)
            refine S_istore_7 107 dL_moves_107 rfl ?_
            refine S_aload_1 109 dL_moves_109 ?_
            refine S_getRN 110 fnL_180 rfl dL_moves_110 (fun w58 => ?_)
            refine S_iload_8 113 dL_moves_113 ?_
            refine S_aald 115 18 7 (by decide) rfl rfl dL_moves_115 (fun w59 => ?_)
            refine S_iload_9 116 dL_moves_116 ?_
            refine S_iload_10 118 dL_moves_118 ?_
            refine S_iast 120 dL_moves_120 (fun h60 => ?_)
            refine S_iinc_9 121 (s54.2 + 1) dL_moves_121 (by rfl) rfl ?_
            refine S_goto 124 54 dL_moves_124 (by decide) ?_
            exact S_drop [10] rfl (hg54 _ _)
          refine S_icmpne 98 105 dL_moves_98 (by decide) ?_ ?_
          · skip
            refine S_ic 105 1 dL_moves_105 (by decide) ?_
            exact S_drop [7] rfl (hj106 _ _)
          · skip
            refine S_ic 101 0 dL_moves_101 (by decide) ?_
            refine S_goto 102 106 dL_moves_102 (by decide) ?_
            exact S_drop [7] rfl (hj106 _ _)
        refine S_icmpne 66 80 dL_moves_66 (by decide) ?_ ?_
        · skip
          refine S_iload_9 80 dL_moves_80 ?_
          exact S_drop [] rfl (hj82 _ _)
        · skip
          refine S_aload_1 69 dL_moves_69 ?_
          refine S_iload_8 70 dL_moves_70 ?_
          refine S_iload_9 72 dL_moves_72 ?_
          refine S_callV (a' := 0) (b' := 0) (a := 0) (b := 0) 74 (As := [.int s41.2, .int s54.2]) (ci := 21) rfl calX11_conjugate imX11_conjugate seX11_conjugate mkL_221 rfl rfl rfl rfl rfl (by decide) rfl rfl dL_moves_74 (CX11_conjugate E p2 s41.2 s54.2 h49) (fun v61 h62 => kqI ?_)
          refine S_goto 77 82 dL_moves_77 (by decide) ?_
          exact S_drop [] rfl (hj82 _ _)
def FL_act (E : XG) (p1 : Nat) (p2 : Nat) (p3 : Nat) (h : XH) : XP Int32 := xg (xk h p3 = 21) <| xb (FX10_next E p3 0 9 h) fun v1 h2 => xg (xk h2 p2 = 23) <| xg (xk h2 p3 = 21) <| xb (FX10_next E p3 0 ((xi h2 p2 6) - 1) h2) fun v3 h4 => xg (xk h4 p2 = 23) <| xnn (xr h4 p2 2) fun w5 => xg (xk h4 w5 = 20 ∧ xin v3 (xn h4 w5)) <| xnn (xr h4 w5 (v3 : Int32).toNatClampNeg) fun w6 => if (v1 : Int32) ≤ 5 then (xjn (fun  (h7 : XH) => xg (xk h7 w6 = 22) <| xb (FX11_why E w6  h7) fun v8 h9 => xjn (fun (v10 : Int32) (h11 : XH) => xg (xk h11 p2 = 23) <| xnn (xr h11 p2 4) fun w12 => xg (xk h11 w12 = 12 ∧ xin 0 (xn h11 w12)) <| xg (xk h11 w12 = 12 ∧ xin 0 (xn h11 w12)) <| xlt (yi h11 w12 (0 : Int32).toNatClampNeg ((xi h11 w12 (0 : Int32).toNatClampNeg) + 1)) fun h13 => xb (FL_moves E p1 w6 v3 v1 p3 h13) fun v14 h15 => xg (xk h15 w6 = 22) <| xb (FX11_why E w6  h15) fun v16 h17 => xjn (fun (v18 : Int32) (h19 : XH) => xg (xk h19 p2 = 23) <| xnn (xr h19 p2 4) fun w20 => xg (xk h19 w20 = 12 ∧ xin 1 (xn h19 w20)) <| xjn (fun (v21 : Int32) (h22 : XH) => xg (xk h22 w20 = 12 ∧ xin 1 (xn h22 w20)) <| xlt (yi h22 w20 (1 : Int32).toNatClampNeg ((xi h19 w20 (1 : Int32).toNatClampNeg) + v21)) fun h23 => xg (xk h23 p2 = 23) <| xnn (xr h23 p2 4) fun w24 => xg (xk h23 w24 = 12 ∧ xin 2 (xn h23 w24)) <| xjn (fun (v25 : Int32) (h26 : XH) => xg (xk h26 w24 = 12 ∧ xin 2 (xn h26 w24)) <| xlt (yi h26 w24 (2 : Int32).toNatClampNeg ((xi h23 w24 (2 : Int32).toNatClampNeg) + v25)) fun h27 => xg ((v14 : Int32) = 0 ∨ (v14 : Int32) = 1) <| xv v14 h27) fun (j208 : Int32 → XH → XP Int32) => xjn (fun  (h28 : XH) => j208 0 h28) fun (j207 : XH → XP Int32) => if (v10 : Int32) = 0 then (if (v18 : Int32) = 0 then (j207 h23) else (j208 1 h23)) else (j207 h23)) fun (j184 : Int32 → XH → XP Int32) => xjn (fun  (h29 : XH) => j184 0 h29) fun (j183 : XH → XP Int32) => if (v10 : Int32) = 0 then (j183 h19) else (if (v18 : Int32) = 0 then (j184 1 h19) else (j183 h19))) fun (j160 : Int32 → XH → XP Int32) => if (v16 : Int32) = 0 then (j160 1 h17) else (j160 0 h17)) fun (j123 : Int32 → XH → XP Int32) => if (v8 : Int32) = 0 then (j123 1 h9) else (j123 0 h9)) fun (j110 : XH → XP Int32) => if (v1 : Int32) = 1 then (xg (xk h4 w6 = 22) <| xg (xk h4 w6 = 22) <| if ((xi h4 w6 0) : Int32) = (xi h4 w6 1) then (j110 h4) else (xb (FL_thrown E p1 27 v3 0 0 0 h4) fun v30 h31 => xjn (fun (v32 : Int32) (h33 : XH) => xg ((v32 : Int32) = 0 ∨ (v32 : Int32) = 1) <| xv v32 h33) fun (j109 : Int32 → XH → XP Int32) => if (v30 : Int32) = 3 then (j109 1 h31) else (j109 0 h31))) else (j110 h4)) else (xg (xk h4 p2 = 23) <| xjn (fun (v34 : Int32) (h35 : XH) => xg ((v34 : Int32) = 0 ∨ (v34 : Int32) = 1) <| xv v34 h35) fun (j70 : Int32 → XH → XP Int32) => if ((xi h4 p2 7) : Int32) ≤ 0 then (xb (FL_thrown E p1 28 0 0 0 0 h4) fun v36 h37 => if (v36 : Int32) = 2 then (j70 1 h37) else (j70 0 h37)) else (xb (FL_turns E p1 p2 p3 h4) fun v38 h39 => j70 v38 h39))
theorem CL_act (E : XG) (p1 : Nat) (p2 : Nat) (p3 : Nat) (h : XH) : XN E mL_act eI 0 0 [.ref p1, .ref p2, .ref p3] h (FL_act E p1 p2 p3 h) := by
  unfold FL_act
  refine S_enter (L := [some (.ref p1), some (.ref p2), some (.ref p3), none, none, none, none, none, none]) (by decide +kernel) rfl rfl rfl ?_
  refine S_aload_2 0 dL_act_0 ?_
  refine S_ic 1 0 dL_act_1 (by decide) ?_
  refine S_bip 2 9 dL_act_2 (by decide) ?_
  refine S_callV (a' := 0) (b' := 0) (a := 0) (b := 0) 4 (As := [.int 0, .int 9]) (ci := 20) rfl calX10_next imX10_next seX10_next mkL_196 rfl rfl rfl rfl rfl (by decide) rfl rfl dL_act_4 (CX10_next E p3 0 9 h) (fun v1 h2 => kqI ?_)
  refine S_istore_3 7 dL_act_7 rfl ?_
  refine S_aload_2 8 dL_act_8 ?_
  refine S_ic 9 0 dL_act_9 (by decide) ?_
  refine S_aload_1 10 dL_act_10 ?_
  refine S_getIN 11 fnL_162 rfl dL_act_11 ?_
  refine S_ic 14 1 dL_act_14 (by decide) ?_
  refine S_isub 15 dL_act_15 ?_
  refine S_callV (a' := 0) (b' := 0) (a := 0) (b := 0) 16 (As := [.int 0, .int ((xi h2 p2 6) - 1)]) (ci := 20) rfl calX10_next imX10_next seX10_next mkL_196 rfl rfl rfl rfl rfl (by decide) rfl rfl dL_act_16 (CX10_next E p3 0 ((xi h2 p2 6) - 1) h2) (fun v3 h4 => kqI ?_)
  refine S_istore_4 19 dL_act_19 rfl ?_
  refine S_aload_1 21 dL_act_21 ?_
  refine S_getRN 22 fnL_172 rfl dL_act_22 (fun w5 => ?_)
  refine S_iload_4 25 dL_act_25 ?_
  refine S_aald 27 20 9 (by decide) rfl rfl dL_act_27 (fun w6 => ?_)
  refine S_astore_5 28 dL_act_28 rfl ?_
  refine S_iload_3 30 dL_act_30 ?_
  refine S_ic 31 5 dL_act_31 (by decide) ?_
  refine S_icmple 32 71 dL_act_32 (by decide) ?_ ?_
  · skip
    refine S_iload_3 71 dL_act_71 ?_
    refine S_ic 72 1 dL_act_72 (by decide) ?_
    refine S_join (fun jj => ∀  (h7 : XH), XS E mL_act eI 0 0 110 [some (.ref p1), some (.ref p2), some (.ref p3), some (.int v1), some (.int v3), some (.ref w6), none, none, none] [] h7 (jj  h7)) (fun  h7 => ?_) (fun j110 hj110 => ?_)
    · skip
      refine S_aload_5 110 dL_act_110 ?_
      refine S_callV (a' := 0) (b' := 0) (a := 0) (b := 0) 112 (As := []) (ci := 21) rfl calX11_why imX11_why seX11_why mkL_215 rfl rfl rfl rfl rfl (by decide) rfl rfl dL_act_112 (CX11_why E w6  h7) (fun v8 h9 => kqI ?_)
      refine S_join (fun jj => ∀ (v10 : Int32) (h11 : XH), XS E mL_act eI 0 0 123 [some (.ref p1), some (.ref p2), some (.ref p3), some (.int v1), some (.int v3), some (.ref w6), none, none, none] [.int v10] h11 (jj v10 h11)) (fun v10 h11 => ?_) (fun j123 hj123 => ?_)
      · skip
        refine S_istore_6 123 dL_act_123 rfl ?_
        refine S_aload_1 125 dL_act_125 ?_
        refine S_getRN 126 fnL_193 rfl dL_act_126 (fun w12 => ?_)
        refine S_ic 129 0 dL_act_129 (by decide) ?_
        refine S_dup2 130 dL_act_130 rfl rfl ?_
        refine S_iald 131 dL_act_131 ?_
        refine S_ic 132 1 dL_act_132 (by decide) ?_
        refine S_iadd 133 dL_act_133 ?_
        refine S_iast 134 dL_act_134 (fun h13 => ?_)
        refine S_aload_0 135 dL_act_135 ?_
        refine S_aload_5 136 dL_act_136 ?_
        refine S_iload_4 138 dL_act_138 ?_
        refine S_iload_3 140 dL_act_140 ?_
        refine S_aload_2 141 dL_act_141 ?_
        refine S_callS (a' := 0) (b' := 0) (a := 0) (b := 0) 142 (As := [.ref p1, .ref w6, .int v3, .int v1, .ref p3]) rfl calL_moves stL_moves mkL_217 rfl rfl rfl rfl rfl dL_act_142 (CL_moves E p1 w6 v3 v1 p3 h13) (fun v14 h15 => kqI ?_)
        refine S_istore_7 145 dL_act_145 rfl ?_
        refine S_aload_5 147 dL_act_147 ?_
        refine S_callV (a' := 0) (b' := 0) (a := 0) (b := 0) 149 (As := []) (ci := 21) rfl calX11_why imX11_why seX11_why mkL_215 rfl rfl rfl rfl rfl (by decide) rfl rfl dL_act_149 (CX11_why E w6  h15) (fun v16 h17 => kqI ?_)
        refine S_join (fun jj => ∀ (v18 : Int32) (h19 : XH), XS E mL_act eI 0 0 160 [none, some (.ref p2), none, none, none, none, some (.int v10), some (.int v14), none] [.int v18] h19 (jj v18 h19)) (fun v18 h19 => ?_) (fun j160 hj160 => ?_)
        · skip
          refine S_istore_8 160 dL_act_160 rfl ?_
          refine S_aload_1 162 dL_act_162 ?_
          refine S_getRN 163 fnL_193 rfl dL_act_163 (fun w20 => ?_)
          refine S_ic 166 1 dL_act_166 (by decide) ?_
          refine S_dup2 167 dL_act_167 rfl rfl ?_
          refine S_iald 168 dL_act_168 ?_
          refine S_iload_6 169 dL_act_169 ?_
          refine S_join (fun jj => ∀ (v21 : Int32) (h22 : XH), XS E mL_act eI 0 0 184 [none, some (.ref p2), none, none, none, none, some (.int v10), some (.int v14), some (.int v18)] [.int v21, .int (xi h19 w20 (1 : Int32).toNatClampNeg), .int 1, .ref w20] h22 (jj v21 h22)) (fun v21 h22 => ?_) (fun j184 hj184 => ?_)
          · skip
            refine S_iadd 184 dL_act_184 ?_
            refine S_iast 185 dL_act_185 (fun h23 => ?_)
            refine S_aload_1 186 dL_act_186 ?_
            refine S_getRN 187 fnL_193 rfl dL_act_187 (fun w24 => ?_)
            refine S_ic 190 2 dL_act_190 (by decide) ?_
            refine S_dup2 191 dL_act_191 rfl rfl ?_
            refine S_iald 192 dL_act_192 ?_
            refine S_iload_6 193 dL_act_193 ?_
            refine S_join (fun jj => ∀ (v25 : Int32) (h26 : XH), XS E mL_act eI 0 0 208 [none, none, none, none, none, none, none, some (.int v14), none] [.int v25, .int (xi h23 w24 (2 : Int32).toNatClampNeg), .int 2, .ref w24] h26 (jj v25 h26)) (fun v25 h26 => ?_) (fun j208 hj208 => ?_)
            · skip
              refine S_iadd 208 dL_act_208 ?_
              refine S_iast 209 dL_act_209 (fun h27 => ?_)
              refine S_iload_7 210 dL_act_210 ?_
              exact S_zret 212 dL_act_212 rfl
            refine S_join (fun jj => ∀  (h28 : XH), XS E mL_act eI 0 0 207 [none, none, none, none, none, none, none, some (.int v14), none] [.int (xi h23 w24 (2 : Int32).toNatClampNeg), .int 2, .ref w24] h28 (jj  h28)) (fun  h28 => ?_) (fun j207 hj207 => ?_)
            · skip
              refine S_ic 207 0 dL_act_207 (by decide) ?_
              exact S_drop [] rfl (hj208 _ _)
            refine S_ifne 195 207 dL_act_195 (by decide) ?_ ?_
            · skip
              exact S_drop [1, 6, 8] rfl (hj207 _)
            · skip
              refine S_iload_8 198 dL_act_198 ?_
              refine S_ifeq 200 207 dL_act_200 (by decide) ?_ ?_
              · skip
                exact S_drop [1, 6, 8] rfl (hj207 _)
              · skip
                refine S_ic 203 1 dL_act_203 (by decide) ?_
                refine S_goto 204 208 dL_act_204 (by decide) ?_
                exact S_drop [1, 6, 8] rfl (hj208 _ _)
          refine S_join (fun jj => ∀  (h29 : XH), XS E mL_act eI 0 0 183 [none, some (.ref p2), none, none, none, none, some (.int v10), some (.int v14), some (.int v18)] [.int (xi h19 w20 (1 : Int32).toNatClampNeg), .int 1, .ref w20] h29 (jj  h29)) (fun  h29 => ?_) (fun j183 hj183 => ?_)
          · skip
            refine S_ic 183 0 dL_act_183 (by decide) ?_
            exact S_drop [] rfl (hj184 _ _)
          refine S_ifeq 171 183 dL_act_171 (by decide) ?_ ?_
          · skip
            exact S_drop [] rfl (hj183 _)
          · skip
            refine S_iload_8 174 dL_act_174 ?_
            refine S_ifne 176 183 dL_act_176 (by decide) ?_ ?_
            · skip
              exact S_drop [] rfl (hj183 _)
            · skip
              refine S_ic 179 1 dL_act_179 (by decide) ?_
              refine S_goto 180 184 dL_act_180 (by decide) ?_
              exact S_drop [] rfl (hj184 _ _)
        refine S_ifne 152 159 dL_act_152 (by decide) ?_ ?_
        · skip
          refine S_ic 159 0 dL_act_159 (by decide) ?_
          exact S_drop [0, 2, 3, 4, 5] rfl (hj160 _ _)
        · skip
          refine S_ic 155 1 dL_act_155 (by decide) ?_
          refine S_goto 156 160 dL_act_156 (by decide) ?_
          exact S_drop [0, 2, 3, 4, 5] rfl (hj160 _ _)
      refine S_ifne 115 122 dL_act_115 (by decide) ?_ ?_
      · skip
        refine S_ic 122 0 dL_act_122 (by decide) ?_
        exact S_drop [] rfl (hj123 _ _)
      · skip
        refine S_ic 118 1 dL_act_118 (by decide) ?_
        refine S_goto 119 123 dL_act_119 (by decide) ?_
        exact S_drop [] rfl (hj123 _ _)
    refine S_icmpne 73 110 dL_act_73 (by decide) ?_ ?_
    · skip
      exact S_drop [] rfl (hj110 _)
    · skip
      refine S_aload_5 76 dL_act_76 ?_
      refine S_getIN 78 fnL_209 rfl dL_act_78 ?_
      refine S_aload_5 81 dL_act_81 ?_
      refine S_getIN 83 fnL_212 rfl dL_act_83 ?_
      refine S_icmpeq 86 110 dL_act_86 (by decide) ?_ ?_
      · skip
        exact S_drop [] rfl (hj110 _)
      · skip
        refine S_aload_0 89 dL_act_89 ?_
        refine S_bip 90 27 dL_act_90 (by decide) ?_
        refine S_iload_4 92 dL_act_92 ?_
        refine S_ic 94 0 dL_act_94 (by decide) ?_
        refine S_ic 95 0 dL_act_95 (by decide) ?_
        refine S_ic 96 0 dL_act_96 (by decide) ?_
        refine S_callSH (a' := 0) (b' := 0) (a := 0) (b := 0) 97 (As := [.ref p1, .int 27, .int v3, .int 0, .int 0, .int 0]) rfl calL_thrown stL_thrown mkL_205 rfl rfl rfl rfl rfl dL_act_97 (CL_thrown E p1 27 v3 0 0 0 h4) (fun v30 h31 => kqI ?_)
        refine S_ic 100 3 dL_act_100 (by decide) ?_
        refine S_join (fun jj => ∀ (v32 : Int32) (h33 : XH), XS E mL_act eI 0 0 109 [none, none, none, none, none, none, none, none, none] [.int v32] h33 (jj v32 h33)) (fun v32 h33 => ?_) (fun j109 hj109 => ?_)
        · skip
          exact S_zret 109 dL_act_109 rfl
        refine S_icmpne 101 108 dL_act_101 (by decide) ?_ ?_
        · skip
          refine S_ic 108 0 dL_act_108 (by decide) ?_
          exact S_drop [0, 1, 2, 3, 4, 5] rfl (hj109 _ _)
        · skip
          refine S_ic 104 1 dL_act_104 (by decide) ?_
          refine S_goto 105 109 dL_act_105 (by decide) ?_
          exact S_drop [0, 1, 2, 3, 4, 5] rfl (hj109 _ _)
  · skip
    refine S_aload_1 35 dL_act_35 ?_
    refine S_getIN 36 fnL_165 rfl dL_act_36 ?_
    refine S_join (fun jj => ∀ (v34 : Int32) (h35 : XH), XS E mL_act eI 0 0 70 [none, none, none, none, none, none, none, none, none] [.int v34] h35 (jj v34 h35)) (fun v34 h35 => ?_) (fun j70 hj70 => ?_)
    · skip
      exact S_zret 70 dL_act_70 rfl
    refine S_ifle 39 51 dL_act_39 (by decide) ?_ ?_
    · skip
      refine S_aload_0 51 dL_act_51 ?_
      refine S_bip 52 28 dL_act_52 (by decide) ?_
      refine S_ic 54 0 dL_act_54 (by decide) ?_
      refine S_ic 55 0 dL_act_55 (by decide) ?_
      refine S_ic 56 0 dL_act_56 (by decide) ?_
      refine S_ic 57 0 dL_act_57 (by decide) ?_
      refine S_callSH (a' := 0) (b' := 0) (a := 0) (b := 0) 58 (As := [.ref p1, .int 28, .int 0, .int 0, .int 0, .int 0]) rfl calL_thrown stL_thrown mkL_205 rfl rfl rfl rfl rfl dL_act_58 (CL_thrown E p1 28 0 0 0 0 h4) (fun v36 h37 => kqI ?_)
      refine S_ic 61 2 dL_act_61 (by decide) ?_
      refine S_icmpne 62 69 dL_act_62 (by decide) ?_ ?_
      · skip
        refine S_ic 69 0 dL_act_69 (by decide) ?_
        exact S_drop [0, 1, 2, 3, 4, 5] rfl (hj70 _ _)
      · skip
        refine S_ic 65 1 dL_act_65 (by decide) ?_
        refine S_goto 66 70 dL_act_66 (by decide) ?_
        exact S_drop [0, 1, 2, 3, 4, 5] rfl (hj70 _ _)
    · skip
      refine S_aload_0 42 dL_act_42 ?_
      refine S_aload_1 43 dL_act_43 ?_
      refine S_aload_2 44 dL_act_44 ?_
      refine S_callS (a' := 0) (b' := 0) (a := 0) (b := 0) 45 (As := [.ref p1, .ref p2, .ref p3]) rfl calL_turns stL_turns mkL_201 rfl rfl rfl rfl rfl dL_act_45 (CL_turns E p1 p2 p3 h4) (fun v38 h39 => kqI ?_)
      refine S_goto 48 70 dL_act_48 (by decide) ?_
      exact S_drop [0, 1, 2, 3, 4, 5] rfl (hj70 _ _)
