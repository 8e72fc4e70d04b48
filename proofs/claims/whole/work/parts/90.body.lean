/-! The law's body: one call of the class and of the reference. -/
set_option linter.unusedVariables false
def yL_law1 : MethodName := ⟨RL, "law", "([I)Z"⟩
def mL_law : XM := (yL_law1, cL_law, 7, (some .boolean), [], 13, 482)
/-- the law's locals -/
abbrev Lw (E : XG) (X Y O i : Nat) (x5 x6 : Option Value) : List (Option Value) := [some (.ref (eS E)), some (.ref X), some (.ref Y), some (.ref O), some (.int (nI i)), x5, x6]
/-- the law ends with true -/
def QT : XO → Prop := fun o => ∃ h, o = (.inl (some (.int 1)), h)
theorem yj_same (h : XH) (O k : Nat) : yj h O k (xj h O k) = h := by
  obtain ⟨a, b, c, d, e⟩ := h
  show (a, b, c, (fun b' j => if b' = O ∧ j = k then d O k else d b' j), e) = (a, b, c, d, e)
  congr 3
  congr 1
  funext b' j
  by_cases q : b' = O ∧ j = k
  · rw [if_pos q, q.1, q.2]
  · rw [if_neg q]
theorem yt_same (h : XH) : yt h (xt h) = h := rfl
/-- one call: the class's wrapper and the reference behind it -/
theorem JJ_call {X Y O : Nat} {l : List Nat} {h : XH} {Z : ZD} {FC FM : XH → XP Int32} (j : JJ h X Y O Z) (a : AGw X Y (cmT l) h Z FC FM) : ∃ (r : Int32 ⊕ Nat) (h1 : XH), FC h = some (r, h1) ∧ xk h X = 9 ∧ (xk h1 O = 13 ∧ xn h1 O = 1) ∧ (∀ e, r = .inr e → e < 3 ∧ ¬ cmT l e = 0) ∧ ∀ o, LQ l O r h1 o → ∃ (c : Nat) (h' : XH) (b : Int32) (h2 : XH) (Z' : ZD), o = (.inl (some (.int (nI c))), h') ∧ FM h' = xv b h2 ∧ xk h' Y = 10 ∧ JJ h2 X Y O Z' ∧ xk h2 Y = 10 ∧ xi h2 Y 0 = nI c ∧ c < 100 ∧ (c = 0 → xj h2 O 0 = b.toInt64 ∧ r = .inl b) := by
  obtain ⟨-, ⟨d1, d2, d3⟩, ⟨o1, o2⟩, ⟨w, s, f, x⟩, y⟩ := id j
  obtain ⟨r, h1, e, fr, r3, hM⟩ := JJ_law j a
  obtain ⟨⟨k1, k2⟩, -⟩ := fr.2 O (by omega) d3
  have kY : xk h1 Y = 10 := ((fr.2 Y d1 (by omega)).1.1).trans y.l.1
  have hx : ∀ e, r = .inr e → e < 3 ∧ ¬ cmT l e = 0 := fun e he => by
    obtain ⟨u, h2, Z', -, -, -, -, q⟩ := hM (xt h1) 0 (Nat.le_refl _)
    rcases q with ⟨v', q, -⟩ | ⟨e', q, q1, -, q2, -⟩
    · rw [he] at q; cases q
    · rw [he] at q; cases q; exact ⟨q1, by omega⟩
  refine ⟨r, h1, e, x.k, ⟨k1.trans o1, k2.trans o2⟩, hx, fun o q => ?_⟩
  cases r with
  | inl v =>
    have q : o = (.inl (some (.int 0)), yj h1 O 0 v.toInt64) := q
    obtain ⟨u, h2, Z', m1, m2, m3, m4, m5⟩ := hM (xt h1) v.toInt64 (Nat.le_refl _)
    rw [yt_same] at m1
    rcases m5 with ⟨v', p1, p2, p3⟩ | ⟨e', p1, -⟩
    · cases p1
      subst p3
      exact ⟨0, _, v, h2, Z', q, m1, kY, m2, m2.2.2.2.2.l.1, p2, by omega, fun _ => ⟨m4, rfl⟩⟩
    · cases p1
  | inr ec =>
    obtain ⟨t, ht, q⟩ : ∃ t, xt h1 ≤ t ∧ o = (.inl (some (.int (nI (cmT l ec)))), yt h1 t) := q
    obtain ⟨u, h2, Z', m1, m2, m3, m4, m5⟩ := hM t (xj h1 O 0) ht
    have e2 : yj (yt h1 t) O 0 (xj h1 O 0) = yt h1 t := yj_same (yt h1 t) O 0
    rw [e2] at m1
    rcases m5 with ⟨v', p1, -⟩ | ⟨e', p1, p2, p3, p4, p5⟩
    · cases p1
    · cases p1
      exact ⟨cmT l ec, _, u, h2, Z', q, m1, kY, m2, m2.2.2.2.2.l.1, p3, p5, fun q => by omega⟩
/-- one call without a wrapper -/
theorem JJ_dir {X Y O : Nat} {h : XH} {Z : ZD} {FC FM : XH → XP Int32} (j : JJ h X Y O Z) (a : AGw X Y (cmT []) h Z FC FM) : ∃ (b : Int32) (h1 h2 : XH) (Z' : ZD), FC h = some (.inl b, h1) ∧ xk h X = 9 ∧ FM h1 = xv b h2 ∧ xk h1 Y = 10 ∧ JJ h2 X Y O Z' := by
  obtain ⟨-, ⟨d1, d2, d3⟩, ⟨o1, o2⟩, ⟨w, s, f, x⟩, y⟩ := id j
  obtain ⟨r, h1, e, fr, r3, hM⟩ := JJ_law j a
  have kY : xk h1 Y = 10 := ((fr.2 Y d1 (by omega)).1.1).trans y.l.1
  obtain ⟨u, h2, Z', m1, m2, m3, m4, m5⟩ := hM (xt h1) (xj h1 O 0) (Nat.le_refl _)
  rw [yt_same, yj_same] at m1
  rcases m5 with ⟨v', p1, p2, p3⟩ | ⟨e', p1, p2, p3, p4, p5⟩
  · subst p1
    subst p3
    exact ⟨_, h1, h2, Z', e, x.k, m1, kY, m2⟩
  · exact absurd p4 (by unfold cmT; omega)
theorem nI_inj0 {c : Nat} (hc : c < 100) : nI c = 0 ↔ c = 0 := nI_z (by omega)
theorem lcmp_same (x : Int64) : lg_cmp x x = 0 := by unfold lg_cmp; simp
section LB
variable {E : XG} {k u : Nat} {h' h2 : XH} {X Y O i : Nat} {x6 : Option Value}
/-- behind the class: the reference's call, and what is held against what -/
theorem V_tail (p : Nat) {idx n : Nat} {off : Int} {M2 : XM} {args : List Value} {b : Int32} {c : Nat} (cal : xcal M2 n) (him : xIn (.instanceMethod (mY M2))) (hse : xIn (.selects (mY M2).cls (mY M2) (mY M2))) (hl : xIn (.methodLink RL idx (mY M2))) (hr : xroom mL_law M2 = true) (hn : args.length = n) (hrc : RX9 = (mY M2).cls)
    (hC : XC E M2 0 0 (.ref Y :: args) h' (xres eI (.inl b) h2)) (kY' : xk h' Y = 10) (kY : xk h2 Y = 10) (hO : xk h2 O = 13 ∧ xn h2 O = 1) (hth : xi h2 Y 0 = nI c) (hc : c < 100) (hv : c = 0 → xj h2 O 0 = b.toInt64)
    (d0 : decode cL_law p = .ok (.invokevirtual idx, 3)) (d3 : decode cL_law (p + 3) = .ok (.istore 6, 2)) (d5 : decode cL_law (p + 5) = .ok (.aload_n 2, 1)) (d6 : decode cL_law (p + 6) = .ok (.invokevirtual 204, 3)) (d9 : decode cL_law (p + 9) = .ok (.iload 5, 2)) (d11 : decode cL_law (p + 11) = .ok (.if_icmp .eq 5, 3)) (d16 : decode cL_law (p + 16) = .ok (.iload 5, 2)) (d18 : decode cL_law (p + 18) = .ok (.ifCond .ne 15, 3))
    (d21 : decode cL_law (p + 21) = .ok (.aload_n 3, 1)) (d22 : decode cL_law (p + 22) = .ok (.iconst 0, 1)) (d23 : decode cL_law (p + 23) = .ok (.laload, 1)) (d24 : decode cL_law (p + 24) = .ok (.iload 6, 2)) (d26 : decode cL_law (p + 26) = .ok (.i2l, 1)) (d27 : decode cL_law (p + 27) = .ok (.lcmp, 1)) (d28 : decode cL_law (p + 28) = .ok (.ifCond .eq 5, 3)) (d33 : decode cL_law (p + 33) = .ok (.goto off, 3)) (ht : ((p + 33 : Nat) : Int) + off = ((4038 : Nat) : Int))
    (kk : XV E mL_law k u 4038 (Lw E X Y O i (some (.int (nI c))) (some (.int b))) [] h2 QT) : XV E mL_law k u p (Lw E X Y O i (some (.int (nI c))) x6) (args.reverse ++ [.ref Y]) h' QT := by
  refine V_less (k' := 0 + k) (u' := 0 + u) (by omega) (by omega) ?_
  refine V_callV (k := k) (u := u) (k' := 0) (u' := 0) (ci := 9) p cal him hse hl rfl hr rfl hn rfl kY' (by decide) rfl hrc d0 hC (fun ec h3 q => by cases q) (fun v h3 q => ?_)
  cases q
  refine V_istore_6 (p + 3) d3 rfl ?_
  refine V_aload_2 (p + 5) d5 ?_
  refine V_less (k' := 0 + k) (u' := 0 + u) (by omega) (by omega) ?_
  refine V_callV (k := k) (u := u) (k' := 0) (u' := 0) (ci := 9) (As := []) (p + 6) calX9_thrown imX9_thrown seX9_thrown mkL_204 rfl rfl rfl rfl rfl kY (by decide) rfl rfl d6 (CX9_thrown E Y h2 (.inl (xi h2 Y 0)) h2 (by unfold FX9_thrown; rw [xg_t kY]; rfl)) (fun ec h3 q => by cases q) (fun v h3 q => ?_)
  cases q
  rw [hth]
  refine V_iload_5 (p + 9) d9 ?_
  refine V_icmpeq (p + 11) (p + 16) d11 (by omega) (fun _ => ?_) (fun q => absurd rfl q)
  refine V_iload_5 (p + 16) d16 ?_
  refine V_ifne (p + 18) (p + 33) d18 (by omega) (fun q => ?_) (fun q => ?_)
  · exact V_goto (p + 33) 4038 d33 ht kk
  · have c0 : c = 0 := (nI_inj0 hc).mp q
    refine V_aload_3 (p + 21) d21 ?_
    refine V_ic (p + 22) 0 d22 (by decide) ?_
    refine V_lald (p + 23) hO.1 (xin_vp ⟨by decide, by rw [hO.2]; decide⟩) d23 ?_
    refine V_iload_6 (p + 24) d24 ?_
    refine V_i2l (p + 26) d26 ?_
    refine V_lcmp (p + 27) d27 ?_
    rw [show xj h2 O (0 : Int32).toNatClampNeg = b.toInt64 from hv c0, lcmp_same]
    refine V_ifeq (p + 28) (p + 33) d28 (by omega) (fun _ => ?_) (fun q => absurd rfl q)
    exact V_goto (p + 33) 4038 d33 ht kk
/-- .. where the answer is true or false -/
theorem V_tailZ (p : Nat) {idx n : Nat} {off : Int} {M2 : XM} {args : List Value} {b : Int32} {c : Nat} (cal : xcal M2 n) (him : xIn (.instanceMethod (mY M2))) (hse : xIn (.selects (mY M2).cls (mY M2) (mY M2))) (hl : xIn (.methodLink RL idx (mY M2))) (hr : xroom mL_law M2 = true) (hn : args.length = n) (hrc : RX9 = (mY M2).cls)
    (hC : XC E M2 0 0 (.ref Y :: args) h' (xres eI (.inl b) h2)) (kY' : xk h' Y = 10) (kY : xk h2 Y = 10) (hO : xk h2 O = 13 ∧ xn h2 O = 1) (hth : xi h2 Y 0 = nI c) (hc : c < 100) (hv : c = 0 → xj h2 O 0 = b.toInt64) (hb : c = 0 → b = 0 ∨ b = 1)
    (d0 : decode cL_law p = .ok (.invokevirtual idx, 3)) (d3 : decode cL_law (p + 3) = .ok (.istore 6, 2)) (d5 : decode cL_law (p + 5) = .ok (.aload_n 2, 1)) (d6 : decode cL_law (p + 6) = .ok (.invokevirtual 204, 3)) (d9 : decode cL_law (p + 9) = .ok (.iload 5, 2)) (d11 : decode cL_law (p + 11) = .ok (.if_icmp .eq 5, 3)) (d16 : decode cL_law (p + 16) = .ok (.iload 5, 2)) (d18 : decode cL_law (p + 18) = .ok (.ifCond .ne 22, 3))
    (d21 : decode cL_law (p + 21) = .ok (.aload_n 3, 1)) (d22 : decode cL_law (p + 22) = .ok (.iconst 0, 1)) (d23 : decode cL_law (p + 23) = .ok (.laload, 1)) (d24 : decode cL_law (p + 24) = .ok (.iload 6, 2)) (d26 : decode cL_law (p + 26) = .ok (.ifCond .eq 7, 3)) (d29 : decode cL_law (p + 29) = .ok (.lconst 1, 1)) (d30 : decode cL_law (p + 30) = .ok (.goto 4, 3)) (d33 : decode cL_law (p + 33) = .ok (.lconst 0, 1)) (d34 : decode cL_law (p + 34) = .ok (.lcmp, 1)) (d35 : decode cL_law (p + 35) = .ok (.ifCond .eq 5, 3)) (d40 : decode cL_law (p + 40) = .ok (.goto off, 3)) (ht : ((p + 40 : Nat) : Int) + off = ((4038 : Nat) : Int))
    (kk : XV E mL_law k u 4038 (Lw E X Y O i (some (.int (nI c))) (some (.int b))) [] h2 QT) : XV E mL_law k u p (Lw E X Y O i (some (.int (nI c))) x6) (args.reverse ++ [.ref Y]) h' QT := by
  refine V_less (k' := 0 + k) (u' := 0 + u) (by omega) (by omega) ?_
  refine V_callV (k := k) (u := u) (k' := 0) (u' := 0) (ci := 9) p cal him hse hl rfl hr rfl hn rfl kY' (by decide) rfl hrc d0 hC (fun ec h3 q => by cases q) (fun v h3 q => ?_)
  cases q
  refine V_istore_6 (p + 3) d3 rfl ?_
  refine V_aload_2 (p + 5) d5 ?_
  refine V_less (k' := 0 + k) (u' := 0 + u) (by omega) (by omega) ?_
  refine V_callV (k := k) (u := u) (k' := 0) (u' := 0) (ci := 9) (As := []) (p + 6) calX9_thrown imX9_thrown seX9_thrown mkL_204 rfl rfl rfl rfl rfl kY (by decide) rfl rfl d6 (CX9_thrown E Y h2 (.inl (xi h2 Y 0)) h2 (by unfold FX9_thrown; rw [xg_t kY]; rfl)) (fun ec h3 q => by cases q) (fun v h3 q => ?_)
  cases q
  rw [hth]
  refine V_iload_5 (p + 9) d9 ?_
  refine V_icmpeq (p + 11) (p + 16) d11 (by omega) (fun _ => ?_) (fun q => absurd rfl q)
  refine V_iload_5 (p + 16) d16 ?_
  refine V_ifne (p + 18) (p + 40) d18 (by omega) (fun q => ?_) (fun q => ?_)
  · exact V_goto (p + 40) 4038 d40 ht kk
  · have c0 : c = 0 := (nI_inj0 hc).mp q
    refine V_aload_3 (p + 21) d21 ?_
    refine V_ic (p + 22) 0 d22 (by decide) ?_
    refine V_lald (p + 23) hO.1 (xin_vp ⟨by decide, by rw [hO.2]; decide⟩) d23 ?_
    refine V_iload_6 (p + 24) d24 ?_
    rw [show xj h2 O (0 : Int32).toNatClampNeg = b.toInt64 from hv c0]
    refine V_ifeq (p + 26) (p + 33) d26 (by omega) (fun q0 => ?_) (fun q0 => ?_)
    · refine V_lconst (p + 33) 0 d33 ?_
      refine V_lcmp (p + 34) d34 ?_
      rw [q0, show lg_cmp (0 : Int32).toInt64 (Int64.ofNat ((0 : Fin 2) : Nat)) = 0 by decide +kernel]
      refine V_ifeq (p + 35) (p + 40) d35 (by omega) (fun _ => ?_) (fun q => absurd rfl q)
      rw [← q0]
      exact V_goto (p + 40) 4038 d40 ht kk
    · have b1 : b = 1 := (hb c0).resolve_left q0
      refine V_lconst (p + 29) 1 d29 ?_
      refine V_goto (p + 30) (p + 34) d30 (by omega) ?_
      refine V_lcmp (p + 34) d34 ?_
      rw [b1, show lg_cmp (1 : Int32).toInt64 (Int64.ofNat ((1 : Fin 2) : Nat)) = 0 by decide +kernel]
      refine V_ifeq (p + 35) (p + 40) d35 (by omega) (fun _ => ?_) (fun q => absurd rfl q)
      rw [← b1]
      exact V_goto (p + 40) 4038 d40 ht kk
/-- 'not zero' as a truth -/
theorem V_bool (p : Nat) {L : List (Option Value)} {st : List Value} {x : Int32} (d0 : decode cL_law p = .ok (.ifCond .eq 7, 3)) (d3 : decode cL_law (p + 3) = .ok (.iconst 1, 1)) (d4 : decode cL_law (p + 4) = .ok (.goto 4, 3)) (d7 : decode cL_law (p + 7) = .ok (.iconst 0, 1)) (kq : XV E mL_law k u (p + 8) L (.int (if x = 0 then 0 else 1) :: st) h' QT) : XV E mL_law k u p L (.int x :: st) h' QT := by
  refine V_ifeq p (p + 7) d0 (by omega) (fun q => ?_) (fun q => ?_)
  · rw [if_pos q] at kq
    exact V_ic (p + 7) 0 d7 (by decide) kq
  · rw [if_neg q] at kq
    refine V_ic (p + 3) 1 d3 (by decide) ?_
    exact V_goto (p + 4) (p + 8) d4 (by omega) kq
/-- the class's call without a wrapper, then the reference's -/
theorem V_dir (p : Nat) {idx n : Nat} {off : Int} {M2 : XM} {args : List Value} {b : Int32} {x5 : Option Value} (cal : xcal M2 n) (him : xIn (.instanceMethod (mY M2))) (hse : xIn (.selects (mY M2).cls (mY M2) (mY M2))) (hl : xIn (.methodLink RL idx (mY M2))) (hr : xroom mL_law M2 = true) (hn : args.length = n) (hrc : RX9 = (mY M2).cls)
    (hC : XC E M2 0 0 (.ref Y :: args) h' (xres eI (.inl b) h2)) (kY' : xk h' Y = 10)
    (d0 : decode cL_law p = .ok (.invokevirtual idx, 3)) (d3 : decode cL_law (p + 3) = .ok (.if_icmp .eq off, 3)) (ht : ((p + 3 : Nat) : Int) + off = ((4038 : Nat) : Int))
    (kk : XV E mL_law k u 4038 (Lw E X Y O i x5 x6) [] h2 QT) : XV E mL_law k u p (Lw E X Y O i x5 x6) (args.reverse ++ [.ref Y, .int b]) h' QT := by
  refine V_less (k' := 0 + k) (u' := 0 + u) (by omega) (by omega) ?_
  refine V_callV (k := k) (u := u) (k' := 0) (u' := 0) (ci := 9) p cal him hse hl rfl hr rfl hn rfl kY' (by decide) rfl hrc d0 hC (fun ec h3 q => by cases q) (fun v h3 q => ?_)
  cases q
  exact V_icmpeq (p + 3) 4038 d3 ht (fun _ => kk) (fun q => absurd rfl q)
end LB
section AG
variable {E : XG} {h : XH} {X Y O w s f : Nat} {Z : ZD}
theorem ag0_parseError (j : JJ h X Y O Z) : AGx X Y (cmT []) h Z (FX8_parseError E X) (FX9_parseError E Y) := by
  obtain ⟨z, -, -, ⟨w, s, f, x⟩, y⟩ := j
  refine AG_v (zer Z) ?_ (fun h' y => ?_)
  · unfold FX8_parseError
    rw [xg_t x.k, x.2.2.2.1.1]
  · have y0 := y.t 0
    unfold FX9_parseError
    rw [xg_t y.l.1, xlt_d, xg_t y0.l.1, y0.2.1.2.1]
theorem ag0_errorPosition (j : JJ h X Y O Z) : AGx X Y (cmT []) h Z (FX8_errorPosition E X) (FX9_errorPosition E Y) := by
  obtain ⟨z, -, -, ⟨w, s, f, x⟩, y⟩ := j
  refine AG_v (zea Z) ?_ (fun h' y => ?_)
  · unfold FX8_errorPosition
    rw [xg_t x.k, x.2.2.2.1.2.1]
  · have y0 := y.t 0
    unfold FX9_errorPosition
    rw [xg_t y.l.1, xlt_d, xg_t y0.l.1, y0.2.1.2.2]
theorem ag0_buffered (j : JJ h X Y O Z) : AGx X Y (cmT []) h Z (FX8_buffered E X) (FX9_buffered E Y) := by
  obtain ⟨z, -, -, ⟨w, s, f, x⟩, y⟩ := j
  refine AG_v (nI (zfl Z)) ?_ (fun h' y => ?_)
  · unfold FX8_buffered
    rw [xg_t x.k, x.2.2.1.1]
  · have y0 := y.t 0
    unfold FX9_buffered
    rw [xg_t y.l.1, xlt_d, xg_t y0.l.1, y0.2.2.2.2.1.1]
theorem ag0_undoable (j : JJ h X Y O Z) : AGx X Y (cmT []) h Z (FX8_undoable E X) (FX9_undoable E Y) := by
  obtain ⟨z, -, -, ⟨w, s, f, x⟩, y⟩ := j
  refine AG_v (nI (zun Z)) ?_ (fun h' y => ?_)
  · unfold FX8_undoable
    rw [xg_t x.k, x.2.2.2.2.1.1.2.2]
  · have y0 := y.t 0
    have e1 := y0.2.1.1
    unfold FX9_undoable
    cases hl : zld Z
    · rw [hl] at e1
      have e2 := z.1 hl
      simp (disch := omega) only [↓xg, ↓reduceIte, ↓xjn_d, ↓xlt_d, eq_self, and_self, and_true, true_and, not_true, not_false_iff, ne_eq, true_or, or_true, or_false, false_or, nI_s, nI_leP, nI_eqP, y.l.1, y0.l.1, e1, bI_f, e2, nI_0]
    · rw [hl] at e1
      simp (disch := omega) only [↓xg, ↓reduceIte, ↓xjn_d, ↓xlt_d, eq_self, and_self, and_true, true_and, not_true, not_false_iff, ne_eq, true_or, or_true, or_false, false_or, nI_s, nI_leP, nI_eqP, y.l.1, y0.l.1, e1, bI_t, i1_0, y0.2.2.1.1]
theorem ag0_append (j : JJ h X Y O Z) (p0 p1 p2 p3 p4 : Int32) : AGz X Y (cmT []) h Z (FX8_append E X p0 p1 p2 p3 p4) (FX9_append E Y p0 p1 p2 p3 p4) := by
  have jj := j
  obtain ⟨z, -, -, ⟨w, s, f, x⟩, y⟩ := j
  have z900 := z.2.2.2.2.1.1
  have e20 : nI (zfl Z) + 20 = nI (zfl Z + 20) := by rw [show (20 : Int32) = nI 20 from rfl, nI_a]
  have l900 : (900 : Int32) = nI 900 := rfl
  by_cases hf : zfl Z + 20 ≤ 900
  · let ws : Nat → Int32 := fun k => if k = 0 then p0 else if k = 1 then p1 else if k = 2 then p2 else if k = 3 then p3 else p4
    refine AGz_v (nI (zfl Z + 20)) (zbu Z (zfl Z + 20) (bfE (zbf Z) (zfl Z) ws)) ⟨z.1, z.2.1, z.2.2.1, z.2.2.2.1, ⟨hf, fun i hi => ?_⟩, z.2.2.2.2.2⟩ ?_ (fun h' y => ?_)
    · show bfE (zbf Z) (zfl Z) ws i < 256
      unfold bfE
      split
      · exact z.2.2.2.2.1.2 i (by assumption)
      · exact (byN_e _ _).2
    · have x0 : XI h X w s f (zbu Z (zfl Z) (bfE (zbf Z) (zfl Z) ws)) := by
        refine XI_buf x (iw.refl _ h) (fun _ _ => rfl) x.2.2.1.1 (fun i hi => ?_)
        rw [x.2.2.1.2 i hi]
        unfold bfE
        rw [if_pos hi]
      have hb : ∀ k r, k < 5 → r < 4 → bfE (zbf Z) (zfl Z) ws (zfl Z + 4 * k + r) = byN (ws k) r := fun k r hk hr => by
        unfold bfE
        rw [if_neg (by omega), show (zfl Z + 4 * k + r - zfl Z) / 4 = k by omega, show (zfl Z + 4 * k + r - zfl Z) % 4 = r by omega]
      have f1 : xi h X 1 = nI (zfl Z) := x.2.2.1.1
      unfold FX8_append
      refine xo_g x.k ?_
      rw [f1, e20]
      refine xo_t (by rw [l900, nI_leP (by omega) (by omega)]; exact hf) ?_
      refine xo_g x.k (xo_b (appendWord_o x0 (by omega) p0 (fun r hr => hb 0 r (by omega) hr)) (fun _ h1 q1 => ?_))
      refine xo_g q1.2.k (xo_b (appendWord_o q1.2 (by omega) p1 (fun r hr => hb 1 r (by omega) hr)) (fun _ h2 q2 => ?_))
      refine xo_g q2.2.k (xo_b (appendWord_o q2.2 (by omega) p2 (fun r hr => hb 2 r (by omega) hr)) (fun _ h3 q3 => ?_))
      refine xo_g q3.2.k (xo_b (appendWord_o q3.2 (by omega) p3 (fun r hr => hb 3 r (by omega) hr)) (fun _ h4 q4 => ?_))
      refine xo_g q4.2.k (xo_b (appendWord_o q4.2 (by omega) p4 (fun r hr => hb 4 r (by omega) hr)) (fun _ h5 q5 => ?_))
      refine xo_g q5.2.k (xo_v ⟨q5.2.2.2.1.1, ?_, w, s, f, q5.2⟩)
      exact (((q1.1.trans q2.1 (fun _ q => q) (fun _ q => q)).trans q3.1 (fun _ q => q) (fun _ q => q)).trans q4.1 (fun _ q => q) (fun _ q => q)).trans q5.1 (fun _ q => q) (fun _ q => q)
    · have y0 := y.t 0
      have yl := y0.l
      have f1 : xi (yi h' Y 0 0) Y 17 = nI (zfl Z) := y0.2.2.2.2.1.1
      unfold FX9_append
      refine xo_g y.l.1 (xo_lt (xo_g yl.1 ?_))
      rw [f1, e20]
      refine xo_t (by rw [l900, nI_leP (by omega) (by omega)]; exact hf) ?_
      refine xlp_inv (Po := fun m => xo m _) (fun i s' h2 => s' = nI i ∧ iw (fun a => a = Y + 11) (yi h' Y 0 0) h2 ∧ ∀ k, k < zfl Z + i → xi h2 (Y + 11) k = nI (bfE (zbf Z) (zfl Z) ws k)) 20 (by omega) (fun i s' h2 ag hi I again => ?_) ⟨rfl, iw.refl _ _, fun k hk => ?_⟩
      · obtain ⟨rfl, i2, r2⟩ := I
        have y2 := yl.iw i2
        have f2 : xi h2 Y 17 = nI (zfl Z) := by rw [i2.i _ (by omega)]; exact f1
        by_cases e : i = 20
        · subst e
          have w2 : iw (rYa Y) h' (yi h2 Y 17 (nI (zfl Z + 20))) := ((iw_yi (A := rYa Y) h' Y 0 0 (by unfold rYa; omega)).trans i2 (fun _ q => q) (fun a q => by unfold rYa; omega)).yi _ _ _ (by unfold rYa; omega)
          refine xo_t (by decide) (xo_g y2.1 (xo_g y2.1 (xo_lt ?_)))
          rw [f2, e20]
          refine xo_g y2.1 (xo_v ⟨xi_yi1 _ _ _ _, w2, ?_, ?_⟩)
          · rw [xi_yi2 _ _ (Or.inr (by decide)), i2.i _ (by omega), xi_yi1]
          · refine YI_buf y0 (i2.trans (iw_yi (A := fun a => a = Y) h2 Y 17 _ rfl) (fun a q => Or.inr q) (fun a q => Or.inl q)) (fun k hk => ?_) (xi_yi1 _ _ _ _) (fun k hk => ?_)
            · rw [xi_yi2 _ _ (Or.inr hk), i2.i _ (by omega)]
            · rw [xi_yi2 _ _ (Or.inl (by omega))]; exact r2 k hk
        · have hlt : i < 20 := by omega
          have hcore : ∀ v, v = ws (i / 4) → xo ((fun (v4 : Int32) (h5 : XH) => xg (xk h5 Y = 10) <| xnn (xr h5 Y 16) fun w6 => xg (xk h5 Y = 10) <| xg ((4 : Int32) ≠ 0) <| xg (xk h5 w6 = 12 ∧ xin ((xi h5 Y 17) + nI i) (xn h5 w6)) <| xlt (yi h5 w6 (((xi h5 Y 17) + nI i) : Int32).toNatClampNeg ((v4 >>> ((24 - (8 * (xrem (nI i) 4))) &&& 31)) &&& 255)) fun h7 => ag (nI i + 1) h7) v h2) (fun b h2 => b = nI (zfl Z + 20) ∧ iw (rYa Y) h' h2 ∧ xi h2 Y 0 = 0 ∧ YI h2 Y (zbu Z (zfl Z + 20) (bfE (zbf Z) (zfl Z) ws))) := fun v hv => by
            have e1 : (24 : Int32) - 8 * xrem (nI i) 4 = nI (24 - 8 * (i % 4)) := by
              rw [li4, rem_nI (by omega) (by omega) (by omega), li8, nI_m, li24, pk_sub (by omega)]
            show xo (xg (xk h2 Y = 10) <| _) _
            refine xo_g y2.1 (xo_n y2.r11 (xo_g y2.1 (xo_g (by decide) ?_)))
            rw [f2, nI_a, e1, (byN_e v (i % 4)).1]
            refine xo_g (y2.g11 (by omega)) (xo_lt ?_)
            rw [xz_nI (by omega), nI_s]
            refine again hlt _ _ ⟨rfl, i2.yi _ _ _ rfl, fun k hk => ?_⟩
            by_cases q : k = zfl Z + i
            · subst q
              rw [xi_yi1, hv]
              unfold bfE
              rw [if_neg (by omega), show zfl Z + i - zfl Z = i by omega]
            · rw [xi_yi2 _ _ (Or.inr q)]; exact r2 k (by omega)
          refine xo_f (by rw [show (20 : Int32) = nI 20 from rfl, nI_leP (by omega) (by omega)]; omega) (xo_jn ?_)
          have d4 : ∀ c, c < 100 → ((nI c ≤ nI i) ↔ c ≤ i) := fun c hc => by rw [nI_leP (by omega) (by omega)]
          by_cases c4 : 4 ≤ i
          · refine xo_t ((d4 4 (by omega)).mpr c4) ?_
            by_cases c8 : 8 ≤ i
            · refine xo_t ((d4 8 (by omega)).mpr c8) ?_
              by_cases c12 : 12 ≤ i
              · refine xo_t ((d4 12 (by omega)).mpr c12) ?_
                by_cases c16 : 16 ≤ i
                · refine xo_t ((d4 16 (by omega)).mpr c16) (hcore p4 ?_)
                  show p4 = if i / 4 = 0 then p0 else if i / 4 = 1 then p1 else if i / 4 = 2 then p2 else if i / 4 = 3 then p3 else p4
                  rw [if_neg (by omega), if_neg (by omega), if_neg (by omega), if_neg (by omega)]
                · refine xo_f (fun q => c16 ((d4 16 (by omega)).mp q)) (hcore p3 ?_)
                  show p3 = if i / 4 = 0 then p0 else if i / 4 = 1 then p1 else if i / 4 = 2 then p2 else if i / 4 = 3 then p3 else p4
                  rw [if_neg (by omega), if_neg (by omega), if_neg (by omega), if_pos (by omega)]
              · refine xo_f (fun q => c12 ((d4 12 (by omega)).mp q)) (hcore p2 ?_)
                show p2 = if i / 4 = 0 then p0 else if i / 4 = 1 then p1 else if i / 4 = 2 then p2 else if i / 4 = 3 then p3 else p4
                rw [if_neg (by omega), if_neg (by omega), if_pos (by omega)]
            · refine xo_f (fun q => c8 ((d4 8 (by omega)).mp q)) (hcore p1 ?_)
              show p1 = if i / 4 = 0 then p0 else if i / 4 = 1 then p1 else if i / 4 = 2 then p2 else if i / 4 = 3 then p3 else p4
              rw [if_neg (by omega), if_pos (by omega)]
          · refine xo_f (fun q => c4 ((d4 4 (by omega)).mp q)) (hcore p0 ?_)
            show p0 = if i / 4 = 0 then p0 else if i / 4 = 1 then p1 else if i / 4 = 2 then p2 else if i / 4 = 3 then p3 else p4
            rw [if_pos (by omega)]
      · have := y0.2.2.2.2.1.2 k (show k < zfl Z by omega)
        rw [this]
        unfold bfE
        rw [if_pos (show k < zfl Z by omega)]
  · refine AGz_x jj (AG_v (-1) ?_ (fun h' y => ?_))
    · have f1 : xi h X 1 = nI (zfl Z) := x.2.2.1.1
      unfold FX8_append
      rw [xg_t x.k, f1, e20, if_neg (by rw [l900, nI_leP (by omega) (by omega)]; exact hf)]
    · have y0 := y.t 0
      have f1 : xi (yi h' Y 0 0) Y 17 = nI (zfl Z) := y0.2.2.2.2.1.1
      unfold FX9_append
      rw [xg_t y.l.1, xlt_d, xg_t y0.l.1, f1, e20, if_neg (by rw [l900, nI_leP (by omega) (by omega)]; exact hf)]
end AG
