/-! An exception that the method's own table catches; a value put into a long's row. -/
set_option linter.unusedVariables false
section XCT
variable {E : XG} {M : XM} {k u : Nat} {L : List (Option Value)} {h : XH} {Q : XO → Prop}
theorem XT_catch {pc ec : Nat} {own : String} (ho : own = (mY M).cls) (pre : List ExceptionTableEntry) (x : ExceptionTableEntry) (suf : List ExceptionTableEntry) (hH : tableOf (mH M) = pre ++ x :: suf) (hpass : ∀ z ∈ pre, covers z pc = false ∨ (z.catchType ≠ 0 ∧ ∃ i, xIn (.classLink own z.catchType (xnm i)) ∧ xnm ec ≠ xnm i)) (hx : covers x pc = true) (h0 : x.catchType ≠ 0) (hl : xIn (.classLink own x.catchType (xnm ec))) (kk : ∀ q, XW E M k u x.handlerPc L [.ref q] h Q) : XT E M k u pc L h ec Q := by
  intro p e R s m args below meth c H locs cells slots ls rest q ce F hR hS hL hc hs h1 h2 h3
  subst ho
  refine vx_catch (name := xnm ec) F.own pre x suf (by rw [F.table]; exact hH) (fun z hz => ?_) hx h0 (F.env.word hl args) (va_Nw.use rfl (F.env.2.2.1.2.2.1 ec)) h1 h2 h3 (kk q p e R s m args below meth c H locs cells slots ls F hR hS hL hc hs)
  rcases hpass z hz with w | ⟨w1, i, w2, w3⟩
  · exact Or.inl w
  · exact Or.inr ⟨w1, xnm i, F.env.word w2 args, F.env.2.2.1.2.2.2.1 ec i w3⟩
end XCT
/-! Methods with an exception table: entered, called. -/
theorem xcode_w {M : XM} {q : Nat × Nat × Nat × Nat} {hh : List (Nat × Nat × Nat × Nat)} (h : mH M = q :: hh) : xcode M = .codeWith (mY M) (mC M) (mL M) (mR M) (q :: hh) := by unfold xcode; rw [h]
theorem X_enterH {E : XG} {M : XM} {k u : Nat} {As : List Value} {h : XH} {Q : XO → Prop} {q : Nat × Nat × Nat × Nat} {hh : List (Nat × Nat × Nat × Nat)} (hpl : plainName (mY M).cls = true) (hH : mH M = q :: hh) (hcw : xIn (.codeWith (mY M) (mC M) (mL M) (mR M) (q :: hh))) {L : List (Option Value)} (hL : xloc As ++ List.replicate (mL M - (xloc As).length) none = L) (hn : L.length = mL M) (kk : XW E M k u 0 L [] h Q) : XC E M k u As h Q := by
  have hx := xcode_w hH
  unfold XC
  rw [hx]
  refine vx_ofWH (cc := mC M) (maxL := mL M) (ret := mR M) (hh := q :: hh) hpl rfl ?_
  intro p e s m args below meth c s₁ B hml hP
  obtain ⟨ha, hE, hZ, hR, htr⟩ := hP
  subst ha
  rw [lg_entry_eq]
  have hle : (lg_sl As).length ≤ mL M := by
    rw [← xloc_len, ← hn, ← hL]
    simp
  obtain ⟨g1, g2, g3⟩ := lv_entry As hle
  refine kk p e _ s m As.toArray below meth c s.heap [] 0 0 _ ⟨B.exec, B.bytes, B.returns, B.notSynchronized, hml, findClass_of_methodNamed B.named, ?_, (name_of_methodNamed B.named B.method).1, Nat.le_refl _, Nat.le_refl _, hE, hZ, htr⟩ hR ⟨Nat.le_refl _, fun _ _ _ => rfl, fun q hq => by cases hq⟩ ⟨g1, g2, hn, fun i v hi => ?_⟩ (by show 0 + k ≤ k; omega) (by show 0 + u ≤ u; omega)
  · rw [hH]
    exact vx_table (x := mY M) B (hE.word hcw As.toArray)
  · refine g3 (i, v) ?_
    have := xloc_args As 0 i v (by
      rw [← hL] at hi
      by_cases hlt : i < (xloc As).length
      · rw [List.getElem?_append_left hlt] at hi; exact hi
      · rw [List.getElem?_append_right (by omega), List.getElem?_replicate] at hi
        split at hi <;> simp at hi)
    rwa [Nat.zero_add] at this
/-- what a caller wants of a method with a table -/
def xcalH (M : XM) (q : Nat × Nat × Nat × Nat) (hh : List (Nat × Nat × Nat × Nat)) (n : Nat) : Prop := xIn (.codeWith (mY M) (mC M) (mL M) (mR M) (q :: hh)) ∧ xIn (.initialized (mY M).cls) ∧ ((mY M).cls ≠ "java/lang/invoke/MethodHandle" ∧ (mY M).cls ≠ "java/lang/invoke/VarHandle") ∧ (parseMethodDescriptor (mY M).desc).map (fun d => d.parameters.length) = some n ∧ mH M = q :: hh
section XCH
variable {E : XG} {M : XM} {k u : Nat} {L : List (Option Value)} {st : List Value} {h : XH} {Q : XO → Prop}
theorem X_callSH (pc : Nat) {M' : XM} {k' u' n idx : Nat} {own : String} {As st0 : List Value} {Q' : XO → Prop} {q : Nat × Nat × Nat × Nat} {hh : List (Nat × Nat × Nat × Nat)} (cal : xcalH M' q hh n) (hst : xIn (.static (mY M'))) (hl : xIn (.methodLink own idx (mY M'))) (ho : own = (mY M).cls) (hr : xroom M M' = true) (hw : Nat.ble (xcat st) 8 = true) (hn : As.length = n) (he : st0 = As.reverse ++ st) (d : decode (mC M) pc = .ok (.invokestatic idx, 3))
    (hC : XC E M' k' u' As h Q') (kx : ∀ ec h1, Q' (.inr ec, h1) → XT E M k u pc L h1 ec Q) (kk : ∀ v h1, Q' (.inl v, h1) → XW E M k u (pc + 3) L (v.toList ++ st) h1 Q) : XW E M (k' + k) (u' + u) pc L st0 h Q := by
  intro p e R s m args below meth c H locs cells slots ls F hR hS hL hc hs
  obtain ⟨c1, c2, c3, c4, c5⟩ := cal
  have hx := xcode_w c5
  have cw : vx_CSW R s args own idx (mY M') (mC M') (mL M') (mR M') (q :: hh) [xcode M'] { frames := mF M', cells := k', slots := u', locals := mW M' } k' u' n := by
    refine ⟨⟨rfl, rfl, (xroom_of hr F.frames F.locals).1, (xroom_of hr F.frames F.locals).2, fun w hw a' U hW => ?_, by rw [hx]; exact List.mem_cons_self⟩, F.env.word c1 args, F.env.word c2 args, c3, fun sig hsig => ?_, F.env.word hl args, F.env.word hst args⟩
    · rw [List.mem_singleton.mp hw, hx]
      exact word_at hW (good_of_word c1.2) (F.env.word c1 args)
    · rw [hsig] at c4
      exact (Option.some.inj c4).symm
  exact X_run F hS hL hc hs (vx_runSX (xfix ho F) hC cw ⟨xPc_blind E As h, fun U hU hW => xPc_of F.env F.stat hR hS F.traces hU hW⟩ rfl hn hL.1 he (by have := Nat.le_of_ble_eq_true hw; unfold xcat at this; show 2 * 0 + _ ≤ 8; omega) d ⟨by omega, by omega⟩) kx kk
end XCH
theorem xR_yx {E : XG} {h : XH} {H : Heap} (hR : xR E (yt h (xt h + 1)) H) : xR E (yx h) H :=
  ⟨⟨hR.1.1, hR.1.2⟩, fun a ha => ⟨(hR.2 a ha).1, by
    rw [xen_same (h := yt h (xt h + 1)) (h' := yx h) rfl rfl (fun _ => rfl) (fun _ => rfl) (fun _ => rfl)]
    exact (hR.2 a ha).2⟩⟩
theorem XW_yx {E : XG} {M : XM} {k u pc : Nat} {L : List (Option Value)} {st : List Value} {h : XH} {Q : XO → Prop} (kk : XW E M k u pc L st (yx h) Q) : XW E M k u pc L st (yt h (xt h + 1)) Q :=
  fun p e R s m args below meth c H locs cells slots ls F hR hS hl hc hs => kk p e R s m args below meth c H locs cells slots ls F (xR_yx hR) hS hl hc hs
theorem S_callSH {E : XG} {M : XM} {α β : Type} {en : α → Option Value} {a b : Nat} {L : List (Option Value)} {st : List Value} {h : XH} {en' : β → Option Value} {a' b' : Nat} (pc : Nat) {M' : XM} {n idx : Nat} {own : String} {As st0 : List Value} {m1 : XP β} {f9 : β → XH → XP α} {q : Nat × Nat × Nat × Nat} {hh : List (Nat × Nat × Nat × Nat)} (hH : mH M = []) (cal : xcalH M' q hh n) (hst : xIn (.static (mY M'))) (hl : xIn (.methodLink own idx (mY M'))) (ho : own = (mY M).cls) (hr : xroom M M' = true) (hw : Nat.ble (xcat st) 8 = true) (hn : As.length = n) (he : st0 = As.reverse ++ st) (d : decode (mC M) pc = .ok (.invokestatic idx, 3))
    (hC : XN E M' en' a' b' As h m1) (kq : ∀ v h1, XS E M en a b (pc + 3) L ((en' v).toList ++ st) h1 (f9 v h1)) : XS E M en (a' + a) (b' + b) pc L st0 h (xb m1 f9) := S_call hH (fun k' u' k u Q' Q c x y => X_callSH pc cal hst hl ho hr hw hn he d c x y) hC kq
/-- what the law's 'thrown' makes of a call -/
def xct (m : XP Int64) : XP Int32 := match m with
  | none => none
  | some (.inl _, h) => xv 0 h
  | some (.inr c, h) => xg (c < 3) (xv (nI (c + 1)) (yx h))
theorem clL_146 : xIn (.classLink RL 146 (xnm 0)) := ⟨List.mem_of_getElem? (i := 1101) (by decide +kernel), rfl⟩
theorem clL_148 : xIn (.classLink RL 148 (xnm 1)) := ⟨List.mem_of_getElem? (i := 1102) (by decide +kernel), rfl⟩
theorem clL_150 : xIn (.classLink RL 150 (xnm 2)) := ⟨List.mem_of_getElem? (i := 1103) (by decide +kernel), rfl⟩
theorem calL_thrown : xcalH mL_thrown (0, 23, 24, 146) [(0, 23, 28, 148), (0, 23, 32, 150)] 6 := ⟨okL_thrown.1, okL_thrown.2, by decide +kernel, by decide +kernel, rfl⟩
