/-! An exception that the method's own table catches; a value put into a long's row. -/
set_option linter.unusedVariables false
section XCT
variable {E : XG} {M : XM} {k u : Nat} {L : List (Option Value)} {h : XH} {Q : XO → Prop}
theorem XT_catch {pc ec : Nat} {own : String} (ho : own = (mY M).cls) (pre : List ExceptionTableEntry) (x : ExceptionTableEntry) (suf : List ExceptionTableEntry) (hH : tableOf (mH M) = pre ++ x :: suf) (hpass : ∀ z ∈ pre, covers z pc = false ∨ (z.catchType ≠ 0 ∧ ∃ i, xIn (.classLink own z.catchType (xnm i)) ∧ xnm ec ≠ xnm i)) (hx : covers x pc = true) (h0 : x.catchType ≠ 0) (hl : xIn (.classLink own x.catchType (xnm ec))) (kk : ∀ q, XW E M k u x.handlerPc L [.ref q] h Q) : XT E M k u pc L h ec Q := by
  intro p e R s m args below meth c H locs cells slots ls rest q ce F hR hS hL hc hs h1 h2 h3
  subst ho
  refine vx_catch (name := xnm ec) F.own pre x suf (by rw [F.table]; exact hH) (fun z hz => ?_) hx h0 (F.env.word hl args) (va_Nw.use rfl (F.env.2.2.1.2.2.1 ec)) h1 h2 h3 (kk q p e R s m args below meth c H locs cells slots ls F hR hS hL hc hs)
  rcases hpass z hz with w | ⟨w1, i, w2, w3⟩
  · exact Or.inl w
  · exact Or.inr ⟨w1, xnm i, F.env.word w2 args, F.env.2.2.1.2.2.2 ec i w3⟩
end XCT
