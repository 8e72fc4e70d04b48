/-! The methods as functions. -/
set_option linter.unusedVariables false
set_option maxRecDepth 10000
theorem kqI {E : XG} {M : XM} {α : Type} {en : α → Option Value} {a b pc : Nat} {L : List (Option Value)} {st : List Value} {h : XH} {mm : XP α} {v : Int32} (q : XS E M en a b pc L (.int v :: st) h mm) : XS E M en a b pc L ((eI v).toList ++ st) h mm := q
theorem kqJ {E : XG} {M : XM} {α : Type} {en : α → Option Value} {a b pc : Nat} {L : List (Option Value)} {st : List Value} {h : XH} {mm : XP α} {v : Int64} (q : XS E M en a b pc L (.long v :: st) h mm) : XS E M en a b pc L ((eJ v).toList ++ st) h mm := q
theorem kqR {E : XG} {M : XM} {α : Type} {en : α → Option Value} {a b pc : Nat} {L : List (Option Value)} {st : List Value} {h : XH} {mm : XP α} {v : Nat} (q : XS E M en a b pc L (.ref v :: st) h mm) : XS E M en a b pc L ((eR v).toList ++ st) h mm := q
theorem kqU {E : XG} {M : XM} {α : Type} {en : α → Option Value} {a b pc : Nat} {L : List (Option Value)} {st : List Value} {h : XH} {mm : XP α} {v : Unit} (q : XS E M en a b pc L st h mm) : XS E M en a b pc L ((eU v).toList ++ st) h mm := q
/-- a value on top gets a name -/
theorem S_gen {E : XG} {M : XM} {α : Type} {en : α → Option Value} {a b pc : Nat} {L : List (Option Value)} {st : List Value} {h : XH} {x : Int32} {f : Int32 → XP α} (q : ∀ v, XS E M en a b pc L (.int v :: st) h (f v)) : XS E M en a b pc L (.int x :: st) h (xlt x f) := q x
theorem S_genJ {E : XG} {M : XM} {α : Type} {en : α → Option Value} {a b pc : Nat} {L : List (Option Value)} {st : List Value} {h : XH} {x : Int64} {f : Int64 → XP α} (q : ∀ v, XS E M en a b pc L (.long v :: st) h (f v)) : XS E M en a b pc L (.long x :: st) h (xlt x f) := q x
theorem xg_pos {α : Type} {c : Prop} [Decidable c] {m : XP α} (h : c) : xg c m = m := if_pos h
theorem S_newD_int {E : XG} {M : XM} {α : Type} {en : α → Option Value} {a b : Nat} {L : List (Option Value)} {st : List Value} {h : XH} (pc a0 : Nat) {n : Int32} {f9 : Nat → XH → XP α} (hw : xIn (.arrayClass (newarray.typeOf .int))) (d : decode (mC M) pc = .ok (.newarray .int, 2)) (kq : ∀ w h1, XS E M en a b (pc + 2) L (.ref w :: st) h1 (f9 w h1)) : XS E M en (a + 1) (b + 8) pc L (.int n :: st) h (xg (xk h a0 ≠ 0 ∧ 0 ≤ n ∧ n.toNatClampNeg ≤ 8) (xal h 12 n.toNatClampNeg f9)) := fun r h' e =>
  S_newG_int pc hw d kq r h' (by
    obtain ⟨c1, e1⟩ := xg_of e
    rw [xg_pos ⟨c1.2.1, by omega⟩]
    exact e1)
theorem S_newD_long {E : XG} {M : XM} {α : Type} {en : α → Option Value} {a b : Nat} {L : List (Option Value)} {st : List Value} {h : XH} (pc a0 : Nat) {n : Int32} {f9 : Nat → XH → XP α} (hw : xIn (.arrayClass (newarray.typeOf .long))) (d : decode (mC M) pc = .ok (.newarray .long, 2)) (kq : ∀ w h1, XS E M en a b (pc + 2) L (.ref w :: st) h1 (f9 w h1)) : XS E M en (a + 1) (b + 8) pc L (.int n :: st) h (xg (xk h a0 ≠ 0 ∧ 0 ≤ n ∧ n.toNatClampNeg ≤ 8) (xal h 13 n.toNatClampNeg f9)) := fun r h' e =>
  S_newG_long pc hw d kq r h' (by
    obtain ⟨c1, e1⟩ := xg_of e
    rw [xg_pos ⟨c1.2.1, by omega⟩]
    exact e1)
def xrem (x y : Int32) : Int32 := x - x / y * y
theorem vx_ofWF {l : Launch} {y : MethodName} {ws ws' : List Cond} {rm : Room} {Pc : Array Value → State → Prop} {Qc : Array Value → State → Outcome → State → Prop} {XC : String → State → State → Prop} {mc ms : Nat} {free : Addr → Prop} {cc : ByteArray} {maxL : Nat} {ret : Option FieldType}
    (hy : plainFor y = true) (hw : ws = Cond.code y cc maxL ret :: ws')
    (body : ∀ p e s m args below meth c s₁, BodyLoose p l y (headSpec ws rm) cc maxL ret e s m args below meth c s₁ → c.maxLocals = maxL → (∀ x ∈ c.exceptionTable.toList, False) → Pc args s →
      W p l e (headSpec ws rm).room s m args below meth c s.heap [] 0 0 (vx_MQ below Qc XC args s mc ms free) (entryFrame m args maxL)) : vx_Met l y ws rm Pc Qc XC mc ms free := by
  refine MetFree.of_bodySF (code := cc) (maxLocals := maxL) (ret := ret) hy ?_ ?_
  · intro args s m h hn
    obtain ⟨meth, c, h1, h2, h3, h4, h5, h6, -, -⟩ := Cond.code_spec hn (atoms_spec (ws := ws) h _ (by rw [hw]; exact List.mem_cons_self))
    exact ⟨meth, c, h1, h2, h3, h4, h5, h6⟩
  · intro p e s m args below meth c s₁ B hml hP _
    have hh0 : s₁.heap = s.heap := by rw [B.state]; rfl
    have ht : ∀ x ∈ c.exceptionTable.toList, False := by
      obtain ⟨meth9, c9, h1, h2, -, -, -, -, h7, -⟩ := Cond.code_spec B.named (atoms_spec (ws := ws) B.pre _ (by rw [hw]; exact List.mem_cons_self))
      cases Option.some.inj (h1.symm.trans B.method)
      cases Option.some.inj (h2.symm.trans (Stand.of_body B).code)
      intro x hx
      rw [Array.isEmpty_iff.mp h7] at hx
      cases hx
    obtain ⟨t, a1, o, b1, b2, b3⟩ := body p e s m args below meth c s₁ B hml ht hP s₁ hh0 (Stand.of_body B)
    exact ⟨t, o, a1, b1, b2, b3⟩
theorem X_enterF {E : XG} {M : XM} {k u : Nat} {As : List Value} {h : XH} {Q : XO → Prop} (hpl : plainFor (mY M) = true) (hH : mH M = []) {L : List (Option Value)} (hL : xloc As ++ List.replicate (mL M - (xloc As).length) none = L) (hn : L.length = mL M) (kk : XW E M k u 0 L [] h Q) : XC E M k u As h Q := by
  have hx := xcode_of hH
  unfold XC
  rw [hx]
  refine vx_ofWF (cc := mC M) (maxL := mL M) (ret := mR M) hpl rfl ?_
  intro p e s m args below meth c s₁ B hml ht hP
  obtain ⟨ha, hE, hZ, hR, htr⟩ := hP
  subst ha
  rw [lg_entry_eq]
  have hle : (lg_sl As).length ≤ mL M := by
    rw [← xloc_len, ← hn, ← hL]
    simp
  obtain ⟨g1, g2, g3⟩ := lv_entry As hle
  refine kk p e _ s m As.toArray below meth c s.heap [] 0 0 _ ⟨B.exec, B.bytes, B.returns, B.notSynchronized, hml, findClass_of_methodNamed B.named, ?_, (name_of_methodNamed B.named B.method).1, Nat.le_refl _, Nat.le_refl _, hE, hZ, htr⟩ hR ⟨Nat.le_refl _, fun _ _ _ => rfl, fun q hq => by cases hq⟩ ⟨g1, g2, hn, fun i v hi => ?_⟩ (by show 0 + k ≤ k; omega) (by show 0 + u ≤ u; omega)
  · rw [hH]
    cases hc : c.exceptionTable.toList with
    | nil => rfl
    | cons x xs => exact absurd (by rw [hc]; exact List.mem_cons_self) (fun z => ht x z)
  · refine g3 (i, v) ?_
    have := xloc_args As 0 i v (by
      rw [← hL] at hi
      by_cases hlt : i < (xloc As).length
      · rw [List.getElem?_append_left hlt] at hi; exact hi
      · rw [List.getElem?_append_right (by omega), List.getElem?_replicate] at hi
        split at hi <;> simp at hi)
    rwa [Nat.zero_add] at this
theorem S_enterF {E : XG} {M : XM} {α : Type} {en : α → Option Value} {a b : Nat} {h : XH} {mm : XP α} {As : List Value} (hpl : plainFor (mY M) = true) (hH : mH M = []) {L : List (Option Value)} (hL : xloc As ++ List.replicate (mL M - (xloc As).length) none = L) (hn : L.length = mL M) (kk : XS E M en a b 0 L [] h mm) : XN E M en a b As h mm := fun r h' e => xs1 (X_enterF hpl hH hL hn) (kk r h' e)
theorem S_iushr {E : XG} {M : XM} {α : Type} {en : α → Option Value} {a b : Nat} {L : List (Option Value)} {st : List Value} {h : XH} {mm : XP α} (pc : Nat) {x y : Int32} (d : decode (mC M) pc = .ok (.iushr, 1)) (kk : XS E M en a b (pc + 1) L (.int (x.toUInt32 >>> (y.toUInt32 &&& Int32.toUInt32 31)).toInt32 :: st) h mm) : XS E M en a b pc L (.int y :: .int x :: st) h mm := by
  intro r h' e0
  refine xs1 (fun kk => ?_) (kk r h' e0)
  intro p e R s m args below meth c H locs cells slots ls F hR hS hl hc hs
  exact lv_iushr F.1 F.2.1 d rfl (kk p e R s m args below meth c H locs cells slots ls F hR hS hl hc hs)
theorem oiX8_3 : xIn (.methodLink RX8 3 Lib.objectInit) := ⟨List.mem_of_getElem? (i := 51) (by decide +kernel), rfl⟩
theorem oiX0_3 : xIn (.methodLink RX0 3 Lib.objectInit) := ⟨List.mem_of_getElem? (i := 192) (by decide +kernel), rfl⟩
theorem oiX1_3 : xIn (.methodLink RX1 3 Lib.objectInit) := ⟨List.mem_of_getElem? (i := 116) (by decide +kernel), rfl⟩
theorem oiX2_3 : xIn (.methodLink RX2 3 Lib.objectInit) := ⟨List.mem_of_getElem? (i := 92) (by decide +kernel), rfl⟩
theorem oiX3_3 : xIn (.methodLink RX3 3 Lib.objectInit) := ⟨List.mem_of_getElem? (i := 65) (by decide +kernel), rfl⟩
theorem oiX4_3 : xIn (.methodLink RX4 3 Lib.objectInit) := ⟨List.mem_of_getElem? (i := 122) (by decide +kernel), rfl⟩
theorem oiX5_3 : xIn (.methodLink RX5 3 Lib.objectInit) := ⟨List.mem_of_getElem? (i := 840) (by decide +kernel), rfl⟩
theorem oiX6_3 : xIn (.methodLink RX6 3 Lib.objectInit) := ⟨List.mem_of_getElem? (i := 809) (by decide +kernel), rfl⟩
theorem oiX7_3 : xIn (.methodLink RX7 3 Lib.objectInit) := ⟨List.mem_of_getElem? (i := 59) (by decide +kernel), rfl⟩
theorem acX7_121 : xIn (.methodLink RX7 121 arraycopyName) := ⟨List.mem_of_getElem? (i := 1452) (by decide +kernel), rfl⟩
theorem oiX9_1 : xIn (.methodLink RX9 1 Lib.objectInit) := ⟨List.mem_of_getElem? (i := 634) (by decide +kernel), rfl⟩
theorem oiX10_1 : xIn (.methodLink RX10 1 Lib.objectInit) := ⟨List.mem_of_getElem? (i := 315) (by decide +kernel), rfl⟩
theorem oiX11_1 : xIn (.methodLink RX11 1 Lib.objectInit) := ⟨List.mem_of_getElem? (i := 578) (by decide +kernel), rfl⟩
theorem oiX12_1 : xIn (.methodLink RX12 1 Lib.objectInit) := ⟨List.mem_of_getElem? (i := 333) (by decide +kernel), rfl⟩
theorem oiJ5_3 : xIn (.methodLink RJ5 3 Lib.objectInit) := ⟨List.mem_of_getElem? (i := 343) (by decide +kernel), rfl⟩
theorem oiJ0_1 : xIn (.methodLink RJ0 1 Lib.objectInit) := ⟨List.mem_of_getElem? (i := 1716) (by decide +kernel), rfl⟩
theorem acJ0_212 : xIn (.methodLink RJ0 212 arraycopyName) := ⟨List.mem_of_getElem? (i := 478) (by decide +kernel), rfl⟩
theorem acJ7_150 : xIn (.methodLink RJ7 150 arraycopyName) := ⟨List.mem_of_getElem? (i := 412) (by decide +kernel), rfl⟩
theorem oiI : xIn (.instanceMethod Lib.objectInit) := ⟨List.mem_of_getElem? (i := 52) (by decide +kernel), rfl⟩
theorem oiC : xIn (.code Lib.objectInit ⟨#[0xb1]⟩ 1 none) := ⟨List.mem_of_getElem? (i := 53) (by decide +kernel), rfl⟩
theorem acN : xIn (.native arraycopyName) := ⟨List.mem_of_getElem? (i := 414) (by decide +kernel), rfl⟩
theorem acS : xIn (.static arraycopyName) := ⟨List.mem_of_getElem? (i := 413) (by decide +kernel), rfl⟩
theorem acI : xIn (.initialized "java/lang/System") := ⟨List.mem_of_getElem? (i := 24) (by decide +kernel), rfl⟩
theorem nwX8_17 : xIn (.classLink RX8 17 RX7) := ⟨List.mem_of_getElem? (i := 54) (by decide +kernel), rfl⟩
theorem nwX8_52 : xIn (.classLink RX8 52 RX5) := ⟨List.mem_of_getElem? (i := 802) (by decide +kernel), rfl⟩
theorem nwX8_54 : xIn (.classLink RX8 54 RX6) := ⟨List.mem_of_getElem? (i := 804) (by decide +kernel), rfl⟩
theorem nwX1_18 : xIn (.classLink RX1 18 RX4) := ⟨List.mem_of_getElem? (i := 117) (by decide +kernel), rfl⟩
theorem nwX7_9 : xIn (.classLink RX7 9 RX3) := ⟨List.mem_of_getElem? (i := 60) (by decide +kernel), rfl⟩
theorem nwX7_26 : xIn (.classLink RX7 26 RX2) := ⟨List.mem_of_getElem? (i := 82) (by decide +kernel), rfl⟩
theorem nwX7_32 : xIn (.classLink RX7 32 RX1) := ⟨List.mem_of_getElem? (i := 84) (by decide +kernel), rfl⟩
theorem nwX7_38 : xIn (.classLink RX7 38 RX0) := ⟨List.mem_of_getElem? (i := 86) (by decide +kernel), rfl⟩
theorem nwL_18 : xIn (.classLink RL 18 RX8) := ⟨List.mem_of_getElem? (i := 46) (by decide +kernel), rfl⟩
theorem nwL_157 : xIn (.classLink RL 157 RX12) := ⟨List.mem_of_getElem? (i := 328) (by decide +kernel), rfl⟩
theorem nwL_197 : xIn (.classLink RL 197 RX10) := ⟨List.mem_of_getElem? (i := 310) (by decide +kernel), rfl⟩
theorem nwL_227 : xIn (.classLink RL 227 RJ4) := ⟨List.mem_of_getElem? (i := 1558) (by decide +kernel), rfl⟩
theorem nwX12_7 : xIn (.classLink RX12 7 RJ4) := ⟨List.mem_of_getElem? (i := 334) (by decide +kernel), rfl⟩
theorem nwX12_26 : xIn (.classLink RX12 26 RX11) := ⟨List.mem_of_getElem? (i := 494) (by decide +kernel), rfl⟩
theorem nwX12_32 : xIn (.classLink RX12 32 RX9) := ⟨List.mem_of_getElem? (i := 496) (by decide +kernel), rfl⟩
theorem nwJ4_18 : xIn (.classLink RJ4 18 RJ0) := ⟨List.mem_of_getElem? (i := 1708) (by decide +kernel), rfl⟩
theorem nwJ7_45 : xIn (.classLink RJ7 45 RJ4) := ⟨List.mem_of_getElem? (i := 1734) (by decide +kernel), rfl⟩
theorem inst0 : xIn (.instantiable RX0 4) := ⟨List.mem_of_getElem? (i := 188) (by decide +kernel), rfl⟩
theorem ini0 : xIn (.initialized RX0) := ⟨List.mem_of_getElem? (i := 37) (by decide +kernel), rfl⟩
theorem inst1 : xIn (.instantiable RX1 8) := ⟨List.mem_of_getElem? (i := 112) (by decide +kernel), rfl⟩
theorem ini1 : xIn (.initialized RX1) := ⟨List.mem_of_getElem? (i := 35) (by decide +kernel), rfl⟩
theorem inst2 : xIn (.instantiable RX2 4) := ⟨List.mem_of_getElem? (i := 88) (by decide +kernel), rfl⟩
theorem ini2 : xIn (.initialized RX2) := ⟨List.mem_of_getElem? (i := 34) (by decide +kernel), rfl⟩
theorem inst3 : xIn (.instantiable RX3 3) := ⟨List.mem_of_getElem? (i := 61) (by decide +kernel), rfl⟩
theorem ini3 : xIn (.initialized RX3) := ⟨List.mem_of_getElem? (i := 33) (by decide +kernel), rfl⟩
theorem inst4 : xIn (.instantiable RX4 5) := ⟨List.mem_of_getElem? (i := 118) (by decide +kernel), rfl⟩
theorem ini4 : xIn (.initialized RX4) := ⟨List.mem_of_getElem? (i := 36) (by decide +kernel), rfl⟩
theorem inst5 : xIn (.instantiable RX5 4) := ⟨List.mem_of_getElem? (i := 803) (by decide +kernel), rfl⟩
theorem ini5 : xIn (.initialized RX5) := ⟨List.mem_of_getElem? (i := 44) (by decide +kernel), rfl⟩
theorem inst6 : xIn (.instantiable RX6 7) := ⟨List.mem_of_getElem? (i := 805) (by decide +kernel), rfl⟩
theorem ini6 : xIn (.initialized RX6) := ⟨List.mem_of_getElem? (i := 45) (by decide +kernel), rfl⟩
theorem inst7 : xIn (.instantiable RX7 7) := ⟨List.mem_of_getElem? (i := 55) (by decide +kernel), rfl⟩
theorem ini7 : xIn (.initialized RX7) := ⟨List.mem_of_getElem? (i := 32) (by decide +kernel), rfl⟩
theorem inst8 : xIn (.instantiable RX8 14) := ⟨List.mem_of_getElem? (i := 47) (by decide +kernel), rfl⟩
theorem ini8 : xIn (.initialized RX8) := ⟨List.mem_of_getElem? (i := 31) (by decide +kernel), rfl⟩
theorem inst9 : xIn (.instantiable RX9 4) := ⟨List.mem_of_getElem? (i := 630) (by decide +kernel), rfl⟩
theorem ini9 : xIn (.initialized RX9) := ⟨List.mem_of_getElem? (i := 30) (by decide +kernel), rfl⟩
theorem inst20 : xIn (.instantiable RX10 2) := ⟨List.mem_of_getElem? (i := 311) (by decide +kernel), rfl⟩
theorem ini20 : xIn (.initialized RX10) := ⟨List.mem_of_getElem? (i := 15) (by decide +kernel), rfl⟩
theorem inst21 : xIn (.instantiable RX11 6) := ⟨List.mem_of_getElem? (i := 574) (by decide +kernel), rfl⟩
theorem ini21 : xIn (.initialized RX11) := ⟨List.mem_of_getElem? (i := 29) (by decide +kernel), rfl⟩
theorem inst22 : xIn (.instantiable RX12 8) := ⟨List.mem_of_getElem? (i := 329) (by decide +kernel), rfl⟩
theorem ini22 : xIn (.initialized RX12) := ⟨List.mem_of_getElem? (i := 16) (by decide +kernel), rfl⟩
theorem inst23 : xIn (.instantiable RJ4 4) := ⟨List.mem_of_getElem? (i := 335) (by decide +kernel), rfl⟩
theorem ini23 : xIn (.initialized RJ4) := ⟨List.mem_of_getElem? (i := 18) (by decide +kernel), rfl⟩
theorem inst24 : xIn (.instantiable RJ0 4) := ⟨List.mem_of_getElem? (i := 1709) (by decide +kernel), rfl⟩
theorem ini24 : xIn (.initialized RJ0) := ⟨List.mem_of_getElem? (i := 19) (by decide +kernel), rfl⟩
theorem ar11 : xIn (.arrayClass (newarray.typeOf .byte)) := ⟨List.mem_of_getElem? (i := 79) (by decide +kernel), rfl⟩
theorem ar12 : xIn (.arrayClass (newarray.typeOf .int)) := ⟨List.mem_of_getElem? (i := 81) (by decide +kernel), rfl⟩
theorem ar13 : xIn (.arrayClass (newarray.typeOf .long)) := ⟨List.mem_of_getElem? (i := 80) (by decide +kernel), rfl⟩
theorem ai12 : xIn (.arrayClass .int) := ⟨List.mem_of_getElem? (i := 81) (by decide +kernel), rfl⟩
theorem cbX8_27 : xIn (.classLink RX8 27 "[[I") := ⟨List.mem_of_getElem? (i := 253) (by decide +kernel), rfl⟩
theorem nqX8_27 : xIn (.classLink RX8 27 (FieldType.array (.array .int)).toString) := ⟨List.mem_of_getElem? (i := 253) (by decide +kernel), rfl⟩
theorem cbL_152 : xIn (.classLink RL 152 "[[I") := ⟨List.mem_of_getElem? (i := 531) (by decide +kernel), rfl⟩
theorem nqL_152 : xIn (.classLink RL 152 (FieldType.array (.array .int)).toString) := ⟨List.mem_of_getElem? (i := 531) (by decide +kernel), rfl⟩
theorem cbL_154 : xIn (.classLink RL 154 "[I") := ⟨List.mem_of_getElem? (i := 540) (by decide +kernel), rfl⟩
theorem nqL_154 : xIn (.classLink RL 154 (FieldType.array .int).toString) := ⟨List.mem_of_getElem? (i := 540) (by decide +kernel), rfl⟩
theorem cbX11_27 : xIn (.classLink RX11 27 "[[I") := ⟨List.mem_of_getElem? (i := 579) (by decide +kernel), rfl⟩
theorem nqX11_27 : xIn (.classLink RX11 27 (FieldType.array (.array .int)).toString) := ⟨List.mem_of_getElem? (i := 579) (by decide +kernel), rfl⟩
theorem cbX12_20 : xIn (.classLink RX12 20 "[[I") := ⟨List.mem_of_getElem? (i := 492) (by decide +kernel), rfl⟩
theorem nqX12_20 : xIn (.classLink RX12 20 (FieldType.array (.array .int)).toString) := ⟨List.mem_of_getElem? (i := 492) (by decide +kernel), rfl⟩
theorem cbJ7_311 : xIn (.classLink RJ7 311 "[B") := ⟨List.mem_of_getElem? (i := 408) (by decide +kernel), rfl⟩
theorem clJ7_310 : xIn (.methodLink RJ7 310 ⟨"[B", "clone", "()Ljava/lang/Object;"⟩) := ⟨List.mem_of_getElem? (i := 402) (by decide +kernel), rfl⟩
theorem clS : xIn (.sameMethod "[B" "java/lang/Object" "clone" "()Ljava/lang/Object;") := ⟨List.mem_of_getElem? (i := 403) (by decide +kernel), rfl⟩
theorem clN : xIn (.native ⟨"java/lang/Object", "clone", "()Ljava/lang/Object;"⟩) := ⟨List.mem_of_getElem? (i := 404) (by decide +kernel), rfl⟩
theorem clI : xIn (.instanceMethod ⟨"java/lang/Object", "clone", "()Ljava/lang/Object;"⟩) := ⟨List.mem_of_getElem? (i := 405) (by decide +kernel), rfl⟩
theorem clE : xIn (.selects "[B" ⟨"[B", "clone", "()Ljava/lang/Object;"⟩ ⟨"java/lang/Object", "clone", "()Ljava/lang/Object;"⟩) := ⟨List.mem_of_getElem? (i := 406) (by decide +kernel), rfl⟩
theorem dv0 (h : XH) : ∀ j t, (xft 0)[j]? = some t → defaultValue (tyX0 j) = xfv (ya h (0 + 1) 0) (xt h) j t := by
  intro j t hj
  have hj2 : j < 4 := (List.getElem?_eq_some_iff.mp hj).1
  have e1 : xi (ya h (0 + 1) 0) (xt h) j = 0 := by rw [xi_ya, if_pos rfl]
  have e2 : xj (ya h (0 + 1) 0) (xt h) j = 0 := by rw [xj_ya, if_pos rfl]
  have e3 : xr (ya h (0 + 1) 0) (xt h) j = none := by rw [xr_ya, if_pos rfl]
  have hd : ∀ j : Fin 4, ((xft 0)[j.val]? = some 0 → defaultValue (tyX0 j) = .int 0) ∧ ((xft 0)[j.val]? = some 1 → defaultValue (tyX0 j) = .long 0) ∧ ((xft 0)[j.val]? = some 2 → defaultValue (tyX0 j) = .null) ∧ ((xft 0)[j.val]?.getD 9 ≤ 2) := by decide +kernel
  obtain ⟨d0, d1, d2, d3⟩ := hd ⟨j, hj2⟩
  simp only at d0 d1 d2 d3
  rw [hj] at d3
  simp only [Option.getD_some] at d3
  match t, hj, d3 with
  | 0, hj, _ => rw [d0 hj]; show _ = Value.int _; rw [e1]
  | 1, hj, _ => rw [d1 hj]; show _ = Value.long _; rw [e2]
  | 2, hj, _ => rw [d2 hj]; show _ = va_rf _; rw [e3]; rfl
  | t + 3, _, d3 => omega
theorem dv1 (h : XH) : ∀ j t, (xft 1)[j]? = some t → defaultValue (tyX1 j) = xfv (ya h (1 + 1) 0) (xt h) j t := by
  intro j t hj
  have hj2 : j < 8 := (List.getElem?_eq_some_iff.mp hj).1
  have e1 : xi (ya h (1 + 1) 0) (xt h) j = 0 := by rw [xi_ya, if_pos rfl]
  have e2 : xj (ya h (1 + 1) 0) (xt h) j = 0 := by rw [xj_ya, if_pos rfl]
  have e3 : xr (ya h (1 + 1) 0) (xt h) j = none := by rw [xr_ya, if_pos rfl]
  have hd : ∀ j : Fin 8, ((xft 1)[j.val]? = some 0 → defaultValue (tyX1 j) = .int 0) ∧ ((xft 1)[j.val]? = some 1 → defaultValue (tyX1 j) = .long 0) ∧ ((xft 1)[j.val]? = some 2 → defaultValue (tyX1 j) = .null) ∧ ((xft 1)[j.val]?.getD 9 ≤ 2) := by decide +kernel
  obtain ⟨d0, d1, d2, d3⟩ := hd ⟨j, hj2⟩
  simp only at d0 d1 d2 d3
  rw [hj] at d3
  simp only [Option.getD_some] at d3
  match t, hj, d3 with
  | 0, hj, _ => rw [d0 hj]; show _ = Value.int _; rw [e1]
  | 1, hj, _ => rw [d1 hj]; show _ = Value.long _; rw [e2]
  | 2, hj, _ => rw [d2 hj]; show _ = va_rf _; rw [e3]; rfl
  | t + 3, _, d3 => omega
theorem dv2 (h : XH) : ∀ j t, (xft 2)[j]? = some t → defaultValue (tyX2 j) = xfv (ya h (2 + 1) 0) (xt h) j t := by
  intro j t hj
  have hj2 : j < 4 := (List.getElem?_eq_some_iff.mp hj).1
  have e1 : xi (ya h (2 + 1) 0) (xt h) j = 0 := by rw [xi_ya, if_pos rfl]
  have e2 : xj (ya h (2 + 1) 0) (xt h) j = 0 := by rw [xj_ya, if_pos rfl]
  have e3 : xr (ya h (2 + 1) 0) (xt h) j = none := by rw [xr_ya, if_pos rfl]
  have hd : ∀ j : Fin 4, ((xft 2)[j.val]? = some 0 → defaultValue (tyX2 j) = .int 0) ∧ ((xft 2)[j.val]? = some 1 → defaultValue (tyX2 j) = .long 0) ∧ ((xft 2)[j.val]? = some 2 → defaultValue (tyX2 j) = .null) ∧ ((xft 2)[j.val]?.getD 9 ≤ 2) := by decide +kernel
  obtain ⟨d0, d1, d2, d3⟩ := hd ⟨j, hj2⟩
  simp only at d0 d1 d2 d3
  rw [hj] at d3
  simp only [Option.getD_some] at d3
  match t, hj, d3 with
  | 0, hj, _ => rw [d0 hj]; show _ = Value.int _; rw [e1]
  | 1, hj, _ => rw [d1 hj]; show _ = Value.long _; rw [e2]
  | 2, hj, _ => rw [d2 hj]; show _ = va_rf _; rw [e3]; rfl
  | t + 3, _, d3 => omega
theorem dv3 (h : XH) : ∀ j t, (xft 3)[j]? = some t → defaultValue (tyX3 j) = xfv (ya h (3 + 1) 0) (xt h) j t := by
  intro j t hj
  have hj2 : j < 3 := (List.getElem?_eq_some_iff.mp hj).1
  have e1 : xi (ya h (3 + 1) 0) (xt h) j = 0 := by rw [xi_ya, if_pos rfl]
  have e2 : xj (ya h (3 + 1) 0) (xt h) j = 0 := by rw [xj_ya, if_pos rfl]
  have e3 : xr (ya h (3 + 1) 0) (xt h) j = none := by rw [xr_ya, if_pos rfl]
  have hd : ∀ j : Fin 3, ((xft 3)[j.val]? = some 0 → defaultValue (tyX3 j) = .int 0) ∧ ((xft 3)[j.val]? = some 1 → defaultValue (tyX3 j) = .long 0) ∧ ((xft 3)[j.val]? = some 2 → defaultValue (tyX3 j) = .null) ∧ ((xft 3)[j.val]?.getD 9 ≤ 2) := by decide +kernel
  obtain ⟨d0, d1, d2, d3⟩ := hd ⟨j, hj2⟩
  simp only at d0 d1 d2 d3
  rw [hj] at d3
  simp only [Option.getD_some] at d3
  match t, hj, d3 with
  | 0, hj, _ => rw [d0 hj]; show _ = Value.int _; rw [e1]
  | 1, hj, _ => rw [d1 hj]; show _ = Value.long _; rw [e2]
  | 2, hj, _ => rw [d2 hj]; show _ = va_rf _; rw [e3]; rfl
  | t + 3, _, d3 => omega
theorem dv4 (h : XH) : ∀ j t, (xft 4)[j]? = some t → defaultValue (tyX4 j) = xfv (ya h (4 + 1) 0) (xt h) j t := by
  intro j t hj
  have hj2 : j < 5 := (List.getElem?_eq_some_iff.mp hj).1
  have e1 : xi (ya h (4 + 1) 0) (xt h) j = 0 := by rw [xi_ya, if_pos rfl]
  have e2 : xj (ya h (4 + 1) 0) (xt h) j = 0 := by rw [xj_ya, if_pos rfl]
  have e3 : xr (ya h (4 + 1) 0) (xt h) j = none := by rw [xr_ya, if_pos rfl]
  have hd : ∀ j : Fin 5, ((xft 4)[j.val]? = some 0 → defaultValue (tyX4 j) = .int 0) ∧ ((xft 4)[j.val]? = some 1 → defaultValue (tyX4 j) = .long 0) ∧ ((xft 4)[j.val]? = some 2 → defaultValue (tyX4 j) = .null) ∧ ((xft 4)[j.val]?.getD 9 ≤ 2) := by decide +kernel
  obtain ⟨d0, d1, d2, d3⟩ := hd ⟨j, hj2⟩
  simp only at d0 d1 d2 d3
  rw [hj] at d3
  simp only [Option.getD_some] at d3
  match t, hj, d3 with
  | 0, hj, _ => rw [d0 hj]; show _ = Value.int _; rw [e1]
  | 1, hj, _ => rw [d1 hj]; show _ = Value.long _; rw [e2]
  | 2, hj, _ => rw [d2 hj]; show _ = va_rf _; rw [e3]; rfl
  | t + 3, _, d3 => omega
theorem dv5 (h : XH) : ∀ j t, (xft 5)[j]? = some t → defaultValue (tyX5 j) = xfv (ya h (5 + 1) 0) (xt h) j t := by
  intro j t hj
  have hj2 : j < 4 := (List.getElem?_eq_some_iff.mp hj).1
  have e1 : xi (ya h (5 + 1) 0) (xt h) j = 0 := by rw [xi_ya, if_pos rfl]
  have e2 : xj (ya h (5 + 1) 0) (xt h) j = 0 := by rw [xj_ya, if_pos rfl]
  have e3 : xr (ya h (5 + 1) 0) (xt h) j = none := by rw [xr_ya, if_pos rfl]
  have hd : ∀ j : Fin 4, ((xft 5)[j.val]? = some 0 → defaultValue (tyX5 j) = .int 0) ∧ ((xft 5)[j.val]? = some 1 → defaultValue (tyX5 j) = .long 0) ∧ ((xft 5)[j.val]? = some 2 → defaultValue (tyX5 j) = .null) ∧ ((xft 5)[j.val]?.getD 9 ≤ 2) := by decide +kernel
  obtain ⟨d0, d1, d2, d3⟩ := hd ⟨j, hj2⟩
  simp only at d0 d1 d2 d3
  rw [hj] at d3
  simp only [Option.getD_some] at d3
  match t, hj, d3 with
  | 0, hj, _ => rw [d0 hj]; show _ = Value.int _; rw [e1]
  | 1, hj, _ => rw [d1 hj]; show _ = Value.long _; rw [e2]
  | 2, hj, _ => rw [d2 hj]; show _ = va_rf _; rw [e3]; rfl
  | t + 3, _, d3 => omega
theorem dv6 (h : XH) : ∀ j t, (xft 6)[j]? = some t → defaultValue (tyX6 j) = xfv (ya h (6 + 1) 0) (xt h) j t := by
  intro j t hj
  have hj2 : j < 7 := (List.getElem?_eq_some_iff.mp hj).1
  have e1 : xi (ya h (6 + 1) 0) (xt h) j = 0 := by rw [xi_ya, if_pos rfl]
  have e2 : xj (ya h (6 + 1) 0) (xt h) j = 0 := by rw [xj_ya, if_pos rfl]
  have e3 : xr (ya h (6 + 1) 0) (xt h) j = none := by rw [xr_ya, if_pos rfl]
  have hd : ∀ j : Fin 7, ((xft 6)[j.val]? = some 0 → defaultValue (tyX6 j) = .int 0) ∧ ((xft 6)[j.val]? = some 1 → defaultValue (tyX6 j) = .long 0) ∧ ((xft 6)[j.val]? = some 2 → defaultValue (tyX6 j) = .null) ∧ ((xft 6)[j.val]?.getD 9 ≤ 2) := by decide +kernel
  obtain ⟨d0, d1, d2, d3⟩ := hd ⟨j, hj2⟩
  simp only at d0 d1 d2 d3
  rw [hj] at d3
  simp only [Option.getD_some] at d3
  match t, hj, d3 with
  | 0, hj, _ => rw [d0 hj]; show _ = Value.int _; rw [e1]
  | 1, hj, _ => rw [d1 hj]; show _ = Value.long _; rw [e2]
  | 2, hj, _ => rw [d2 hj]; show _ = va_rf _; rw [e3]; rfl
  | t + 3, _, d3 => omega
theorem dv7 (h : XH) : ∀ j t, (xft 7)[j]? = some t → defaultValue (tyX7 j) = xfv (ya h (7 + 1) 0) (xt h) j t := by
  intro j t hj
  have hj2 : j < 7 := (List.getElem?_eq_some_iff.mp hj).1
  have e1 : xi (ya h (7 + 1) 0) (xt h) j = 0 := by rw [xi_ya, if_pos rfl]
  have e2 : xj (ya h (7 + 1) 0) (xt h) j = 0 := by rw [xj_ya, if_pos rfl]
  have e3 : xr (ya h (7 + 1) 0) (xt h) j = none := by rw [xr_ya, if_pos rfl]
  have hd : ∀ j : Fin 7, ((xft 7)[j.val]? = some 0 → defaultValue (tyX7 j) = .int 0) ∧ ((xft 7)[j.val]? = some 1 → defaultValue (tyX7 j) = .long 0) ∧ ((xft 7)[j.val]? = some 2 → defaultValue (tyX7 j) = .null) ∧ ((xft 7)[j.val]?.getD 9 ≤ 2) := by decide +kernel
  obtain ⟨d0, d1, d2, d3⟩ := hd ⟨j, hj2⟩
  simp only at d0 d1 d2 d3
  rw [hj] at d3
  simp only [Option.getD_some] at d3
  match t, hj, d3 with
  | 0, hj, _ => rw [d0 hj]; show _ = Value.int _; rw [e1]
  | 1, hj, _ => rw [d1 hj]; show _ = Value.long _; rw [e2]
  | 2, hj, _ => rw [d2 hj]; show _ = va_rf _; rw [e3]; rfl
  | t + 3, _, d3 => omega
theorem dv8 (h : XH) : ∀ j t, (xft 8)[j]? = some t → defaultValue (tyX8 j) = xfv (ya h (8 + 1) 0) (xt h) j t := by
  intro j t hj
  have hj2 : j < 14 := (List.getElem?_eq_some_iff.mp hj).1
  have e1 : xi (ya h (8 + 1) 0) (xt h) j = 0 := by rw [xi_ya, if_pos rfl]
  have e2 : xj (ya h (8 + 1) 0) (xt h) j = 0 := by rw [xj_ya, if_pos rfl]
  have e3 : xr (ya h (8 + 1) 0) (xt h) j = none := by rw [xr_ya, if_pos rfl]
  have hd : ∀ j : Fin 14, ((xft 8)[j.val]? = some 0 → defaultValue (tyX8 j) = .int 0) ∧ ((xft 8)[j.val]? = some 1 → defaultValue (tyX8 j) = .long 0) ∧ ((xft 8)[j.val]? = some 2 → defaultValue (tyX8 j) = .null) ∧ ((xft 8)[j.val]?.getD 9 ≤ 2) := by decide +kernel
  obtain ⟨d0, d1, d2, d3⟩ := hd ⟨j, hj2⟩
  simp only at d0 d1 d2 d3
  rw [hj] at d3
  simp only [Option.getD_some] at d3
  match t, hj, d3 with
  | 0, hj, _ => rw [d0 hj]; show _ = Value.int _; rw [e1]
  | 1, hj, _ => rw [d1 hj]; show _ = Value.long _; rw [e2]
  | 2, hj, _ => rw [d2 hj]; show _ = va_rf _; rw [e3]; rfl
  | t + 3, _, d3 => omega
theorem dv9 (h : XH) : ∀ j t, (xft 9)[j]? = some t → defaultValue (tyX9 j) = xfv (ya h (9 + 1) 0) (xt h) j t := by
  intro j t hj
  have hj2 : j < 4 := (List.getElem?_eq_some_iff.mp hj).1
  have e1 : xi (ya h (9 + 1) 0) (xt h) j = 0 := by rw [xi_ya, if_pos rfl]
  have e2 : xj (ya h (9 + 1) 0) (xt h) j = 0 := by rw [xj_ya, if_pos rfl]
  have e3 : xr (ya h (9 + 1) 0) (xt h) j = none := by rw [xr_ya, if_pos rfl]
  have hd : ∀ j : Fin 4, ((xft 9)[j.val]? = some 0 → defaultValue (tyX9 j) = .int 0) ∧ ((xft 9)[j.val]? = some 1 → defaultValue (tyX9 j) = .long 0) ∧ ((xft 9)[j.val]? = some 2 → defaultValue (tyX9 j) = .null) ∧ ((xft 9)[j.val]?.getD 9 ≤ 2) := by decide +kernel
  obtain ⟨d0, d1, d2, d3⟩ := hd ⟨j, hj2⟩
  simp only at d0 d1 d2 d3
  rw [hj] at d3
  simp only [Option.getD_some] at d3
  match t, hj, d3 with
  | 0, hj, _ => rw [d0 hj]; show _ = Value.int _; rw [e1]
  | 1, hj, _ => rw [d1 hj]; show _ = Value.long _; rw [e2]
  | 2, hj, _ => rw [d2 hj]; show _ = va_rf _; rw [e3]; rfl
  | t + 3, _, d3 => omega
theorem dv20 (h : XH) : ∀ j t, (xft 20)[j]? = some t → defaultValue (tyX10 j) = xfv (ya h (20 + 1) 0) (xt h) j t := by
  intro j t hj
  have hj2 : j < 2 := (List.getElem?_eq_some_iff.mp hj).1
  have e1 : xi (ya h (20 + 1) 0) (xt h) j = 0 := by rw [xi_ya, if_pos rfl]
  have e2 : xj (ya h (20 + 1) 0) (xt h) j = 0 := by rw [xj_ya, if_pos rfl]
  have e3 : xr (ya h (20 + 1) 0) (xt h) j = none := by rw [xr_ya, if_pos rfl]
  have hd : ∀ j : Fin 2, ((xft 20)[j.val]? = some 0 → defaultValue (tyX10 j) = .int 0) ∧ ((xft 20)[j.val]? = some 1 → defaultValue (tyX10 j) = .long 0) ∧ ((xft 20)[j.val]? = some 2 → defaultValue (tyX10 j) = .null) ∧ ((xft 20)[j.val]?.getD 9 ≤ 2) := by decide +kernel
  obtain ⟨d0, d1, d2, d3⟩ := hd ⟨j, hj2⟩
  simp only at d0 d1 d2 d3
  rw [hj] at d3
  simp only [Option.getD_some] at d3
  match t, hj, d3 with
  | 0, hj, _ => rw [d0 hj]; show _ = Value.int _; rw [e1]
  | 1, hj, _ => rw [d1 hj]; show _ = Value.long _; rw [e2]
  | 2, hj, _ => rw [d2 hj]; show _ = va_rf _; rw [e3]; rfl
  | t + 3, _, d3 => omega
theorem dv21 (h : XH) : ∀ j t, (xft 21)[j]? = some t → defaultValue (tyX11 j) = xfv (ya h (21 + 1) 0) (xt h) j t := by
  intro j t hj
  have hj2 : j < 6 := (List.getElem?_eq_some_iff.mp hj).1
  have e1 : xi (ya h (21 + 1) 0) (xt h) j = 0 := by rw [xi_ya, if_pos rfl]
  have e2 : xj (ya h (21 + 1) 0) (xt h) j = 0 := by rw [xj_ya, if_pos rfl]
  have e3 : xr (ya h (21 + 1) 0) (xt h) j = none := by rw [xr_ya, if_pos rfl]
  have hd : ∀ j : Fin 6, ((xft 21)[j.val]? = some 0 → defaultValue (tyX11 j) = .int 0) ∧ ((xft 21)[j.val]? = some 1 → defaultValue (tyX11 j) = .long 0) ∧ ((xft 21)[j.val]? = some 2 → defaultValue (tyX11 j) = .null) ∧ ((xft 21)[j.val]?.getD 9 ≤ 2) := by decide +kernel
  obtain ⟨d0, d1, d2, d3⟩ := hd ⟨j, hj2⟩
  simp only at d0 d1 d2 d3
  rw [hj] at d3
  simp only [Option.getD_some] at d3
  match t, hj, d3 with
  | 0, hj, _ => rw [d0 hj]; show _ = Value.int _; rw [e1]
  | 1, hj, _ => rw [d1 hj]; show _ = Value.long _; rw [e2]
  | 2, hj, _ => rw [d2 hj]; show _ = va_rf _; rw [e3]; rfl
  | t + 3, _, d3 => omega
theorem dv22 (h : XH) : ∀ j t, (xft 22)[j]? = some t → defaultValue (tyX12 j) = xfv (ya h (22 + 1) 0) (xt h) j t := by
  intro j t hj
  have hj2 : j < 8 := (List.getElem?_eq_some_iff.mp hj).1
  have e1 : xi (ya h (22 + 1) 0) (xt h) j = 0 := by rw [xi_ya, if_pos rfl]
  have e2 : xj (ya h (22 + 1) 0) (xt h) j = 0 := by rw [xj_ya, if_pos rfl]
  have e3 : xr (ya h (22 + 1) 0) (xt h) j = none := by rw [xr_ya, if_pos rfl]
  have hd : ∀ j : Fin 8, ((xft 22)[j.val]? = some 0 → defaultValue (tyX12 j) = .int 0) ∧ ((xft 22)[j.val]? = some 1 → defaultValue (tyX12 j) = .long 0) ∧ ((xft 22)[j.val]? = some 2 → defaultValue (tyX12 j) = .null) ∧ ((xft 22)[j.val]?.getD 9 ≤ 2) := by decide +kernel
  obtain ⟨d0, d1, d2, d3⟩ := hd ⟨j, hj2⟩
  simp only at d0 d1 d2 d3
  rw [hj] at d3
  simp only [Option.getD_some] at d3
  match t, hj, d3 with
  | 0, hj, _ => rw [d0 hj]; show _ = Value.int _; rw [e1]
  | 1, hj, _ => rw [d1 hj]; show _ = Value.long _; rw [e2]
  | 2, hj, _ => rw [d2 hj]; show _ = va_rf _; rw [e3]; rfl
  | t + 3, _, d3 => omega
theorem dv23 (h : XH) : ∀ j t, (xft 23)[j]? = some t → defaultValue (tyJ4 j) = xfv (ya h (23 + 1) 0) (xt h) j t := by
  intro j t hj
  have hj2 : j < 4 := (List.getElem?_eq_some_iff.mp hj).1
  have e1 : xi (ya h (23 + 1) 0) (xt h) j = 0 := by rw [xi_ya, if_pos rfl]
  have e2 : xj (ya h (23 + 1) 0) (xt h) j = 0 := by rw [xj_ya, if_pos rfl]
  have e3 : xr (ya h (23 + 1) 0) (xt h) j = none := by rw [xr_ya, if_pos rfl]
  have hd : ∀ j : Fin 4, ((xft 23)[j.val]? = some 0 → defaultValue (tyJ4 j) = .int 0) ∧ ((xft 23)[j.val]? = some 1 → defaultValue (tyJ4 j) = .long 0) ∧ ((xft 23)[j.val]? = some 2 → defaultValue (tyJ4 j) = .null) ∧ ((xft 23)[j.val]?.getD 9 ≤ 2) := by decide +kernel
  obtain ⟨d0, d1, d2, d3⟩ := hd ⟨j, hj2⟩
  simp only at d0 d1 d2 d3
  rw [hj] at d3
  simp only [Option.getD_some] at d3
  match t, hj, d3 with
  | 0, hj, _ => rw [d0 hj]; show _ = Value.int _; rw [e1]
  | 1, hj, _ => rw [d1 hj]; show _ = Value.long _; rw [e2]
  | 2, hj, _ => rw [d2 hj]; show _ = va_rf _; rw [e3]; rfl
  | t + 3, _, d3 => omega
theorem dv24 (h : XH) : ∀ j t, (xft 24)[j]? = some t → defaultValue (tyJ0 j) = xfv (ya h (24 + 1) 0) (xt h) j t := by
  intro j t hj
  have hj2 : j < 4 := (List.getElem?_eq_some_iff.mp hj).1
  have e1 : xi (ya h (24 + 1) 0) (xt h) j = 0 := by rw [xi_ya, if_pos rfl]
  have e2 : xj (ya h (24 + 1) 0) (xt h) j = 0 := by rw [xj_ya, if_pos rfl]
  have e3 : xr (ya h (24 + 1) 0) (xt h) j = none := by rw [xr_ya, if_pos rfl]
  have hd : ∀ j : Fin 4, ((xft 24)[j.val]? = some 0 → defaultValue (tyJ0 j) = .int 0) ∧ ((xft 24)[j.val]? = some 1 → defaultValue (tyJ0 j) = .long 0) ∧ ((xft 24)[j.val]? = some 2 → defaultValue (tyJ0 j) = .null) ∧ ((xft 24)[j.val]?.getD 9 ≤ 2) := by decide +kernel
  obtain ⟨d0, d1, d2, d3⟩ := hd ⟨j, hj2⟩
  simp only at d0 d1 d2 d3
  rw [hj] at d3
  simp only [Option.getD_some] at d3
  match t, hj, d3 with
  | 0, hj, _ => rw [d0 hj]; show _ = Value.int _; rw [e1]
  | 1, hj, _ => rw [d1 hj]; show _ = Value.long _; rw [e2]
  | 2, hj, _ => rw [d2 hj]; show _ = va_rf _; rw [e3]; rfl
  | t + 3, _, d3 => omega
theorem thw_of {ec ic : Nat} (h1 : ∀ w ∈ (vx_atS RX8 ic (xnm ec) ["java/lang/RuntimeException", "java/lang/Exception"]).filter goodWord, w ∈ lw_tbl) (h2 : ∀ w ∈ (vx_atS RX8 ic (xnm ec) ["java/lang/RuntimeException", "java/lang/Exception"]).filter (fun w => !goodWord w), w ∈ xDec.map Cond.declares ++ [.castable (xnm 0) (xnm 0), .castable (xnm 1) (xnm 1), .castable (xnm 2) (xnm 2)]) : ∀ w ∈ vx_atS RX8 ic (xnm ec) ["java/lang/RuntimeException", "java/lang/Exception"], xIn w ∨ (∃ y ∈ xDec, w = .declares y) ∨ (∃ i, w = .castable (xnm i) (xnm i)) := by
  intro w hw
  cases hg : goodWord w with
  | true => exact Or.inl ⟨h1 w (List.mem_filter.mpr ⟨hw, hg⟩), hg⟩
  | false =>
    rcases List.mem_append.mp (h2 w (List.mem_filter.mpr ⟨hw, by rw [hg]; rfl⟩)) with h | h
    · obtain ⟨y, hy, e⟩ := List.mem_map.mp h
      exact Or.inr (Or.inl ⟨y, hy, e.symm⟩)
    · refine Or.inr (Or.inr ?_)
      rcases List.mem_cons.mp h with e | h
      · exact ⟨0, e⟩
      rcases List.mem_cons.mp h with e | h
      · exact ⟨1, e⟩
      rcases List.mem_cons.mp h with e | h
      · exact ⟨2, e⟩
      cases h
theorem th0_339 : xthw RX8 (xnm 0) 337 339 341 := ⟨⟨List.mem_of_getElem? (i := 1115) (by decide +kernel), rfl⟩, ⟨List.mem_of_getElem? (i := 41) (by decide +kernel), rfl⟩, thw_of (by decide +kernel) (by decide +kernel)⟩
theorem th0_363 : xthw RX8 (xnm 0) 337 363 341 := ⟨⟨List.mem_of_getElem? (i := 1115) (by decide +kernel), rfl⟩, ⟨List.mem_of_getElem? (i := 41) (by decide +kernel), rfl⟩, thw_of (by decide +kernel) (by decide +kernel)⟩
theorem th0_365 : xthw RX8 (xnm 0) 337 365 341 := ⟨⟨List.mem_of_getElem? (i := 1115) (by decide +kernel), rfl⟩, ⟨List.mem_of_getElem? (i := 41) (by decide +kernel), rfl⟩, thw_of (by decide +kernel) (by decide +kernel)⟩
theorem th1_369 : xthw RX8 (xnm 1) 367 369 371 := ⟨⟨List.mem_of_getElem? (i := 728) (by decide +kernel), rfl⟩, ⟨List.mem_of_getElem? (i := 43) (by decide +kernel), rfl⟩, thw_of (by decide +kernel) (by decide +kernel)⟩
theorem th2_374 : xthw RX8 (xnm 2) 372 374 376 := ⟨⟨List.mem_of_getElem? (i := 1023) (by decide +kernel), rfl⟩, ⟨List.mem_of_getElem? (i := 42) (by decide +kernel), rfl⟩, thw_of (by decide +kernel) (by decide +kernel)⟩
