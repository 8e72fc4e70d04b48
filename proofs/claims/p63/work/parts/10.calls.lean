/-! Calls, throws, entries. -/
set_option linter.unusedVariables false
/-- an exception pends at this pc -/
def XT (E : XG) (M : XM) (k u : Nat) (pc : Nat) (L : List (Option Value)) (h : XH) (ec : Nat) (Q : XO → Prop) : Prop :=
  ∀ (p : Program) (e : Env) (R : Room) (s : State) (m : MethodId) (args : Array Value) (below : List Frame) (meth : Method) (c : Code) (H : Heap) (locs : List Loc) (cells slots : Nat) (ls : Array Slot) (rest : List Value) (q : Addr) (ce : Cell),
    xF E M p R s m meth c → xR E h H → va_S (xA E) s.heap H locs → xL ls (mL M) L → cells + k ≤ R.cells → slots + u ≤ R.slots → H[q]? = some ce → ce.vm = .none → s.vm.findClass (xnm ec) = some ce.cls →
    vx_W p (eL E) e R s m args below meth c H locs cells slots (vx_MQ below (xQc E Q) (xXC E Q) args s R.cells R.slots (xA E)) (F0 m pc ls rest) q
/-- what a caller wants of a method -/
def xcal (M : XM) (n : Nat) : Prop := xIn (.code (mY M) (mC M) (mL M) (mR M)) ∧ xIn (.initialized (mY M).cls) ∧ ((mY M).cls ≠ "java/lang/invoke/MethodHandle" ∧ (mY M).cls ≠ "java/lang/invoke/VarHandle") ∧ (parseMethodDescriptor (mY M).desc).map (fun d => d.parameters.length) = some n ∧ mH M = []
def xroom (M M' : XM) : Bool := Nat.ble (mF M' + 1) (mF M) && Nat.ble (19 + mL M' + mW M') (mW M)
def xcat (st : List Value) : Nat := (st.map fun v => v.category).sum
theorem xcode_of {M : XM} (h : mH M = []) : xcode M = .code (mY M) (mC M) (mL M) (mR M) := by unfold xcode; rw [h]
theorem xroom_of {M M' : XM} {R : Room} (h : xroom M M' = true) (hf : mF M ≤ R.frames) (hw : mW M ≤ R.locals) : mF M' + 1 ≤ R.frames ∧ 8 + (mL M' + 11) + mW M' ≤ R.locals := by
  unfold xroom at h
  simp only [Bool.and_eq_true, Nat.ble_eq] at h
  omega
section XCALL
variable {E : XG} {M : XM} {k u : Nat} {L : List (Option Value)} {st : List Value} {h : XH} {Q : XO → Prop}
theorem XT_out {pc ec : Nat} (hH : mH M = []) (hq : Q (.inr ec, h)) : XT E M k u pc L h ec Q := by
  intro p e R s m args below meth c H locs cells slots ls rest q ce F hR hS hl hc hs h1 h2 h3
  exact vx_out (fun x hx => by rw [F.table, hH] at hx; cases hx) F.locks h1 h2 h3 (fun t ht hvm => ⟨⟨ec, h, rfl, hq, by rw [ht]; exact hR⟩, hS.F ht⟩) hS.2.2 (by omega) (by omega)
theorem X_run {k' u' pc : Nat} {Q' : XO → Prop} {p : Program} {e : Env} {R : Room} {s : State} {m : MethodId} {args : Array Value} {below : List Frame} {meth : Method} {c : Code} {H : Heap} {locs : List Loc} {cells slots : Nat} {ls : Array Slot} {st0 : List Value} {a : Array Value}
    (F : xF E M p R s m meth c) (hS : va_S (xA E) s.heap H locs) (hl : xL ls (mL M) L) (hc : cells + (k' + k) ≤ R.cells) (hs : slots + (u' + u) ≤ R.slots)
    (hr : vx_Run p (eL E) e R s m args below meth c H locs cells slots k' u' (F0 m pc ls st0) st (xQc E Q' a) (xXC E Q') (xA E))
    (kx : ∀ ec h1, Q' (.inr ec, h1) → XT E M k u pc L h1 ec Q) (kk : ∀ v h1, Q' (.inl v, h1) → XW E M k u (pc + 3) L (v.toList ++ st) h1 Q) :
    W p (eL E) e R s m args below meth c H locs cells slots (vx_MQ below (xQc E Q) (xXC E Q) args s R.cells R.slots (xA E)) (F0 m pc ls st0) := by
  intro T hT X
  rcases hr T hT X with ⟨v, st₀, t, T', L', h0, X', hL, e1, e2, ⟨⟨v', h', hv, hq, hR'⟩, hF⟩, hst⟩ | ⟨q, st₀, t, T', L', En, ce, h0, X', hL, e1, e2, ⟨⟨ec, h', hn, hq, hR'⟩, hF⟩, hce, hcv, hcl, hst⟩
  · cases hv
    obtain ⟨k1, k2, k3⟩ := vx_keep h0 e1 hS (fun _ _ z => z) (fun _ z => z) hL hF
    obtain ⟨t2, a1, b1⟩ := kk v h' hq p e R s m args below meth c T'.heap (locs ++ L') (cells + k') (slots + u') ls F (by rw [e1]; exact hR') k3 hl (by omega) (by omega) T' rfl X'
    exact ⟨t2, hst t2 a1, b1⟩
  · subst hn
    obtain ⟨k1, k2, k3⟩ := vx_keep h0 e1 hS (fun _ _ z => z) (fun _ z => z) hL hF
    obtain ⟨t2, a1, b1⟩ := kx ec h' hq p e R s m args below meth c T'.heap (locs ++ L') (cells + k') (slots + u') ls st q ce F (by rw [e1]; exact hR') k3 hl (by omega) (by omega) (by rw [e1]; exact hce) hcv hcl T' rfl X'
    exact ⟨t2, hst.trans a1, b1⟩
theorem xcal_B {M' : XM} {n idx : Nat} {k' u' : Nat} {own : String} {p : Program} {R : Room} {s : State} {m : MethodId} {args : Array Value} {meth : Method} {c : Code} (cal : xcal M' n) (hl : xIn (.methodLink own idx (mY M'))) (hr : xroom M M' = true) (F : xF E M p R s m meth c) :
    CallB R s args own idx (mY M') (mC M') (mL M') (mR M') [xcode M'] { frames := mF M', cells := k', slots := u', locals := mW M' } k' u' n := by
  obtain ⟨c1, c2, c3, c4, c5⟩ := cal
  have hx := xcode_of c5
  refine ⟨rfl, rfl, (xroom_of hr F.frames F.locals).1, (xroom_of hr F.frames F.locals).2, fun w hw a' U hW => ?_, by rw [hx]; exact List.mem_cons_self, F.env.word c1 args, F.env.word c2 args, c3, fun sig hsig => ?_, F.env.word hl args⟩
  · rw [List.mem_singleton.mp hw, hx]
    exact word_at hW (good_of_word c1.2) (F.env.word c1 args)
  · rw [hsig] at c4
    exact (Option.some.inj c4).symm
theorem xcal_N {M' : XM} {n idx : Nat} {k' u' : Nat} {own host : String} {p : Program} {R : Room} {s : State} {m : MethodId} {args : Array Value} {meth : Method} {c : Code} (cal : xcal M' n) (hl : (own, idx, mY M', host) ∈ xNest) (hr : xroom M M' = true) (F : xF E M p R s m meth c) :
    va_CN R s args own idx (mY M') host (mC M') (mL M') (mR M') [xcode M'] { frames := mF M', cells := k', slots := u', locals := mW M' } k' u' n := by
  obtain ⟨c1, c2, c3, c4, c5⟩ := cal
  have hx := xcode_of c5
  refine ⟨⟨rfl, rfl, (xroom_of hr F.frames F.locals).1, (xroom_of hr F.frames F.locals).2, fun w hw a' U hW => ?_, by rw [hx]; exact List.mem_cons_self⟩, F.env.word c1 args, F.env.word c2 args, c3, fun sig hsig => ?_, va_Nw.use rfl (F.env.2.2.1.1 _ hl)⟩
  · rw [List.mem_singleton.mp hw, hx]
    exact word_at hW (good_of_word c1.2) (F.env.word c1 args)
  · rw [hsig] at c4
    exact (Option.some.inj c4).symm
theorem xfix {own : String} {p : Program} {R : Room} {s : State} {m : MethodId} {args : Array Value} {meth : Method} {c : Code} (ho : own = (mY M).cls) (F : xF E M p R s m meth c) : CallFix p m c (mC M) (mL M) s args [] own := ⟨F.1, F.2.1, F.maxl, by rw [ho]; exact F.own, fun w hw => by cases hw⟩
theorem X_callS (pc : Nat) {M' : XM} {k' u' n idx : Nat} {own : String} {As st0 : List Value} {Q' : XO → Prop} (cal : xcal M' n) (hst : xIn (.static (mY M'))) (hl : xIn (.methodLink own idx (mY M'))) (ho : own = (mY M).cls) (hr : xroom M M' = true) (hw : Nat.ble (xcat st) 8 = true) (hn : As.length = n) (he : st0 = As.reverse ++ st) (d : decode (mC M) pc = .ok (.invokestatic idx, 3))
    (hC : XC E M' k' u' As h Q') (kx : ∀ ec h1, Q' (.inr ec, h1) → XT E M k u pc L h1 ec Q) (kk : ∀ v h1, Q' (.inl v, h1) → XW E M k u (pc + 3) L (v.toList ++ st) h1 Q) : XW E M (k' + k) (u' + u) pc L st0 h Q := by
  intro p e R s m args below meth c H locs cells slots ls F hR hS hL hc hs
  exact X_run F hS hL hc hs (vx_runS (xfix ho F) hC ⟨xcal_B cal hl hr F, F.env.word hst args⟩ ⟨xPc_blind E As h, fun U hU hW => xPc_of F.env F.stat hR hS F.traces hU hW⟩ rfl hn hL.1 he (by have := Nat.le_of_ble_eq_true hw; unfold xcat at this; show 2 * 0 + _ ≤ 8; omega) d ⟨by omega, by omega⟩) kx kk
theorem X_callSN (pc : Nat) {M' : XM} {k' u' n idx : Nat} {own host : String} {As st0 : List Value} {Q' : XO → Prop} (cal : xcal M' n) (hst : xIn (.static (mY M'))) (hl : (own, idx, mY M', host) ∈ xNest) (ho : own = (mY M).cls) (hr : xroom M M' = true) (hw : Nat.ble (xcat st) 8 = true) (hn : As.length = n) (he : st0 = As.reverse ++ st) (d : decode (mC M) pc = .ok (.invokestatic idx, 3))
    (hC : XC E M' k' u' As h Q') (kx : ∀ ec h1, Q' (.inr ec, h1) → XT E M k u pc L h1 ec Q) (kk : ∀ v h1, Q' (.inl v, h1) → XW E M k u (pc + 3) L (v.toList ++ st) h1 Q) : XW E M (k' + k) (u' + u) pc L st0 h Q := by
  intro p e R s m args below meth c H locs cells slots ls F hR hS hL hc hs
  exact X_run F hS hL hc hs (vx_runSN (xfix ho F) hC ⟨xcal_N cal hl hr F, F.env.word hst args, trivial⟩ ⟨xPc_blind E As h, fun U hU hW => xPc_of F.env F.stat hR hS F.traces hU hW⟩ rfl hn hL.1 he (by have := Nat.le_of_ble_eq_true hw; unfold xcat at this; show 2 * 0 + _ ≤ 8; omega) d ⟨by omega, by omega⟩) kx kk
theorem X_callI (pc : Nat) {M' : XM} {k' u' n idx b : Nat} {own : String} {As st0 : List Value} {Q' : XO → Prop} (cal : xcal M' n) (hret : mR M' = none) (hnm : (mY M').name = "<init>") (him : xIn (.instanceMethod (mY M'))) (hl : xIn (.methodLink own idx (mY M'))) (ho : own = (mY M).cls) (hr : xroom M M' = true) (hw : Nat.ble (xcat st) 8 = true) (hn : As.length = n) (he : st0 = As.reverse ++ .ref b :: st) (d : decode (mC M) pc = .ok (.invokespecial idx, 3))
    (hC : XC E M' k' u' (.ref b :: As) h Q') (kx : ∀ ec h1, Q' (.inr ec, h1) → XT E M k u pc L h1 ec Q) (kk : ∀ v h1, Q' (.inl v, h1) → XW E M k u (pc + 3) L (v.toList ++ st) h1 Q) : XW E M (k' + k) (u' + u) pc L st0 h Q := by
  intro p e R s m args below meth c H locs cells slots ls F hR hS hL hc hs
  exact X_run F hS hL hc hs (vx_runI (xfix ho F) hC ⟨by have := xcal_B cal hl hr F (args := args) (k' := k') (u' := u'); rw [hret] at this; exact this, hnm, F.env.word him args⟩ ⟨xPc_blind E _ h, fun U hU hW => xPc_of F.env F.stat hR hS F.traces hU hW⟩ rfl hn hL.1 he (by have := Nat.le_of_ble_eq_true hw; unfold xcat at this; show 2 * 0 + _ ≤ 8; omega) d ⟨by omega, by omega⟩) kx kk
theorem X_callIN (pc : Nat) {M' : XM} {k' u' n idx b : Nat} {own host : String} {As st0 : List Value} {Q' : XO → Prop} (cal : xcal M' n) (hret : mR M' = none) (hnm : (mY M').name = "<init>") (him : xIn (.instanceMethod (mY M'))) (hl : (own, idx, mY M', host) ∈ xNest) (ho : own = (mY M).cls) (hr : xroom M M' = true) (hw : Nat.ble (xcat st) 8 = true) (hn : As.length = n) (he : st0 = As.reverse ++ .ref b :: st) (d : decode (mC M) pc = .ok (.invokespecial idx, 3))
    (hC : XC E M' k' u' (.ref b :: As) h Q') (kx : ∀ ec h1, Q' (.inr ec, h1) → XT E M k u pc L h1 ec Q) (kk : ∀ v h1, Q' (.inl v, h1) → XW E M k u (pc + 3) L (v.toList ++ st) h1 Q) : XW E M (k' + k) (u' + u) pc L st0 h Q := by
  intro p e R s m args below meth c H locs cells slots ls F hR hS hL hc hs
  exact X_run F hS hL hc hs (vx_runIN (xfix ho F) hC ⟨by have := xcal_N cal hl hr F (args := args) (k' := k') (u' := u'); rw [hret] at this; exact this, hnm, F.env.word him args⟩ ⟨xPc_blind E _ h, fun U hU hW => xPc_of F.env F.stat hR hS F.traces hU hW⟩ rfl hn hL.1 he (by have := Nat.le_of_ble_eq_true hw; unfold xcat at this; show 2 * 0 + _ ≤ 8; omega) d ⟨by omega, by omega⟩) kx kk
theorem X_callV (pc : Nat) {M' : XM} {k' u' n idx b ci : Nat} {own : String} {r : vw_C} {As st0 : List Value} {Q' : XO → Prop} (cal : xcal M' n) (him : xIn (.instanceMethod (mY M'))) (hse : xIn (.selects (mY M').cls (mY M') (mY M'))) (hl : xIn (.methodLink own idx (mY M'))) (ho : own = (mY M).cls) (hr : xroom M M' = true) (hw : Nat.ble (xcat st) 8 = true) (hn : As.length = n) (he : st0 = As.reverse ++ .ref b :: st)
    (hk : xk h b = ci + 1) (hci : xoc ci) (hcl : vwCl[ci]? = some r) (hrc : r.1 = (mY M').cls) (d : decode (mC M) pc = .ok (.invokevirtual idx, 3))
    (hC : XC E M' k' u' (.ref b :: As) h Q') (kx : ∀ ec h1, Q' (.inr ec, h1) → XT E M k u pc L h1 ec Q) (kk : ∀ v h1, Q' (.inl v, h1) → XW E M k u (pc + 3) L (v.toList ++ st) h1 Q) : XW E M (k' + k) (u' + u) pc L st0 h Q := by
  intro p e R s m args below meth c H locs cells slots ls F hR hS hL hc hs
  have hrecv := va_recv F.env.2.1 (hR.at (by rw [hk]; exact ob27 hci (by omega)) (xen_obj hk hci)) (q0 := 0) hcl rfl
  rw [hrc] at hrecv
  exact X_run F hS hL hc hs (vx_runV (xfix ho F) hC ⟨xcal_B cal hl hr F, F.env.word him args, F.env.word hse args⟩ ⟨xPc_blind E _ h, hrecv, fun U hU hW => xPc_of F.env F.stat hR hS F.traces hU hW⟩ rfl hn hL.1 he (by have := Nat.le_of_ble_eq_true hw; unfold xcat at this; show 2 * 0 + _ ≤ 8; omega) d ⟨by omega, by omega⟩) kx kk
/-- a StringBuilder receives, the method is AbstractStringBuilder's -/
theorem X_callU (pc : Nat) {M0 M' : XM} {k' u' n idx b : Nat} {own : String} {As st0 : List Value} {Q' : XO → Prop} (cal0 : xcal M0 n) (cal : xcal M' n) (him0 : xIn (.instanceMethod (mY M0))) (him : xIn (.instanceMethod (mY M'))) (hsm : xIn (.sameMethod (mY M0).cls (mY M0).cls (mY M0).name (mY M0).desc)) (hse : ∀ U, xE E U → (Cond.selects RJ4 (mY M0) (mY M')).before #[] U = true) (hl : xIn (.methodLink own idx (mY M0))) (ho : own = (mY M).cls) (hr : xroom M M' = true) (hw : Nat.ble (xcat st) 8 = true) (hn : As.length = n) (he : st0 = As.reverse ++ .ref b :: st)
    (hk : xk h b = 24) (d : decode (mC M) pc = .ok (.invokevirtual idx, 3))
    (hC : XC E M' k' u' (.ref b :: As) h Q') (kx : ∀ ec h1, Q' (.inr ec, h1) → XT E M k u pc L h1 ec Q) (kk : ∀ v h1, Q' (.inl v, h1) → XW E M k u (pc + 3) L (v.toList ++ st) h1 Q) : XW E M (k' + k) (u' + u) pc L st0 h Q := by
  intro p e R s m args below meth c H locs cells slots ls F hR hS hL hc hs
  have hrecv := va_recv F.env.2.1 (hR.at (by rw [hk]; decide) (xen_obj (ci := 23) hk (by decide))) (q0 := 0) rfl rfl
  obtain ⟨c1, c2, c3, c4, c5⟩ := cal
  obtain ⟨z1, z2, z3, z4, z5⟩ := cal0
  have hx := xcode_of c5
  have b5 : ∀ w ∈ [xcode M'], ∀ (a' : Array Value) (U : State), s.WarmedH U.vm → w.before a' U = true := fun w hw a' U hW => by
    rw [List.mem_singleton.mp hw, hx]
    exact word_at hW (good_of_word c1.2) (F.env.word c1 args)
  have b10 : ∀ sig, parseMethodDescriptor (mY M0).desc = some sig → n = sig.parameters.length := fun sig hsig => by
    rw [hsig] at z4
    exact (Option.some.inj z4).symm
  exact X_run F hS hL hc hs (vx_runU (C := RJ4) (owner := (mY M0).cls) (x := mY M0) (y := mY M') (bytes := mC M') (maxL := mL M') (ret := mR M') (ws := [xcode M']) (rm := { frames := mF M', cells := k', slots := u', locals := mW M' }) (n := n) (index := idx) (xfix ho F) hC ⟨⟨rfl, rfl, (xroom_of hr F.frames F.locals).1, (xroom_of hr F.frames F.locals).2, b5, by rw [hx]; exact List.mem_cons_self⟩, F.env.word c1 args, F.env.word c2 args, z3, b10, F.env.word hl args, F.env.word hsm args, va_Decl.of (F.env.word him0 args) (F.env.word z1 args), va_tabs rfl rfl (hse s F.env), F.env.word him args⟩ ⟨xPc_blind E _ h, hrecv, fun U hU hW => xPc_of F.env F.stat hR hS F.traces hU hW⟩ rfl hn hL.1 he (by have := Nat.le_of_ble_eq_true hw; unfold xcat at this; show 2 * 0 + _ ≤ 8; omega) d ⟨by omega, by omega⟩) kx kk
/-- super.m(..) in StringBuilder -/
theorem X_callSU (pc : Nat) {M' : XM} {k' u' n idx b : Nat} {As st0 : List Value} {Q' : XO → Prop} (cal : xcal M' n) (hnm : (mY M').name ≠ "<init>") (him : xIn (.instanceMethod (mY M'))) (hsm : xIn (.sameMethod (mY M').cls (mY M').cls (mY M').name (mY M').desc)) (hsu : xIn (.superclass RJ4 (mY M').cls)) (hl : xIn (.methodLink RJ4 idx (mY M'))) (ho : RJ4 = (mY M).cls) (hr : xroom M M' = true) (hw : Nat.ble (xcat st) 8 = true) (hn : As.length = n) (he : st0 = As.reverse ++ .ref b :: st)
    (hk : xk h b = 24) (d : decode (mC M) pc = .ok (.invokespecial idx, 3))
    (hC : XC E M' k' u' (.ref b :: As) h Q') (kx : ∀ ec h1, Q' (.inr ec, h1) → XT E M k u pc L h1 ec Q) (kk : ∀ v h1, Q' (.inl v, h1) → XW E M k u (pc + 3) L (v.toList ++ st) h1 Q) : XW E M (k' + k) (u' + u) pc L st0 h Q := by
  intro p e R s m args below meth c H locs cells slots ls F hR hS hL hc hs
  have hrecv := va_recv F.env.2.1 (hR.at (by rw [hk]; decide) (xen_obj (ci := 23) hk (by decide))) (q0 := 0) rfl rfl
  have hB := xcal_B cal hl hr F (args := args) (k' := k') (u' := u')
  obtain ⟨b1, b2, b3, b4, b5, b6, b7, b8, b9, b10, b11⟩ := hB
  exact X_run F hS hL hc hs (vx_runSU (C := RJ4) (F.env.2.1.1 23 _ rfl).2 (xfix ho F) hC ⟨⟨b1, b2, b3, b4, b5, b6⟩, b11, F.env.word hsm args, F.env.word hsu args, F.env.word him args, b8, b7, hnm, b10⟩ ⟨xPc_blind E _ h, hrecv, fun U hU hW => xPc_of F.env F.stat hR hS F.traces hU hW⟩ rfl hn hL.1 he (by have := Nat.le_of_ble_eq_true hw; unfold xcat at this; show 2 * 0 + _ ≤ 8; omega) d ⟨by omega, by omega⟩) kx kk
/-- a String constant receives -/
theorem X_callVS (pc i : Nat) {M' : XM} {k' u' n idx : Nat} {own : String} {As st0 : List Value} {Q' : XO → Prop} (hi : i < nJS) (cal : xcal M' n) (hcs : (mY M').cls = "java/lang/String") (him : xIn (.instanceMethod (mY M'))) (hse : xIn (.selects (mY M').cls (mY M') (mY M'))) (hl : xIn (.methodLink own idx (mY M'))) (ho : own = (mY M).cls) (hr : xroom M M' = true) (hw : Nat.ble (xcat st) 8 = true) (hn : As.length = n) (he : st0 = As.reverse ++ .ref (eK E i) :: st)
    (d : decode (mC M) pc = .ok (.invokevirtual idx, 3))
    (hC : XC E M' k' u' (.ref (eK E i) :: As) h Q') (kx : ∀ ec h1, Q' (.inr ec, h1) → XT E M k u pc L h1 ec Q) (kk : ∀ v h1, Q' (.inl v, h1) → XW E M k u (pc + 3) L (v.toList ++ st) h1 Q) : XW E M (k' + k) (u' + u) pc L st0 h Q := by
  intro p e R s m args below meth c H locs cells slots ls F hR hS hL hc hs
  obtain ⟨cell, h1, h2, h3, -⟩ := (F.stat.2.2.1 i hi).1.kept hS.2.1
  exact X_run F hS hL hc hs (vx_runV (xfix ho F) hC ⟨xcal_B cal hl hr F, F.env.word him args, F.env.word hse args⟩ ⟨xPc_blind E _ h, ⟨cell, h1, h2, by rw [hcs]; exact h3⟩, fun U hU hW => xPc_of F.env F.stat hR hS F.traces hU hW⟩ rfl hn hL.1 he (by have := Nat.le_of_ble_eq_true hw; unfold xcat at this; show 2 * 0 + _ ≤ 8; omega) d ⟨by omega, by omega⟩) kx kk
end XCALL
/-- the locals with which a method begins -/
def xloc : List Value → List (Option Value)
  | [] => []
  | v :: vs => if v.category = 2 then some v :: none :: xloc vs else some v :: xloc vs
theorem xloc_args : ∀ (vs : List Value) (i0 i : Nat) (v : Value), (xloc vs)[i]? = some (some v) → (i0 + i, v) ∈ lv_args i0 vs
  | [], _, _, _, h => by simp [xloc] at h
  | w :: vs, i0, i, v, h => by
    unfold xloc at h
    unfold lv_args
    by_cases hc : w.category = 2
    · rw [if_pos hc] at h
      rw [if_pos hc]
      match i, h with
      | 0, h => simp at h; subst h; exact List.mem_cons_self
      | 1, h => simp at h
      | i + 2, h =>
        simp only [List.getElem?_cons_succ] at h
        have := xloc_args vs (i0 + 2) i v h
        rw [show i0 + 2 + i = i0 + (i + 2) by omega] at this
        exact List.mem_cons_of_mem _ this
    · rw [if_neg hc] at h
      rw [if_neg hc]
      match i, h with
      | 0, h => simp at h; subst h; exact List.mem_cons_self
      | i + 1, h =>
        simp only [List.getElem?_cons_succ] at h
        have := xloc_args vs (i0 + 1) i v h
        rw [show i0 + 1 + i = i0 + (i + 1) by omega] at this
        exact List.mem_cons_of_mem _ this
theorem xloc_len : ∀ vs : List Value, (xloc vs).length = (lg_sl vs).length
  | [] => rfl
  | w :: vs => by
    have := xloc_len vs
    unfold xloc lg_sl
    rw [List.flatMap_cons]
    by_cases hc : w.category = 2
    · rw [if_pos hc, if_pos hc]; simp only [List.length_cons, List.length_append, List.length_nil]; unfold lg_sl at this; omega
    · rw [if_neg hc, if_neg hc]; simp only [List.length_cons, List.length_append, List.length_nil]; unfold lg_sl at this; omega
/-- a contract out of the walk from pc 0 -/
theorem X_enter {E : XG} {M : XM} {k u : Nat} {As : List Value} {h : XH} {Q : XO → Prop} (hpl : plainName (mY M).cls = true) (hH : mH M = []) {L : List (Option Value)} (hL : xloc As ++ List.replicate (mL M - (xloc As).length) none = L) (hn : L.length = mL M) (kk : XW E M k u 0 L [] h Q) : XC E M k u As h Q := by
  have hx := xcode_of hH
  unfold XC
  rw [hx]
  refine vx_ofW (cc := mC M) (maxL := mL M) (ret := mR M) hpl rfl ?_
  intro p e s m args below meth c s₁ B hml ht hP
  obtain ⟨ha, hE, hZ, hR, htr⟩ := hP
  subst ha
  rw [lg_entry_eq]
  have hle : (lg_sl As).length ≤ mL M := by
    rw [← xloc_len, ← hn, ← hL]
    simp
  obtain ⟨g1, g2, g3⟩ := lv_entry As hle
  refine kk p e _ s m As.toArray below meth c s.heap [] 0 0 _ ⟨B.exec, B.bytes, B.returns, B.notSynchronized, hml, findClass_of_methodNamed B.named, ?_, (name_of_methodNamed B.named B.method).1, Nat.le_refl _, Nat.le_refl _, hE, hZ, htr⟩ hR ⟨Nat.le_refl _, fun _ _ _ => rfl, fun q hq => by cases hq⟩ ⟨g1, g2, hn, fun i v hi => ?_⟩ (by show 0 + k ≤ k; omega) (by show 0 + u ≤ u; omega)
  · rw [hH]
    cases hc : c.exceptionTable.toList with
    | nil => rfl
    | cons x xs => exact absurd (by rw [hc]; exact List.mem_cons_self) (fun z => ht x z)
  · refine g3 (i, v) ?_
    have := xloc_args As 0 i v (by
      rw [← hL] at hi
      by_cases hlt : i < (xloc As).length
      · rw [List.getElem?_append_left hlt] at hi; exact hi
      · rw [List.getElem?_append_right (by omega), List.getElem?_replicate] at hi
        split at hi <;> simp at hi)
    rwa [Nat.zero_add] at this
/-- 'throw new ..("text")' -/
def xthw (own cls : String) (ik is ic : Nat) : Prop := xIn (.classLink own ik cls) ∧ xIn (.initialized cls) ∧ ∀ w ∈ vx_atS own ic cls ["java/lang/RuntimeException", "java/lang/Exception"], xIn w ∨ (∃ y ∈ xDec, w = .declares y) ∨ (∃ i, w = .castable (xnm i) (xnm i))
theorem X_throw {E : XG} {M : XM} {k u : Nat} {L : List (Option Value)} {st : List Value} {h : XH} {Q : XO → Prop} (pc i ec : Nat) {own : String} {ik is ic : Nat} (hx : xthw own (xnm ec) ik is ic) (ho : own = (mY M).cls) (hi : i < nJS) (ho2 : ownJS i = own) (his : idxJS i = is) (hH : mH M = []) (hf : 6 ≤ mF M) (hw : Nat.ble (xcat st + 82) (mW M) = true) (hfit : Bundle.fit (xnm ec) = true)
    (hgood : ∀ w ∈ Cond.classLink own ik (xnm ec) :: Cond.initialized (xnm ec) :: vx_atS own ic (xnm ec) ["java/lang/RuntimeException", "java/lang/Exception"], vx_ot w = true)
    (d0 : decode (mC M) pc = .ok (.new ik, 3)) (d3 : decode (mC M) (pc + 3) = .ok (.dup, 1)) (d4 : decode (mC M) (pc + 4) = .ok (.ldc_w is, 3)) (d7 : decode (mC M) (pc + 7) = .ok (.invokespecial ic, 3)) (d10 : decode (mC M) (pc + 10) = .ok (.athrow, 1))
    (hq : Q (.inr ec, yt h (xt h + 1))) : XW E M (k + 1) (u + 6) pc L st h Q := by
  intro p e R s m args below meth c H locs cells slots ls F hR hS hl hc hs
  subst ho
  obtain ⟨x1, x2, x3⟩ := hx
  have hat : ∀ w ∈ vx_atS (mY M).cls ic (xnm ec) ["java/lang/RuntimeException", "java/lang/Exception"], w.before args s = true := by
    intro w hw
    rcases x3 w hw with h1 | ⟨y, hy, rfl⟩ | ⟨j, rfl⟩
    · exact F.env.word h1 args
    · exact va_Nw.use rfl (F.env.2.2.1.2.1 y hy)
    · exact va_Nw.use rfl (F.env.2.2.1.2.2.1 j)
  have hstr := F.env.2.2.2.2.1 i hi
  rw [ho2, his] at hstr
  refine vx_throwSW F.1 F.2.1 F.traces F.own hfit (by decide +kernel) (F.env.word x1 args) (F.env.word x2 args) hstr hat hgood F.stat.1 F.stat.2.1 hS (by rw [hl.1, F.maxl]) d0 d3 d4 d7 d10 (fun x hx => by rw [F.table, hH] at hx; cases hx) (by have := F.frames; show 2 + 3 < _; omega) (by have := F.locals; have h9 := Nat.le_of_ble_eq_true hw; unfold xcat at h9; show _ + (13 * (2 + 1) + 43) ≤ _; omega) (by omega) (by omega) F.locks ?_ hS.2.2 (by omega) (by omega)
  intro t hvm hz hk
  refine ⟨⟨ec, yt h t.heap.size, rfl, by rw [hz, ← hR.1.1]; exact hq, hR.grow (by omega) hk⟩, Nat.le_trans hS.1 (by omega), fun q h1 h2 => ?_⟩
  rw [hk q (Nat.lt_of_lt_of_le h1 hS.1)]
  exact hS.2.1 q h1 h2
