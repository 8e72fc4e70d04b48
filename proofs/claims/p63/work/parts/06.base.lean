/-! The machine in a package: a heap as functions (XH), a method (XM), the whole run's fixed things (XG), and one judgement XW: 'from this place of this method, with this heap, the method ends as Q says'. -/
set_option linter.unusedVariables false
/-- kind, length, ints, longs, references, size; how many cells and slots have been made -/
abbrev XH : Type := (Nat → Nat) × (Nat → Nat) × (Nat → Nat → Int32) × (Nat → Nat → Int64) × (Nat → Nat → Option Nat) × Nat × Nat × Nat
def xk (h : XH) (a : Nat) : Nat := h.1 a
def xn (h : XH) (a : Nat) : Nat := h.2.1 a
def xi (h : XH) (a k : Nat) : Int32 := h.2.2.1 a k
def xj (h : XH) (a k : Nat) : Int64 := h.2.2.2.1 a k
def xr (h : XH) (a k : Nat) : Option Nat := h.2.2.2.2.1 a k
def xt (h : XH) : Nat := h.2.2.2.2.2.1
def xc (h : XH) : Nat := h.2.2.2.2.2.2.1
def xu (h : XH) : Nat := h.2.2.2.2.2.2.2
def yi (h : XH) (a k : Nat) (x : Int32) : XH := (h.1, h.2.1, fun b j => if b = a ∧ j = k then x else h.2.2.1 b j, h.2.2.2)
def yj (h : XH) (a k : Nat) (x : Int64) : XH := (h.1, h.2.1, h.2.2.1, fun b j => if b = a ∧ j = k then x else h.2.2.2.1 b j, h.2.2.2.2)
def yr (h : XH) (a k : Nat) (x : Option Nat) : XH := (h.1, h.2.1, h.2.2.1, h.2.2.2.1, fun b j => if b = a ∧ j = k then x else h.2.2.2.2.1 b j, h.2.2.2.2.2)
/-- a stretch of ints laid over a row -/
def yc (h : XH) (a : Nat) (f : Nat → Int32) : XH := (h.1, h.2.1, fun b j => if b = a then f j else h.2.2.1 b j, h.2.2.2)
/-- is g a kind of objects -/
def xob (g : Nat) : Bool := decide (g ≤ 10) || (decide (21 ≤ g) && decide (g ≤ 25))
/-- slots of a new cell -/
def yw (g n : Nat) : Nat := if xob g then (xft (g - 1)).length else n
/-- a new cell of kind g and length n -/
def ya (h : XH) (g n : Nat) : XH := (fun b => if b = xt h then g else h.1 b, fun b => if b = xt h then n else h.2.1 b, fun b j => if b = xt h then 0 else h.2.2.1 b j, fun b j => if b = xt h then 0 else h.2.2.2.1 b j, fun b j => if b = xt h then none else h.2.2.2.2.1 b j, xt h + 1, xc h + 1, xu h + yw g n)
def yt (h : XH) (t : Nat) : XH := (h.1, h.2.1, h.2.2.1, h.2.2.2.1, h.2.2.2.2.1, t, h.2.2.2.2.2.2)
/-- an exception was made -/
def yx (h : XH) : XH := (h.1, h.2.1, h.2.2.1, h.2.2.2.1, h.2.2.2.2.1, xt h + 1, xc h + 1, xu h + 6)
/-- launch; class numbers and slots; the array classes by kind; from where on the run's own cells lie; the script; the String constants and their rows -/
abbrev XG : Type := Launch × va_G × (Nat → ClassId) × Nat × (Nat × Nat × (Nat → Int32)) × (Nat → Nat) × (Nat → Nat)
def eL (E : XG) : Launch := E.1
def eD (E : XG) : va_G := E.2.1
def eC (E : XG) : Nat → ClassId := E.2.2.1
def eB (E : XG) : Nat := E.2.2.2.1
def eS (E : XG) : Nat := E.2.2.2.2.1.1
def eN (E : XG) : Nat := E.2.2.2.2.1.2.1
def eX (E : XG) : Nat → Int32 := E.2.2.2.2.1.2.2
def eK (E : XG) : Nat → Nat := E.2.2.2.2.2.1
def eV (E : XG) : Nat → Nat := E.2.2.2.2.2.2
def xA (E : XG) : Nat → Prop := fun q => eB E ≤ q
def xtys (E : XG) : List (ClassId × FieldType) := [(eC E 11, .byte), (eC E 12, .int), (eC E 13, .long), (eC E 12, .int), (eC E 15, .object RX0), (eC E 16, .object RX1), (eC E 17, .object RX2), (eC E 18, .array .int), (eC E 19, .array (.array .int)), (eC E 20, .object RX11), (eC E 26, .object RX9)]
/-- a cell, as the kit has it -/
def xfv (h : XH) (a k : Nat) : Nat → Value
  | 0 => .int (xi h a k)
  | 1 => .long (xj h a k)
  | _ => va_rf (xr h a k)
def xfl (h : XH) (a : Nat) : List Nat → Nat → List Value
  | [], _ => []
  | t :: ts, k => xfv h a k t :: xfl h a ts (k + 1)
def xen (E : XG) (h : XH) (a : Nat) : va_E :=
  if xob (xk h a) then .inr (xk h a - 1, xfl h a (xft (xk h a - 1)) 0)
  else if xk h a = 13 then .inl (eC E 13, xn h a, .inr (.inl (xj h a)))
  else if xk h a = 27 then .inl (eC E 12, xn h a, .inl (xi h a))
  else if xk h a ≤ 14 then .inl (eC E (xk h a), xn h a, .inl (xi h a))
  else .inl (eC E (xk h a), xn h a, .inr (.inr (.inr (.inr (xr h a)))))
/-- the script's cell: its class, its length, its ints; nothing else is known of it -/
def xsc (E : XG) (a n : Nat) (f : Nat → Int32) (H : Heap) : Prop := ∃ scr : Cell, H[a]? = some scr ∧ scr.cls = eC E 27 ∧ (∀ k, scr.vm ≠ .statics k) ∧ scr.vm ≠ .unknown ∧ scr.slots.size = n ∧ ∀ j : Nat, j < n → scr.slots[j]? = some (.int (f j))
def xat (E : XG) (g : Nat) (q : Nat × va_E) (H : Heap) : Prop := (g ≠ 27 → va_at (eD E) vwCl q H) ∧ (g = 27 → ∃ (n : Nat) (f : Nat → Int32), q.2 = .inl (eC E 12, n, .inl f) ∧ xsc E q.1 n f H)
theorem xat_of {E : XG} {g : Nat} {q : Nat × va_E} {H : Heap} (h7 : g ≠ 27) (h : va_at (eD E) vwCl q H) : xat E g q H := ⟨fun _ => h, fun z => absurd z h7⟩
theorem xat.lt {E : XG} {g : Nat} {q : Nat × va_E} {H : Heap} (h : xat E g q H) : q.1 < H.size := by
  by_cases e : g = 27
  · obtain ⟨n, f, -, scr, h1, -⟩ := h.2 e
    exact (Array.getElem?_eq_some_iff.mp h1).1
  · exact (h.1 e).lt
theorem xat.kept {E : XG} {g : Nat} {q : Nat × va_E} {H H1 : Heap} (h : xat E g q H) (hq : H1[q.1]? = H[q.1]?) : xat E g q H1 :=
  ⟨fun e => (h.1 e).kept hq, fun e => by
    obtain ⟨n, f, h0, scr, h1, h2⟩ := h.2 e
    exact ⟨n, f, h0, scr, by rw [hq]; exact h1, h2⟩⟩
theorem ob27 {g : Nat} (h : xob g = true) (h0 : g ≠ 0) : g ≠ 0 ∧ g ≠ 27 := ⟨h0, fun e => by subst e; exact absurd h (by decide)⟩
def xR (E : XG) (h : XH) (H : Heap) : Prop := (xt h = H.size ∧ eB E ≤ H.size) ∧ ∀ a, xk h a ≠ 0 → (xk h a ≠ 27 → eB E ≤ a) ∧ xat E (xk h a) (a, xen E h a) H
def xDec : List MethodName := [⟨"java/lang/RuntimeException", "<init>", "()V"⟩, ⟨"java/lang/RuntimeException", "<init>", "(Ljava/lang/String;)V"⟩, ⟨"java/lang/Exception", "<init>", "()V"⟩, ⟨"java/lang/Exception", "<init>", "(Ljava/lang/String;)V"⟩, ⟨"java/lang/Throwable", "<init>", "()V"⟩, ⟨"java/lang/Throwable", "<init>", "(Ljava/lang/String;)V"⟩]
def xnm : Nat → String
  | 0 => "java/lang/IllegalStateException"
  | 1 => "java/lang/IndexOutOfBoundsException"
  | _ => "java/lang/IllegalArgumentException"
def xAI (U : State) : Prop := (Cond.arrayOver (.array .int)).before #[] U = true
def xAJ (U : State) : Prop := (Cond.arrayOver (.array (.array .int))).before #[] U = true
/-- the String constants and what they hold -/
def xS (E : XG) (U : State) (H : Heap) : Prop := ∀ i : Nat, i < nJS → va_O "java/lang/String" (eK E i) (xA E) U H ∧ va_OF "java/lang/String" "coder" "B" (.int 0) (eK E i) (xA E) U H ∧ va_OF "java/lang/String" "value" "[B" (.ref (eV E i)) (eK E i) (xA E) U H ∧ va_T .byte (eV E i) (lenJS.getD i 0) (fun j => .int ((bytJS.getD i []).getD j 0)) (xA E) U H
def xE (E : XG) (U : State) : Prop :=
  (∀ w, xIn w → w.before #[] U = true) ∧ va_K (eD E) vwCl (xtys E) U ∧ ((∀ q ∈ xNest, va_Nw (.methodLinkNest q.1 q.2.1 q.2.2.1 q.2.2.2) U) ∧ (∀ x ∈ xDec, va_Nw (.declares x) U) ∧ (∀ i, va_Nw (.castable (xnm i) (xnm i)) U) ∧ (∀ i j, xnm i ≠ xnm j → va_Nc (xnm i) (xnm j) U) ∧ (∀ q ∈ xNeF, va_Nw (.fieldLinkNest q.1 q.2.1 q.2.2.1 q.2.2.2.1 q.2.2.2.2.1 q.2.2.2.2.2) U) ∧ (va_Nw (.castable "[B" "java/lang/Cloneable") U ∧ ∀ y ∈ xPrv, (Cond.selects RJ4 y y).before #[] U = true)) ∧ (va_AO RX0 U ∧ va_AO RX1 U ∧ va_AO RX2 U ∧ xAI U ∧ xAJ U ∧ va_AO RX11 U ∧ va_AO RX9 U) ∧ (∀ i, i < nJS → vk_R (ownJS i) (idxJS i) (texJS i) (eK E i) U) ∧ ArrOfT U (eC E 27) .int
def xZ (E : XG) (U : State) (H : Heap) : Prop :=
  vx_Zq Bundle.tN "UNASSIGNED_STACK" Bundle.steD (xA E) U H ∧ vx_Zq Bundle.tN "SUPPRESSED_SENTINEL" Bundle.listD (xA E) U H ∧ xS E U H ∧ va_Z "java/lang/String" "COMPACT_STRINGS" "Z" (.int 1) (xA E) U H ∧ va_Zq "jdk/internal/util/Preconditions" "SIOOBE_FORMATTER" "Ljava/util/function/BiFunction;" (xA E) U H ∧ va_Z "java/lang/Integer" "DigitOnes" "[B" (.ref (eV E nJS)) (xA E) U H ∧ va_T .byte (eV E nJS) 100 (fun j => .int (nI (48 + j % 10))) (xA E) U H
/-- an end: a value or nothing returned, or an exception (0: state, 1: index, 2: argument); the heap then -/
abbrev XO : Type := (Option Value ⊕ Nat) × XH
def xQc (E : XG) (Q : XO → Prop) : Array Value → State → Outcome → State → Prop := fun _ st o t => (∃ v h', o = .returned v ∧ Q (.inl v, h') ∧ xR E h' t.heap) ∧ va_F (xA E) st t
def xXC (E : XG) (Q : XO → Prop) : String → State → State → Prop := fun nm st t => (∃ c h', nm = xnm c ∧ Q (.inr c, h') ∧ xR E h' t.heap) ∧ va_F (xA E) st t
/-- the machine at a method's frame -/
def xF (E : XG) (M : XM) (p : Program) (R : Room) (s : State) (m : MethodId) (meth : Method) (c : Code) : Prop :=
  p.tables.exec = Jvm.exec ∧ c.code = mC M ∧ meth.sig.returnType = mR M ∧ meth.locks = false ∧ c.maxLocals = mL M ∧ s.vm.findClass (mY M).cls = some m.cls ∧ c.exceptionTable.toList = tableOf (mH M) ∧ meth.name = (mY M).name ∧ mF M ≤ R.frames ∧ mW M ≤ R.locals ∧ xE E s ∧ xZ E s s.heap ∧ (eL E).stackTraces = false
def xL (ls : Array Slot) (n : Nat) (L : List (Option Value)) : Prop := ls.size = n ∧ lv_wf ls ∧ L.length = n ∧ ∀ (i : Nat) (v : Value), L[i]? = some (some v) → ls[i]? = some (.val v)
def XW (E : XG) (M : XM) (k u : Nat) (pc : Nat) (L : List (Option Value)) (st : List Value) (h : XH) (Q : XO → Prop) : Prop :=
  ∀ (p : Program) (e : Env) (R : Room) (s : State) (m : MethodId) (args : Array Value) (below : List Frame) (meth : Method) (c : Code) (H : Heap) (locs : List Loc) (cells slots : Nat) (ls : Array Slot),
    xF E M p R s m meth c → xR E h H → va_S (xA E) s.heap H locs → xL ls (mL M) L → cells + k ≤ R.cells → slots + u ≤ R.slots →
    W p (eL E) e R s m args below meth c H locs cells slots (vx_MQ below (xQc E Q) (xXC E Q) args s R.cells R.slots (xA E)) (F0 m pc ls st)
def xcode (M : XM) : Cond := match mH M with
  | [] => .code (mY M) (mC M) (mL M) (mR M)
  | q :: hh => .codeWith (mY M) (mC M) (mL M) (mR M) (q :: hh)
def xPc (E : XG) (As : List Value) (h : XH) : Array Value → State → Prop := fun a U => a = As.toArray ∧ xE E U ∧ xZ E U U.heap ∧ xR E h U.heap ∧ (eL E).stackTraces = false
/-- a method's contract: with these arguments and this heap, at most k new cells of u slots, it ends as Q says -/
def XC (E : XG) (M : XM) (k u : Nat) (As : List Value) (h : XH) (Q : XO → Prop) : Prop :=
  vx_Met (eL E) (mY M) [xcode M] { frames := mF M, cells := k, slots := u, locals := mW M } (xPc E As h) (xQc E Q) (xXC E Q) k u (xA E)
theorem xAJ.moved {u U : State} (hvm : u.vm.Alike U.vm) (h : xAJ u) : xAJ U := arrayOver_alikeB hvm h
theorem xAI.moved {u U : State} (hvm : u.vm.Alike U.vm) (h : xAI u) : xAI U := arrayOver_alikeB hvm h
theorem xE.word {E : XG} {U : State} (h : xE E U) {w : Cond} (hw : xIn w) (args : Array Value) : w.before args U = true := word_at (State.WarmedH.refl U) (good_of_word hw.2) (h.1 w hw)
theorem good_word {w : Cond} (h : (w.onTables && w.keeps) = true ∨ ∃ ty, w = .arrayClass ty) : goodWord w = true := by
  rcases h with h | ⟨ty, rfl⟩
  · cases w <;> first | rfl | exact h
  · rfl
theorem xE.words {E : XG} {U : State} (h : xE E U) {ws : List Cond} (hG : GoodIn lw_tbl ws) (args : Array Value) : ∀ w ∈ ws, w.before args U = true := fun w hw => h.word ⟨(hG w hw).1, good_word (hG w hw).2⟩ args
theorem xE.warm {E : XG} {s U : State} (hW : s.WarmedH U.vm) (h : xE E s) : xE E U := by
  obtain ⟨h1, h2, ⟨h3, h9, h10, h11, h12, h13, h14⟩, ⟨h4, h5, h6, h7, h15, h16, h17⟩, h8, h18⟩ := h
  exact ⟨fun w hw => word_at hW (good_of_word hw.2) (h1 w hw), va_K.moved hW.alike h2, ⟨fun q hq => va_Nw.warmM hW (h3 q hq), fun x hx => va_Nw.warmD hW (h9 x hx), fun i => va_Nw.warmC hW (h10 i), fun i j hij => va_Nc.moved hW.alike (h11 i j hij), fun q hq => va_Nw.warmF hW (h12 q hq), va_Nw.warmC hW h13, fun y hy => word_at hW (good_of_word rfl) (h14 y hy)⟩, ⟨va_AO.moved hW.alike h4, va_AO.moved hW.alike h5, va_AO.moved hW.alike h6, xAI.moved hW.alike h7, xAJ.moved hW.alike h15, va_AO.moved hW.alike h16, va_AO.moved hW.alike h17⟩, fun i hi => vk_R.warm hW (h8 i hi), arrOfT_moved hW.alike h18⟩
theorem xS.moved {E : XG} {u U : State} {H : Heap} (hvm : u.vm.Alike U.vm) (h : xS E u H) : xS E U H :=
  fun i hi => ⟨va_O.moved hvm (h i hi).1, va_OF.moved hvm (h i hi).2.1, va_OF.moved hvm (h i hi).2.2.1, va_T.moved hvm (h i hi).2.2.2⟩
theorem xS.kept {E : XG} {U : State} {H H1 : Heap} (h : xS E U H) (hq : ∀ a : Nat, a < H.size → ¬ xA E a → H1[a]? = H[a]?) : xS E U H1 :=
  fun i hi => ⟨(h i hi).1.kept hq, (h i hi).2.1.kept hq, (h i hi).2.2.1.kept hq, (h i hi).2.2.2.kept hq⟩
theorem xZ.moved {E : XG} {u U : State} {H : Heap} (hvm : u.vm.Alike U.vm) (h : xZ E u H) : xZ E U H := ⟨vx_Zq.moved hvm h.1, vx_Zq.moved hvm h.2.1, xS.moved hvm h.2.2.1, va_Z.moved hvm h.2.2.2.1, va_Zq.moved hvm h.2.2.2.2.1, va_Z.moved hvm h.2.2.2.2.2.1, va_T.moved hvm h.2.2.2.2.2.2⟩
theorem xZ.kept {E : XG} {U : State} {H H1 : Heap} (h : xZ E U H) (hq : ∀ a : Nat, a < H.size → ¬ xA E a → H1[a]? = H[a]?) : xZ E U H1 := ⟨h.1.kept hq, h.2.1.kept hq, h.2.2.1.kept hq, h.2.2.2.1.kept hq, h.2.2.2.2.1.kept hq, h.2.2.2.2.2.1.kept hq, h.2.2.2.2.2.2.kept hq⟩
/-- what a callee finds -/
theorem xPc_of {E : XG} {As : List Value} {h : XH} {s U : State} {H : Heap} {locs : List Loc} (hE : xE E s) (hZ : xZ E s s.heap) (hR : xR E h H) (hS : va_S (xA E) s.heap H locs) (ht : (eL E).stackTraces = false) (hU : U.heap = H) (hW : s.WarmedH U.vm) : xPc E As h As.toArray U :=
  ⟨rfl, hE.warm hW, by rw [hU]; exact (hZ.kept hS.2.1).moved hW.alike, by rw [hU]; exact hR, ht⟩
theorem xPc_blind (E : XG) (As : List Value) (h : XH) : FrameBlind (xPc E As h) := by
  intro a U g mk q
  obtain ⟨h1, h2, h3, h4, h5⟩ := q
  have hW : U.WarmedH (U.calling g mk a).vm := State.WarmedH.refl U
  exact ⟨h1, h2.warm hW, h3.moved (Vm.Alike.refl U.vm), h4, h5⟩
-- the heap's functions behind a write
theorem xk_yi (h : XH) (a k : Nat) (x : Int32) (b : Nat) : xk (yi h a k x) b = xk h b := rfl
theorem xn_yi (h : XH) (a k : Nat) (x : Int32) (b : Nat) : xn (yi h a k x) b = xn h b := rfl
theorem xj_yi (h : XH) (a k : Nat) (x : Int32) (b j : Nat) : xj (yi h a k x) b j = xj h b j := rfl
theorem xr_yi (h : XH) (a k : Nat) (x : Int32) (b j : Nat) : xr (yi h a k x) b j = xr h b j := rfl
theorem xi_yi (h : XH) (a k : Nat) (x : Int32) (b j : Nat) : xi (yi h a k x) b j = if b = a ∧ j = k then x else xi h b j := rfl
theorem xk_yj (h : XH) (a k : Nat) (x : Int64) (b : Nat) : xk (yj h a k x) b = xk h b := rfl
theorem xn_yj (h : XH) (a k : Nat) (x : Int64) (b : Nat) : xn (yj h a k x) b = xn h b := rfl
theorem xi_yj (h : XH) (a k : Nat) (x : Int64) (b j : Nat) : xi (yj h a k x) b j = xi h b j := rfl
theorem xr_yj (h : XH) (a k : Nat) (x : Int64) (b j : Nat) : xr (yj h a k x) b j = xr h b j := rfl
theorem xj_yj (h : XH) (a k : Nat) (x : Int64) (b j : Nat) : xj (yj h a k x) b j = if b = a ∧ j = k then x else xj h b j := rfl
theorem xk_yr (h : XH) (a k : Nat) (x : Option Nat) (b : Nat) : xk (yr h a k x) b = xk h b := rfl
theorem xn_yr (h : XH) (a k : Nat) (x : Option Nat) (b : Nat) : xn (yr h a k x) b = xn h b := rfl
theorem xi_yr (h : XH) (a k : Nat) (x : Option Nat) (b j : Nat) : xi (yr h a k x) b j = xi h b j := rfl
theorem xj_yr (h : XH) (a k : Nat) (x : Option Nat) (b j : Nat) : xj (yr h a k x) b j = xj h b j := rfl
theorem xr_yr (h : XH) (a k : Nat) (x : Option Nat) (b j : Nat) : xr (yr h a k x) b j = if b = a ∧ j = k then x else xr h b j := rfl
theorem xk_yc (h : XH) (a : Nat) (f : Nat → Int32) (b : Nat) : xk (yc h a f) b = xk h b := rfl
theorem xn_yc (h : XH) (a : Nat) (f : Nat → Int32) (b : Nat) : xn (yc h a f) b = xn h b := rfl
theorem xj_yc (h : XH) (a : Nat) (f : Nat → Int32) (b j : Nat) : xj (yc h a f) b j = xj h b j := rfl
theorem xr_yc (h : XH) (a : Nat) (f : Nat → Int32) (b j : Nat) : xr (yc h a f) b j = xr h b j := rfl
theorem xi_yc (h : XH) (a : Nat) (f : Nat → Int32) (b j : Nat) : xi (yc h a f) b j = if b = a then f j else xi h b j := rfl
theorem xt_yi (h : XH) (a k : Nat) (x : Int32) : xt (yi h a k x) = xt h := rfl
theorem xt_yj (h : XH) (a k : Nat) (x : Int64) : xt (yj h a k x) = xt h := rfl
theorem xt_yr (h : XH) (a k : Nat) (x : Option Nat) : xt (yr h a k x) = xt h := rfl
theorem xt_yc (h : XH) (a : Nat) (f : Nat → Int32) : xt (yc h a f) = xt h := rfl
theorem xk_yt (h : XH) (t b : Nat) : xk (yt h t) b = xk h b := rfl
theorem xn_yt (h : XH) (t b : Nat) : xn (yt h t) b = xn h b := rfl
theorem xi_yt (h : XH) (t b j : Nat) : xi (yt h t) b j = xi h b j := rfl
theorem xj_yt (h : XH) (t b j : Nat) : xj (yt h t) b j = xj h b j := rfl
theorem xr_yt (h : XH) (t b j : Nat) : xr (yt h t) b j = xr h b j := rfl
theorem xt_yt (h : XH) (t : Nat) : xt (yt h t) = t := rfl
theorem xk_ya (h : XH) (g n b : Nat) : xk (ya h g n) b = if b = xt h then g else xk h b := rfl
theorem xn_ya (h : XH) (g n b : Nat) : xn (ya h g n) b = if b = xt h then n else xn h b := rfl
theorem xi_ya (h : XH) (g n b j : Nat) : xi (ya h g n) b j = if b = xt h then 0 else xi h b j := rfl
theorem xj_ya (h : XH) (g n b j : Nat) : xj (ya h g n) b j = if b = xt h then 0 else xj h b j := rfl
theorem xr_ya (h : XH) (g n b j : Nat) : xr (ya h g n) b j = if b = xt h then none else xr h b j := rfl
theorem xt_ya (h : XH) (g n : Nat) : xt (ya h g n) = xt h + 1 := rfl
theorem xc_ya (h : XH) (g n : Nat) : xc (ya h g n) = xc h + 1 := rfl
theorem xu_ya (h : XH) (g n : Nat) : xu (ya h g n) = xu h + yw g n := rfl
theorem xc_yi (h : XH) (a k : Nat) (x : Int32) : xc (yi h a k x) = xc h := rfl
theorem xu_yi (h : XH) (a k : Nat) (x : Int32) : xu (yi h a k x) = xu h := rfl
theorem xc_yj (h : XH) (a k : Nat) (x : Int64) : xc (yj h a k x) = xc h := rfl
theorem xu_yj (h : XH) (a k : Nat) (x : Int64) : xu (yj h a k x) = xu h := rfl
theorem xc_yr (h : XH) (a k : Nat) (x : Option Nat) : xc (yr h a k x) = xc h := rfl
theorem xu_yr (h : XH) (a k : Nat) (x : Option Nat) : xu (yr h a k x) = xu h := rfl
theorem xc_yc (h : XH) (a : Nat) (f : Nat → Int32) : xc (yc h a f) = xc h := rfl
theorem xu_yc (h : XH) (a : Nat) (f : Nat → Int32) : xu (yc h a f) = xu h := rfl
theorem xc_yt (h : XH) (t : Nat) : xc (yt h t) = xc h := rfl
theorem xu_yt (h : XH) (t : Nat) : xu (yt h t) = xu h := rfl
-- the cells' lists
theorem xfl_len (h : XH) (a : Nat) : ∀ (ts : List Nat) (k : Nat), (xfl h a ts k).length = ts.length
  | [], _ => rfl
  | _ :: ts, k => congrArg (· + 1) (xfl_len h a ts (k + 1))
theorem xfl_get (h : XH) (a : Nat) : ∀ (ts : List Nat) (k j t : Nat), ts[j]? = some t → (xfl h a ts k)[j]? = some (xfv h a (k + j) t)
  | [], _, j, t, e => by simp at e
  | t0 :: ts, k, 0, t, e => by
    simp only [List.getElem?_cons_zero, Option.some.injEq] at e
    subst e
    rfl
  | t0 :: ts, k, j + 1, t, e => by
    simp only [List.getElem?_cons_succ] at e
    have := xfl_get h a ts (k + 1) j t e
    simp only [xfl, List.getElem?_cons_succ]
    rw [this]
    congr 2
    omega
theorem xfl_ext {h h' : XH} {a : Nat} : ∀ (ts : List Nat) (k : Nat), (∀ j t, ts[j]? = some t → xfv h' a (k + j) t = xfv h a (k + j) t) → xfl h' a ts k = xfl h a ts k
  | [], _, _ => rfl
  | t0 :: ts, k, e => by
    have e0 := e 0 t0 rfl
    have e1 := xfl_ext (h := h) (h' := h') (a := a) ts (k + 1) (fun j t hj => by
      have := e (j + 1) t hj
      rw [show k + 1 + j = k + (j + 1) by omega]
      exact this)
    show xfv h' a k t0 :: xfl h' a ts (k + 1) = xfv h a k t0 :: xfl h a ts (k + 1)
    rw [e1]
    congr 1
theorem xfl_set {h h' : XH} {a : Nat} {v : Value} : ∀ (ts : List Nat) (k j t : Nat), ts[j]? = some t → xfv h' a (k + j) t = v → (∀ i t', ts[i]? = some t' → i ≠ j → xfv h' a (k + i) t' = xfv h a (k + i) t') → (xfl h a ts k).set j v = xfl h' a ts k
  | [], _, j, t, e, _, _ => by simp at e
  | t0 :: ts, k, 0, t, e, hv, ho => by
    simp only [List.getElem?_cons_zero, Option.some.injEq] at e
    subst e
    show v :: xfl h a ts (k + 1) = xfv h' a k t0 :: xfl h' a ts (k + 1)
    rw [xfl_ext (h := h) (h' := h') ts (k + 1) (fun i t' hi => by
      have := ho (i + 1) t' hi (by omega)
      rw [show k + 1 + i = k + (i + 1) by omega]
      exact this)]
    rw [← hv]
    rfl
  | t0 :: ts, k, j + 1, t, e, hv, ho => by
    simp only [List.getElem?_cons_succ] at e
    have e0 : xfv h' a k t0 = xfv h a k t0 := ho 0 t0 rfl (by omega)
    have := xfl_set (h := h) (h' := h') (a := a) (v := v) ts (k + 1) j t e (by rw [show k + 1 + j = k + (j + 1) by omega]; exact hv) (fun i t' hi hij => by
      have := ho (i + 1) t' hi (by omega)
      rw [show k + 1 + i = k + (i + 1) by omega]
      exact this)
    show xfv h a k t0 :: (xfl h a ts (k + 1)).set j v = xfv h' a k t0 :: xfl h' a ts (k + 1)
    rw [this, e0]
/-- a class number of objects -/
abbrev xoc (ci : Nat) : Prop := xob (ci + 1) = true
theorem xen_obj {E : XG} {h : XH} {a ci : Nat} (hk : xk h a = ci + 1) (hc : xoc ci) : xen E h a = .inr (ci, xfl h a (xft ci) 0) := by
  unfold xen
  rw [hk, if_pos hc]
  rfl
theorem xen_int {E : XG} {h : XH} {a g : Nat} (hk : xk h a = g) (hg : g = 11 ∨ g = 12 ∨ g = 14) : xen E h a = .inl (eC E g, xn h a, .inl (xi h a)) := by
  unfold xen
  rw [hk]
  rcases hg with rfl | rfl | rfl <;> rfl
theorem xen_long {E : XG} {h : XH} {a : Nat} (hk : xk h a = 13) : xen E h a = .inl (eC E 13, xn h a, .inr (.inl (xj h a))) := by
  unfold xen
  rw [hk]
  rfl
theorem xen_scr {E : XG} {h : XH} {a : Nat} (hk : xk h a = 27) : xen E h a = .inl (eC E 12, xn h a, .inl (xi h a)) := by
  unfold xen
  rw [hk]
  rfl
/-- a kind of arrays of references -/
abbrev xog (g : Nat) : Prop := (15 ≤ g ∧ g ≤ 20) ∨ g = 26
theorem xog_of {g : Nat} (hg : xog g) : xob g = false ∧ g ≠ 13 ∧ g ≠ 27 ∧ ¬ g ≤ 14 ∧ g ≠ 0 := by
  have h1 : g = 15 ∨ g = 16 ∨ g = 17 ∨ g = 18 ∨ g = 19 ∨ g = 20 ∨ g = 26 := by omega
  rcases h1 with rfl | rfl | rfl | rfl | rfl | rfl | rfl <;> decide
theorem xen_ref {E : XG} {h : XH} {a g : Nat} (hk : xk h a = g) (hg : xog g) : xen E h a = .inl (eC E g, xn h a, .inr (.inr (.inr (.inr (xr h a))))) := by
  obtain ⟨g1, g2, g3, g4, -⟩ := xog_of hg
  unfold xen
  rw [hk, if_neg (by rw [g1]; decide), if_neg g2, if_neg g3, if_neg g4]
/-- a cell that no write touched -/
theorem xen_same {E : XG} {h h' : XH} {a : Nat} (e1 : xk h' a = xk h a) (e2 : xn h' a = xn h a) (e3 : ∀ j, xi h' a j = xi h a j) (e4 : ∀ j, xj h' a j = xj h a j) (e5 : ∀ j, xr h' a j = xr h a j) : xen E h' a = xen E h a := by
  have f3 : xi h' a = xi h a := funext e3
  have f4 : xj h' a = xj h a := funext e4
  have f5 : xr h' a = xr h a := funext e5
  unfold xen
  rw [e1, e2, f3, f4, f5, xfl_ext (h := h) (h' := h') _ _ (fun j t _ => by
    unfold xfv
    rw [e3, e4, e5])]
theorem xR.at {E : XG} {h : XH} {H : Heap} (hR : xR E h H) {a : Nat} {e : va_E} (hk : xk h a ≠ 0 ∧ xk h a ≠ 27) (he : xen E h a = e) : va_P (eD E) vwCl [(a, e)] H := by
  intro k q hq
  have h1 : k = 0 := by
    have := (List.getElem?_eq_some_iff.mp hq).1
    simp at this
    omega
  subst h1
  cases hq
  rw [← he]
  exact (hR.2 a hk.1).2.1 hk.2
theorem xR.put {E : XG} {h h' : XH} {H H1 : Heap} (hR : xR E h H) {a : Nat} (hk : xk h a ≠ 0 ∧ xk h a ≠ 27) (hz : H1.size = H.size) (oq : ∀ q : Nat, q ≠ a → H1[q]? = H[q]?) (ha : va_at (eD E) vwCl (a, xen E h' a) H1)
    (e0 : xt h' = xt h) (e1 : ∀ b, xk h' b = xk h b) (e2 : ∀ b, b ≠ a → xen E h' b = xen E h b) : xR E h' H1 := by
  refine ⟨⟨by rw [e0, hR.1.1, hz], by rw [hz]; exact hR.1.2⟩, fun b hb => ?_⟩
  rw [e1] at hb
  by_cases e : b = a
  · subst e
    exact ⟨fun q => (hR.2 b hk.1).1 (by rw [← e1]; exact q), xat_of (by rw [e1]; exact hk.2) ha⟩
  · refine ⟨fun q => (hR.2 b hb).1 (by rw [← e1]; exact q), ?_⟩
    rw [e2 b e, e1]
    exact (hR.2 b hb).2.kept (oq b e)
theorem xen_yi {E : XG} (h : XH) (a k : Nat) (x : Int32) {b : Nat} (hb : b ≠ a) : xen E (yi h a k x) b = xen E h b :=
  xen_same rfl rfl (fun j => by rw [xi_yi, if_neg (fun q => hb q.1)]) (fun _ => rfl) (fun _ => rfl)
theorem xen_yj {E : XG} (h : XH) (a k : Nat) (x : Int64) {b : Nat} (hb : b ≠ a) : xen E (yj h a k x) b = xen E h b :=
  xen_same rfl rfl (fun _ => rfl) (fun j => by rw [xj_yj, if_neg (fun q => hb q.1)]) (fun _ => rfl)
theorem xen_yr {E : XG} (h : XH) (a k : Nat) (x : Option Nat) {b : Nat} (hb : b ≠ a) : xen E (yr h a k x) b = xen E h b :=
  xen_same rfl rfl (fun _ => rfl) (fun _ => rfl) (fun j => by rw [xr_yr, if_neg (fun q => hb q.1)])
theorem xen_yc {E : XG} (h : XH) (a : Nat) (f : Nat → Int32) {b : Nat} (hb : b ≠ a) : xen E (yc h a f) b = xen E h b :=
  xen_same rfl rfl (fun j => by rw [xi_yc, if_neg hb]) (fun _ => rfl) (fun _ => rfl)
theorem xR.lt {E : XG} {h : XH} {H : Heap} (hR : xR E h H) {a : Nat} (hk : xk h a ≠ 0) : a < H.size := (hR.2 a hk).2.lt
theorem xR.fresh {E : XG} {h : XH} {H : Heap} (hR : xR E h H) : xk h (xt h) = 0 := by
  by_cases e : xk h (xt h) = 0
  · exact e
  · have := hR.lt e
    rw [hR.1.1] at this
    omega
theorem xen_ya {E : XG} (h : XH) (g n : Nat) {b : Nat} (hb : b ≠ xt h) : xen E (ya h g n) b = xen E h b :=
  xen_same (by rw [xk_ya, if_neg hb]) (by rw [xn_ya, if_neg hb]) (fun j => by rw [xi_ya, if_neg hb]) (fun j => by rw [xj_ya, if_neg hb]) (fun j => by rw [xr_ya, if_neg hb])
theorem xR.new {E : XG} {h : XH} {H H1 : Heap} (hR : xR E h H) {g n : Nat} (hz : H1.size = H.size + 1) (oq : ∀ q : Nat, q < H.size → H1[q]? = H[q]?) (h7 : g ≠ 27) (ha : va_at (eD E) vwCl (xt h, xen E (ya h g n) (xt h)) H1) : xR E (ya h g n) H1 := by
  refine ⟨⟨by rw [xt_ya, hR.1.1, hz], by rw [hz]; have := hR.1.2; omega⟩, fun b hb => ?_⟩
  by_cases e : b = xt h
  · subst e
    exact ⟨fun _ => by rw [hR.1.1]; exact hR.1.2, xat_of (by rw [xk_ya, if_pos rfl]; exact h7) ha⟩
  · have ek : xk (ya h g n) b = xk h b := by rw [xk_ya, if_neg e]
    rw [ek] at hb
    refine ⟨fun q => (hR.2 b hb).1 (by rw [← ek]; exact q), ?_⟩
    rw [xen_ya h g n e, ek]
    exact (hR.2 b hb).2.kept (oq b (hR.lt hb))
theorem xen_yt {E : XG} (h : XH) (t b : Nat) : xen E (yt h t) b = xen E h b := xen_same rfl rfl (fun _ => rfl) (fun _ => rfl) (fun _ => rfl)
theorem xR.grow {E : XG} {h : XH} {H H1 : Heap} (hR : xR E h H) (hz : H.size ≤ H1.size) (oq : ∀ q : Nat, q < H.size → H1[q]? = H[q]?) : xR E (yt h H1.size) H1 :=
  ⟨⟨rfl, Nat.le_trans hR.1.2 hz⟩, fun b hb => ⟨(hR.2 b hb).1, by rw [xen_yt]; exact (hR.2 b hb).2.kept (oq b (hR.lt hb))⟩⟩
