/-! A grid made. -/
set_option linter.unusedVariables false
/-- a grid: n rows of k ints behind the outer row -/
def ygr (h : XH) (n k : Nat) : Nat → XH
  | 0 => ya h 18 n
  | i + 1 => yr (ya (ygr h n k i) 12 k) (xt h) i (some (xt (ygr h n k i)))
theorem ygr_t (h : XH) (n k : Nat) : ∀ i, xt (ygr h n k i) = xt h + 1 + i
  | 0 => rfl
  | i + 1 => by
    show xt (ygr h n k i) + 1 = _
    rw [ygr_t h n k i]
    rfl
theorem ygr_k (h : XH) (n k : Nat) : ∀ i, xk (ygr h n k i) (xt h) = 18 ∧ xn (ygr h n k i) (xt h) = n
  | 0 => ⟨if_pos rfl, if_pos rfl⟩
  | i + 1 => by
    obtain ⟨a1, a2⟩ := ygr_k h n k i
    have t := ygr_t h n k i
    have e : ¬ xt h = xt (ygr h n k i) := by omega
    exact ⟨(if_neg e).trans a1, (if_neg e).trans a2⟩
/-! A grid made by the machine: 'multianewarray' of two dimensions, ints. -/
/-- the machine's state while a grid is made: i rows are there -/
def mgS (T : State) (cA cB : ClassId) (N M : Nat) : Nat → State
  | 0 => T.pushCell (arrV cA N fun _ => .null)
  | i + 1 => ((mgS T cA cB N M i).pushCell (arrV cB M fun _ => .int 0)).setCell T.heap.size (arrV cA N fun j => if j < i + 1 then .ref (T.heap.size + 1 + j) else .null)
theorem mgS_f (T : State) (cA cB : ClassId) (N M : Nat) : ∀ i, (mgS T cA cB N M i).heap.size = T.heap.size + 1 + i ∧ (mgS T cA cB N M i).heap[T.heap.size]? = some (arrV cA N fun j => if j < i then .ref (T.heap.size + 1 + j) else .null) ∧ (mgS T cA cB N M i).vm = T.vm ∧ (mgS T cA cB N M i).slotsUsed = T.slotsUsed + N + i * M
  | 0 => by
    refine ⟨?_, ?_, rfl, ?_⟩
    · show (T.heap.push _).size = _
      rw [Array.size_push]
    · show (T.pushCell _).heap[T.heap.size]? = _
      rw [State.heap_pushCell_size]
      congr 2
    · show T.slotsUsed + (arrV _ _ _).slots.size = _
      rw [arrV_size, Nat.zero_mul]
      rfl
  | i + 1 => by
    obtain ⟨a1, a2, a3, a4⟩ := mgS_f T cA cB N M i
    have lt : T.heap.size < (mgS T cA cB N M i).heap.size := by omega
    refine ⟨?_, ?_, a3, ?_⟩
    · show (((mgS T cA cB N M i).heap.push _).setIfInBounds _ _).size = _
      rw [Array.size_setIfInBounds, Array.size_push, a1]
      rfl
    · exact State.heap_setCell_self (c := arrV cA N fun j => if j < i then .ref (T.heap.size + 1 + j) else .null) (by rw [State.heap_pushCell_of_lt (h := lt)]; exact a2)
    · show (mgS T cA cB N M i).slotsUsed + (arrV cB M _).slots.size = _
      rw [arrV_size, a4, Nat.succ_mul]
      omega
theorem mgS_row (cA : ClassId) (N h0 i : Nat) : (arrV cA N fun j => if j < i then Value.ref (h0 + 1 + j) else .null).setSlot i (.ref (h0 + 1 + i)) = arrV cA N fun j => if j < i + 1 then Value.ref (h0 + 1 + j) else .null := by
  rw [arrV_store]
  congr 1
  funext j
  unfold updV
  by_cases c : j = i
  · subst c
    simp
  · by_cases c2 : j < i
    · simp [c, c2, Nat.lt_succ_of_lt c2]
    · have c3 : ¬ j < i + 1 := by omega
      simp [c, c2, c3]
theorem mgS_top (T : State) (f : JFrame) (cA cB : ClassId) (N M : Nat) : ∀ i, mgS (T.setTop f) cA cB N M i = (mgS T cA cB N M i).setTop f
  | 0 => rfl
  | i + 1 => by
    show ((mgS (T.setTop f) cA cB N M i).pushCell _).setCell _ _ = _
    rw [mgS_top T f cA cB N M i]
    rfl
section MGW
variable {E : CtlPost} {e : Env} {d : Bool} {acts : List Action} {s : State}
theorem mg_wp {cA cB cc : ClassId} {kA kB : Class} {n k : Int32} (hA : s.vm.classes[cA]? = some kA) (kA' : kA.kind = .array cB (.array .int)) (hB : s.vm.classes[cB]? = some kB) (kB' : kB.kind = .array cc .int) (hn : ¬ n < 0) (hk : ¬ k < 0) (l1 : ¬ n.toNatClampNeg > e.platform.arrayLengthLimit) (h1 : ¬ n.toNatClampNeg * componentBytes (.array .int) > e.platform.maxHeapBytes) (l2 : ¬ k.toNatClampNeg > e.platform.arrayLengthLimit) (h2 : ¬ k.toNatClampNeg * componentBytes .int > e.platform.maxHeapBytes) (hc : s.heap.size + 1 + n.toNatClampNeg ≤ e.platform.maxCells) (hs : s.slotsUsed + n.toNatClampNeg + n.toNatClampNeg * k.toNatClampNeg ≤ e.platform.maxSlots) {Q : Addr → Pre} (hq : ∀ d' acts', Q s.heap.size d' acts' (mgS s cA cB n.toNatClampNeg k.toNatClampNeg n.toNatClampNeg)) : wp (Op.multianewarray.make cA [n, k]) Q E e d acts s := by
  have hf : ([k].find? (· < 0)) = none := by simp [hk]
  have e0 : ({ cls := cA, slots := Array.replicate n.toNatClampNeg Value.null, vm := .none } : Cell) = arrV cA n.toNatClampNeg fun _ => .null := arrV_new _ _ _
  have eM : ({ cls := cB, slots := Array.replicate k.toNatClampNeg (defaultValue FieldType.int), vm := .none } : Cell) = arrV cB k.toNatClampNeg fun _ => .int 0 := arrV_new _ _ _
  rw [Op.multianewarray.make]
  simp only [wp_bind', W.ite, hn, if_false, wp_pure', W.theClass, hA, kA', Option.some.injEq, exists_eq_left']
  refine W.newArray_of hA kA' l1 h1 (by omega) (by have := Nat.zero_le (n.toNatClampNeg * k.toNatClampNeg); omega) rfl (fun acts' => ?_)
  rw [e0]
  simp only [hf]
  rw [ite_self, wp_bind', Std.Legacy.Range.forIn_eq_forIn_range']
  have hz : ([:n.toNatClampNeg] : Std.Legacy.Range).size = n.toNatClampNeg := by simp [Std.Legacy.Range.size]
  rw [hz]
  show wp (forIn (List.range' 0 n.toNatClampNeg 1) PUnit.unit _) _ E e d _ _
  refine wp_forIn_inv (fun rest s' => ∃ i, i ≤ n.toNatClampNeg ∧ rest = List.range' i (n.toNatClampNeg - i) ∧ s' = mgS s cA cB n.toNatClampNeg k.toNatClampNeg i) _ _ ⟨0, Nat.zero_le _, rfl, rfl⟩ (fun x rest s' d' acts' Q' I next => ?_) (fun s' d' acts' I => ?_)
  · obtain ⟨i, hi, hl, rfl⟩ := I
    have lt : i < n.toNatClampNeg := by
      by_cases q : i < n.toNatClampNeg
      · exact q
      · rw [show n.toNatClampNeg - i = 0 by omega] at hl
        cases hl
    rw [show n.toNatClampNeg - i = (n.toNatClampNeg - (i + 1)) + 1 by omega, List.range'_succ] at hl
    obtain ⟨rfl, hr⟩ := List.cons.inj hl
    obtain ⟨a1, a2, a3, a4⟩ := mgS_f s cA cB n.toNatClampNeg k.toNatClampNeg x
    have hm : x * k.toNatClampNeg + k.toNatClampNeg ≤ n.toNatClampNeg * k.toNatClampNeg := by
      have := Nat.mul_le_mul_right k.toNatClampNeg (show x + 1 ≤ n.toNatClampNeg from lt)
      rw [Nat.succ_mul] at this
      exact this
    have lt0 : s.heap.size < (mgS s cA cB n.toNatClampNeg k.toNatClampNeg x).heap.size := by omega
    rw [Op.multianewarray.make]
    simp only [wp_bind', W.ite, hk, if_false, wp_pure', W.theClass, a3, hB, kB', Option.some.injEq, exists_eq_left']
    refine W.newArray_of (by rw [a3]; exact hB) kB' l2 h2 (by rw [a1]; omega) (by rw [a4]; omega) rfl (fun acts2 => ?_)
    rw [eM]
    simp only [wp_bind', W.writeLoc, wp_pure']
    refine ⟨arrV cA n.toNatClampNeg fun j => if j < x then Value.ref (s.heap.size + 1 + j) else Value.null, (by rw [State.heap_pushCell_of_lt (h := lt0)]; exact a2), (fun z => by cases z), (by rw [arrV_size]; exact lt), ?_, next _ _ _ ⟨x + 1, lt, hr, ?_⟩⟩
    · show State.fitsSlot _ cA .none x _ = true
      simp [State.fitsSlot, State.slotType?, a3, hA, kA']
      rfl
    · rw [a1, mgS_row]
      rfl
  · obtain ⟨i, hi, hl, rfl⟩ := I
    have ei : i = n.toNatClampNeg := by
      by_cases q : i < n.toNatClampNeg
      · rw [show n.toNatClampNeg - i = (n.toNatClampNeg - (i + 1)) + 1 by omega, List.range'_succ] at hl
        cases hl
      · omega
    subst ei
    simp only [wp_pure']
    exact hq _ _
end MGW
/-! A grid made by the machine: the row of the instruction. -/
theorem ygr_r (h : XH) (n k : Nat) : ∀ i j, xr (ygr h n k i) (xt h) j = if j < i then some (xt h + 1 + j) else none
  | 0, j => by
    show (if xt h = xt h then none else _) = _
    rw [if_pos rfl, if_neg (Nat.not_lt_zero _)]
  | i + 1, j => by
    have t := ygr_t h n k i
    have e : ¬ xt h = xt (ygr h n k i) := by omega
    show (if xt h = xt h ∧ j = i then some (xt (ygr h n k i)) else if xt h = xt (ygr h n k i) then none else xr (ygr h n k i) (xt h) j) = _
    rw [if_neg e, ygr_r h n k i j, t]
    by_cases c : j = i
    · subst c
      rw [if_pos ⟨rfl, rfl⟩, if_pos (Nat.lt_succ_self _)]
    · rw [if_neg (fun q => c q.2)]
      by_cases c2 : j < i
      · rw [if_pos c2, if_pos (by omega)]
      · rw [if_neg c2, if_neg (by omega)]
section MGX
variable {p : Program} {l : Launch} {e : Env} {R : Room} {s : State} {m : MethodId} {args : Array Value} {below : List Frame} {meth : Method} {c : Code} {T : State} {locs : List Loc} {cells slots : Nat}
theorem mg_stand (X : Stand p l e R s m args below meth c T locs cells slots) (cA cB : ClassId) (N M : Nat) : ∀ i, i ≤ N → Stand p l e R s m args below meth c (mgS T cA cB N M i) locs (cells + 1 + i) (slots + N + i * M)
  | 0, _ => by
    have h := X.pushed (arrV cA N fun _ => .null)
    rw [arrV_size] at h
    rw [Nat.zero_mul]
    exact h
  | i + 1, hi => by
    have Xi := mg_stand X cA cB N M i (by omega)
    obtain ⟨a1, a2, a3, a4⟩ := mgS_f T cA cB N M i
    have lt0 : T.heap.size < (mgS T cA cB N M i).heap.size := by omega
    have hc : ((mgS T cA cB N M i).pushCell (arrV cB M fun _ => .int 0)).heap[T.heap.size]? = some (arrV cA N fun j => if j < i then .ref (T.heap.size + 1 + j) else .null) := by rw [State.heap_pushCell_of_lt (h := lt0)]; exact a2
    have h := ((Xi.pushed (arrV cB M fun _ => .int 0)).stored hc i (.ref (T.heap.size + 1 + i))).dropFresh (J := [⟨T.heap.size, i⟩]) (fun x hx => by rw [List.mem_singleton.mp hx]; exact X.heapGrown)
    rw [mgS_row, arrV_size] at h
    rw [show slots + N + (i + 1) * M = slots + N + i * M + M by rw [Nat.succ_mul]; omega]
    exact h
theorem mg_xR {E : XG} {h : XH} {N K : Nat} (hR : xR E h T.heap) : ∀ i, xR E (ygr h N K i) (mgS T (eC E 18) (eC E 12) N K i).heap
  | 0 => by
    refine hR.new (by show (T.heap.push _).size = _; rw [Array.size_push]) (fun q hq => State.heap_pushCell_of_lt _ _ hq) (by decide) ?_
    rw [xen_ref (h := ya h 18 N) (a := xt h) (g := 18) (by rw [xk_ya, if_pos rfl]) (by decide), xn_ya, if_pos rfl]
    show (T.pushCell _).heap[xt h]? = some (vp_cell _ _)
    rw [hR.1.1, State.heap_pushCell_size, vp_cell_q]
    congr 2
    funext j
    rw [xr_ya, if_pos hR.1.1.symm]
    rfl
  | i + 1 => by
    have Ri := mg_xR (N := N) (K := K) hR i
    obtain ⟨a1, a2, a3, a4⟩ := mgS_f T (eC E 18) (eC E 12) N K i
    have t := ygr_t h N K i
    have e0 : xt h = T.heap.size := hR.1.1
    have R1 : xR E (ya (ygr h N K i) 12 K) ((mgS T (eC E 18) (eC E 12) N K i).pushCell (arrV (eC E 12) K fun _ => .int 0)).heap := by
      refine Ri.new (by show (Array.push _ _).size = _; rw [Array.size_push]) (fun q hq => State.heap_pushCell_of_lt _ _ hq) (by decide) ?_
      rw [xen_int (h := ya (ygr h N K i) 12 K) (a := xt (ygr h N K i)) (g := 12) (by rw [xk_ya, if_pos rfl]) (by decide), xn_ya, if_pos rfl]
      show ((mgS T (eC E 18) (eC E 12) N K i).pushCell _).heap[xt (ygr h N K i)]? = some (vp_cell _ _)
      rw [Ri.1.1, State.heap_pushCell_size, vp_cell_i]
      congr 2
      funext j
      rw [xi_ya, if_pos Ri.1.1.symm]
    obtain ⟨g1, g2⟩ := ygr_k h N K i
    have kx : xk (ya (ygr h N K i) 12 K) (xt h) = 18 := by rw [xk_ya, if_neg (by omega)]; exact g1
    have nx : xn (ya (ygr h N K i) 12 K) (xt h) = N := by rw [xn_ya, if_neg (by omega)]; exact g2
    have f3 := (mgS_f T (eC E 18) (eC E 12) N K (i + 1)).2.1
    refine R1.put (a := xt h) (by rw [kx]; decide) (by show (Array.setIfInBounds _ _ _).size = _; rw [Array.size_setIfInBounds]) (fun q hq => State.heap_setCell_other (fun z => hq (by rw [e0]; exact z.symm))) ?_ rfl (fun _ => rfl) (fun b hb => xen_yr _ _ _ _ hb)
    show va_at (eD E) vwCl (xt h, xen E (yr (ya (ygr h N K i) 12 K) (xt h) i (some (xt (ygr h N K i)))) (xt h)) (mgS T (eC E 18) (eC E 12) N K (i + 1)).heap
    rw [xen_ref (h := yr (ya (ygr h N K i) 12 K) (xt h) i (some (xt (ygr h N K i)))) (a := xt h) (g := 18) kx (by decide), xn_yr, nx]
    show (mgS T (eC E 18) (eC E 12) N K (i + 1)).heap[xt h]? = some (vp_cell _ _)
    rw [e0, f3, vp_cell_q]
    congr 2
    funext j
    have q := ygr_r h N K (i + 1) j
    rw [e0] at q
    have q : xr (yr (ya (ygr h N K i) 12 K) T.heap.size i (some (xt (ygr h N K i)))) T.heap.size j = if j < i + 1 then some (T.heap.size + 1 + j) else none := by
      rw [← q]
      show _ = xr (yr (ya (ygr h N K i) 12 K) (xt h) i (some (xt (ygr h N K i)))) T.heap.size j
      rw [e0]
    rw [q]
    split <;> rfl
end MGX
theorem mgS_old (T : State) (cA cB : ClassId) (N M : Nat) {q : Nat} (hq : q < T.heap.size) : ∀ i, (mgS T cA cB N M i).heap[q]? = T.heap[q]?
  | 0 => State.heap_pushCell_of_lt _ _ hq
  | i + 1 => by
    obtain ⟨a1, -⟩ := mgS_f T cA cB N M i
    show (((mgS T cA cB N M i).pushCell _).setCell T.heap.size _).heap[q]? = _
    rw [State.heap_setCell_other (fun z => absurd hq (by rw [z]; exact Nat.lt_irrefl _)), State.heap_pushCell_of_lt (h := Nat.lt_of_lt_of_le hq (by rw [a1, Nat.add_assoc]; exact Nat.le_add_right _ _))]
    exact mgS_old T cA cB N M hq i
section MGZ
variable {E : XG} {M : XM} {k u : Nat} {L : List (Option Value)} {st : List Value} {h : XH} {Q : XO → Prop}
theorem X_multi (pc a0 N K : Nat) {idx : Nat} {own : String} {n kk : Int32} (ho : own = (mY M).cls) (hcl : xIn (.classLink own idx "[[I")) (hai : xIn (.arrayClass .int)) (hn : ¬ n < 0) (hk : ¬ kk < 0) (hN : n.toNatClampNeg = N) (hK : kk.toNatClampNeg = K) (bN : N ≤ 1000) (bK : K ≤ 1000) (d : decode (mC M) pc = .ok (.multianewarray idx 2, 4)) (kq : XW E M k u (pc + 4) L (.ref (xt h) :: st) (ygr h N K N) Q) : XW E M (k + 1 + N) (u + N + N * K) pc L (.int kk :: .int n :: st) h Q := by
  intro p e R s m args below meth c H locs cells slots ls F hR hS hl hc hs
  subst ho; subst hN; subst hK
  intro T hT X
  subst hT
  have hexec : p.tables.exec = Jvm.exec := F.1
  have hdg : decode c.code pc = .ok (.multianewarray idx 2, 4) := by rw [F.2.1]; exact d
  have hpl : e.platform.magicAccessors = ({} : Platform).magicAccessors := by rw [X.admits.platform]
  obtain ⟨comp, cA, kA, hcomp, hidx, hkA, hkindA, hnameA⟩ := arrayOverA_spec F.env.2.2.2.1.2.2.2.1
  obtain ⟨comp', kC, cc, hcomp', hkC, hkindC⟩ := Cond.arrayClass_spec (F.env.word hai args)
  have ec : comp' = comp := Option.some.inj (hcomp'.symm.trans hcomp)
  subst ec
  obtain ⟨c0, hfc0, hcl'⟩ := Cond.classLink_spec F.own (F.env.word hcl args) e.platform hpl
  have ecA : cA = c0 := Option.some.inj (hnameA.symm.trans hfc0)
  subst ecA
  have e18 : cA = eC E 18 := Option.some.inj (hnameA.symm.trans (F.env.2.1.2 7 _ rfl).2)
  have e12 : comp' = eC E 12 := Option.some.inj (hcomp'.symm.trans (F.env.2.1.2 1 _ rfl).2)
  obtain ⟨hg₁, hwarm₁, hready₁⟩ := State.classEntry (e := e) X.warmed hcl'
  generalize T.vm.noted m.cls idx (.cls cA) = vm₁ at hg₁ hwarm₁ hready₁
  have hal : s.vm.Alike vm₁ := hwarm₁.alike
  obtain ⟨kA₁, hkA₁, heA⟩ := hal.2.2 _ _ hkA
  obtain ⟨kC₁, hkC₁, heC⟩ := hal.2.2 _ _ hkC
  have hkindA₁ : kA₁.kind = .array comp' (.array .int) := by rw [heA]; exact hkindA
  have hkindC₁ : kC₁.kind = .array cc .int := by rw [heC]; exact hkindC
  have X₁ := X.noted hwarm₁
  have XF := mg_stand X₁ cA comp' n.toNatClampNeg kk.toNatClampNeg n.toNatClampNeg (Nat.le_refl _)
  have RF := mg_xR (T := T.setVm vm₁) (N := n.toNatClampNeg) (K := kk.toNatClampNeg) (show xR E h (T.setVm vm₁).heap from hR) n.toNatClampNeg
  rw [← e18, ← e12] at RF
  obtain ⟨z1, -, -, -⟩ := mgS_f (T.setVm vm₁) cA comp' n.toNatClampNeg kk.toNatClampNeg n.toNatClampNeg
  have z1 : (mgS (T.setVm vm₁) cA comp' n.toNatClampNeg kk.toNatClampNeg n.toNatClampNeg).heap.size = T.heap.size + 1 + n.toNatClampNeg := z1
  have hS' : va_S (xA E) s.heap (mgS (T.setVm vm₁) cA comp' n.toNatClampNeg kk.toNatClampNeg n.toNatClampNeg).heap locs := ⟨by have := hS.1; omega, fun q h1 h2 => (mgS_old (T.setVm vm₁) cA comp' n.toNatClampNeg kk.toNatClampNeg (show q < T.heap.size from Nat.lt_of_lt_of_le h1 hS.1) n.toNatClampNeg).trans (hS.2.1 q h1 h2), hS.2.2⟩
  obtain ⟨t, a1, b1⟩ := kq p e R s m args below meth c _ locs (cells + 1 + n.toNatClampNeg) (slots + n.toNatClampNeg + n.toNatClampNeg * kk.toNatClampNeg) ls F RF hS' hl (by omega) (by omega) _ rfl XF
  refine ⟨t, ?_, b1⟩
  have cl : ∀ x : Int32, x.toNatClampNeg ≤ 1000 → ¬ x.toNatClampNeg > e.platform.arrayLengthLimit := fun x hx => by rw [Launch.admits_arrayLengthLimit X.admits]; omega
  have ch : ∀ (x : Int32) (ty : FieldType), componentBytes ty = 4 → x.toNatClampNeg ≤ 1000 → ¬ x.toNatClampNeg * componentBytes ty > e.platform.maxHeapBytes := fun x ty q hx => by rw [Launch.admits_maxHeapBytes X.admits, q]; omega
  obtain ⟨r1, r2⟩ := X.roomAbove (a := 1 + n.toNatClampNeg) (b := n.toNatClampNeg + n.toNatClampNeg * kk.toNatClampNeg) (by omega) (by omega)
  jvm_step X.here [hexec, hdg]
  simp only [Op.multianewarray.sem, wp_bind', W.resolveClassAt_links (State.method?_setTop (F0 m pc ls (.int kk :: .int n :: st)) X.here.top) hg₁]
  rw [W.popN, if_neg (by decide)]
  refine ⟨F0 m pc ls (.int kk :: .int n :: st), State.topJava?_setTop' (s := T.setVm vm₁) _ X.here.top, [.int n, .int kk], st, rfl, rfl, ?_⟩
  simp only [List.mapM_cons, List.mapM_nil, wp_bind', wp_pure']
  refine mg_wp (kA := kA₁) (kB := kC₁) (cB := comp') (cc := cc) hkA₁ hkindA₁ hkC₁ hkindC₁ hn hk (cl n bN) (ch n _ rfl bN) (cl kk bK) (ch kk _ rfl bK) (by show T.heap.size + 1 + _ ≤ _; omega) (by show T.slotsUsed + _ + _ ≤ _; omega) (fun d' acts' => ?_)
  have eS : ((T.setTop (F0 m pc ls (.int kk :: .int n :: st))).setVm vm₁).setTop (F0 m pc ls st) = (T.setVm vm₁).setTop (F0 m pc ls st) := by
    show ((T.setVm vm₁).setTop _).setTop _ = _
    rw [State.setTop_setTop]
  rw [eS, mgS_top]
  simp only [wp_bind', W.mark, W.pushRef, State.topJava?_setTop' _ XF.here.top, Option.some.injEq, exists_eq_left', State.setTop_setTop, State.heap_setTop]
  intro acts
  simp [jvm, XF.here.top]
  have et : xt h = T.heap.size := hR.1.1
  rw [et] at a1
  exact a1
end MGZ
theorem ygr_c (h : XH) (n k : Nat) : ∀ i, xc (ygr h n k i) = xc h + 1 + i ∧ xu (ygr h n k i) = xu h + n + i * k
  | 0 => ⟨rfl, by rw [Nat.zero_mul]; rfl⟩
  | i + 1 => by
    obtain ⟨a1, a2⟩ := ygr_c h n k i
    refine ⟨?_, ?_⟩
    · show xc (ygr h n k i) + 1 = _
      rw [a1]
      rfl
    · show xu (ygr h n k i) + k = _
      rw [a2, Nat.succ_mul]
      omega
