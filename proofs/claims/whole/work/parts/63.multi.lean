/-! A grid made by the machine: 'multianewarray' of two dimensions, ints. -/
set_option linter.unusedVariables false
/-- the machine's state while a grid is made: i rows are there -/
def mgS (T : State) (cA cB : ClassId) (N M : Nat) : Nat → State
  | 0 => T.pushCell (arrV cA N fun _ => .null)
  | i + 1 => ((mgS T cA cB N M i).pushCell (arrV cB M fun _ => .int 0)).setCell T.heap.size (arrV cA N fun j => if j < i + 1 then .ref (T.heap.size + 1 + j) else .null)
theorem mgS_f (T : State) (cA cB : ClassId) (N M : Nat) : ∀ i, (mgS T cA cB N M i).heap.size = T.heap.size + 1 + i ∧ (mgS T cA cB N M i).heap[T.heap.size]? = some (arrV cA N fun j => if j < i then .ref (T.heap.size + 1 + j) else .null) ∧ (mgS T cA cB N M i).vm = T.vm ∧ (mgS T cA cB N M i).slotsUsed = T.slotsUsed + N + i * M
  | 0 => by
    refine ⟨?_, ?_, rfl, ?_⟩
    · show (T.heap.push _).size = _
      rw [Array.size_push]
    · show (T.pushCell _).heap[T.heap.size]? = _
      rw [State.heap_pushCell_size]
      congr 2
    · show T.slotsUsed + (arrV _ _ _).slots.size = _
      rw [arrV_size, Nat.zero_mul]
      rfl
  | i + 1 => by
    obtain ⟨a1, a2, a3, a4⟩ := mgS_f T cA cB N M i
    have lt : T.heap.size < (mgS T cA cB N M i).heap.size := by omega
    refine ⟨?_, ?_, a3, ?_⟩
    · show (((mgS T cA cB N M i).heap.push _).setIfInBounds _ _).size = _
      rw [Array.size_setIfInBounds, Array.size_push, a1]
      rfl
    · exact State.heap_setCell_self (c := arrV cA N fun j => if j < i then .ref (T.heap.size + 1 + j) else .null) (by rw [State.heap_pushCell_of_lt (h := lt)]; exact a2)
    · show (mgS T cA cB N M i).slotsUsed + (arrV cB M _).slots.size = _
      rw [arrV_size, a4, Nat.succ_mul]
      omega
theorem mgS_row (cA : ClassId) (N h0 i : Nat) : (arrV cA N fun j => if j < i then Value.ref (h0 + 1 + j) else .null).setSlot i (.ref (h0 + 1 + i)) = arrV cA N fun j => if j < i + 1 then Value.ref (h0 + 1 + j) else .null := by
  rw [arrV_store]
  congr 1
  funext j
  unfold updV
  by_cases c : j = i
  · subst c
    simp
  · by_cases c2 : j < i
    · simp [c, c2, Nat.lt_succ_of_lt c2]
    · have c3 : ¬ j < i + 1 := by omega
      simp [c, c2, c3]
theorem mgS_top (T : State) (f : JFrame) (cA cB : ClassId) (N M : Nat) : ∀ i, mgS (T.setTop f) cA cB N M i = (mgS T cA cB N M i).setTop f
  | 0 => rfl
  | i + 1 => by
    show ((mgS (T.setTop f) cA cB N M i).pushCell _).setCell _ _ = _
    rw [mgS_top T f cA cB N M i]
    rfl
section MGW
variable {E : CtlPost} {e : Env} {d : Bool} {acts : List Action} {s : State}
theorem mg_wp {cA cB cc : ClassId} {kA kB : Class} {n k : Int32} (hA : s.vm.classes[cA]? = some kA) (kA' : kA.kind = .array cB (.array .int)) (hB : s.vm.classes[cB]? = some kB) (kB' : kB.kind = .array cc .int) (hn : ¬ n < 0) (hk : ¬ k < 0) (l1 : ¬ n.toNatClampNeg > e.platform.arrayLengthLimit) (h1 : ¬ n.toNatClampNeg * componentBytes (.array .int) > e.platform.maxHeapBytes) (l2 : ¬ k.toNatClampNeg > e.platform.arrayLengthLimit) (h2 : ¬ k.toNatClampNeg * componentBytes .int > e.platform.maxHeapBytes) (hc : s.heap.size + 1 + n.toNatClampNeg ≤ e.platform.maxCells) (hs : s.slotsUsed + n.toNatClampNeg + n.toNatClampNeg * k.toNatClampNeg ≤ e.platform.maxSlots) {Q : Addr → Pre} (hq : ∀ d' acts', Q s.heap.size d' acts' (mgS s cA cB n.toNatClampNeg k.toNatClampNeg n.toNatClampNeg)) : wp (Op.multianewarray.make cA [n, k]) Q E e d acts s := by
  have hf : ([k].find? (· < 0)) = none := by simp [hk]
  have e0 : ({ cls := cA, slots := Array.replicate n.toNatClampNeg Value.null, vm := .none } : Cell) = arrV cA n.toNatClampNeg fun _ => .null := arrV_new _ _ _
  have eM : ({ cls := cB, slots := Array.replicate k.toNatClampNeg (defaultValue FieldType.int), vm := .none } : Cell) = arrV cB k.toNatClampNeg fun _ => .int 0 := arrV_new _ _ _
  rw [Op.multianewarray.make]
  simp only [wp_bind', W.ite, hn, if_false, wp_pure', W.theClass, hA, kA', Option.some.injEq, exists_eq_left']
  refine W.newArray_of hA kA' l1 h1 (by omega) (by have := Nat.zero_le (n.toNatClampNeg * k.toNatClampNeg); omega) rfl (fun acts' => ?_)
  rw [e0]
  simp only [hf]
  rw [ite_self, wp_bind', Std.Legacy.Range.forIn_eq_forIn_range']
  have hz : ([:n.toNatClampNeg] : Std.Legacy.Range).size = n.toNatClampNeg := by simp [Std.Legacy.Range.size]
  rw [hz]
  show wp (forIn (List.range' 0 n.toNatClampNeg 1) PUnit.unit _) _ E e d _ _
  refine wp_forIn_inv (fun rest s' => ∃ i, i ≤ n.toNatClampNeg ∧ rest = List.range' i (n.toNatClampNeg - i) ∧ s' = mgS s cA cB n.toNatClampNeg k.toNatClampNeg i) _ _ ⟨0, Nat.zero_le _, rfl, rfl⟩ (fun x rest s' d' acts' Q' I next => ?_) (fun s' d' acts' I => ?_)
  · obtain ⟨i, hi, hl, rfl⟩ := I
    have lt : i < n.toNatClampNeg := by
      by_cases q : i < n.toNatClampNeg
      · exact q
      · rw [show n.toNatClampNeg - i = 0 by omega] at hl
        cases hl
    rw [show n.toNatClampNeg - i = (n.toNatClampNeg - (i + 1)) + 1 by omega, List.range'_succ] at hl
    obtain ⟨rfl, hr⟩ := List.cons.inj hl
    obtain ⟨a1, a2, a3, a4⟩ := mgS_f s cA cB n.toNatClampNeg k.toNatClampNeg x
    have hm : x * k.toNatClampNeg + k.toNatClampNeg ≤ n.toNatClampNeg * k.toNatClampNeg := by
      have := Nat.mul_le_mul_right k.toNatClampNeg (show x + 1 ≤ n.toNatClampNeg from lt)
      rw [Nat.succ_mul] at this
      exact this
    have lt0 : s.heap.size < (mgS s cA cB n.toNatClampNeg k.toNatClampNeg x).heap.size := by omega
    rw [Op.multianewarray.make]
    simp only [wp_bind', W.ite, hk, if_false, wp_pure', W.theClass, a3, hB, kB', Option.some.injEq, exists_eq_left']
    refine W.newArray_of (by rw [a3]; exact hB) kB' l2 h2 (by rw [a1]; omega) (by rw [a4]; omega) rfl (fun acts2 => ?_)
    rw [eM]
    simp only [wp_bind', W.writeLoc, wp_pure']
    refine ⟨arrV cA n.toNatClampNeg fun j => if j < x then Value.ref (s.heap.size + 1 + j) else Value.null, (by rw [State.heap_pushCell_of_lt (h := lt0)]; exact a2), (fun z => by cases z), (by rw [arrV_size]; exact lt), ?_, next _ _ _ ⟨x + 1, lt, hr, ?_⟩⟩
    · show State.fitsSlot _ cA .none x _ = true
      simp [State.fitsSlot, State.slotType?, a3, hA, kA']
      rfl
    · rw [a1, mgS_row]
      rfl
  · obtain ⟨i, hi, hl, rfl⟩ := I
    have ei : i = n.toNatClampNeg := by
      by_cases q : i < n.toNatClampNeg
      · rw [show n.toNatClampNeg - i = (n.toNatClampNeg - (i + 1)) + 1 by omega, List.range'_succ] at hl
        cases hl
      · omega
    subst ei
    simp only [wp_pure']
    exact hq _ _
end MGW
