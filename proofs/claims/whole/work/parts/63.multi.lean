/-! A grid made by the machine: 'multianewarray' of two dimensions, ints. -/
set_option linter.unusedVariables false
/-- the machine's state while a grid is made: i rows are there -/
def mgS (T : State) (cA cB : ClassId) (N M : Nat) : Nat → State
  | 0 => T.pushCell (arrV cA N fun _ => .null)
  | i + 1 => ((mgS T cA cB N M i).pushCell (arrV cB M fun _ => .int 0)).setCell T.heap.size (arrV cA N fun j => if j < i + 1 then .ref (T.heap.size + 1 + j) else .null)
theorem mgS_f (T : State) (cA cB : ClassId) (N M : Nat) : ∀ i, (mgS T cA cB N M i).heap.size = T.heap.size + 1 + i ∧ (mgS T cA cB N M i).heap[T.heap.size]? = some (arrV cA N fun j => if j < i then .ref (T.heap.size + 1 + j) else .null) ∧ (mgS T cA cB N M i).vm = T.vm ∧ (mgS T cA cB N M i).slotsUsed = T.slotsUsed + N + i * M
  | 0 => by
    refine ⟨?_, ?_, rfl, ?_⟩
    · show (T.heap.push _).size = _
      rw [Array.size_push]
    · show (T.pushCell _).heap[T.heap.size]? = _
      rw [State.heap_pushCell_size]
      congr 2
    · show T.slotsUsed + (arrV _ _ _).slots.size = _
      rw [arrV_size, Nat.zero_mul]
      rfl
  | i + 1 => by
    obtain ⟨a1, a2, a3, a4⟩ := mgS_f T cA cB N M i
    have lt : T.heap.size < (mgS T cA cB N M i).heap.size := by omega
    refine ⟨?_, ?_, a3, ?_⟩
    · show (((mgS T cA cB N M i).heap.push _).setIfInBounds _ _).size = _
      rw [Array.size_setIfInBounds, Array.size_push, a1]
      rfl
    · exact State.heap_setCell_self (c := arrV cA N fun j => if j < i then .ref (T.heap.size + 1 + j) else .null) (by rw [State.heap_pushCell_of_lt (h := lt)]; exact a2)
    · show (mgS T cA cB N M i).slotsUsed + (arrV cB M _).slots.size = _
      rw [arrV_size, a4, Nat.succ_mul]
      omega
theorem mgS_row (cA : ClassId) (N h0 i : Nat) : (arrV cA N fun j => if j < i then Value.ref (h0 + 1 + j) else .null).setSlot i (.ref (h0 + 1 + i)) = arrV cA N fun j => if j < i + 1 then Value.ref (h0 + 1 + j) else .null := by
  rw [arrV_store]
  congr 1
  funext j
  unfold updV
  by_cases c : j = i
  · subst c
    simp
  · by_cases c2 : j < i
    · simp [c, c2, Nat.lt_succ_of_lt c2]
    · have c3 : ¬ j < i + 1 := by omega
      simp [c, c2, c3]
theorem mgS_top (T : State) (f : JFrame) (cA cB : ClassId) (N M : Nat) : ∀ i, mgS (T.setTop f) cA cB N M i = (mgS T cA cB N M i).setTop f
  | 0 => rfl
  | i + 1 => by
    show ((mgS (T.setTop f) cA cB N M i).pushCell _).setCell _ _ = _
    rw [mgS_top T f cA cB N M i]
    rfl
