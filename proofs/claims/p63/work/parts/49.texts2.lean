/-! A module's text; what is appended. -/
set_option linter.unusedVariables false
section AG
variable {E : XG} {h : XH} {X Y O w s f : Nat} {Z : ZD}
/-- a module as a text -/
def wmN (nm : List Nat) : Nat → List Nat := fld (fun i l => l ++ [nm.getD i 0]) []
def wmB (bd : Nat → Nat) (l : List Nat) : Nat → List Nat := fld (fun a l => (l ++ [if a = 0 then 58 else 44]) ++ [48 + bd a]) l
def wmE (y : Nat) (l : List Nat) : List Nat := if y = 0 then l else (l ++ [59]) ++ [48 + y]
theorem wmN_len (nm : List Nat) (i : Nat) : (wmN nm i).length = i := by
  induction i with
  | zero => rfl
  | succ i ih => show (wmN nm i ++ [_]).length = _; rw [List.length_append, ih]; rfl
theorem wmB_len (bd : Nat → Nat) (l : List Nat) (i : Nat) : (wmB bd l i).length = l.length + 2 * i := by
  induction i with
  | zero => rfl
  | succ i ih =>
    show ((wmB bd l i ++ [_]) ++ [_]).length = _
    rw [List.length_append, List.length_append, ih, List.length_singleton, List.length_singleton]; omega
theorem wmN_128 {nm : List Nat} (hn : ∀ c ∈ nm, c < 128) : ∀ i, ∀ c ∈ wmN nm i, c < 128 := by
  intro i
  induction i with
  | zero => intro c hc; cases hc
  | succ i ih =>
    intro c hc
    rcases List.mem_append.mp (show c ∈ wmN nm i ++ [nm.getD i 0] from hc) with q | q
    · exact ih c q
    · rw [List.mem_singleton.mp q]
      rcases Nat.lt_or_ge i nm.length with z | z
      · exact hn _ (gD_mem z)
      · rw [gD_ge z]; omega
theorem wmB_128 {bd : Nat → Nat} {l : List Nat} {n : Nat} (hl : ∀ c ∈ l, c < 128) (hb : ∀ a, a < n → bd a < 8) : ∀ i, i ≤ n → ∀ c ∈ wmB bd l i, c < 128 := by
  intro i
  induction i with
  | zero => exact fun _ => hl
  | succ i ih =>
    intro hi c hc
    rcases List.mem_append.mp (show c ∈ (wmB bd l i ++ [if i = 0 then 58 else 44]) ++ [48 + bd i] from hc) with q | q
    · rcases List.mem_append.mp q with q | q
      · exact ih (by omega) c q
      · rw [List.mem_singleton.mp q]; split <;> omega
    · rw [List.mem_singleton.mp q]
      have := hb i (by omega)
      omega
theorem wmE_128 {y : Nat} {l : List Nat} (hl : ∀ c ∈ l, c < 128) (hy : y < 8) : ∀ c ∈ wmE y l, c < 128 := by
  intro c hc
  unfold wmE at hc
  split at hc
  · exact hl c hc
  · rcases List.mem_append.mp hc with q | q
    · rcases List.mem_append.mp q with q | q
      · exact hl c q
      · rw [List.mem_singleton.mp q]; decide
    · rw [List.mem_singleton.mp q]; omega
theorem wmE_len (y : Nat) (l : List Nat) : (wmE y l).length ≤ l.length + 2 := by
  unfold wmE
  split
  · omega
  · rw [List.length_append, List.length_append]; exact Nat.le_refl _
end AG
