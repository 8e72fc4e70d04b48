/-! Rows over the heap: fields, arrays, what is new, copies, constants. -/
set_option linter.unusedVariables false
section XACC
variable {E : XG} {M : XM} {p : Program} {R : Room} {s : State} {m : MethodId} {meth : Method} {c : Code}
theorem xF.own (F : xF E M p R s m meth c) : s.vm.findClass (mY M).cls = some m.cls := F.2.2.2.2.2.1
theorem xF.frames (F : xF E M p R s m meth c) : mF M ≤ R.frames := F.2.2.2.2.2.2.2.2.1
theorem xF.locals (F : xF E M p R s m meth c) : mW M ≤ R.locals := F.2.2.2.2.2.2.2.2.2.1
theorem xF.env (F : xF E M p R s m meth c) : xE E s := F.2.2.2.2.2.2.2.2.2.2.1
theorem xF.stat (F : xF E M p R s m meth c) : xZ E s s.heap := F.2.2.2.2.2.2.2.2.2.2.2.1
theorem xF.init (F : xF E M p R s m meth c) : meth.name = (mY M).name := F.2.2.2.2.2.2.2.1
theorem xF.maxl (F : xF E M p R s m meth c) : c.maxLocals = mL M := F.2.2.2.2.1
theorem xF.locks (F : xF E M p R s m meth c) : meth.locks = false := F.2.2.2.1
theorem xF.table (F : xF E M p R s m meth c) : c.exceptionTable.toList = tableOf (mH M) := F.2.2.2.2.2.2.1
theorem xF.traces (F : xF E M p R s m meth c) : (eL E).stackTraces = false := F.2.2.2.2.2.2.2.2.2.2.2.2
end XACC
/-- a class as the tables have it -/
def xok (ci : Nat) (C : String) (T : u_T) (N : Nat) (tyc : Nat → FieldType) : Prop := vwCl[ci]? = some (C, T, N) ∧ GoodIn lw_tbl (u_ws C T N) ∧ (∀ k, k < N → parseFieldDescriptor (T k).2.2.1 = some (tyc k)) ∧ (∀ a, a < N → ∀ b, b < N → a ≠ b → (T a).2.1 ≠ (T b).2.1) ∧ xoc ci ∧ N = (xft ci).length
theorem xok0 : xok 0 RX0 TX0 4 tyX0 := ⟨rfl, inX0, tyX0_ok, nmX0, by decide, rfl⟩
theorem xok1 : xok 1 RX1 TX1 8 tyX1 := ⟨rfl, inX1, tyX1_ok, nmX1, by decide, rfl⟩
theorem xok2 : xok 2 RX2 TX2 4 tyX2 := ⟨rfl, inX2, tyX2_ok, nmX2, by decide, rfl⟩
theorem xok3 : xok 3 RX3 TX3 3 tyX3 := ⟨rfl, inX3, tyX3_ok, nmX3, by decide, rfl⟩
theorem xok4 : xok 4 RX4 TX4 5 tyX4 := ⟨rfl, inX4, tyX4_ok, nmX4, by decide, rfl⟩
theorem xok5 : xok 5 RX5 TX5 4 tyX5 := ⟨rfl, inX5, tyX5_ok, nmX5, by decide, rfl⟩
theorem xok6 : xok 6 RX6 TX6 7 tyX6 := ⟨rfl, inX6, tyX6_ok, nmX6, by decide, rfl⟩
theorem xok7 : xok 7 RX7 TX7 7 tyX7 := ⟨rfl, inX7, tyX7_ok, nmX7, by decide, rfl⟩
theorem xok8 : xok 8 RX8 TX8 14 tyX8 := ⟨rfl, inX8, tyX8_ok, nmX8, by decide, rfl⟩
theorem xok9 : xok 9 RX9 TX9 4 tyX9 := ⟨rfl, inX9, tyX9_ok, nmX9, by decide, rfl⟩
theorem xok20 : xok 20 RX10 TX10 2 tyX10 := ⟨rfl, inX20, tyX10_ok, nmX10, by decide, rfl⟩
theorem xok21 : xok 21 RX11 TX11 6 tyX11 := ⟨rfl, inX21, tyX11_ok, nmX11, by decide, rfl⟩
theorem xok22 : xok 22 RX12 TX12 8 tyX12 := ⟨rfl, inX22, tyX12_ok, nmX12, by decide, rfl⟩
theorem xok23 : xok 23 RJ4 TJ4 4 tyJ4 := ⟨rfl, inX23, tyJ4_ok, nmJ4, by decide, rfl⟩
theorem xok24 : xok 24 RJ0 TJ0 4 tyJ0 := ⟨rfl, inX24, tyJ0_ok, nmJ0, by decide, rfl⟩
def xfs (own : String) (idx ci k t : Nat) : Prop := ∃ (C : String) (T : u_T) (N : Nat) (tyc : Nat → FieldType), xok ci C T N tyc ∧ k < N ∧ (xft ci)[k]? = some t ∧ xIn (.fieldLink own idx (T k).1 (T k).2.1 (T k).2.2.1)
/-- a field by its constant: class, place, sort (0 int, 1 long, 2 reference), final, type -/
def xfr (own : String) (idx ci k t : Nat) (fin : Bool) (ty : FieldType) : Prop := ∃ (C : String) (T : u_T) (N : Nat) (tyc : Nat → FieldType), xok ci C T N tyc ∧ k < N ∧ (xft ci)[k]? = some t ∧ xIn (.fieldLink own idx (T k).1 (T k).2.1 (T k).2.2.1) ∧ (T k).2.2.2 = fin ∧ tyc k = ty ∧ (fin = true → (T k).1 = own)
theorem frX8_9 : xfr RX8 9 8 0 2 true (.array .byte) := ⟨_, _, _, _, xok8, by decide, rfl, fkX8_9, rfl, rfl, (fun _ => rfl)⟩
theorem fsX8_9 : xfs RX8 9 8 0 2 := ⟨_, _, _, _, xok8, by decide, rfl, fkX8_9⟩
theorem frX8_13 : xfr RX8 13 8 3 0 false .int := ⟨_, _, _, _, xok8, by decide, rfl, fkX8_13, rfl, rfl, (fun _ => rfl)⟩
theorem fsX8_13 : xfs RX8 13 8 3 0 := ⟨_, _, _, _, xok8, by decide, rfl, fkX8_13⟩
theorem frX8_20 : xfr RX8 20 8 5 2 false (.object "CrossedModules$World") := ⟨_, _, _, _, xok8, by decide, rfl, fkX8_20, rfl, rfl, (fun _ => rfl)⟩
theorem fsX8_20 : xfs RX8 20 8 5 2 := ⟨_, _, _, _, xok8, by decide, rfl, fkX8_20⟩
theorem frX8_24 : xfr RX8 24 8 6 2 false (.object "CrossedModules$World") := ⟨_, _, _, _, xok8, by decide, rfl, fkX8_24, rfl, rfl, (fun _ => rfl)⟩
theorem fsX8_24 : xfs RX8 24 8 6 2 := ⟨_, _, _, _, xok8, by decide, rfl, fkX8_24⟩
theorem frX8_29 : xfr RX8 29 8 7 2 true (.array (.array .int)) := ⟨_, _, _, _, xok8, by decide, rfl, fkX8_29, rfl, rfl, (fun _ => rfl)⟩
theorem fsX8_29 : xfs RX8 29 8 7 2 := ⟨_, _, _, _, xok8, by decide, rfl, fkX8_29⟩
theorem frX8_32 : xfr RX8 32 8 10 2 true (.array (.array .int)) := ⟨_, _, _, _, xok8, by decide, rfl, fkX8_32, rfl, rfl, (fun _ => rfl)⟩
theorem fsX8_32 : xfs RX8 32 8 10 2 := ⟨_, _, _, _, xok8, by decide, rfl, fkX8_32⟩
theorem frX8_35 : xfr RX8 35 8 12 2 true (.array .byte) := ⟨_, _, _, _, xok8, by decide, rfl, fkX8_35, rfl, rfl, (fun _ => rfl)⟩
theorem fsX8_35 : xfs RX8 35 8 12 2 := ⟨_, _, _, _, xok8, by decide, rfl, fkX8_35⟩
theorem frX8_38 : xfr RX8 38 8 1 0 false .int := ⟨_, _, _, _, xok8, by decide, rfl, fkX8_38, rfl, rfl, (fun _ => rfl)⟩
theorem fsX8_38 : xfs RX8 38 8 1 0 := ⟨_, _, _, _, xok8, by decide, rfl, fkX8_38⟩
theorem frX8_66 : xfr RX8 66 5 2 0 false .int := ⟨_, _, _, _, xok5, by decide, rfl, fkX8_66, rfl, rfl, (fun h => by cases h)⟩
theorem fsX8_66 : xfs RX8 66 5 2 0 := ⟨_, _, _, _, xok5, by decide, rfl, fkX8_66⟩
theorem frX8_69 : xfr RX8 69 8 2 0 false .int := ⟨_, _, _, _, xok8, by decide, rfl, fkX8_69, rfl, rfl, (fun _ => rfl)⟩
theorem fsX8_69 : xfs RX8 69 8 2 0 := ⟨_, _, _, _, xok8, by decide, rfl, fkX8_69⟩
theorem frX8_72 : xfr RX8 72 5 3 0 false .int := ⟨_, _, _, _, xok5, by decide, rfl, fkX8_72, rfl, rfl, (fun h => by cases h)⟩
theorem fsX8_72 : xfs RX8 72 5 3 0 := ⟨_, _, _, _, xok5, by decide, rfl, fkX8_72⟩
theorem frX8_81 : xfr RX8 81 8 4 0 false .boolean := ⟨_, _, _, _, xok8, by decide, rfl, fkX8_81, rfl, rfl, (fun _ => rfl)⟩
theorem fsX8_81 : xfs RX8 81 8 4 0 := ⟨_, _, _, _, xok8, by decide, rfl, fkX8_81⟩
theorem frX8_88 : xfr RX8 88 8 11 0 false .int := ⟨_, _, _, _, xok8, by decide, rfl, fkX8_88, rfl, rfl, (fun _ => rfl)⟩
theorem fsX8_88 : xfs RX8 88 8 11 0 := ⟨_, _, _, _, xok8, by decide, rfl, fkX8_88⟩
theorem fsX8_91 : xfs RX8 91 7 1 2 := ⟨_, _, _, _, xok7, by decide, rfl, fkX8_91⟩
theorem frX8_95 : xfr RX8 95 3 2 0 false .int := ⟨_, _, _, _, xok3, by decide, rfl, fkX8_95, rfl, rfl, (fun h => by cases h)⟩
theorem fsX8_95 : xfs RX8 95 3 2 0 := ⟨_, _, _, _, xok3, by decide, rfl, fkX8_95⟩
theorem frX8_123 : xfr RX8 123 2 3 0 false .int := ⟨_, _, _, _, xok2, by decide, rfl, fkX8_123, rfl, rfl, (fun h => by cases h)⟩
theorem fsX8_123 : xfs RX8 123 2 3 0 := ⟨_, _, _, _, xok2, by decide, rfl, fkX8_123⟩
theorem frX8_158 : xfr RX8 158 1 2 2 false (.object "CrossedModules$Group") := ⟨_, _, _, _, xok1, by decide, rfl, fkX8_158, rfl, rfl, (fun h => by cases h)⟩
theorem fsX8_158 : xfs RX8 158 1 2 2 := ⟨_, _, _, _, xok1, by decide, rfl, fkX8_158⟩
theorem fsX8_164 : xfs RX8 164 2 0 0 := ⟨_, _, _, _, xok2, by decide, rfl, fkX8_164⟩
theorem frX8_167 : xfr RX8 167 1 1 2 false (.object "CrossedModules$Group") := ⟨_, _, _, _, xok1, by decide, rfl, fkX8_167, rfl, rfl, (fun h => by cases h)⟩
theorem fsX8_167 : xfs RX8 167 1 1 2 := ⟨_, _, _, _, xok1, by decide, rfl, fkX8_167⟩
theorem frX8_176 : xfr RX8 176 1 7 0 false .int := ⟨_, _, _, _, xok1, by decide, rfl, fkX8_176, rfl, rfl, (fun h => by cases h)⟩
theorem fsX8_176 : xfs RX8 176 1 7 0 := ⟨_, _, _, _, xok1, by decide, rfl, fkX8_176⟩
theorem frX8_201 : xfr RX8 201 4 4 0 false .int := ⟨_, _, _, _, xok4, by decide, rfl, fkX8_201, rfl, rfl, (fun h => by cases h)⟩
theorem fsX8_201 : xfs RX8 201 4 4 0 := ⟨_, _, _, _, xok4, by decide, rfl, fkX8_201⟩
theorem fsX8_216 : xfs RX8 216 4 3 2 := ⟨_, _, _, _, xok4, by decide, rfl, fkX8_216⟩
theorem fsX8_220 : xfs RX8 220 4 2 2 := ⟨_, _, _, _, xok4, by decide, rfl, fkX8_220⟩
theorem fsX8_231 : xfs RX8 231 7 4 2 := ⟨_, _, _, _, xok7, by decide, rfl, fkX8_231⟩
theorem frX8_264 : xfr RX8 264 0 1 2 false (.object "CrossedModules$Crossed") := ⟨_, _, _, _, xok0, by decide, rfl, fkX8_264, rfl, rfl, (fun h => by cases h)⟩
theorem fsX8_264 : xfs RX8 264 0 1 2 := ⟨_, _, _, _, xok0, by decide, rfl, fkX8_264⟩
theorem fsX8_270 : xfs RX8 270 1 0 0 := ⟨_, _, _, _, xok1, by decide, rfl, fkX8_270⟩
theorem frX8_271 : xfr RX8 271 0 0 2 false (.object "CrossedModules$Crossed") := ⟨_, _, _, _, xok0, by decide, rfl, fkX8_271, rfl, rfl, (fun h => by cases h)⟩
theorem fsX8_271 : xfs RX8 271 0 0 2 := ⟨_, _, _, _, xok0, by decide, rfl, fkX8_271⟩
theorem fsX8_296 : xfs RX8 296 7 6 2 := ⟨_, _, _, _, xok7, by decide, rfl, fkX8_296⟩
theorem frX8_299 : xfr RX8 299 8 13 0 false .int := ⟨_, _, _, _, xok8, by decide, rfl, fkX8_299, rfl, rfl, (fun _ => rfl)⟩
theorem fsX8_299 : xfs RX8 299 8 13 0 := ⟨_, _, _, _, xok8, by decide, rfl, fkX8_299⟩
theorem fsX8_308 : xfs RX8 308 1 3 2 := ⟨_, _, _, _, xok1, by decide, rfl, fkX8_308⟩
theorem fsX8_319 : xfs RX8 319 1 4 2 := ⟨_, _, _, _, xok1, by decide, rfl, fkX8_319⟩
theorem fsX8_328 : xfs RX8 328 0 2 2 := ⟨_, _, _, _, xok0, by decide, rfl, fkX8_328⟩
theorem fsX8_331 : xfs RX8 331 0 3 2 := ⟨_, _, _, _, xok0, by decide, rfl, fkX8_331⟩
theorem frX8_334 : xfr RX8 334 8 9 0 false .int := ⟨_, _, _, _, xok8, by decide, rfl, fkX8_334, rfl, rfl, (fun _ => rfl)⟩
theorem fsX8_334 : xfs RX8 334 8 9 0 := ⟨_, _, _, _, xok8, by decide, rfl, fkX8_334⟩
theorem fsX8_377 : xfs RX8 377 7 0 2 := ⟨_, _, _, _, xok7, by decide, rfl, fkX8_377⟩
theorem fsX8_380 : xfs RX8 380 7 3 2 := ⟨_, _, _, _, xok7, by decide, rfl, fkX8_380⟩
theorem fsX8_384 : xfs RX8 384 7 2 2 := ⟨_, _, _, _, xok7, by decide, rfl, fkX8_384⟩
theorem fsX8_387 : xfs RX8 387 7 5 2 := ⟨_, _, _, _, xok7, by decide, rfl, fkX8_387⟩
theorem frX8_391 : xfr RX8 391 8 8 0 false .int := ⟨_, _, _, _, xok8, by decide, rfl, fkX8_391, rfl, rfl, (fun _ => rfl)⟩
theorem fsX8_391 : xfs RX8 391 8 8 0 := ⟨_, _, _, _, xok8, by decide, rfl, fkX8_391⟩
theorem frX0_9 : xfr RX0 9 0 2 2 true (.array .int) := ⟨_, _, _, _, xok0, by decide, rfl, fkX0_9, rfl, rfl, (fun _ => rfl)⟩
theorem fsX0_9 : xfs RX0 9 0 2 2 := ⟨_, _, _, _, xok0, by decide, rfl, fkX0_9⟩
theorem frX0_15 : xfr RX0 15 0 3 2 true (.array .int) := ⟨_, _, _, _, xok0, by decide, rfl, fkX0_15, rfl, rfl, (fun _ => rfl)⟩
theorem fsX0_15 : xfs RX0 15 0 3 2 := ⟨_, _, _, _, xok0, by decide, rfl, fkX0_15⟩
theorem frX0_18 : xfr RX0 18 0 0 2 false (.object "CrossedModules$Crossed") := ⟨_, _, _, _, xok0, by decide, rfl, fkX0_18, rfl, rfl, (fun _ => rfl)⟩
theorem fsX0_18 : xfs RX0 18 0 0 2 := ⟨_, _, _, _, xok0, by decide, rfl, fkX0_18⟩
theorem frX0_22 : xfr RX0 22 0 1 2 false (.object "CrossedModules$Crossed") := ⟨_, _, _, _, xok0, by decide, rfl, fkX0_22, rfl, rfl, (fun _ => rfl)⟩
theorem fsX0_22 : xfs RX0 22 0 1 2 := ⟨_, _, _, _, xok0, by decide, rfl, fkX0_22⟩
theorem frX0_29 : xfr RX0 29 1 7 0 false .int := ⟨_, _, _, _, xok1, by decide, rfl, fkX0_29, rfl, rfl, (fun h => by cases h)⟩
theorem fsX0_29 : xfs RX0 29 1 7 0 := ⟨_, _, _, _, xok1, by decide, rfl, fkX0_29⟩
theorem frX0_35 : xfr RX0 35 1 1 2 false (.object "CrossedModules$Group") := ⟨_, _, _, _, xok1, by decide, rfl, fkX0_35, rfl, rfl, (fun h => by cases h)⟩
theorem fsX0_35 : xfs RX0 35 1 1 2 := ⟨_, _, _, _, xok1, by decide, rfl, fkX0_35⟩
theorem frX0_43 : xfr RX0 43 1 2 2 false (.object "CrossedModules$Group") := ⟨_, _, _, _, xok1, by decide, rfl, fkX0_43, rfl, rfl, (fun h => by cases h)⟩
theorem fsX0_43 : xfs RX0 43 1 2 2 := ⟨_, _, _, _, xok1, by decide, rfl, fkX0_43⟩
theorem frX0_53 : xfr RX0 53 2 3 0 false .int := ⟨_, _, _, _, xok2, by decide, rfl, fkX0_53, rfl, rfl, (fun h => by cases h)⟩
theorem fsX0_53 : xfs RX0 53 2 3 0 := ⟨_, _, _, _, xok2, by decide, rfl, fkX0_53⟩
theorem fsX0_98 : xfs RX0 98 1 5 2 := ⟨_, _, _, _, xok1, by decide, rfl, fkX0_98⟩
theorem frX0_111 : xfr RX0 111 4 4 0 false .int := ⟨_, _, _, _, xok4, by decide, rfl, fkX0_111, rfl, rfl, (fun h => by cases h)⟩
theorem fsX0_111 : xfs RX0 111 4 4 0 := ⟨_, _, _, _, xok4, by decide, rfl, fkX0_111⟩
theorem frX1_9 : xfr RX1 9 1 3 2 true (.array .int) := ⟨_, _, _, _, xok1, by decide, rfl, fkX1_9, rfl, rfl, (fun _ => rfl)⟩
theorem fsX1_9 : xfs RX1 9 1 3 2 := ⟨_, _, _, _, xok1, by decide, rfl, fkX1_9⟩
theorem frX1_15 : xfr RX1 15 1 4 2 true (.array .int) := ⟨_, _, _, _, xok1, by decide, rfl, fkX1_15, rfl, rfl, (fun _ => rfl)⟩
theorem fsX1_15 : xfs RX1 15 1 4 2 := ⟨_, _, _, _, xok1, by decide, rfl, fkX1_15⟩
theorem frX1_21 : xfr RX1 21 1 5 2 true (.object "CrossedModules$Pair") := ⟨_, _, _, _, xok1, by decide, rfl, fkX1_21, rfl, rfl, (fun _ => rfl)⟩
theorem fsX1_21 : xfs RX1 21 1 5 2 := ⟨_, _, _, _, xok1, by decide, rfl, fkX1_21⟩
theorem frX1_25 : xfr RX1 25 1 0 0 true .int := ⟨_, _, _, _, xok1, by decide, rfl, fkX1_25, rfl, rfl, (fun _ => rfl)⟩
theorem fsX1_25 : xfs RX1 25 1 0 0 := ⟨_, _, _, _, xok1, by decide, rfl, fkX1_25⟩
theorem frX1_29 : xfr RX1 29 1 1 2 false (.object "CrossedModules$Group") := ⟨_, _, _, _, xok1, by decide, rfl, fkX1_29, rfl, rfl, (fun _ => rfl)⟩
theorem fsX1_29 : xfs RX1 29 1 1 2 := ⟨_, _, _, _, xok1, by decide, rfl, fkX1_29⟩
theorem frX1_33 : xfr RX1 33 1 2 2 false (.object "CrossedModules$Group") := ⟨_, _, _, _, xok1, by decide, rfl, fkX1_33, rfl, rfl, (fun _ => rfl)⟩
theorem fsX1_33 : xfs RX1 33 1 2 2 := ⟨_, _, _, _, xok1, by decide, rfl, fkX1_33⟩
theorem frX1_36 : xfr RX1 36 1 6 0 false .int := ⟨_, _, _, _, xok1, by decide, rfl, fkX1_36, rfl, rfl, (fun _ => rfl)⟩
theorem fsX1_36 : xfs RX1 36 1 6 0 := ⟨_, _, _, _, xok1, by decide, rfl, fkX1_36⟩
theorem frX1_56 : xfr RX1 56 2 3 0 false .int := ⟨_, _, _, _, xok2, by decide, rfl, fkX1_56, rfl, rfl, (fun h => by cases h)⟩
theorem fsX1_56 : xfs RX1 56 2 3 0 := ⟨_, _, _, _, xok2, by decide, rfl, fkX1_56⟩
theorem frX2_9 : xfr RX2 9 2 1 2 true (.array .int) := ⟨_, _, _, _, xok2, by decide, rfl, fkX2_9, rfl, rfl, (fun _ => rfl)⟩
theorem fsX2_9 : xfs RX2 9 2 1 2 := ⟨_, _, _, _, xok2, by decide, rfl, fkX2_9⟩
theorem frX2_15 : xfr RX2 15 2 2 2 true (.array .int) := ⟨_, _, _, _, xok2, by decide, rfl, fkX2_15, rfl, rfl, (fun _ => rfl)⟩
theorem fsX2_15 : xfs RX2 15 2 2 2 := ⟨_, _, _, _, xok2, by decide, rfl, fkX2_15⟩
theorem frX2_18 : xfr RX2 18 2 3 0 false .int := ⟨_, _, _, _, xok2, by decide, rfl, fkX2_18, rfl, rfl, (fun _ => rfl)⟩
theorem fsX2_18 : xfs RX2 18 2 3 0 := ⟨_, _, _, _, xok2, by decide, rfl, fkX2_18⟩
theorem frX2_22 : xfr RX2 22 2 0 0 true .int := ⟨_, _, _, _, xok2, by decide, rfl, fkX2_22, rfl, rfl, (fun _ => rfl)⟩
theorem fsX2_22 : xfs RX2 22 2 0 0 := ⟨_, _, _, _, xok2, by decide, rfl, fkX2_22⟩
theorem frX3_9 : xfr RX3 9 3 0 2 true (.array .long) := ⟨_, _, _, _, xok3, by decide, rfl, fkX3_9, rfl, rfl, (fun _ => rfl)⟩
theorem fsX3_9 : xfs RX3 9 3 0 2 := ⟨_, _, _, _, xok3, by decide, rfl, fkX3_9⟩
theorem frX3_15 : xfr RX3 15 3 1 2 true (.array .int) := ⟨_, _, _, _, xok3, by decide, rfl, fkX3_15, rfl, rfl, (fun _ => rfl)⟩
theorem fsX3_15 : xfs RX3 15 3 1 2 := ⟨_, _, _, _, xok3, by decide, rfl, fkX3_15⟩
theorem frX3_19 : xfr RX3 19 3 2 0 false .int := ⟨_, _, _, _, xok3, by decide, rfl, fkX3_19, rfl, rfl, (fun _ => rfl)⟩
theorem fsX3_19 : xfs RX3 19 3 2 0 := ⟨_, _, _, _, xok3, by decide, rfl, fkX3_19⟩
theorem frX4_9 : xfr RX4 9 4 0 2 true (.array .int) := ⟨_, _, _, _, xok4, by decide, rfl, fkX4_9, rfl, rfl, (fun _ => rfl)⟩
theorem fsX4_9 : xfs RX4 9 4 0 2 := ⟨_, _, _, _, xok4, by decide, rfl, fkX4_9⟩
theorem frX4_15 : xfr RX4 15 4 1 2 true (.array .int) := ⟨_, _, _, _, xok4, by decide, rfl, fkX4_15, rfl, rfl, (fun _ => rfl)⟩
theorem fsX4_15 : xfs RX4 15 4 1 2 := ⟨_, _, _, _, xok4, by decide, rfl, fkX4_15⟩
theorem frX4_18 : xfr RX4 18 4 2 2 true (.array .int) := ⟨_, _, _, _, xok4, by decide, rfl, fkX4_18, rfl, rfl, (fun _ => rfl)⟩
theorem fsX4_18 : xfs RX4 18 4 2 2 := ⟨_, _, _, _, xok4, by decide, rfl, fkX4_18⟩
theorem frX4_21 : xfr RX4 21 4 3 2 true (.array .int) := ⟨_, _, _, _, xok4, by decide, rfl, fkX4_21, rfl, rfl, (fun _ => rfl)⟩
theorem fsX4_21 : xfs RX4 21 4 3 2 := ⟨_, _, _, _, xok4, by decide, rfl, fkX4_21⟩
theorem frX4_24 : xfr RX4 24 4 4 0 false .int := ⟨_, _, _, _, xok4, by decide, rfl, fkX4_24, rfl, rfl, (fun _ => rfl)⟩
theorem fsX4_24 : xfs RX4 24 4 4 0 := ⟨_, _, _, _, xok4, by decide, rfl, fkX4_24⟩
theorem frX4_47 : xfr RX4 47 1 2 2 false (.object "CrossedModules$Group") := ⟨_, _, _, _, xok1, by decide, rfl, fkX4_47, rfl, rfl, (fun h => by cases h)⟩
theorem fsX4_47 : xfs RX4 47 1 2 2 := ⟨_, _, _, _, xok1, by decide, rfl, fkX4_47⟩
theorem frX4_53 : xfr RX4 53 2 3 0 false .int := ⟨_, _, _, _, xok2, by decide, rfl, fkX4_53, rfl, rfl, (fun h => by cases h)⟩
theorem fsX4_53 : xfs RX4 53 2 3 0 := ⟨_, _, _, _, xok2, by decide, rfl, fkX4_53⟩
theorem frX4_64 : xfr RX4 64 1 1 2 false (.object "CrossedModules$Group") := ⟨_, _, _, _, xok1, by decide, rfl, fkX4_64, rfl, rfl, (fun h => by cases h)⟩
theorem fsX4_64 : xfs RX4 64 1 1 2 := ⟨_, _, _, _, xok1, by decide, rfl, fkX4_64⟩
theorem frX5_9 : xfr RX5 9 5 3 0 false .int := ⟨_, _, _, _, xok5, by decide, rfl, fkX5_9, rfl, rfl, (fun _ => rfl)⟩
theorem fsX5_9 : xfs RX5 9 5 3 0 := ⟨_, _, _, _, xok5, by decide, rfl, fkX5_9⟩
theorem frX5_15 : xfr RX5 15 5 0 2 true (.object "CrossedModules$Tokens") := ⟨_, _, _, _, xok5, by decide, rfl, fkX5_15, rfl, rfl, (fun _ => rfl)⟩
theorem fsX5_15 : xfs RX5 15 5 0 2 := ⟨_, _, _, _, xok5, by decide, rfl, fkX5_15⟩
theorem frX5_19 : xfr RX5 19 5 1 2 true (.object "CrossedModules$World") := ⟨_, _, _, _, xok5, by decide, rfl, fkX5_19, rfl, rfl, (fun _ => rfl)⟩
theorem fsX5_19 : xfs RX5 19 5 1 2 := ⟨_, _, _, _, xok5, by decide, rfl, fkX5_19⟩
theorem frX5_23 : xfr RX5 23 5 2 0 false .int := ⟨_, _, _, _, xok5, by decide, rfl, fkX5_23, rfl, rfl, (fun _ => rfl)⟩
theorem fsX5_23 : xfs RX5 23 5 2 0 := ⟨_, _, _, _, xok5, by decide, rfl, fkX5_23⟩
theorem frX5_26 : xfr RX5 26 6 2 0 false .int := ⟨_, _, _, _, xok6, by decide, rfl, fkX5_26, rfl, rfl, (fun h => by cases h)⟩
theorem fsX5_26 : xfs RX5 26 6 2 0 := ⟨_, _, _, _, xok6, by decide, rfl, fkX5_26⟩
theorem frX5_44 : xfr RX5 44 6 4 0 false .int := ⟨_, _, _, _, xok6, by decide, rfl, fkX5_44, rfl, rfl, (fun h => by cases h)⟩
theorem fsX5_44 : xfs RX5 44 6 4 0 := ⟨_, _, _, _, xok6, by decide, rfl, fkX5_44⟩
theorem fsX5_71 : xfs RX5 71 7 0 2 := ⟨_, _, _, _, xok7, by decide, rfl, fkX5_71⟩
theorem fsX5_81 : xfs RX5 81 7 3 2 := ⟨_, _, _, _, xok7, by decide, rfl, fkX5_81⟩
theorem frX5_85 : xfr RX5 85 3 2 0 false .int := ⟨_, _, _, _, xok3, by decide, rfl, fkX5_85, rfl, rfl, (fun h => by cases h)⟩
theorem fsX5_85 : xfs RX5 85 3 2 0 := ⟨_, _, _, _, xok3, by decide, rfl, fkX5_85⟩
theorem frX5_115 : xfr RX5 115 6 6 0 false .int := ⟨_, _, _, _, xok6, by decide, rfl, fkX5_115, rfl, rfl, (fun h => by cases h)⟩
theorem fsX5_115 : xfs RX5 115 6 6 0 := ⟨_, _, _, _, xok6, by decide, rfl, fkX5_115⟩
theorem frX5_137 : xfr RX5 137 2 3 0 false .int := ⟨_, _, _, _, xok2, by decide, rfl, fkX5_137, rfl, rfl, (fun h => by cases h)⟩
theorem fsX5_137 : xfs RX5 137 2 3 0 := ⟨_, _, _, _, xok2, by decide, rfl, fkX5_137⟩
theorem fsX5_144 : xfs RX5 144 7 1 2 := ⟨_, _, _, _, xok7, by decide, rfl, fkX5_144⟩
theorem fsX5_147 : xfs RX5 147 7 4 2 := ⟨_, _, _, _, xok7, by decide, rfl, fkX5_147⟩
theorem fsX5_155 : xfs RX5 155 1 3 2 := ⟨_, _, _, _, xok1, by decide, rfl, fkX5_155⟩
theorem frX5_167 : xfr RX5 167 1 2 2 false (.object "CrossedModules$Group") := ⟨_, _, _, _, xok1, by decide, rfl, fkX5_167, rfl, rfl, (fun h => by cases h)⟩
theorem fsX5_167 : xfs RX5 167 1 2 2 := ⟨_, _, _, _, xok1, by decide, rfl, fkX5_167⟩
theorem frX5_171 : xfr RX5 171 1 6 0 false .int := ⟨_, _, _, _, xok1, by decide, rfl, fkX5_171, rfl, rfl, (fun h => by cases h)⟩
theorem fsX5_171 : xfs RX5 171 1 6 0 := ⟨_, _, _, _, xok1, by decide, rfl, fkX5_171⟩
theorem fsX5_177 : xfs RX5 177 1 4 2 := ⟨_, _, _, _, xok1, by decide, rfl, fkX5_177⟩
theorem frX5_180 : xfr RX5 180 1 1 2 false (.object "CrossedModules$Group") := ⟨_, _, _, _, xok1, by decide, rfl, fkX5_180, rfl, rfl, (fun h => by cases h)⟩
theorem fsX5_180 : xfs RX5 180 1 1 2 := ⟨_, _, _, _, xok1, by decide, rfl, fkX5_180⟩
theorem fsX5_183 : xfs RX5 183 7 2 2 := ⟨_, _, _, _, xok7, by decide, rfl, fkX5_183⟩
theorem fsX5_186 : xfs RX5 186 7 5 2 := ⟨_, _, _, _, xok7, by decide, rfl, fkX5_186⟩
theorem frX5_190 : xfr RX5 190 0 0 2 false (.object "CrossedModules$Crossed") := ⟨_, _, _, _, xok0, by decide, rfl, fkX5_190, rfl, rfl, (fun h => by cases h)⟩
theorem fsX5_190 : xfs RX5 190 0 0 2 := ⟨_, _, _, _, xok0, by decide, rfl, fkX5_190⟩
theorem frX5_196 : xfr RX5 196 0 1 2 false (.object "CrossedModules$Crossed") := ⟨_, _, _, _, xok0, by decide, rfl, fkX5_196, rfl, rfl, (fun h => by cases h)⟩
theorem fsX5_196 : xfs RX5 196 0 1 2 := ⟨_, _, _, _, xok0, by decide, rfl, fkX5_196⟩
theorem fsX5_199 : xfs RX5 199 0 2 2 := ⟨_, _, _, _, xok0, by decide, rfl, fkX5_199⟩
theorem fsX5_202 : xfs RX5 202 0 3 2 := ⟨_, _, _, _, xok0, by decide, rfl, fkX5_202⟩
theorem frX5_208 : xfr RX5 208 6 5 1 false .long := ⟨_, _, _, _, xok6, by decide, rfl, fkX5_208, rfl, rfl, (fun h => by cases h)⟩
theorem fsX5_208 : xfs RX5 208 6 5 1 := ⟨_, _, _, _, xok6, by decide, rfl, fkX5_208⟩
theorem frX5_216 : xfr RX5 216 6 3 0 false .int := ⟨_, _, _, _, xok6, by decide, rfl, fkX5_216, rfl, rfl, (fun h => by cases h)⟩
theorem fsX5_216 : xfs RX5 216 6 3 0 := ⟨_, _, _, _, xok6, by decide, rfl, fkX5_216⟩
theorem frX6_9 : xfr RX6 9 6 0 2 true (.array .byte) := ⟨_, _, _, _, xok6, by decide, rfl, fkX6_9, rfl, rfl, (fun _ => rfl)⟩
theorem fsX6_9 : xfs RX6 9 6 0 2 := ⟨_, _, _, _, xok6, by decide, rfl, fkX6_9⟩
theorem frX6_15 : xfr RX6 15 6 1 0 true .int := ⟨_, _, _, _, xok6, by decide, rfl, fkX6_15, rfl, rfl, (fun _ => rfl)⟩
theorem fsX6_15 : xfs RX6 15 6 1 0 := ⟨_, _, _, _, xok6, by decide, rfl, fkX6_15⟩
theorem frX6_19 : xfr RX6 19 6 3 0 false .int := ⟨_, _, _, _, xok6, by decide, rfl, fkX6_19, rfl, rfl, (fun _ => rfl)⟩
theorem fsX6_19 : xfs RX6 19 6 3 0 := ⟨_, _, _, _, xok6, by decide, rfl, fkX6_19⟩
theorem frX6_26 : xfr RX6 26 6 2 0 false .int := ⟨_, _, _, _, xok6, by decide, rfl, fkX6_26, rfl, rfl, (fun _ => rfl)⟩
theorem fsX6_26 : xfs RX6 26 6 2 0 := ⟨_, _, _, _, xok6, by decide, rfl, fkX6_26⟩
theorem frX6_33 : xfr RX6 33 6 4 0 false .int := ⟨_, _, _, _, xok6, by decide, rfl, fkX6_33, rfl, rfl, (fun _ => rfl)⟩
theorem fsX6_33 : xfs RX6 33 6 4 0 := ⟨_, _, _, _, xok6, by decide, rfl, fkX6_33⟩
theorem frX6_44 : xfr RX6 44 6 5 1 false .long := ⟨_, _, _, _, xok6, by decide, rfl, fkX6_44, rfl, rfl, (fun _ => rfl)⟩
theorem fsX6_44 : xfs RX6 44 6 5 1 := ⟨_, _, _, _, xok6, by decide, rfl, fkX6_44⟩
theorem frX6_52 : xfr RX6 52 6 6 0 false .int := ⟨_, _, _, _, xok6, by decide, rfl, fkX6_52, rfl, rfl, (fun _ => rfl)⟩
theorem fsX6_52 : xfs RX6 52 6 6 0 := ⟨_, _, _, _, xok6, by decide, rfl, fkX6_52⟩
theorem frX7_14 : xfr RX7 14 7 0 2 true (.object "CrossedModules$Names") := ⟨_, _, _, _, xok7, by decide, rfl, fkX7_14, rfl, rfl, (fun _ => rfl)⟩
theorem fsX7_14 : xfs RX7 14 7 0 2 := ⟨_, _, _, _, xok7, by decide, rfl, fkX7_14⟩
theorem frX7_20 : xfr RX7 20 7 1 2 true (.object "CrossedModules$Names") := ⟨_, _, _, _, xok7, by decide, rfl, fkX7_20, rfl, rfl, (fun _ => rfl)⟩
theorem fsX7_20 : xfs RX7 20 7 1 2 := ⟨_, _, _, _, xok7, by decide, rfl, fkX7_20⟩
theorem frX7_23 : xfr RX7 23 7 2 2 true (.object "CrossedModules$Names") := ⟨_, _, _, _, xok7, by decide, rfl, fkX7_23, rfl, rfl, (fun _ => rfl)⟩
theorem fsX7_23 : xfs RX7 23 7 2 2 := ⟨_, _, _, _, xok7, by decide, rfl, fkX7_23⟩
theorem frX7_28 : xfr RX7 28 7 3 2 true (.array (.object "CrossedModules$Group")) := ⟨_, _, _, _, xok7, by decide, rfl, fkX7_28, rfl, rfl, (fun _ => rfl)⟩
theorem fsX7_28 : xfs RX7 28 7 3 2 := ⟨_, _, _, _, xok7, by decide, rfl, fkX7_28⟩
theorem frX7_34 : xfr RX7 34 7 4 2 true (.array (.object "CrossedModules$Crossed")) := ⟨_, _, _, _, xok7, by decide, rfl, fkX7_34, rfl, rfl, (fun _ => rfl)⟩
theorem fsX7_34 : xfs RX7 34 7 4 2 := ⟨_, _, _, _, xok7, by decide, rfl, fkX7_34⟩
theorem frX7_40 : xfr RX7 40 7 5 2 true (.array (.object "CrossedModules$Arrow")) := ⟨_, _, _, _, xok7, by decide, rfl, fkX7_40, rfl, rfl, (fun _ => rfl)⟩
theorem fsX7_40 : xfs RX7 40 7 5 2 := ⟨_, _, _, _, xok7, by decide, rfl, fkX7_40⟩
theorem frX7_44 : xfr RX7 44 7 6 2 true (.array .int) := ⟨_, _, _, _, xok7, by decide, rfl, fkX7_44, rfl, rfl, (fun _ => rfl)⟩
theorem fsX7_44 : xfs RX7 44 7 6 2 := ⟨_, _, _, _, xok7, by decide, rfl, fkX7_44⟩
theorem frX7_55 : xfr RX7 55 3 2 0 false .int := ⟨_, _, _, _, xok3, by decide, rfl, fkX7_55, rfl, rfl, (fun h => by cases h)⟩
theorem fsX7_55 : xfs RX7 55 3 2 0 := ⟨_, _, _, _, xok3, by decide, rfl, fkX7_55⟩
theorem frX7_72 : xfr RX7 72 1 7 0 false .int := ⟨_, _, _, _, xok1, by decide, rfl, fkX7_72, rfl, rfl, (fun h => by cases h)⟩
theorem fsX7_72 : xfs RX7 72 1 7 0 := ⟨_, _, _, _, xok1, by decide, rfl, fkX7_72⟩
theorem fsX7_90 : xfs RX7 90 1 0 0 := ⟨_, _, _, _, xok1, by decide, rfl, fkX7_90⟩
theorem frX7_103 : xfr RX7 103 0 0 2 false (.object "CrossedModules$Crossed") := ⟨_, _, _, _, xok0, by decide, rfl, fkX7_103, rfl, rfl, (fun h => by cases h)⟩
theorem fsX7_103 : xfs RX7 103 0 0 2 := ⟨_, _, _, _, xok0, by decide, rfl, fkX7_103⟩
theorem frX7_107 : xfr RX7 107 0 1 2 false (.object "CrossedModules$Crossed") := ⟨_, _, _, _, xok0, by decide, rfl, fkX7_107, rfl, rfl, (fun h => by cases h)⟩
theorem fsX7_107 : xfs RX7 107 0 1 2 := ⟨_, _, _, _, xok0, by decide, rfl, fkX7_107⟩
theorem fsX7_118 : xfs RX7 118 1 3 2 := ⟨_, _, _, _, xok1, by decide, rfl, fkX7_118⟩
theorem fsX7_127 : xfs RX7 127 1 4 2 := ⟨_, _, _, _, xok1, by decide, rfl, fkX7_127⟩
theorem fsX7_130 : xfs RX7 130 0 2 2 := ⟨_, _, _, _, xok0, by decide, rfl, fkX7_130⟩
theorem fsX7_133 : xfs RX7 133 0 3 2 := ⟨_, _, _, _, xok0, by decide, rfl, fkX7_133⟩
theorem frX9_7 : xfr RX9 7 9 0 0 true .int := ⟨_, _, _, _, xok9, by decide, rfl, fkX9_7, rfl, rfl, (fun _ => rfl)⟩
theorem fsX9_7 : xfs RX9 7 9 0 0 := ⟨_, _, _, _, xok9, by decide, rfl, fkX9_7⟩
theorem frX9_13 : xfr RX9 13 9 1 0 true .int := ⟨_, _, _, _, xok9, by decide, rfl, fkX9_13, rfl, rfl, (fun _ => rfl)⟩
theorem fsX9_13 : xfs RX9 13 9 1 0 := ⟨_, _, _, _, xok9, by decide, rfl, fkX9_13⟩
theorem frX9_16 : xfr RX9 16 9 2 2 true (.array .int) := ⟨_, _, _, _, xok9, by decide, rfl, fkX9_16, rfl, rfl, (fun _ => rfl)⟩
theorem fsX9_16 : xfs RX9 16 9 2 2 := ⟨_, _, _, _, xok9, by decide, rfl, fkX9_16⟩
theorem frX9_20 : xfr RX9 20 9 3 2 true (.array .int) := ⟨_, _, _, _, xok9, by decide, rfl, fkX9_20, rfl, rfl, (fun _ => rfl)⟩
theorem fsX9_20 : xfs RX9 20 9 3 2 := ⟨_, _, _, _, xok9, by decide, rfl, fkX9_20⟩
theorem frX10_7 : xfr RX10 7 20 0 2 true (.array .int) := ⟨_, _, _, _, xok20, by decide, rfl, fkX10_7, rfl, rfl, (fun _ => rfl)⟩
theorem fsX10_7 : xfs RX10 7 20 0 2 := ⟨_, _, _, _, xok20, by decide, rfl, fkX10_7⟩
theorem frX10_13 : xfr RX10 13 20 1 0 false .int := ⟨_, _, _, _, xok20, by decide, rfl, fkX10_13, rfl, rfl, (fun _ => rfl)⟩
theorem fsX10_13 : xfs RX10 13 20 1 0 := ⟨_, _, _, _, xok20, by decide, rfl, fkX10_13⟩
theorem frX11_7 : xfr RX11 7 21 0 0 true .int := ⟨_, _, _, _, xok21, by decide, rfl, fkX11_7, rfl, rfl, (fun _ => rfl)⟩
theorem fsX11_7 : xfs RX11 7 21 0 0 := ⟨_, _, _, _, xok21, by decide, rfl, fkX11_7⟩
theorem frX11_13 : xfr RX11 13 21 1 0 true .int := ⟨_, _, _, _, xok21, by decide, rfl, fkX11_13, rfl, rfl, (fun _ => rfl)⟩
theorem fsX11_13 : xfs RX11 13 21 1 0 := ⟨_, _, _, _, xok21, by decide, rfl, fkX11_13⟩
theorem frX11_16 : xfr RX11 16 21 2 2 true (.array (.array .int)) := ⟨_, _, _, _, xok21, by decide, rfl, fkX11_16, rfl, rfl, (fun _ => rfl)⟩
theorem fsX11_16 : xfs RX11 16 21 2 2 := ⟨_, _, _, _, xok21, by decide, rfl, fkX11_16⟩
theorem frX11_20 : xfr RX11 20 21 3 2 true (.array (.array .int)) := ⟨_, _, _, _, xok21, by decide, rfl, fkX11_20, rfl, rfl, (fun _ => rfl)⟩
theorem fsX11_20 : xfs RX11 20 21 3 2 := ⟨_, _, _, _, xok21, by decide, rfl, fkX11_20⟩
theorem frX11_23 : xfr RX11 23 21 5 2 true (.array .int) := ⟨_, _, _, _, xok21, by decide, rfl, fkX11_23, rfl, rfl, (fun _ => rfl)⟩
theorem fsX11_23 : xfs RX11 23 21 5 2 := ⟨_, _, _, _, xok21, by decide, rfl, fkX11_23⟩
theorem frX11_28 : xfr RX11 28 21 4 2 true (.array (.array .int)) := ⟨_, _, _, _, xok21, by decide, rfl, fkX11_28, rfl, rfl, (fun _ => rfl)⟩
theorem fsX11_28 : xfs RX11 28 21 4 2 := ⟨_, _, _, _, xok21, by decide, rfl, fkX11_28⟩
theorem frX12_14 : xfr RX12 14 22 0 2 true (.object "java/lang/StringBuilder") := ⟨_, _, _, _, xok22, by decide, rfl, fkX12_14, rfl, rfl, (fun _ => rfl)⟩
theorem fsX12_14 : xfs RX12 14 22 0 2 := ⟨_, _, _, _, xok22, by decide, rfl, fkX12_14⟩
theorem frX12_22 : xfr RX12 22 22 1 2 true (.array (.array (.array .int))) := ⟨_, _, _, _, xok22, by decide, rfl, fkX12_22, rfl, rfl, (fun _ => rfl)⟩
theorem fsX12_22 : xfs RX12 22 22 1 2 := ⟨_, _, _, _, xok22, by decide, rfl, fkX12_22⟩
theorem frX12_28 : xfr RX12 28 22 2 2 true (.array (.object "CrossedModulesLaw$Module")) := ⟨_, _, _, _, xok22, by decide, rfl, fkX12_28, rfl, rfl, (fun _ => rfl)⟩
theorem fsX12_28 : xfs RX12 28 22 2 2 := ⟨_, _, _, _, xok22, by decide, rfl, fkX12_28⟩
theorem frX12_34 : xfr RX12 34 22 3 2 true (.array (.object "CrossedModulesLaw$Arrow")) := ⟨_, _, _, _, xok22, by decide, rfl, fkX12_34, rfl, rfl, (fun _ => rfl)⟩
theorem fsX12_34 : xfs RX12 34 22 3 2 := ⟨_, _, _, _, xok22, by decide, rfl, fkX12_34⟩
theorem frX12_38 : xfr RX12 38 22 4 2 true (.array .int) := ⟨_, _, _, _, xok22, by decide, rfl, fkX12_38, rfl, rfl, (fun _ => rfl)⟩
theorem fsX12_38 : xfs RX12 38 22 4 2 := ⟨_, _, _, _, xok22, by decide, rfl, fkX12_38⟩
theorem frX12_64 : xfr RX12 64 22 5 0 false .int := ⟨_, _, _, _, xok22, by decide, rfl, fkX12_64, rfl, rfl, (fun _ => rfl)⟩
theorem fsX12_64 : xfs RX12 64 22 5 0 := ⟨_, _, _, _, xok22, by decide, rfl, fkX12_64⟩
theorem frX12_104 : xfr RX12 104 22 6 0 false .int := ⟨_, _, _, _, xok22, by decide, rfl, fkX12_104, rfl, rfl, (fun _ => rfl)⟩
theorem fsX12_104 : xfs RX12 104 22 6 0 := ⟨_, _, _, _, xok22, by decide, rfl, fkX12_104⟩
theorem frX12_133 : xfr RX12 133 22 7 0 false .int := ⟨_, _, _, _, xok22, by decide, rfl, fkX12_133, rfl, rfl, (fun _ => rfl)⟩
theorem fsX12_133 : xfs RX12 133 22 7 0 := ⟨_, _, _, _, xok22, by decide, rfl, fkX12_133⟩
theorem frJ5_15 : xfr RJ5 15 23 0 2 false (.array .byte) := ⟨_, _, _, _, xok23, by decide, rfl, fkJ5_15, rfl, rfl, (fun _ => rfl)⟩
theorem fsJ5_15 : xfs RJ5 15 23 0 2 := ⟨_, _, _, _, xok23, by decide, rfl, fkJ5_15⟩
theorem frJ5_22 : xfr RJ5 22 23 1 0 false .byte := ⟨_, _, _, _, xok23, by decide, rfl, fkJ5_22, rfl, rfl, (fun _ => rfl)⟩
theorem fsJ5_22 : xfs RJ5 22 23 1 0 := ⟨_, _, _, _, xok23, by decide, rfl, fkJ5_22⟩
theorem frJ5_79 : xfr RJ5 79 23 3 0 false .int := ⟨_, _, _, _, xok23, by decide, rfl, fkJ5_79, rfl, rfl, (fun _ => rfl)⟩
theorem fsJ5_79 : xfs RJ5 79 23 3 0 := ⟨_, _, _, _, xok23, by decide, rfl, fkJ5_79⟩
theorem frJ0_9 : xfr RJ0 9 24 0 2 true (.array .byte) := ⟨_, _, _, _, xok24, by decide, rfl, fkJ0_9, rfl, rfl, (fun _ => rfl)⟩
theorem fsJ0_9 : xfs RJ0 9 24 0 2 := ⟨_, _, _, _, xok24, by decide, rfl, fkJ0_9⟩
theorem frJ0_15 : xfr RJ0 15 24 1 0 true .byte := ⟨_, _, _, _, xok24, by decide, rfl, fkJ0_15, rfl, rfl, (fun _ => rfl)⟩
theorem fsJ0_15 : xfs RJ0 15 24 1 0 := ⟨_, _, _, _, xok24, by decide, rfl, fkJ0_15⟩
theorem frJ0_1048 : xfr RJ0 1048 23 2 0 false .boolean := ⟨_, _, _, _, xok23, by decide, rfl, fkJ0_1048, rfl, rfl, (fun h => by cases h)⟩
theorem fsJ0_1048 : xfs RJ0 1048 23 2 0 := ⟨_, _, _, _, xok23, by decide, rfl, fkJ0_1048⟩
/-- a field of a nest mate, read -/
def xfn (own : String) (idx ci k t : Nat) : Prop := ∃ (C : String) (T : u_T) (N : Nat) (tyc : Nat → FieldType) (host : String), xok ci C T N tyc ∧ k < N ∧ (xft ci)[k]? = some t ∧ (own, idx, (T k).1, (T k).2.1, (T k).2.2.1, host) ∈ xNeF
theorem fnL_156 : xfn RL 156 22 5 0 := ⟨_, _, _, _, _, xok22, by decide, rfl, List.mem_of_getElem? (i := 0) rfl⟩
theorem fnL_162 : xfn RL 162 22 6 0 := ⟨_, _, _, _, _, xok22, by decide, rfl, List.mem_of_getElem? (i := 1) rfl⟩
theorem fnL_165 : xfn RL 165 22 7 0 := ⟨_, _, _, _, _, xok22, by decide, rfl, List.mem_of_getElem? (i := 2) rfl⟩
theorem fnL_172 : xfn RL 172 22 2 2 := ⟨_, _, _, _, _, xok22, by decide, rfl, List.mem_of_getElem? (i := 3) rfl⟩
theorem fnL_176 : xfn RL 176 21 5 2 := ⟨_, _, _, _, _, xok21, by decide, rfl, List.mem_of_getElem? (i := 4) rfl⟩
theorem fnL_180 : xfn RL 180 21 4 2 := ⟨_, _, _, _, _, xok21, by decide, rfl, List.mem_of_getElem? (i := 5) rfl⟩
theorem fnL_183 : xfn RL 183 22 3 2 := ⟨_, _, _, _, _, xok22, by decide, rfl, List.mem_of_getElem? (i := 6) rfl⟩
theorem fnL_187 : xfn RL 187 9 2 2 := ⟨_, _, _, _, _, xok9, by decide, rfl, List.mem_of_getElem? (i := 7) rfl⟩
theorem fnL_191 : xfn RL 191 9 3 2 := ⟨_, _, _, _, _, xok9, by decide, rfl, List.mem_of_getElem? (i := 8) rfl⟩
theorem fnL_193 : xfn RL 193 22 4 2 := ⟨_, _, _, _, _, xok22, by decide, rfl, List.mem_of_getElem? (i := 9) rfl⟩
theorem fnL_209 : xfn RL 209 21 0 0 := ⟨_, _, _, _, _, xok21, by decide, rfl, List.mem_of_getElem? (i := 10) rfl⟩
theorem fnL_212 : xfn RL 212 21 1 0 := ⟨_, _, _, _, _, xok21, by decide, rfl, List.mem_of_getElem? (i := 11) rfl⟩
theorem fnL_223 : xfn RL 223 9 1 0 := ⟨_, _, _, _, _, xok9, by decide, rfl, List.mem_of_getElem? (i := 12) rfl⟩
theorem fnL_230 : xfn RL 230 22 1 2 := ⟨_, _, _, _, _, xok22, by decide, rfl, List.mem_of_getElem? (i := 13) rfl⟩
theorem fnL_321 : xfn RL 321 21 3 2 := ⟨_, _, _, _, _, xok21, by decide, rfl, List.mem_of_getElem? (i := 14) rfl⟩
theorem fnL_337 : xfn RL 337 22 0 2 := ⟨_, _, _, _, _, xok22, by decide, rfl, List.mem_of_getElem? (i := 15) rfl⟩
theorem fnX12_109 : xfn RX12 109 21 5 2 := ⟨_, _, _, _, _, xok21, by decide, rfl, List.mem_of_getElem? (i := 16) rfl⟩
theorem fnX12_116 : xfn RX12 116 21 4 2 := ⟨_, _, _, _, _, xok21, by decide, rfl, List.mem_of_getElem? (i := 17) rfl⟩
theorem fnX12_138 : xfn RX12 138 9 2 2 := ⟨_, _, _, _, _, xok9, by decide, rfl, List.mem_of_getElem? (i := 18) rfl⟩
theorem fnX12_141 : xfn RX12 141 9 3 2 := ⟨_, _, _, _, _, xok9, by decide, rfl, List.mem_of_getElem? (i := 19) rfl⟩
theorem xA_of {E : XG} {h : XH} {H : Heap} (hR : xR E h H) {a : Nat} (hk : xk h a ≠ 0 ∧ xk h a ≠ 27) (h7 : xk h a ≠ 27) : xA E a := (hR.2 a hk.1).1 h7
theorem xR.cell {E : XG} {h : XH} {H : Heap} (hR : xR E h H) {a : Nat} {e : va_E} (hk : xk h a ≠ 0 ∧ xk h a ≠ 27) (he : xen E h a = e) : va_at (eD E) vwCl (a, e) H := by rw [← he]; exact (hR.2 a hk.1).2.1 hk.2
section XMEM
variable {E : XG} {M : XM} {k u : Nat} {L : List (Option Value)} {st : List Value} {h : XH} {Q : XO → Prop}
theorem X_getV (pc : Nat) {a idx ci kk t : Nat} {own : String} {v : Value} (f : xfs own idx ci kk t) (ho : own = (mY M).cls) (hk : xk h a = ci + 1) (hv : xfv h a kk t = v) (d : decode (mC M) pc = .ok (.getfield idx, 3)) (kq : XW E M k u (pc + 3) L (v :: st) h Q) : XW E M k u pc L (.ref a :: st) h Q := by
  intro p e R s m args below meth c H locs cells slots ls F hR hS hl hc hs
  subst ho
  obtain ⟨C, T, N, tyc, ⟨o1, o2, o3, o4, o5, o6⟩, f1, f2, f3⟩ := f
  exact va_get F.1 F.2.1 (F.env.words o2 args) (fun w hw => hw) F.own F.env.2.1 (hR.at (by rw [hk]; exact ob27 o5 (by omega)) (xen_obj hk o5)) 0 rfl o1 kk f1 (F.env.word f3 args) (fun x hx => hx) (by rw [xfl_get h a _ 0 kk t f2, Nat.zero_add, hv]) d (kq p e R s m args below meth c H locs cells slots ls F hR hS hl hc hs)
theorem X_getI (pc : Nat) {a idx ci kk : Nat} {own : String} (f : xfs own idx ci kk 0) (ho : own = (mY M).cls) (hk : xk h a = ci + 1) (d : decode (mC M) pc = .ok (.getfield idx, 3)) (kq : XW E M k u (pc + 3) L (.int (xi h a kk) :: st) h Q) : XW E M k u pc L (.ref a :: st) h Q := X_getV pc f ho hk rfl d kq
theorem X_getJ (pc : Nat) {a idx ci kk : Nat} {own : String} (f : xfs own idx ci kk 1) (ho : own = (mY M).cls) (hk : xk h a = ci + 1) (d : decode (mC M) pc = .ok (.getfield idx, 3)) (kq : XW E M k u (pc + 3) L (.long (xj h a kk) :: st) h Q) : XW E M k u pc L (.ref a :: st) h Q := X_getV pc f ho hk rfl d kq
theorem X_getR (pc : Nat) {a w idx ci kk : Nat} {own : String} (f : xfs own idx ci kk 2) (ho : own = (mY M).cls) (hk : xk h a = ci + 1) (hw : xr h a kk = some w) (d : decode (mC M) pc = .ok (.getfield idx, 3)) (kq : XW E M k u (pc + 3) L (.ref w :: st) h Q) : XW E M k u pc L (.ref a :: st) h Q := X_getV pc f ho hk (by show va_rf _ = _; rw [hw]; rfl) d kq
/-- a field written: h' differs from h at that field alone -/
theorem X_putV (pc : Nat) {a idx ci kk t : Nat} {own : String} {fin : Bool} {ty : FieldType} {v : Value} {h' : XH} (f : xfr own idx ci kk t fin ty) (ho : own = (mY M).cls) (hi : fin = true → (mY M).name = "<init>") (hk : xk h a = ci + 1) (hn : narrow ty v = v) (hfit : fits ty v = true)
    (e0 : xt h' = xt h) (e1 : ∀ b, xk h' b = xk h b) (e2 : ∀ b, b ≠ a → xen E h' b = xen E h b) (e3 : xfv h' a kk t = v) (e4 : ∀ i t', i ≠ kk → xfv h' a i t' = xfv h a i t') (d : decode (mC M) pc = .ok (.putfield idx, 3)) (kq : XW E M k u (pc + 3) L st h' Q) : XW E M k u pc L (v :: .ref a :: st) h Q := by
  intro p e R s m args below meth c H locs cells slots ls F hR hS hl hc hs
  subst ho
  obtain ⟨C, T, N, tyc, ⟨o1, o2, o3, o4, o5, o6⟩, f1, f2, f3, f4, f5, f6⟩ := f
  have hk0 : xk h a ≠ 0 ∧ xk h a ≠ 27 := by rw [hk]; exact ob27 o5 (by omega)
  have hts := F.env.words o2 args
  have hap := va_apart (own := C) hts (fun w hw => hw) tyc o3 o4 F.env.2.1 o1
  obtain ⟨r, h1, cell, q1, q2, q3, q4⟩ := hR.cell hk0 (xen_obj hk o5)
  have hr : r = (C, T, N) := Option.some.inj (h1.symm.trans o1)
  subst hr
  obtain ⟨hSl, hfc, kC, hkC, hkind⟩ := F.env.2.1.1 ci _ o1
  obtain ⟨cf, kf, fi, fd, hfd, hsl⟩ := hSl kk f1
  have hlay := hts _ (u_in_lay f1)
  have hst := (u_facts hfc hkC (u_lays hts (fun w hw => hw) f1) hfd).1
  have hpd : parseFieldDescriptor (T kk).2.2.1 = some ty := by rw [← f5]; exact o3 kk f1
  have go : ∀ H' : Heap, H'[a]? = some (cell.setSlot fd.slot v) → H'.size = H.size → (∀ q, q ≠ a → H'[q]? = H[q]?) → W p (eL E) e R s m args below meth c H' (locs ++ [⟨a, fd.slot⟩]) cells slots (vx_MQ below (xQc E Q) (xXC E Q) args s R.cells R.slots (xA E)) (F0 m (pc + 3) ls st) := by
    intro H' g1 g2 g3
    rw [hsl] at g1
    refine kq p e R s m args below meth c H' _ cells slots ls F (hR.put hk0 g2 g3 ?_ e0 e1 e2) (hS.put g2 g3 (xA_of hR hk0 (by rw [hk]; intro q; change xob (ci + 1) = true at o5; rw [q] at o5; exact absurd o5 (by decide)))) hl hc hs
    rw [xen_obj (h := h') (by rw [e1]; exact hk) o5, ← xfl_set (h := h) (v := v) (xft ci) 0 kk t f2 (by rw [Nat.zero_add]; exact e3) (fun i t' _ hne => by rw [Nat.zero_add]; exact e4 i t' hne)]
    exact ⟨_, o1, t_OB.to (V := updV (vp_V (xfl h a (xft ci) 0)) kk v) ⟨_, g1, q2, q3, t_set q4 hap f1 v⟩ (fun j _ => vp_updV_set (by rw [xfl_len, ← o6]; exact f1) v j)⟩
  cases fin with
  | false =>
    unfold u_lay at hlay
    rw [if_neg (by rw [f4]; decide)] at hlay
    have h6 := u_store hfc hkC hkind hlay hfd hpd hn hfit
    exact W.putK F.1 F.2.1 (f := fd) ⟨F.own, F.env.word f3 args, ⟨_, _, _, hfd⟩, hst⟩ (by rw [q2]; exact h6) q1 q3 (by rw [hsl]; exact k2_hasslot (q4 kk f1)) rfl rfl d go
  | true =>
    unfold u_lay at hlay
    rw [if_pos f4] at hlay
    have hcf : m.cls = cf := by
      obtain ⟨_, _, c', _, _, _, -, -, hf', -, -, -, hown2, -⟩ := Cond.laysFinal_spec hlay
      have e1 : c' = cf := by have := hfd.symm.trans hf'; simp at this; exact this.1.symm
      rw [f6 rfl] at hown2
      rw [← e1]; exact Option.some.inj (F.own.symm.trans hown2)
    have h6 := u_fits hfc hkC hkind (Or.inr hlay) hfd hpd hn hfit
    exact W.putFinK F.1 F.2.1 F.own (F.env.word f3 args) hfd hst hcf (F.init.trans (hi rfl)) (by rw [q2]; exact h6) q1 q3 (by rw [hsl]; exact k2_hasslot (q4 kk f1)) rfl rfl d go
theorem xfv_yi (h : XH) (a kk : Nat) (x : Int32) : xfv (yi h a kk x) a kk 0 = .int x := by show Value.int (xi _ _ _) = _; rw [xi_yi, if_pos ⟨rfl, rfl⟩]
theorem xfv_yj (h : XH) (a kk : Nat) (x : Int64) : xfv (yj h a kk x) a kk 1 = .long x := by show Value.long (xj _ _ _) = _; rw [xj_yj, if_pos ⟨rfl, rfl⟩]
theorem xfv_yr (h : XH) (a kk : Nat) (x : Option Nat) : xfv (yr h a kk x) a kk 2 = va_rf x := by show va_rf (xr _ _ _) = _; rw [xr_yr, if_pos ⟨rfl, rfl⟩]
theorem xfv_ext {h h' : XH} {a i t : Nat} (e1 : xi h' a i = xi h a i) (e2 : xj h' a i = xj h a i) (e3 : xr h' a i = xr h a i) : xfv h' a i t = xfv h a i t := by unfold xfv; rw [e1, e2, e3]
theorem X_putI (pc : Nat) {a idx ci kk : Nat} {own : String} {fin : Bool} {x : Int32} (f : xfr own idx ci kk 0 fin .int) (ho : own = (mY M).cls) (hi : fin = true → (mY M).name = "<init>") (hk : xk h a = ci + 1) (d : decode (mC M) pc = .ok (.putfield idx, 3)) (kq : XW E M k u (pc + 3) L st (yi h a kk x) Q) : XW E M k u pc L (.int x :: .ref a :: st) h Q :=
  X_putV (h' := yi h a kk x) pc f ho hi hk rfl rfl rfl (fun _ => rfl) (fun b hb => xen_yi h a kk x hb) (xfv_yi h a kk x) (fun i t' hne => xfv_ext (by rw [xi_yi, if_neg (fun q => hne q.2)]) rfl rfl) d kq
theorem X_putZ (pc : Nat) {a idx ci kk : Nat} {own : String} {fin : Bool} {x : Int32} (hx : x = 0 ∨ x = 1) (f : xfr own idx ci kk 0 fin .boolean) (ho : own = (mY M).cls) (hi : fin = true → (mY M).name = "<init>") (hk : xk h a = ci + 1) (d : decode (mC M) pc = .ok (.putfield idx, 3)) (kq : XW E M k u (pc + 3) L st (yi h a kk x) Q) : XW E M k u pc L (.int x :: .ref a :: st) h Q :=
  X_putV (h' := yi h a kk x) pc f ho hi hk (by rcases hx with rfl | rfl <;> rfl) (by rcases hx with rfl | rfl <;> rfl) rfl (fun _ => rfl) (fun b hb => xen_yi h a kk x hb) (xfv_yi h a kk x) (fun i t' hne => xfv_ext (by rw [xi_yi, if_neg (fun q => hne q.2)]) rfl rfl) d kq
theorem X_putJ (pc : Nat) {a idx ci kk : Nat} {own : String} {fin : Bool} {x : Int64} (f : xfr own idx ci kk 1 fin .long) (ho : own = (mY M).cls) (hi : fin = true → (mY M).name = "<init>") (hk : xk h a = ci + 1) (d : decode (mC M) pc = .ok (.putfield idx, 3)) (kq : XW E M k u (pc + 3) L st (yj h a kk x) Q) : XW E M k u pc L (.long x :: .ref a :: st) h Q :=
  X_putV (h' := yj h a kk x) pc f ho hi hk rfl rfl rfl (fun _ => rfl) (fun b hb => xen_yj h a kk x hb) (xfv_yj h a kk x) (fun i t' hne => xfv_ext rfl (by rw [xj_yj, if_neg (fun q => hne q.2)]) rfl) d kq
theorem X_putR (pc : Nat) {a w idx ci kk : Nat} {own : String} {fin : Bool} {ty : FieldType} (f : xfr own idx ci kk 2 fin ty) (hty : ty.isReference = true) (ho : own = (mY M).cls) (hi : fin = true → (mY M).name = "<init>") (hk : xk h a = ci + 1) (d : decode (mC M) pc = .ok (.putfield idx, 3)) (kq : XW E M k u (pc + 3) L st (yr h a kk (some w)) Q) : XW E M k u pc L (.ref w :: .ref a :: st) h Q :=
  X_putV (h' := yr h a kk (some w)) pc f ho hi hk (by cases ty <;> first | rfl | cases hty) (by cases ty <;> first | rfl | cases hty) rfl (fun _ => rfl) (fun b hb => xen_yr h a kk (some w) hb) (xfv_yr h a kk (some w)) (fun i t' hne => xfv_ext rfl rfl (by rw [xr_yr, if_neg (fun q => hne q.2)])) d kq
-- arrays
theorem X_iald (pc : Nat) {a : Nat} {i : Int32} (hk : xk h a = 12) (hin : vp_in i (xn h a)) (d : decode (mC M) pc = .ok (.iaload, 1)) (kq : XW E M k u (pc + 1) L (.int (xi h a i.toNatClampNeg) :: st) h Q) : XW E M k u pc L (.int i :: .ref a :: st) h Q := by
  intro p e R s m args below meth c H locs cells slots ls F hR hS hl hc hs
  have hlt : i.toNatClampNeg < xn h a := Nat.not_le.mp fun q => hin (Or.inr q)
  have hat : H[a]? = some (vp_cell (eC E 12) (xn h a, .inl (xi h a))) := hR.cell (by rw [hk]; decide) (xen_int hk (by decide))
  exact W.iald (v := .int (xi h a i.toNatClampNeg)) F.1 F.2.1 hat ((F.env.2.1.2 1 _ rfl).1 (xn h a) (fun j => .int (xi h a j))) (fun q => by cases q) (by show ¬ (i < 0 ∨ (arrV _ _ _).slots.size ≤ _); rw [arrV_size]; exact hin) (by show (arrV _ _ _).slots[_]? = _; rw [arrV_read _ _ hlt]) rfl rfl d (kq p e R s m args below meth c H locs cells slots ls F hR hS hl hc hs)
theorem X_bald (pc : Nat) {a : Nat} {i : Int32} (hk : xk h a = 11) (hin : vp_in i (xn h a)) (d : decode (mC M) pc = .ok (.baload, 1)) (kq : XW E M k u (pc + 1) L (.int (xi h a i.toNatClampNeg) :: st) h Q) : XW E M k u pc L (.int i :: .ref a :: st) h Q := by
  intro p e R s m args below meth c H locs cells slots ls F hR hS hl hc hs
  have hlt : i.toNatClampNeg < xn h a := Nat.not_le.mp fun q => hin (Or.inr q)
  have hat : H[a]? = some (vp_cell (eC E 11) (xn h a, .inl (xi h a))) := hR.cell (by rw [hk]; decide) (xen_int hk (by decide))
  exact W.bald (v := .int (xi h a i.toNatClampNeg)) F.1 F.2.1 hat ((F.env.2.1.2 0 _ rfl).1 (xn h a) (fun j => .int (xi h a j))) (fun q => by cases q) (by show ¬ (i < 0 ∨ (arrV _ _ _).slots.size ≤ _); rw [arrV_size]; exact hin) (by show (arrV _ _ _).slots[_]? = _; rw [arrV_read _ _ hlt]) rfl rfl d (kq p e R s m args below meth c H locs cells slots ls F hR hS hl hc hs)
theorem X_lald (pc : Nat) {a : Nat} {i : Int32} (hk : xk h a = 13) (hin : vp_in i (xn h a)) (d : decode (mC M) pc = .ok (.laload, 1)) (kq : XW E M k u (pc + 1) L (.long (xj h a i.toNatClampNeg) :: st) h Q) : XW E M k u pc L (.int i :: .ref a :: st) h Q := by
  intro p e R s m args below meth c H locs cells slots ls F hR hS hl hc hs
  have hlt : i.toNatClampNeg < xn h a := Nat.not_le.mp fun q => hin (Or.inr q)
  have hat : H[a]? = some (vp_cell (eC E 13) (xn h a, .inr (.inl (xj h a)))) := hR.cell (by rw [hk]; decide) (xen_long hk)
  exact W.lald (v := .long (xj h a i.toNatClampNeg)) F.1 F.2.1 hat ((F.env.2.1.2 2 _ rfl).1 (xn h a) (fun j => .long (xj h a j))) (fun q => by cases q) (by show ¬ (i < 0 ∨ (arrV _ _ _).slots.size ≤ _); rw [arrV_size]; exact hin) (by show (arrV _ _ _).slots[_]? = _; rw [arrV_read _ _ hlt]) rfl rfl d (kq p e R s m args below meth c H locs cells slots ls F hR hS hl hc hs)
theorem X_aald (pc : Nat) {a w g t0 : Nat} {ty : FieldType} {i : Int32} (hk : xk h a = g) (hg : xog g) (ht : (xtys E)[t0]? = some (eC E g, ty)) (hty : ty.isReference = true) (hin : vp_in i (xn h a)) (hw : xr h a i.toNatClampNeg = some w) (d : decode (mC M) pc = .ok (.aaload, 1)) (kq : XW E M k u (pc + 1) L (.ref w :: st) h Q) : XW E M k u pc L (.int i :: .ref a :: st) h Q := by
  intro p e R s m args below meth c H locs cells slots ls F hR hS hl hc hs
  have hlt : i.toNatClampNeg < xn h a := Nat.not_le.mp fun q => hin (Or.inr q)
  have hat : H[a]? = some (vp_cell (eC E g) (xn h a, .inr (.inr (.inr (.inr (xr h a)))))) := hR.cell (by rw [hk]; exact ⟨(xog_of hg).2.2.2.2, (xog_of hg).2.2.1⟩) (xen_ref hk hg)
  exact W.aald (v := .ref w) F.1 F.2.1 hat ((F.env.2.1.2 t0 _ ht).1 (xn h a) (fun j => va_rf (xr h a j))) hty (fun q => by cases q) (by show ¬ (i < 0 ∨ (arrV _ _ _).slots.size ≤ _); rw [arrV_size]; exact hin) (by show (arrV _ _ _).slots[_]? = _; rw [arrV_read _ _ hlt, hw]; rfl) rfl rfl d (kq p e R s m args below meth c H locs cells slots ls F hR hS hl hc hs)
theorem X_iast (pc : Nat) {a : Nat} {i x : Int32} (hk : xk h a = 12) (hin : vp_in i (xn h a)) (d : decode (mC M) pc = .ok (.iastore, 1)) (kq : XW E M k u (pc + 1) L st (yi h a i.toNatClampNeg x) Q) : XW E M k u pc L (.int x :: .int i :: .ref a :: st) h Q := by
  intro p e R s m args below meth c H locs cells slots ls F hR hS hl hc hs
  have hk0 : xk h a ≠ 0 ∧ xk h a ≠ 27 := by rw [hk]; decide
  have hat : H[a]? = some (vp_cell (eC E 12) (xn h a, .inl (xi h a))) := hR.cell hk0 (xen_int hk (by decide))
  refine W.iast F.1 F.2.1 hat ((F.env.2.1.2 1 _ rfl).1 (xn h a) (fun j => .int (xi h a j))) (fun q => by cases q) (by show ¬ (i < 0 ∨ (arrV _ _ _).slots.size ≤ _); rw [arrV_size]; exact hin) rfl rfl d fun H1 e1 z oq => ?_
  refine kq p e R s m args below meth c H1 _ cells slots ls F (hR.put hk0 z oq ?_ rfl (fun _ => rfl) (fun b hb => xen_yi h a _ _ hb)) (hS.put z oq (xA_of hR hk0 (by rw [hk]; decide))) hl hc hs
  rw [xen_int (h := yi h a i.toNatClampNeg x) (a := a) (g := 12) hk (by decide)]
  show H1[a]? = some (vp_cell _ _)
  rw [e1, vp_cell_i, vp_cell_i, arrV_store, xn_yi]
  congr 2
  funext q
  show _ = Value.int (xi _ _ _)
  by_cases hq : q = i.toNatClampNeg
  · subst hq
    simp [updV, xi_yi]
    try rfl
  · simp [updV, xi_yi, hq]
theorem X_bast (pc : Nat) {a : Nat} {i x : Int32} (hk : xk h a = 11) (hin : vp_in i (xn h a)) (d : decode (mC M) pc = .ok (.bastore, 1)) (kq : XW E M k u (pc + 1) L st (yi h a i.toNatClampNeg (vp_nar .byte x)) Q) : XW E M k u pc L (.int x :: .int i :: .ref a :: st) h Q := by
  intro p e R s m args below meth c H locs cells slots ls F hR hS hl hc hs
  have hk0 : xk h a ≠ 0 ∧ xk h a ≠ 27 := by rw [hk]; decide
  have hat : H[a]? = some (vp_cell (eC E 11) (xn h a, .inl (xi h a))) := hR.cell hk0 (xen_int hk (by decide))
  refine W.bast F.1 F.2.1 hat ((F.env.2.1.2 0 _ rfl).1 (xn h a) (fun j => .int (xi h a j))) (fun q => by cases q) (by show ¬ (i < 0 ∨ (arrV _ _ _).slots.size ≤ _); rw [arrV_size]; exact hin) rfl rfl d fun H1 e1 z oq => ?_
  refine kq p e R s m args below meth c H1 _ cells slots ls F (hR.put hk0 z oq ?_ rfl (fun _ => rfl) (fun b hb => xen_yi h a _ _ hb)) (hS.put z oq (xA_of hR hk0 (by rw [hk]; decide))) hl hc hs
  rw [xen_int (h := yi h a i.toNatClampNeg (vp_nar .byte x)) (a := a) (g := 11) hk (by decide)]
  show H1[a]? = some (vp_cell _ _)
  rw [e1, vp_cell_i, vp_cell_i, arrV_store, xn_yi]
  congr 2
  funext q
  show _ = Value.int (xi _ _ _)
  by_cases hq : q = i.toNatClampNeg
  · subst hq
    simp [updV, xi_yi, vp_nar]
    try rfl
  · simp [updV, xi_yi, hq]
theorem X_last (pc : Nat) {a : Nat} {i : Int32} {x : Int64} (hk : xk h a = 13) (hin : vp_in i (xn h a)) (d : decode (mC M) pc = .ok (.lastore, 1)) (kq : XW E M k u (pc + 1) L st (yj h a i.toNatClampNeg x) Q) : XW E M k u pc L (.long x :: .int i :: .ref a :: st) h Q := by
  intro p e R s m args below meth c H locs cells slots ls F hR hS hl hc hs
  have hk0 : xk h a ≠ 0 ∧ xk h a ≠ 27 := by rw [hk]; decide
  have hat : H[a]? = some (vp_cell (eC E 13) (xn h a, .inr (.inl (xj h a)))) := hR.cell hk0 (xen_long hk)
  refine W.last F.1 F.2.1 hat ((F.env.2.1.2 2 _ rfl).1 (xn h a) (fun j => .long (xj h a j))) (fun q => by cases q) (by show ¬ (i < 0 ∨ (arrV _ _ _).slots.size ≤ _); rw [arrV_size]; exact hin) rfl rfl d fun H1 e1 z oq => ?_
  refine kq p e R s m args below meth c H1 _ cells slots ls F (hR.put hk0 z oq ?_ rfl (fun _ => rfl) (fun b hb => xen_yj h a _ _ hb)) (hS.put z oq (xA_of hR hk0 (by rw [hk]; decide))) hl hc hs
  rw [xen_long (h := yj h a i.toNatClampNeg x) (a := a) hk]
  show H1[a]? = some (vp_cell _ _)
  rw [e1, vp_cell_l, vp_cell_l, arrV_store, xn_yj]
  congr 2
  funext q
  show _ = Value.long (xj _ _ _)
  by_cases hq : q = i.toNatClampNeg
  · subst hq
    simp [updV, xj_yj]
  · simp [updV, xj_yj, hq]
theorem X_aast (pc : Nat) {a v g t0 ci : Nat} {r : vw_C} {i : Int32} (hk : xk h a = g) (hg : xog g) (ht : (xtys E)[t0]? = some (eC E g, .object r.1)) (hc : vwCl[ci]? = some r) (hci : xoc ci) (hkv : xk h v = ci + 1) (hin : vp_in i (xn h a)) (d : decode (mC M) pc = .ok (.aastore, 1)) (kq : XW E M k u (pc + 1) L st (yr h a i.toNatClampNeg (some v)) Q) : XW E M k u pc L (.ref v :: .int i :: .ref a :: st) h Q := by
  intro p e R s m args below meth c H locs cells slots ls F hR hS hl hc' hs
  have hk0 : xk h a ≠ 0 ∧ xk h a ≠ 27 := by rw [hk]; exact ⟨(xog_of hg).2.2.2.2, (xog_of hg).2.2.1⟩
  have hlt : i.toNatClampNeg < xn h a := Nat.not_le.mp fun q => hin (Or.inr q)
  have h0 : ¬ i < 0 := fun q => hin (Or.inl q)
  have hat : H[a]? = some (vp_cell (eC E g) (xn h a, .inr (.inr (.inr (.inr (xr h a)))))) := hR.cell hk0 (xen_ref hk hg)
  obtain ⟨r', hr', cellV, g1, g2, g3, -⟩ := hR.cell (a := v) (by rw [hkv]; exact ob27 hci (by omega)) (xen_obj hkv hci)
  have hcls := (F.env.2.1.1 ci r hc).2
  obtain ⟨kA, comp, k1, k2, k3, -⟩ := (F.env.2.1.2 t0 _ ht).2
  have hcomp : comp = (eD E).1 ci := Option.some.inj (k3.symm.trans hcls.1)
  subst hcomp
  obtain ⟨kC, hkC, -⟩ := hcls.2
  refine W.aast F.1 F.2.1 hat (fun q h => by cases h) (fun h => by cases h) k1 k2 rfl hkC ⟨h0, by show _ < (arrV _ _ _).slots.size; rw [arrV_size]; exact hlt⟩ g1 (fun q h => by rw [g3] at h; cases h) (by rw [g2]; exact hkC) (by rw [g2]; exact va_assign hcls) rfl rfl d fun H1 e1 z oq => ?_
  refine kq p e R s m args below meth c H1 _ cells slots ls F (hR.put hk0 z oq ?_ rfl (fun _ => rfl) (fun b hb => xen_yr h a _ _ hb)) (hS.put z oq (xA_of hR hk0 (by rw [hk]; exact (xog_of hg).2.2.1))) hl hc' hs
  rw [xen_ref (h := yr h a i.toNatClampNeg (some v)) (a := a) (g := g) hk hg]
  show H1[a]? = some (vp_cell _ _)
  rw [e1, vp_cell_q, vp_cell_q, arrV_store, xn_yr]
  congr 2
  funext q
  show _ = va_rf (xr _ _ _)
  by_cases hq : q = i.toNatClampNeg
  · subst hq
    simp [updV, xr_yr, va_rf]
  · simp [updV, xr_yr, hq]
theorem X_alen (pc : Nat) {a : Nat} {g t0 : Nat} {ty : FieldType} (hk : xk h a = g) (hg : (11 ≤ g ∧ g ≤ 20) ∨ g = 26) (ht : (xtys E)[t0]? = some (eC E g, ty)) (d : decode (mC M) pc = .ok (.arraylength, 1)) (kq : XW E M k u (pc + 1) L (.int (Int32.ofNat (xn h a)) :: st) h Q) : XW E M k u pc L (.ref a :: st) h Q := by
  intro p e R s m args below meth c H locs cells slots ls F hR hS hl hc hs
  have hen : ∃ x : vp_A, xen E h a = .inl (eC E g, x) ∧ x.1 = xn h a := by
    have g1 : g = 11 ∨ g = 12 ∨ g = 14 ∨ g = 13 ∨ xog g := by unfold xog; omega
    rcases g1 with e | e | e | e | e
    · exact ⟨_, xen_int hk (by omega), rfl⟩
    · exact ⟨_, xen_int hk (by omega), rfl⟩
    · exact ⟨_, xen_int hk (by omega), rfl⟩
    · subst e; exact ⟨_, xen_long hk, rfl⟩
    · exact ⟨_, xen_ref hk e, rfl⟩
  obtain ⟨x, e1, e2⟩ := hen
  exact va_alen F.1 F.2.1 F.env.2.1 (hR.at (by rw [hk]; omega) e1) 0 t0 rfl ht (by rw [e2]) d (kq p e R s m args below meth c H locs cells slots ls F hR hS hl hc hs)
theorem xR.base {E : XG} {s : State} {h : XH} {H : Heap} {locs : List Loc} (hS : va_S (xA E) s.heap H locs) (hB : eB E ≤ s.heap.size) : eB E ≤ H.size := Nat.le_trans hB hS.1
end XMEM
