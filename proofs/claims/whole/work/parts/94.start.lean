/-! The start, in a package. -/
set_option linter.unusedVariables false
theorem len_sm : ∀ i, i < nJS → lenJS.getD i 0 < 2 ^ 31 := by decide
theorem arr_p {args : Array Value} {s : State} {ty : FieldType} (h : (Cond.arrayClass ty).before args s = true) : ∃ cA, ArrOfT s cA ty ∧ s.vm.findClass ("[" ++ ty.toString) = some cA := by
  obtain ⟨cA, kA, comp, h1, h2, h3⟩ := Cond.arrayClass_spec (args := args) (first := s) (o := none) (s := s) (idx := []) h
  exact ⟨cA, fun n z => ⟨fun k h => (by cases h), kA, h2, comp, h3⟩, h1⟩
theorem arr_o {args : Array Value} {s : State} {C : String} (h : (Cond.arrayOver (.object C)).before args s = true) : ∃ cA, ArrOfT s cA (.object C) ∧ va_RA s cA (.object C) := by
  obtain ⟨comp, cA, kA, h1, -, h3, h4, h5⟩ := Cond.arrayOver_spec (args := args) (first := s) (o := none) (s := s) (idx := []) h
  exact ⟨cA, fun n z => ⟨fun k h => (by cases h), kA, h3, comp, h4⟩, kA, comp, h3, h4, h1, h5⟩
theorem arr_a {args : Array Value} {s : State} {t : FieldType} (h : (Cond.arrayOver (.array t)).before args s = true) : ∃ cA, ArrOfT s cA (.array t) ∧ s.vm.findClass ("[" ++ (FieldType.array t).toString) = some cA := by
  obtain ⟨comp, cA, kA, h1, h3, h4, h5⟩ := Cond.arrayOver_specA (args := args) (first := s) (o := none) (s := s) (idx := []) h
  exact ⟨cA, fun n z => ⟨fun k h => (by cases h), kA, h3, comp, h4⟩, h5⟩
section START
variable {s : State} {b : Nat}
theorem st_cls (hts : ∀ w ∈ lw_tbl, w.before #[Value.ref b] s = true) : ∃ D : va_G, ∀ (c : Nat) (q : vw_C), vwCl[c]? = some q → u_Kn s q.1 q.2.1 q.2.2 (D.1 c) (D.2 c) := by
  have h : ∀ c : Nat, ∃ x : ClassId × (Nat → Nat), ∀ q : vw_C, vwCl[c]? = some q → u_Kn s q.1 q.2.1 q.2.2 x.1 x.2 := by
    have one : ∀ {ci : Nat} {C : String} {T : u_T} {N : Nat} {tyc : Nat → FieldType}, xok ci C T N tyc → xIn (.instantiable C N) → ∃ x : ClassId × (Nat → Nat), ∀ q : vw_C, vwCl[ci]? = some q → u_Kn s q.1 q.2.1 q.2.2 x.1 x.2 := fun ok hi => by
      obtain ⟨cC, iS, hK⟩ := u_known hts (fun w hw => (ok.2.1 w hw).1) (hts _ hi.1)
      refine ⟨(cC, iS), fun q hq => ?_⟩
      rw [ok.1] at hq
      cases hq
      exact hK
    intro c
    match c with
    | 0 => exact one xok0 inst0
    | 1 => exact one xok1 inst1
    | 2 => exact one xok2 inst2
    | 3 => exact one xok3 inst3
    | 4 => exact one xok4 inst4
    | 5 => exact one xok5 inst5
    | 6 => exact one xok6 inst6
    | 7 => exact one xok7 inst7
    | 8 => exact one xok8 inst8
    | 9 => exact one xok9 inst9
    | c + 10 => exact ⟨(0, fun _ => 0), fun q hq => by simp [vwCl] at hq⟩
  obtain ⟨f, hf⟩ := Classical.axiomOfChoice h
  exact ⟨(fun c => (f c).1, fun c => (f c).2), fun c q hq => hf c q hq⟩
theorem st_str {A : Nat → Prop} (sc : ∀ i, i < nJS → SC s b i) (hA : ∀ a : Nat, a < s.heap.size → ¬ A a) : ∃ K V : Nat → Nat, ∀ i, i < nJS → (Term.string (ownJS i) (idxJS i)).eval #[Value.ref b] s none [] s = some (.ref (K i)) ∧ va_O "java/lang/String" (K i) A s s.heap ∧ va_OF "java/lang/String" "coder" "B" (.int 0) (K i) A s s.heap ∧ va_OF "java/lang/String" "value" "[B" (.ref (V i)) (K i) A s s.heap ∧ va_T .byte (V i) (lenJS.getD i 0) (fun j => .int ((bytJS.getD i []).getD j 0)) A s s.heap := by
  have h0 : ∀ i : Nat, ∃ q : Nat × Nat, i < nJS → (Term.string (ownJS i) (idxJS i)).eval #[Value.ref b] s none [] s = some (.ref q.1) ∧ va_O "java/lang/String" q.1 A s s.heap ∧ va_OF "java/lang/String" "coder" "B" (.int 0) q.1 A s s.heap ∧ va_OF "java/lang/String" "value" "[B" (.ref q.2) q.1 A s s.heap ∧ va_T .byte q.2 (lenJS.getD i 0) (fun j => .int ((bytJS.getD i []).getD j 0)) A s s.heap := by
    intro i
    by_cases hi : i < nJS
    · obtain ⟨c1, c2, c3, c4, c5⟩ := sc i hi
      obtain ⟨a, -, -, -, q1, -⟩ := Cond.exactly_spec (args := #[Value.ref b]) (first := s) (o := none) (s := s) (idx := []) c1
      obtain ⟨t, ht, hT⟩ := va_Tof (f := fun j => .int ((bytJS.getD i []).getD j 0)) (A := A) (len_sm i hi) c3 (va_eqt c4) (fun j hj => va_eqt (c5 j hj)) hA
      exact ⟨(a, t), fun _ => ⟨q1, va_Oof c1 q1 hA, vk_OFof q1 (va_eqt c2) hA, vk_OFof q1 ht hA, hT⟩⟩
    · exact ⟨(0, 0), fun h => absurd h hi⟩
  obtain ⟨f, hf⟩ := Classical.axiomOfChoice h0
  exact ⟨fun i => (f i).1, fun i => (f i).2, hf⟩
theorem st_env (l : Launch) (hl : l.stackTraces = false) (L : Nat) (xs : Nat → Int32) (hts : ∀ w ∈ lw_tbl, w.before #[Value.ref b] s = true) (hgv : (Jvm.Cond.and given_1 narrow_1).before #[Value.ref b] s = true) : ∃ E : XG, eL E = l ∧ eB E = s.heap.size ∧ eS E = b ∧ eN E = L ∧ eX E = xs ∧ xE E s ∧ xZ E s s.heap := by
  have hs := flat_of_before _ hgv
  have hA : ∀ a : Nat, a < s.heap.size → ¬ (fun q : Nat => s.heap.size ≤ q) a := fun a h => Nat.not_le.mpr h
  obtain ⟨D, hD⟩ := st_cls hts
  obtain ⟨c11, g11, f11⟩ := arr_p (hts _ ar11.1)
  obtain ⟨c12, g12, f12⟩ := arr_p (hts _ ar12.1)
  obtain ⟨c13, g13, f13⟩ := arr_p (hts _ ar13.1)
  obtain ⟨c14, g14, f14⟩ := arr_p (hts _ ar14.1)
  have ao0 : (Cond.arrayOver (.object RX0)).before #[Value.ref b] s = true := hts _ (List.mem_of_getElem? (i := 158) (by decide +kernel))
  have ao1 : (Cond.arrayOver (.object RX1)).before #[Value.ref b] s = true := hts _ (List.mem_of_getElem? (i := 156) (by decide +kernel))
  have ao2 : (Cond.arrayOver (.object RX2)).before #[Value.ref b] s = true := hts _ (List.mem_of_getElem? (i := 154) (by decide +kernel))
  have aoa : (Cond.arrayOver (.array .int)).before #[Value.ref b] s = true := hts _ (List.mem_of_getElem? (i := 325) (by decide +kernel))
  obtain ⟨c15, g15, f15⟩ := arr_o ao0
  obtain ⟨c16, g16, f16⟩ := arr_o ao1
  obtain ⟨c17, g17, f17⟩ := arr_o ao2
  obtain ⟨c18, g18, f18⟩ := arr_a aoa
  obtain ⟨K, V, hK⟩ := st_str (A := fun q => s.heap.size ≤ q) (sc_all hs) hA
  let C : Nat → ClassId := fun g => match g with
    | 11 => c11
    | 12 => c12
    | 13 => c13
    | 14 => c14
    | 15 => c15
    | 16 => c16
    | 17 => c17
    | _ => c18
  refine ⟨(l, D, C, s.heap.size, (b, L, xs), K, V), rfl, rfl, rfl, rfl, rfl, ?_, ?_⟩
  · refine ⟨fun w hw => word_at (State.WarmedH.refl s) (good_of_word hw.2) (hts w hw.1), ⟨hD, fun k q hq => ?_⟩, ⟨fun q hq => hts _ (ne_all q hq), fun x hx => hts _ (de_all x hx), fun i => hts _ (ca_all i), fun i j hij => va_Nc.of (hs _ (nc_all i j hij))⟩, ⟨va_AO.of ao0, va_AO.of ao1, va_AO.of ao2, aoa⟩, fun i hi => vk_R.of (A := #[Value.ref b]) (hts _ (sr_all i hi)) (hK i hi).1⟩
    match k, hq with
    | 0, hq => cases hq; exact ⟨g11, f11⟩
    | 1, hq => cases hq; exact ⟨g12, f12⟩
    | 2, hq => cases hq; exact ⟨g13, f13⟩
    | 3, hq => cases hq; exact ⟨g14, f14⟩
    | 4, hq => cases hq; exact ⟨g15, f15⟩
    | 5, hq => cases hq; exact ⟨g16, f16⟩
    | 6, hq => cases hq; exact ⟨g17, f17⟩
    | 7, hq => cases hq; exact ⟨g18, f18⟩
    | k + 8, hq => simp [xtys] at hq
  · exact ⟨vx_Zqof (hts _ (List.mem_of_getElem? (i := 432) (by decide +kernel))) (hts _ (List.mem_of_getElem? (i := 101) (by decide +kernel))) (hs _ (List.mem_of_getElem? (i := 4) (by decide +kernel))) hA, vx_Zqof (hts _ (List.mem_of_getElem? (i := 434) (by decide +kernel))) (hts _ (List.mem_of_getElem? (i := 101) (by decide +kernel))) (hs _ (List.mem_of_getElem? (i := 5) (by decide +kernel))) hA, fun i hi => (hK i hi).2, va_Zof (hts _ (List.mem_of_getElem? (i := 574) (by decide +kernel))) (hts _ (List.mem_of_getElem? (i := 108) (by decide +kernel))) (va_eqt (hs _ (List.mem_of_getElem? (i := 6) (by decide +kernel)))) hA, va_Zqof (hts _ (List.mem_of_getElem? (i := 590) (by decide +kernel))) (hts _ (List.mem_of_getElem? (i := 110) (by decide +kernel))) (hs _ (List.mem_of_getElem? (i := 7) (by decide +kernel))) hA⟩
end START
