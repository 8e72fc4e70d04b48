/-! The start, in a package. -/
set_option linter.unusedVariables false
theorem len_sm : ∀ i, i < nJS → lenJS.getD i 0 < 2 ^ 31 := by decide
theorem arr_p {args : Array Value} {s : State} {ty : FieldType} (h : (Cond.arrayClass ty).before args s = true) : ∃ cA, ArrOfT s cA ty ∧ s.vm.findClass ("[" ++ ty.toString) = some cA := by
  obtain ⟨cA, kA, comp, h1, h2, h3⟩ := Cond.arrayClass_spec (args := args) (first := s) (o := none) (s := s) (idx := []) h
  exact ⟨cA, fun n z => ⟨fun k h => (by cases h), kA, h2, comp, h3⟩, h1⟩
theorem arr_o {args : Array Value} {s : State} {C : String} (h : (Cond.arrayOver (.object C)).before args s = true) : ∃ cA, ArrOfT s cA (.object C) ∧ va_RA s cA (.object C) := by
  obtain ⟨comp, cA, kA, h1, -, h3, h4, h5⟩ := Cond.arrayOver_spec (args := args) (first := s) (o := none) (s := s) (idx := []) h
  exact ⟨cA, fun n z => ⟨fun k h => (by cases h), kA, h3, comp, h4⟩, kA, comp, h3, h4, h1, h5⟩
theorem arr_a {args : Array Value} {s : State} {t : FieldType} (h : (Cond.arrayOver (.array t)).before args s = true) : ∃ cA, ArrOfT s cA (.array t) ∧ s.vm.findClass ("[" ++ (FieldType.array t).toString) = some cA := by
  obtain ⟨comp, cA, kA, h1, h3, h4, h5⟩ := Cond.arrayOver_specA (args := args) (first := s) (o := none) (s := s) (idx := []) h
  exact ⟨cA, fun n z => ⟨fun k h => (by cases h), kA, h3, comp, h4⟩, h5⟩
section START
variable {s : State} {b : Nat}
theorem st_cls (hts : ∀ w ∈ lw_tbl, w.before #[Value.ref b] s = true) : ∃ D : va_G, ∀ (c : Nat) (q : vw_C), vwCl[c]? = some q → u_Kn s q.1 q.2.1 q.2.2 (D.1 c) (D.2 c) := by
  have h : ∀ c : Nat, ∃ x : ClassId × (Nat → Nat), ∀ q : vw_C, vwCl[c]? = some q → u_Kn s q.1 q.2.1 q.2.2 x.1 x.2 := by
    have one : ∀ {ci : Nat} {C : String} {T : u_T} {N : Nat} {tyc : Nat → FieldType}, xok ci C T N tyc → xIn (.instantiable C N) → ∃ x : ClassId × (Nat → Nat), ∀ q : vw_C, vwCl[ci]? = some q → u_Kn s q.1 q.2.1 q.2.2 x.1 x.2 := fun ok hi => by
      obtain ⟨cC, iS, hK⟩ := u_known hts (fun w hw => (ok.2.1 w hw).1) (hts _ hi.1)
      refine ⟨(cC, iS), fun q hq => ?_⟩
      rw [ok.1] at hq
      cases hq
      exact hK
    have z0 : ∀ {ci : Nat}, vwCl[ci]? = vwCl[0]? → ∃ x : ClassId × (Nat → Nat), ∀ q : vw_C, vwCl[ci]? = some q → u_Kn s q.1 q.2.1 q.2.2 x.1 x.2 := fun e => by
      obtain ⟨x, hx⟩ := one xok0 inst0
      exact ⟨x, fun q hq => hx q (e.symm.trans hq)⟩
    intro c
    match c with
    | 0 => exact one xok0 inst0
    | 1 => exact one xok1 inst1
    | 2 => exact one xok2 inst2
    | 3 => exact one xok3 inst3
    | 4 => exact one xok4 inst4
    | 5 => exact one xok5 inst5
    | 6 => exact one xok6 inst6
    | 7 => exact one xok7 inst7
    | 8 => exact one xok8 inst8
    | 9 => exact one xok9 inst9
    | 10 => exact z0 rfl
    | 11 => exact z0 rfl
    | 12 => exact z0 rfl
    | 13 => exact z0 rfl
    | 14 => exact z0 rfl
    | 15 => exact z0 rfl
    | 16 => exact z0 rfl
    | 17 => exact z0 rfl
    | 18 => exact z0 rfl
    | 19 => exact z0 rfl
    | 20 => exact one xok20 inst20
    | 21 => exact one xok21 inst21
    | 22 => exact one xok22 inst22
    | 23 => exact one xok23 inst23
    | 24 => exact one xok24 inst24
    | c + 25 => exact ⟨(0, fun _ => 0), fun q hq => by simp [vwCl] at hq⟩
  obtain ⟨f, hf⟩ := Classical.axiomOfChoice h
  exact ⟨(fun c => (f c).1, fun c => (f c).2), fun c q hq => hf c q hq⟩
theorem st_str {A : Nat → Prop} (sc : ∀ i, i < nJS → SC s b i) (hA : ∀ a : Nat, a < s.heap.size → ¬ A a) : ∃ K V : Nat → Nat, ∀ i, i < nJS → (Term.string (ownJS i) (idxJS i)).eval #[Value.ref b] s none [] s = some (.ref (K i)) ∧ va_O "java/lang/String" (K i) A s s.heap ∧ va_OF "java/lang/String" "coder" "B" (.int 0) (K i) A s s.heap ∧ va_OF "java/lang/String" "value" "[B" (.ref (V i)) (K i) A s s.heap ∧ va_T .byte (V i) (lenJS.getD i 0) (fun j => .int ((bytJS.getD i []).getD j 0)) A s s.heap := by
  have h0 : ∀ i : Nat, ∃ q : Nat × Nat, i < nJS → (Term.string (ownJS i) (idxJS i)).eval #[Value.ref b] s none [] s = some (.ref q.1) ∧ va_O "java/lang/String" q.1 A s s.heap ∧ va_OF "java/lang/String" "coder" "B" (.int 0) q.1 A s s.heap ∧ va_OF "java/lang/String" "value" "[B" (.ref q.2) q.1 A s s.heap ∧ va_T .byte q.2 (lenJS.getD i 0) (fun j => .int ((bytJS.getD i []).getD j 0)) A s s.heap := by
    intro i
    by_cases hi : i < nJS
    · obtain ⟨c1, c2, c3, c4, c5⟩ := sc i hi
      obtain ⟨a, -, -, -, q1, -⟩ := Cond.exactly_spec (args := #[Value.ref b]) (first := s) (o := none) (s := s) (idx := []) c1
      obtain ⟨t, ht, hT⟩ := va_Tof (f := fun j => .int ((bytJS.getD i []).getD j 0)) (A := A) (len_sm i hi) c3 (va_eqt c4) (fun j hj => va_eqt (c5 j hj)) hA
      exact ⟨(a, t), fun _ => ⟨q1, va_Oof c1 q1 hA, vk_OFof q1 (va_eqt c2) hA, vk_OFof q1 ht hA, hT⟩⟩
    · exact ⟨(0, 0), fun h => absurd h hi⟩
  obtain ⟨f, hf⟩ := Classical.axiomOfChoice h0
  exact ⟨fun i => (f i).1, fun i => (f i).2, hf⟩
theorem st_env (l : Launch) (hl : l.stackTraces = false) {L : Nat} {xs : Nat → Int32} (hX : va_X b L xs s s.heap) (hts : ∀ w ∈ lw_tbl, w.before #[Value.ref b] s = true) (hgv : (Jvm.Cond.and given_1 narrow_1).before #[Value.ref b] s = true) : ∃ E : XG, eL E = l ∧ eB E = s.heap.size ∧ xE E s ∧ xZ E s s.heap ∧ xsc E b L xs s.heap := by
  have hs := flat_of_before _ hgv
  have hA : ∀ a : Nat, a < s.heap.size → ¬ (fun q : Nat => s.heap.size ≤ q) a := fun a h => Nat.not_le.mpr h
  obtain ⟨scr, x1, x2, x3, x4, x5⟩ := hX
  obtain ⟨D, hD⟩ := st_cls hts
  obtain ⟨c11, g11, f11⟩ := arr_p (hts _ ar11.1)
  obtain ⟨c12, g12, f12⟩ := arr_p (hts _ ar12.1)
  obtain ⟨c13, g13, f13⟩ := arr_p (hts _ ar13.1)
  have ao0 : (Cond.arrayOver (.object RX0)).before #[Value.ref b] s = true := hts _ (List.mem_of_getElem? (i := 87) (by decide +kernel))
  have ao1 : (Cond.arrayOver (.object RX1)).before #[Value.ref b] s = true := hts _ (List.mem_of_getElem? (i := 85) (by decide +kernel))
  have ao2 : (Cond.arrayOver (.object RX2)).before #[Value.ref b] s = true := hts _ (List.mem_of_getElem? (i := 83) (by decide +kernel))
  have aoa : (Cond.arrayOver (.array .int)).before #[Value.ref b] s = true := hts _ (List.mem_of_getElem? (i := 254) (by decide +kernel))
  have aoj : (Cond.arrayOver (.array (.array .int))).before #[Value.ref b] s = true := hts _ (List.mem_of_getElem? (i := 493) (by decide +kernel))
  have ao11 : (Cond.arrayOver (.object RX11)).before #[Value.ref b] s = true := hts _ (List.mem_of_getElem? (i := 495) (by decide +kernel))
  have ao9 : (Cond.arrayOver (.object RX9)).before #[Value.ref b] s = true := hts _ (List.mem_of_getElem? (i := 497) (by decide +kernel))
  obtain ⟨c15, g15, f15⟩ := arr_o ao0
  obtain ⟨c16, g16, f16⟩ := arr_o ao1
  obtain ⟨c17, g17, f17⟩ := arr_o ao2
  obtain ⟨c18, g18, f18⟩ := arr_a aoa
  obtain ⟨c19, g19, f19⟩ := arr_a aoj
  obtain ⟨c20, g20, f20⟩ := arr_o ao11
  obtain ⟨c26, g26, f26⟩ := arr_o ao9
  obtain ⟨K, V, hK⟩ := st_str (A := fun q => s.heap.size ≤ q) (sc_all hs) hA
  have d10 : (Cond.arrayOf (.static "java/lang/Integer" "DigitOnes" "[B") .byte).before #[Value.ref b] s = true := hs _ (List.mem_of_getElem? (i := 10) (by decide +kernel))
  have d11 : (Cond.eq (.length (.static "java/lang/Integer" "DigitOnes" "[B")) (.int (Int32.ofNat 100))).before #[Value.ref b] s = true := hs _ (List.mem_of_getElem? (i := 11) (by decide +kernel))
  obtain ⟨dg, hdg, hDT⟩ := va_Tof (f := fun j => .int (nI (48 + j % 10))) (A := fun q => s.heap.size ≤ q) (by decide) d10 (va_eqt d11) (fun j hj => va_eqt (dg_all hs j hj)) hA
  have hV : ∀ i, i < nJS → (if i = nJS then dg else V i) = V i := fun i hi => if_neg (Nat.ne_of_lt hi)
  have hVd : (if nJS = nJS then dg else V nJS) = dg := if_pos rfl
  refine ⟨(l, D, (fun g => match g with
    | 11 => c11
    | 12 => c12
    | 13 => c13
    | 15 => c15
    | 16 => c16
    | 17 => c17
    | 18 => c18
    | 19 => c19
    | 20 => c20
    | 26 => c26
    | 27 => scr.cls
    | _ => c12), s.heap.size, (b, L, xs), K, fun i => if i = nJS then dg else V i), rfl, rfl, ?_, ?_, scr, x1, rfl, x2.1, x3, x4, x5⟩
  · refine ⟨fun w hw => word_at (State.WarmedH.refl s) (good_of_word hw.2) (hts w hw.1), ⟨hD, fun k q hq => ?_⟩, ⟨fun q hq => hts _ (ne_all q hq), fun x hx => hts _ (de_all x hx), fun i => hts _ (ca_all i), fun i j hij => va_Nc.of (hs _ (nc_all i j hij)), fun q hq => hts _ (nf_all q hq), hts (Cond.castable "[B" "java/lang/Cloneable") (List.mem_of_getElem? (i := 407) (by decide +kernel)), fun y hy => word_at (State.WarmedH.refl s) (good_of_word rfl) (sp_all hts y hy)⟩, ⟨va_AO.of ao0, va_AO.of ao1, va_AO.of ao2, aoa, aoj, va_AO.of ao11, va_AO.of ao9⟩, fun i hi => vk_R.of (A := #[Value.ref b]) (hts _ (sr_all i hi)) (hK i hi).1, fun n z => ⟨fun k h => (by cases h), x2.2⟩⟩
    match k, hq with
    | 0, hq => cases hq; exact ⟨g11, f11⟩
    | 1, hq => cases hq; exact ⟨g12, f12⟩
    | 2, hq => cases hq; exact ⟨g13, f13⟩
    | 3, hq => cases hq; exact ⟨g12, f12⟩
    | 4, hq => cases hq; exact ⟨g15, f15⟩
    | 5, hq => cases hq; exact ⟨g16, f16⟩
    | 6, hq => cases hq; exact ⟨g17, f17⟩
    | 7, hq => cases hq; exact ⟨g18, f18⟩
    | 8, hq => cases hq; exact ⟨g19, f19⟩
    | 9, hq => cases hq; exact ⟨g20, f20⟩
    | 10, hq => cases hq; exact ⟨g26, f26⟩
    | k + 11, hq => simp [xtys] at hq
  · refine ⟨vx_Zqof (hts _ (List.mem_of_getElem? (i := 755) (by decide +kernel))) (hts _ (List.mem_of_getElem? (i := 38) (by decide +kernel))) (hs _ (List.mem_of_getElem? (i := 215) (by decide +kernel))) hA, vx_Zqof (hts _ (List.mem_of_getElem? (i := 757) (by decide +kernel))) (hts _ (List.mem_of_getElem? (i := 38) (by decide +kernel))) (hs _ (List.mem_of_getElem? (i := 216) (by decide +kernel))) hA, fun i hi => ?_, va_Zof (hts _ (List.mem_of_getElem? (i := 353) (by decide +kernel))) (hts _ (List.mem_of_getElem? (i := 19) (by decide +kernel))) (va_eqt (hs _ (List.mem_of_getElem? (i := 4) (by decide +kernel)))) hA, va_Zqof (hts _ (List.mem_of_getElem? (i := 434) (by decide +kernel))) (hts _ (List.mem_of_getElem? (i := 25) (by decide +kernel))) (hs _ (List.mem_of_getElem? (i := 5) (by decide +kernel))) hA, ?_, ?_⟩
    · obtain ⟨-, k1, k2, k3, k4⟩ := hK i hi
      have e := hV i hi
      refine ⟨k1, k2, ?_, ?_⟩
      · show va_OF "java/lang/String" "value" "[B" (.ref (if i = nJS then dg else V i)) (K i) _ s s.heap
        rw [e]; exact k3
      · show va_T .byte (if i = nJS then dg else V i) (lenJS.getD i 0) _ _ s s.heap
        rw [e]; exact k4
    · show va_Z "java/lang/Integer" "DigitOnes" "[B" (.ref (if nJS = nJS then dg else V nJS)) _ s s.heap
      rw [hVd]
      exact va_Zof (hts _ (List.mem_of_getElem? (i := 556) (by decide +kernel))) (hts _ (List.mem_of_getElem? (i := 28) (by decide +kernel))) hdg hA
    · show va_T .byte (if nJS = nJS then dg else V nJS) 100 _ _ s s.heap
      rw [hVd]
      exact hDT
end START
