/-! What holds at the law's entry. -/
set_option linter.unusedVariables false
/-- what the start says of a String constant -/
def SC (s : State) (b : Nat) (i : Nat) : Prop :=
  (Cond.exactly (.string (ownJS i) (idxJS i)) "java/lang/String").before #[Value.ref b] s = true ∧ (Cond.eq (.field (.string (ownJS i) (idxJS i)) "java/lang/String" "coder" "B") (.int 0)).before #[Value.ref b] s = true ∧ (Cond.arrayOf (.field (.string (ownJS i) (idxJS i)) "java/lang/String" "value" "[B") .byte).before #[Value.ref b] s = true ∧ (Cond.eq (.length (.field (.string (ownJS i) (idxJS i)) "java/lang/String" "value" "[B")) (.int (Int32.ofNat (lenJS.getD i 0)))).before #[Value.ref b] s = true ∧ ∀ j : Nat, j < lenJS.getD i 0 → (Cond.eq (.elem (.field (.string (ownJS i) (idxJS i)) "java/lang/String" "value" "[B") (.int (Int32.ofNat j))) (.int ((bytJS.getD i []).getD j 0))).before #[Value.ref b] s = true
/-- a private method of the class above is selected for an object of the class below -/
theorem sel_priv {C : String} {y z : MethodName} {s : State} {args : Array Value} {n : Nat} (hy : y.cls ≠ "java/lang/invoke/MethodHandle" ∧ y.cls ≠ "java/lang/invoke/VarHandle") (hzy : z.cls = y.cls)
    (hins : (Cond.instantiable C n).before args s = true) (hpriv : (Cond.privateMethod y).before args s = true) (hinst : (Cond.instanceMethod y).before args s = true) (hz : (Cond.selects C z z).before args s = true) :
    (Cond.selects C y y).before args s = true := by
  obtain ⟨c, k, hc, hk, -, -, -, -⟩ := Cond.instantiable_spec hins
  obtain ⟨mk, methM, hnamed, hmethM, -, -⟩ := Cond.instanceMethod_spec hinst
  have hfound : s.methodFound? y.cls y.name y.desc = some mk := State.methodFound?_of_named hnamed hy
  have hsel : selectMethod {} s.vm c mk = .method mk := selectMethod_private hmethM (Cond.privateMethod_at hpriv mk methM hnamed hmethM)
  have hif : (s.vm.classes[mk.cls]?).any (fun x => !x.isInterface) = true := by
    simp only [Cond.before, Cond.holds, Cond.value, hc] at hz
    cases hf : s.methodFound? z.cls z.name z.desc with
    | none => simp [hf] at hz
    | some r =>
      cases hn : s.methodNamed? z with
      | none => simp [hf, hn] at hz
      | some mz =>
        have e : mz.cls = mk.cls := by
          have e1 := findClass_of_methodNamed hn
          have e2 := findClass_of_methodNamed hnamed
          rw [hzy] at e1
          exact Option.some.inj (e1.symm.trans e2)
        rw [hf, hn] at hz
        rw [← e]
        revert hz
        dsimp only
        cases selectMethod {} s.vm c r with
        | method m' =>
          intro hz
          simp only [Option.some.injEq, beq_iff_eq, Bool.and_eq_true, decide_eq_true_eq] at hz
          exact hz.2
        | _ => intro hz; simp at hz
  simp only [Cond.before, Cond.holds, Cond.value, hc, hfound, hnamed, hsel]
  simpa using hif
theorem sc_0 {s : State} {b : Nat} (hs : ∀ c ∈ flatC (Jvm.Cond.and given_1 narrow_1), c.before #[Value.ref b] s = true) : SC s b 0 := by
  refine ⟨hs _ (List.mem_of_getElem? (i := 488) (by decide +kernel)), hs _ (List.mem_of_getElem? (i := 489) (by decide +kernel)), hs _ (List.mem_of_getElem? (i := 490) (by decide +kernel)), hs _ (List.mem_of_getElem? (i := 491) (by decide +kernel)), fun j hj => ?_⟩
  match j, hj with
  | 0, _ => exact hs _ (List.mem_of_getElem? (i := 492) (by decide +kernel))
  | 1, _ => exact hs _ (List.mem_of_getElem? (i := 493) (by decide +kernel))
  | 2, _ => exact hs _ (List.mem_of_getElem? (i := 494) (by decide +kernel))
  | 3, _ => exact hs _ (List.mem_of_getElem? (i := 495) (by decide +kernel))
  | 4, _ => exact hs _ (List.mem_of_getElem? (i := 496) (by decide +kernel))
  | 5, _ => exact hs _ (List.mem_of_getElem? (i := 497) (by decide +kernel))
  | 6, _ => exact hs _ (List.mem_of_getElem? (i := 498) (by decide +kernel))
  | 7, _ => exact hs _ (List.mem_of_getElem? (i := 499) (by decide +kernel))
  | 8, _ => exact hs _ (List.mem_of_getElem? (i := 500) (by decide +kernel))
  | 9, _ => exact hs _ (List.mem_of_getElem? (i := 501) (by decide +kernel))
  | 10, _ => exact hs _ (List.mem_of_getElem? (i := 502) (by decide +kernel))
  | 11, _ => exact hs _ (List.mem_of_getElem? (i := 503) (by decide +kernel))
  | 12, _ => exact hs _ (List.mem_of_getElem? (i := 504) (by decide +kernel))
  | 13, _ => exact hs _ (List.mem_of_getElem? (i := 505) (by decide +kernel))
  | 14, _ => exact hs _ (List.mem_of_getElem? (i := 506) (by decide +kernel))
  | 15, _ => exact hs _ (List.mem_of_getElem? (i := 507) (by decide +kernel))
  | 16, _ => exact hs _ (List.mem_of_getElem? (i := 508) (by decide +kernel))
  | 17, _ => exact hs _ (List.mem_of_getElem? (i := 509) (by decide +kernel))
  | 18, _ => exact hs _ (List.mem_of_getElem? (i := 510) (by decide +kernel))
  | 19, _ => exact hs _ (List.mem_of_getElem? (i := 511) (by decide +kernel))
  | 20, _ => exact hs _ (List.mem_of_getElem? (i := 512) (by decide +kernel))
  | 21, _ => exact hs _ (List.mem_of_getElem? (i := 513) (by decide +kernel))
  | j + 22, hj => exact absurd hj (by show ¬ j + 22 < 22; omega)
theorem sc_1 {s : State} {b : Nat} (hs : ∀ c ∈ flatC (Jvm.Cond.and given_1 narrow_1), c.before #[Value.ref b] s = true) : SC s b 1 := by
  refine ⟨hs _ (List.mem_of_getElem? (i := 514) (by decide +kernel)), hs _ (List.mem_of_getElem? (i := 515) (by decide +kernel)), hs _ (List.mem_of_getElem? (i := 516) (by decide +kernel)), hs _ (List.mem_of_getElem? (i := 517) (by decide +kernel)), fun j hj => ?_⟩
  match j, hj with
  | 0, _ => exact hs _ (List.mem_of_getElem? (i := 518) (by decide +kernel))
  | 1, _ => exact hs _ (List.mem_of_getElem? (i := 519) (by decide +kernel))
  | 2, _ => exact hs _ (List.mem_of_getElem? (i := 520) (by decide +kernel))
  | 3, _ => exact hs _ (List.mem_of_getElem? (i := 521) (by decide +kernel))
  | 4, _ => exact hs _ (List.mem_of_getElem? (i := 522) (by decide +kernel))
  | 5, _ => exact hs _ (List.mem_of_getElem? (i := 523) (by decide +kernel))
  | 6, _ => exact hs _ (List.mem_of_getElem? (i := 524) (by decide +kernel))
  | j + 7, hj => exact absurd hj (by show ¬ j + 7 < 7; omega)
theorem sc_2 {s : State} {b : Nat} (hs : ∀ c ∈ flatC (Jvm.Cond.and given_1 narrow_1), c.before #[Value.ref b] s = true) : SC s b 2 := by
  refine ⟨hs _ (List.mem_of_getElem? (i := 526) (by decide +kernel)), hs _ (List.mem_of_getElem? (i := 527) (by decide +kernel)), hs _ (List.mem_of_getElem? (i := 528) (by decide +kernel)), hs _ (List.mem_of_getElem? (i := 529) (by decide +kernel)), fun j hj => ?_⟩
  match j, hj with
  | 0, _ => exact hs _ (List.mem_of_getElem? (i := 530) (by decide +kernel))
  | 1, _ => exact hs _ (List.mem_of_getElem? (i := 531) (by decide +kernel))
  | 2, _ => exact hs _ (List.mem_of_getElem? (i := 532) (by decide +kernel))
  | 3, _ => exact hs _ (List.mem_of_getElem? (i := 533) (by decide +kernel))
  | 4, _ => exact hs _ (List.mem_of_getElem? (i := 534) (by decide +kernel))
  | j + 5, hj => exact absurd hj (by show ¬ j + 5 < 5; omega)
theorem sc_3 {s : State} {b : Nat} (hs : ∀ c ∈ flatC (Jvm.Cond.and given_1 narrow_1), c.before #[Value.ref b] s = true) : SC s b 3 := by
  refine ⟨hs _ (List.mem_of_getElem? (i := 535) (by decide +kernel)), hs _ (List.mem_of_getElem? (i := 536) (by decide +kernel)), hs _ (List.mem_of_getElem? (i := 537) (by decide +kernel)), hs _ (List.mem_of_getElem? (i := 538) (by decide +kernel)), fun j hj => ?_⟩
  match j, hj with
  | 0, _ => exact hs _ (List.mem_of_getElem? (i := 539) (by decide +kernel))
  | 1, _ => exact hs _ (List.mem_of_getElem? (i := 540) (by decide +kernel))
  | 2, _ => exact hs _ (List.mem_of_getElem? (i := 541) (by decide +kernel))
  | 3, _ => exact hs _ (List.mem_of_getElem? (i := 542) (by decide +kernel))
  | 4, _ => exact hs _ (List.mem_of_getElem? (i := 543) (by decide +kernel))
  | 5, _ => exact hs _ (List.mem_of_getElem? (i := 544) (by decide +kernel))
  | j + 6, hj => exact absurd hj (by show ¬ j + 6 < 6; omega)
theorem sc_4 {s : State} {b : Nat} (hs : ∀ c ∈ flatC (Jvm.Cond.and given_1 narrow_1), c.before #[Value.ref b] s = true) : SC s b 4 := by
  refine ⟨hs _ (List.mem_of_getElem? (i := 545) (by decide +kernel)), hs _ (List.mem_of_getElem? (i := 546) (by decide +kernel)), hs _ (List.mem_of_getElem? (i := 547) (by decide +kernel)), hs _ (List.mem_of_getElem? (i := 548) (by decide +kernel)), fun j hj => ?_⟩
  match j, hj with
  | 0, _ => exact hs _ (List.mem_of_getElem? (i := 549) (by decide +kernel))
  | 1, _ => exact hs _ (List.mem_of_getElem? (i := 550) (by decide +kernel))
  | 2, _ => exact hs _ (List.mem_of_getElem? (i := 551) (by decide +kernel))
  | 3, _ => exact hs _ (List.mem_of_getElem? (i := 552) (by decide +kernel))
  | 4, _ => exact hs _ (List.mem_of_getElem? (i := 553) (by decide +kernel))
  | 5, _ => exact hs _ (List.mem_of_getElem? (i := 554) (by decide +kernel))
  | 6, _ => exact hs _ (List.mem_of_getElem? (i := 555) (by decide +kernel))
  | 7, _ => exact hs _ (List.mem_of_getElem? (i := 556) (by decide +kernel))
  | j + 8, hj => exact absurd hj (by show ¬ j + 8 < 8; omega)
theorem sc_5 {s : State} {b : Nat} (hs : ∀ c ∈ flatC (Jvm.Cond.and given_1 narrow_1), c.before #[Value.ref b] s = true) : SC s b 5 := by
  refine ⟨hs _ (List.mem_of_getElem? (i := 557) (by decide +kernel)), hs _ (List.mem_of_getElem? (i := 558) (by decide +kernel)), hs _ (List.mem_of_getElem? (i := 559) (by decide +kernel)), hs _ (List.mem_of_getElem? (i := 560) (by decide +kernel)), fun j hj => ?_⟩
  match j, hj with
  | 0, _ => exact hs _ (List.mem_of_getElem? (i := 561) (by decide +kernel))
  | 1, _ => exact hs _ (List.mem_of_getElem? (i := 562) (by decide +kernel))
  | 2, _ => exact hs _ (List.mem_of_getElem? (i := 563) (by decide +kernel))
  | 3, _ => exact hs _ (List.mem_of_getElem? (i := 564) (by decide +kernel))
  | 4, _ => exact hs _ (List.mem_of_getElem? (i := 565) (by decide +kernel))
  | 5, _ => exact hs _ (List.mem_of_getElem? (i := 566) (by decide +kernel))
  | 6, _ => exact hs _ (List.mem_of_getElem? (i := 567) (by decide +kernel))
  | 7, _ => exact hs _ (List.mem_of_getElem? (i := 568) (by decide +kernel))
  | 8, _ => exact hs _ (List.mem_of_getElem? (i := 569) (by decide +kernel))
  | 9, _ => exact hs _ (List.mem_of_getElem? (i := 570) (by decide +kernel))
  | j + 10, hj => exact absurd hj (by show ¬ j + 10 < 10; omega)
theorem sc_6 {s : State} {b : Nat} (hs : ∀ c ∈ flatC (Jvm.Cond.and given_1 narrow_1), c.before #[Value.ref b] s = true) : SC s b 6 := by
  refine ⟨hs _ (List.mem_of_getElem? (i := 571) (by decide +kernel)), hs _ (List.mem_of_getElem? (i := 572) (by decide +kernel)), hs _ (List.mem_of_getElem? (i := 573) (by decide +kernel)), hs _ (List.mem_of_getElem? (i := 574) (by decide +kernel)), fun j hj => ?_⟩
  match j, hj with
  | 0, _ => exact hs _ (List.mem_of_getElem? (i := 575) (by decide +kernel))
  | 1, _ => exact hs _ (List.mem_of_getElem? (i := 576) (by decide +kernel))
  | 2, _ => exact hs _ (List.mem_of_getElem? (i := 577) (by decide +kernel))
  | 3, _ => exact hs _ (List.mem_of_getElem? (i := 578) (by decide +kernel))
  | 4, _ => exact hs _ (List.mem_of_getElem? (i := 579) (by decide +kernel))
  | 5, _ => exact hs _ (List.mem_of_getElem? (i := 580) (by decide +kernel))
  | 6, _ => exact hs _ (List.mem_of_getElem? (i := 581) (by decide +kernel))
  | j + 7, hj => exact absurd hj (by show ¬ j + 7 < 7; omega)
theorem sc_7 {s : State} {b : Nat} (hs : ∀ c ∈ flatC (Jvm.Cond.and given_1 narrow_1), c.before #[Value.ref b] s = true) : SC s b 7 := by
  refine ⟨hs _ (List.mem_of_getElem? (i := 582) (by decide +kernel)), hs _ (List.mem_of_getElem? (i := 583) (by decide +kernel)), hs _ (List.mem_of_getElem? (i := 584) (by decide +kernel)), hs _ (List.mem_of_getElem? (i := 585) (by decide +kernel)), fun j hj => ?_⟩
  match j, hj with
  | 0, _ => exact hs _ (List.mem_of_getElem? (i := 586) (by decide +kernel))
  | 1, _ => exact hs _ (List.mem_of_getElem? (i := 587) (by decide +kernel))
  | 2, _ => exact hs _ (List.mem_of_getElem? (i := 588) (by decide +kernel))
  | 3, _ => exact hs _ (List.mem_of_getElem? (i := 589) (by decide +kernel))
  | 4, _ => exact hs _ (List.mem_of_getElem? (i := 590) (by decide +kernel))
  | 5, _ => exact hs _ (List.mem_of_getElem? (i := 591) (by decide +kernel))
  | j + 6, hj => exact absurd hj (by show ¬ j + 6 < 6; omega)
theorem sc_8 {s : State} {b : Nat} (hs : ∀ c ∈ flatC (Jvm.Cond.and given_1 narrow_1), c.before #[Value.ref b] s = true) : SC s b 8 := by
  refine ⟨hs _ (List.mem_of_getElem? (i := 592) (by decide +kernel)), hs _ (List.mem_of_getElem? (i := 593) (by decide +kernel)), hs _ (List.mem_of_getElem? (i := 594) (by decide +kernel)), hs _ (List.mem_of_getElem? (i := 595) (by decide +kernel)), fun j hj => ?_⟩
  match j, hj with
  | 0, _ => exact hs _ (List.mem_of_getElem? (i := 596) (by decide +kernel))
  | 1, _ => exact hs _ (List.mem_of_getElem? (i := 597) (by decide +kernel))
  | 2, _ => exact hs _ (List.mem_of_getElem? (i := 598) (by decide +kernel))
  | j + 3, hj => exact absurd hj (by show ¬ j + 3 < 3; omega)
theorem sc_9 {s : State} {b : Nat} (hs : ∀ c ∈ flatC (Jvm.Cond.and given_1 narrow_1), c.before #[Value.ref b] s = true) : SC s b 9 := by
  refine ⟨hs _ (List.mem_of_getElem? (i := 599) (by decide +kernel)), hs _ (List.mem_of_getElem? (i := 600) (by decide +kernel)), hs _ (List.mem_of_getElem? (i := 601) (by decide +kernel)), hs _ (List.mem_of_getElem? (i := 602) (by decide +kernel)), fun j hj => ?_⟩
  match j, hj with
  | 0, _ => exact hs _ (List.mem_of_getElem? (i := 603) (by decide +kernel))
  | 1, _ => exact hs _ (List.mem_of_getElem? (i := 604) (by decide +kernel))
  | 2, _ => exact hs _ (List.mem_of_getElem? (i := 605) (by decide +kernel))
  | 3, _ => exact hs _ (List.mem_of_getElem? (i := 606) (by decide +kernel))
  | 4, _ => exact hs _ (List.mem_of_getElem? (i := 607) (by decide +kernel))
  | j + 5, hj => exact absurd hj (by show ¬ j + 5 < 5; omega)
theorem sc_10 {s : State} {b : Nat} (hs : ∀ c ∈ flatC (Jvm.Cond.and given_1 narrow_1), c.before #[Value.ref b] s = true) : SC s b 10 := by
  refine ⟨hs _ (List.mem_of_getElem? (i := 608) (by decide +kernel)), hs _ (List.mem_of_getElem? (i := 609) (by decide +kernel)), hs _ (List.mem_of_getElem? (i := 610) (by decide +kernel)), hs _ (List.mem_of_getElem? (i := 611) (by decide +kernel)), fun j hj => ?_⟩
  match j, hj with
  | 0, _ => exact hs _ (List.mem_of_getElem? (i := 612) (by decide +kernel))
  | 1, _ => exact hs _ (List.mem_of_getElem? (i := 613) (by decide +kernel))
  | 2, _ => exact hs _ (List.mem_of_getElem? (i := 614) (by decide +kernel))
  | 3, _ => exact hs _ (List.mem_of_getElem? (i := 615) (by decide +kernel))
  | 4, _ => exact hs _ (List.mem_of_getElem? (i := 616) (by decide +kernel))
  | 5, _ => exact hs _ (List.mem_of_getElem? (i := 617) (by decide +kernel))
  | 6, _ => exact hs _ (List.mem_of_getElem? (i := 618) (by decide +kernel))
  | 7, _ => exact hs _ (List.mem_of_getElem? (i := 619) (by decide +kernel))
  | 8, _ => exact hs _ (List.mem_of_getElem? (i := 620) (by decide +kernel))
  | 9, _ => exact hs _ (List.mem_of_getElem? (i := 621) (by decide +kernel))
  | 10, _ => exact hs _ (List.mem_of_getElem? (i := 622) (by decide +kernel))
  | 11, _ => exact hs _ (List.mem_of_getElem? (i := 623) (by decide +kernel))
  | 12, _ => exact hs _ (List.mem_of_getElem? (i := 624) (by decide +kernel))
  | 13, _ => exact hs _ (List.mem_of_getElem? (i := 625) (by decide +kernel))
  | 14, _ => exact hs _ (List.mem_of_getElem? (i := 626) (by decide +kernel))
  | 15, _ => exact hs _ (List.mem_of_getElem? (i := 627) (by decide +kernel))
  | 16, _ => exact hs _ (List.mem_of_getElem? (i := 628) (by decide +kernel))
  | 17, _ => exact hs _ (List.mem_of_getElem? (i := 629) (by decide +kernel))
  | 18, _ => exact hs _ (List.mem_of_getElem? (i := 630) (by decide +kernel))
  | 19, _ => exact hs _ (List.mem_of_getElem? (i := 631) (by decide +kernel))
  | 20, _ => exact hs _ (List.mem_of_getElem? (i := 632) (by decide +kernel))
  | 21, _ => exact hs _ (List.mem_of_getElem? (i := 633) (by decide +kernel))
  | 22, _ => exact hs _ (List.mem_of_getElem? (i := 634) (by decide +kernel))
  | 23, _ => exact hs _ (List.mem_of_getElem? (i := 635) (by decide +kernel))
  | 24, _ => exact hs _ (List.mem_of_getElem? (i := 636) (by decide +kernel))
  | 25, _ => exact hs _ (List.mem_of_getElem? (i := 637) (by decide +kernel))
  | 26, _ => exact hs _ (List.mem_of_getElem? (i := 638) (by decide +kernel))
  | 27, _ => exact hs _ (List.mem_of_getElem? (i := 639) (by decide +kernel))
  | 28, _ => exact hs _ (List.mem_of_getElem? (i := 640) (by decide +kernel))
  | 29, _ => exact hs _ (List.mem_of_getElem? (i := 641) (by decide +kernel))
  | 30, _ => exact hs _ (List.mem_of_getElem? (i := 642) (by decide +kernel))
  | 31, _ => exact hs _ (List.mem_of_getElem? (i := 643) (by decide +kernel))
  | 32, _ => exact hs _ (List.mem_of_getElem? (i := 644) (by decide +kernel))
  | 33, _ => exact hs _ (List.mem_of_getElem? (i := 645) (by decide +kernel))
  | 34, _ => exact hs _ (List.mem_of_getElem? (i := 646) (by decide +kernel))
  | 35, _ => exact hs _ (List.mem_of_getElem? (i := 647) (by decide +kernel))
  | 36, _ => exact hs _ (List.mem_of_getElem? (i := 648) (by decide +kernel))
  | 37, _ => exact hs _ (List.mem_of_getElem? (i := 649) (by decide +kernel))
  | 38, _ => exact hs _ (List.mem_of_getElem? (i := 650) (by decide +kernel))
  | j + 39, hj => exact absurd hj (by show ¬ j + 39 < 39; omega)
theorem sc_11 {s : State} {b : Nat} (hs : ∀ c ∈ flatC (Jvm.Cond.and given_1 narrow_1), c.before #[Value.ref b] s = true) : SC s b 11 := by
  refine ⟨hs _ (List.mem_of_getElem? (i := 651) (by decide +kernel)), hs _ (List.mem_of_getElem? (i := 652) (by decide +kernel)), hs _ (List.mem_of_getElem? (i := 653) (by decide +kernel)), hs _ (List.mem_of_getElem? (i := 654) (by decide +kernel)), fun j hj => ?_⟩
  match j, hj with
  | 0, _ => exact hs _ (List.mem_of_getElem? (i := 655) (by decide +kernel))
  | 1, _ => exact hs _ (List.mem_of_getElem? (i := 656) (by decide +kernel))
  | 2, _ => exact hs _ (List.mem_of_getElem? (i := 657) (by decide +kernel))
  | 3, _ => exact hs _ (List.mem_of_getElem? (i := 658) (by decide +kernel))
  | 4, _ => exact hs _ (List.mem_of_getElem? (i := 659) (by decide +kernel))
  | 5, _ => exact hs _ (List.mem_of_getElem? (i := 660) (by decide +kernel))
  | 6, _ => exact hs _ (List.mem_of_getElem? (i := 661) (by decide +kernel))
  | 7, _ => exact hs _ (List.mem_of_getElem? (i := 662) (by decide +kernel))
  | 8, _ => exact hs _ (List.mem_of_getElem? (i := 663) (by decide +kernel))
  | 9, _ => exact hs _ (List.mem_of_getElem? (i := 664) (by decide +kernel))
  | 10, _ => exact hs _ (List.mem_of_getElem? (i := 665) (by decide +kernel))
  | 11, _ => exact hs _ (List.mem_of_getElem? (i := 666) (by decide +kernel))
  | 12, _ => exact hs _ (List.mem_of_getElem? (i := 667) (by decide +kernel))
  | 13, _ => exact hs _ (List.mem_of_getElem? (i := 668) (by decide +kernel))
  | 14, _ => exact hs _ (List.mem_of_getElem? (i := 669) (by decide +kernel))
  | 15, _ => exact hs _ (List.mem_of_getElem? (i := 670) (by decide +kernel))
  | 16, _ => exact hs _ (List.mem_of_getElem? (i := 671) (by decide +kernel))
  | 17, _ => exact hs _ (List.mem_of_getElem? (i := 672) (by decide +kernel))
  | j + 18, hj => exact absurd hj (by show ¬ j + 18 < 18; omega)
theorem sc_12 {s : State} {b : Nat} (hs : ∀ c ∈ flatC (Jvm.Cond.and given_1 narrow_1), c.before #[Value.ref b] s = true) : SC s b 12 := by
  refine ⟨hs _ (List.mem_of_getElem? (i := 673) (by decide +kernel)), hs _ (List.mem_of_getElem? (i := 674) (by decide +kernel)), hs _ (List.mem_of_getElem? (i := 675) (by decide +kernel)), hs _ (List.mem_of_getElem? (i := 676) (by decide +kernel)), fun j hj => ?_⟩
  match j, hj with
  | 0, _ => exact hs _ (List.mem_of_getElem? (i := 677) (by decide +kernel))
  | 1, _ => exact hs _ (List.mem_of_getElem? (i := 678) (by decide +kernel))
  | 2, _ => exact hs _ (List.mem_of_getElem? (i := 679) (by decide +kernel))
  | 3, _ => exact hs _ (List.mem_of_getElem? (i := 680) (by decide +kernel))
  | 4, _ => exact hs _ (List.mem_of_getElem? (i := 681) (by decide +kernel))
  | 5, _ => exact hs _ (List.mem_of_getElem? (i := 682) (by decide +kernel))
  | 6, _ => exact hs _ (List.mem_of_getElem? (i := 683) (by decide +kernel))
  | 7, _ => exact hs _ (List.mem_of_getElem? (i := 684) (by decide +kernel))
  | 8, _ => exact hs _ (List.mem_of_getElem? (i := 685) (by decide +kernel))
  | 9, _ => exact hs _ (List.mem_of_getElem? (i := 686) (by decide +kernel))
  | 10, _ => exact hs _ (List.mem_of_getElem? (i := 687) (by decide +kernel))
  | 11, _ => exact hs _ (List.mem_of_getElem? (i := 688) (by decide +kernel))
  | 12, _ => exact hs _ (List.mem_of_getElem? (i := 689) (by decide +kernel))
  | 13, _ => exact hs _ (List.mem_of_getElem? (i := 690) (by decide +kernel))
  | 14, _ => exact hs _ (List.mem_of_getElem? (i := 691) (by decide +kernel))
  | 15, _ => exact hs _ (List.mem_of_getElem? (i := 692) (by decide +kernel))
  | 16, _ => exact hs _ (List.mem_of_getElem? (i := 693) (by decide +kernel))
  | 17, _ => exact hs _ (List.mem_of_getElem? (i := 694) (by decide +kernel))
  | 18, _ => exact hs _ (List.mem_of_getElem? (i := 695) (by decide +kernel))
  | 19, _ => exact hs _ (List.mem_of_getElem? (i := 696) (by decide +kernel))
  | 20, _ => exact hs _ (List.mem_of_getElem? (i := 697) (by decide +kernel))
  | 21, _ => exact hs _ (List.mem_of_getElem? (i := 698) (by decide +kernel))
  | 22, _ => exact hs _ (List.mem_of_getElem? (i := 699) (by decide +kernel))
  | 23, _ => exact hs _ (List.mem_of_getElem? (i := 700) (by decide +kernel))
  | 24, _ => exact hs _ (List.mem_of_getElem? (i := 701) (by decide +kernel))
  | 25, _ => exact hs _ (List.mem_of_getElem? (i := 702) (by decide +kernel))
  | j + 26, hj => exact absurd hj (by show ¬ j + 26 < 26; omega)
theorem sc_13 {s : State} {b : Nat} (hs : ∀ c ∈ flatC (Jvm.Cond.and given_1 narrow_1), c.before #[Value.ref b] s = true) : SC s b 13 := by
  refine ⟨hs _ (List.mem_of_getElem? (i := 703) (by decide +kernel)), hs _ (List.mem_of_getElem? (i := 704) (by decide +kernel)), hs _ (List.mem_of_getElem? (i := 705) (by decide +kernel)), hs _ (List.mem_of_getElem? (i := 706) (by decide +kernel)), fun j hj => ?_⟩
  match j, hj with
  | 0, _ => exact hs _ (List.mem_of_getElem? (i := 707) (by decide +kernel))
  | 1, _ => exact hs _ (List.mem_of_getElem? (i := 708) (by decide +kernel))
  | 2, _ => exact hs _ (List.mem_of_getElem? (i := 709) (by decide +kernel))
  | 3, _ => exact hs _ (List.mem_of_getElem? (i := 710) (by decide +kernel))
  | 4, _ => exact hs _ (List.mem_of_getElem? (i := 711) (by decide +kernel))
  | 5, _ => exact hs _ (List.mem_of_getElem? (i := 712) (by decide +kernel))
  | 6, _ => exact hs _ (List.mem_of_getElem? (i := 713) (by decide +kernel))
  | 7, _ => exact hs _ (List.mem_of_getElem? (i := 714) (by decide +kernel))
  | 8, _ => exact hs _ (List.mem_of_getElem? (i := 715) (by decide +kernel))
  | 9, _ => exact hs _ (List.mem_of_getElem? (i := 716) (by decide +kernel))
  | 10, _ => exact hs _ (List.mem_of_getElem? (i := 717) (by decide +kernel))
  | 11, _ => exact hs _ (List.mem_of_getElem? (i := 718) (by decide +kernel))
  | 12, _ => exact hs _ (List.mem_of_getElem? (i := 719) (by decide +kernel))
  | 13, _ => exact hs _ (List.mem_of_getElem? (i := 720) (by decide +kernel))
  | 14, _ => exact hs _ (List.mem_of_getElem? (i := 721) (by decide +kernel))
  | 15, _ => exact hs _ (List.mem_of_getElem? (i := 722) (by decide +kernel))
  | 16, _ => exact hs _ (List.mem_of_getElem? (i := 723) (by decide +kernel))
  | 17, _ => exact hs _ (List.mem_of_getElem? (i := 724) (by decide +kernel))
  | 18, _ => exact hs _ (List.mem_of_getElem? (i := 725) (by decide +kernel))
  | 19, _ => exact hs _ (List.mem_of_getElem? (i := 726) (by decide +kernel))
  | 20, _ => exact hs _ (List.mem_of_getElem? (i := 727) (by decide +kernel))
  | 21, _ => exact hs _ (List.mem_of_getElem? (i := 728) (by decide +kernel))
  | 22, _ => exact hs _ (List.mem_of_getElem? (i := 729) (by decide +kernel))
  | 23, _ => exact hs _ (List.mem_of_getElem? (i := 730) (by decide +kernel))
  | 24, _ => exact hs _ (List.mem_of_getElem? (i := 731) (by decide +kernel))
  | 25, _ => exact hs _ (List.mem_of_getElem? (i := 732) (by decide +kernel))
  | 26, _ => exact hs _ (List.mem_of_getElem? (i := 733) (by decide +kernel))
  | 27, _ => exact hs _ (List.mem_of_getElem? (i := 734) (by decide +kernel))
  | 28, _ => exact hs _ (List.mem_of_getElem? (i := 735) (by decide +kernel))
  | j + 29, hj => exact absurd hj (by show ¬ j + 29 < 29; omega)
theorem sc_14 {s : State} {b : Nat} (hs : ∀ c ∈ flatC (Jvm.Cond.and given_1 narrow_1), c.before #[Value.ref b] s = true) : SC s b 14 := by
  refine ⟨hs _ (List.mem_of_getElem? (i := 358) (by decide +kernel)), hs _ (List.mem_of_getElem? (i := 359) (by decide +kernel)), hs _ (List.mem_of_getElem? (i := 360) (by decide +kernel)), hs _ (List.mem_of_getElem? (i := 361) (by decide +kernel)), fun j hj => ?_⟩
  match j, hj with
  | 0, _ => exact hs _ (List.mem_of_getElem? (i := 362) (by decide +kernel))
  | 1, _ => exact hs _ (List.mem_of_getElem? (i := 363) (by decide +kernel))
  | 2, _ => exact hs _ (List.mem_of_getElem? (i := 364) (by decide +kernel))
  | 3, _ => exact hs _ (List.mem_of_getElem? (i := 365) (by decide +kernel))
  | 4, _ => exact hs _ (List.mem_of_getElem? (i := 366) (by decide +kernel))
  | 5, _ => exact hs _ (List.mem_of_getElem? (i := 367) (by decide +kernel))
  | 6, _ => exact hs _ (List.mem_of_getElem? (i := 368) (by decide +kernel))
  | j + 7, hj => exact absurd hj (by show ¬ j + 7 < 7; omega)
theorem sc_15 {s : State} {b : Nat} (hs : ∀ c ∈ flatC (Jvm.Cond.and given_1 narrow_1), c.before #[Value.ref b] s = true) : SC s b 15 := by
  refine ⟨hs _ (List.mem_of_getElem? (i := 369) (by decide +kernel)), hs _ (List.mem_of_getElem? (i := 370) (by decide +kernel)), hs _ (List.mem_of_getElem? (i := 371) (by decide +kernel)), hs _ (List.mem_of_getElem? (i := 372) (by decide +kernel)), fun j hj => ?_⟩
  match j, hj with
  | 0, _ => exact hs _ (List.mem_of_getElem? (i := 373) (by decide +kernel))
  | 1, _ => exact hs _ (List.mem_of_getElem? (i := 374) (by decide +kernel))
  | 2, _ => exact hs _ (List.mem_of_getElem? (i := 375) (by decide +kernel))
  | 3, _ => exact hs _ (List.mem_of_getElem? (i := 376) (by decide +kernel))
  | 4, _ => exact hs _ (List.mem_of_getElem? (i := 377) (by decide +kernel))
  | 5, _ => exact hs _ (List.mem_of_getElem? (i := 378) (by decide +kernel))
  | 6, _ => exact hs _ (List.mem_of_getElem? (i := 379) (by decide +kernel))
  | 7, _ => exact hs _ (List.mem_of_getElem? (i := 380) (by decide +kernel))
  | j + 8, hj => exact absurd hj (by show ¬ j + 8 < 8; omega)
theorem sc_16 {s : State} {b : Nat} (hs : ∀ c ∈ flatC (Jvm.Cond.and given_1 narrow_1), c.before #[Value.ref b] s = true) : SC s b 16 := by
  refine ⟨hs _ (List.mem_of_getElem? (i := 381) (by decide +kernel)), hs _ (List.mem_of_getElem? (i := 382) (by decide +kernel)), hs _ (List.mem_of_getElem? (i := 383) (by decide +kernel)), hs _ (List.mem_of_getElem? (i := 384) (by decide +kernel)), fun j hj => ?_⟩
  match j, hj with
  | 0, _ => exact hs _ (List.mem_of_getElem? (i := 385) (by decide +kernel))
  | 1, _ => exact hs _ (List.mem_of_getElem? (i := 386) (by decide +kernel))
  | 2, _ => exact hs _ (List.mem_of_getElem? (i := 387) (by decide +kernel))
  | 3, _ => exact hs _ (List.mem_of_getElem? (i := 388) (by decide +kernel))
  | 4, _ => exact hs _ (List.mem_of_getElem? (i := 389) (by decide +kernel))
  | 5, _ => exact hs _ (List.mem_of_getElem? (i := 390) (by decide +kernel))
  | 6, _ => exact hs _ (List.mem_of_getElem? (i := 391) (by decide +kernel))
  | 7, _ => exact hs _ (List.mem_of_getElem? (i := 392) (by decide +kernel))
  | 8, _ => exact hs _ (List.mem_of_getElem? (i := 393) (by decide +kernel))
  | 9, _ => exact hs _ (List.mem_of_getElem? (i := 394) (by decide +kernel))
  | 10, _ => exact hs _ (List.mem_of_getElem? (i := 395) (by decide +kernel))
  | j + 11, hj => exact absurd hj (by show ¬ j + 11 < 11; omega)
theorem sc_17 {s : State} {b : Nat} (hs : ∀ c ∈ flatC (Jvm.Cond.and given_1 narrow_1), c.before #[Value.ref b] s = true) : SC s b 17 := by
  refine ⟨hs _ (List.mem_of_getElem? (i := 396) (by decide +kernel)), hs _ (List.mem_of_getElem? (i := 397) (by decide +kernel)), hs _ (List.mem_of_getElem? (i := 398) (by decide +kernel)), hs _ (List.mem_of_getElem? (i := 399) (by decide +kernel)), fun j hj => ?_⟩
  match j, hj with
  | 0, _ => exact hs _ (List.mem_of_getElem? (i := 400) (by decide +kernel))
  | 1, _ => exact hs _ (List.mem_of_getElem? (i := 401) (by decide +kernel))
  | 2, _ => exact hs _ (List.mem_of_getElem? (i := 402) (by decide +kernel))
  | 3, _ => exact hs _ (List.mem_of_getElem? (i := 403) (by decide +kernel))
  | 4, _ => exact hs _ (List.mem_of_getElem? (i := 404) (by decide +kernel))
  | 5, _ => exact hs _ (List.mem_of_getElem? (i := 405) (by decide +kernel))
  | 6, _ => exact hs _ (List.mem_of_getElem? (i := 406) (by decide +kernel))
  | 7, _ => exact hs _ (List.mem_of_getElem? (i := 407) (by decide +kernel))
  | 8, _ => exact hs _ (List.mem_of_getElem? (i := 408) (by decide +kernel))
  | 9, _ => exact hs _ (List.mem_of_getElem? (i := 409) (by decide +kernel))
  | 10, _ => exact hs _ (List.mem_of_getElem? (i := 410) (by decide +kernel))
  | 11, _ => exact hs _ (List.mem_of_getElem? (i := 411) (by decide +kernel))
  | 12, _ => exact hs _ (List.mem_of_getElem? (i := 412) (by decide +kernel))
  | 13, _ => exact hs _ (List.mem_of_getElem? (i := 413) (by decide +kernel))
  | j + 14, hj => exact absurd hj (by show ¬ j + 14 < 14; omega)
theorem sc_18 {s : State} {b : Nat} (hs : ∀ c ∈ flatC (Jvm.Cond.and given_1 narrow_1), c.before #[Value.ref b] s = true) : SC s b 18 := by
  refine ⟨hs _ (List.mem_of_getElem? (i := 414) (by decide +kernel)), hs _ (List.mem_of_getElem? (i := 415) (by decide +kernel)), hs _ (List.mem_of_getElem? (i := 416) (by decide +kernel)), hs _ (List.mem_of_getElem? (i := 417) (by decide +kernel)), fun j hj => ?_⟩
  match j, hj with
  | 0, _ => exact hs _ (List.mem_of_getElem? (i := 418) (by decide +kernel))
  | 1, _ => exact hs _ (List.mem_of_getElem? (i := 419) (by decide +kernel))
  | 2, _ => exact hs _ (List.mem_of_getElem? (i := 420) (by decide +kernel))
  | 3, _ => exact hs _ (List.mem_of_getElem? (i := 421) (by decide +kernel))
  | 4, _ => exact hs _ (List.mem_of_getElem? (i := 422) (by decide +kernel))
  | 5, _ => exact hs _ (List.mem_of_getElem? (i := 423) (by decide +kernel))
  | 6, _ => exact hs _ (List.mem_of_getElem? (i := 424) (by decide +kernel))
  | 7, _ => exact hs _ (List.mem_of_getElem? (i := 425) (by decide +kernel))
  | 8, _ => exact hs _ (List.mem_of_getElem? (i := 426) (by decide +kernel))
  | 9, _ => exact hs _ (List.mem_of_getElem? (i := 427) (by decide +kernel))
  | 10, _ => exact hs _ (List.mem_of_getElem? (i := 428) (by decide +kernel))
  | j + 11, hj => exact absurd hj (by show ¬ j + 11 < 11; omega)
theorem sc_19 {s : State} {b : Nat} (hs : ∀ c ∈ flatC (Jvm.Cond.and given_1 narrow_1), c.before #[Value.ref b] s = true) : SC s b 19 := by
  refine ⟨hs _ (List.mem_of_getElem? (i := 429) (by decide +kernel)), hs _ (List.mem_of_getElem? (i := 430) (by decide +kernel)), hs _ (List.mem_of_getElem? (i := 431) (by decide +kernel)), hs _ (List.mem_of_getElem? (i := 432) (by decide +kernel)), fun j hj => ?_⟩
  match j, hj with
  | 0, _ => exact hs _ (List.mem_of_getElem? (i := 433) (by decide +kernel))
  | 1, _ => exact hs _ (List.mem_of_getElem? (i := 434) (by decide +kernel))
  | 2, _ => exact hs _ (List.mem_of_getElem? (i := 435) (by decide +kernel))
  | 3, _ => exact hs _ (List.mem_of_getElem? (i := 436) (by decide +kernel))
  | 4, _ => exact hs _ (List.mem_of_getElem? (i := 437) (by decide +kernel))
  | 5, _ => exact hs _ (List.mem_of_getElem? (i := 438) (by decide +kernel))
  | 6, _ => exact hs _ (List.mem_of_getElem? (i := 439) (by decide +kernel))
  | 7, _ => exact hs _ (List.mem_of_getElem? (i := 440) (by decide +kernel))
  | j + 8, hj => exact absurd hj (by show ¬ j + 8 < 8; omega)
theorem sc_20 {s : State} {b : Nat} (hs : ∀ c ∈ flatC (Jvm.Cond.and given_1 narrow_1), c.before #[Value.ref b] s = true) : SC s b 20 := by
  refine ⟨hs _ (List.mem_of_getElem? (i := 441) (by decide +kernel)), hs _ (List.mem_of_getElem? (i := 442) (by decide +kernel)), hs _ (List.mem_of_getElem? (i := 443) (by decide +kernel)), hs _ (List.mem_of_getElem? (i := 444) (by decide +kernel)), fun j hj => ?_⟩
  match j, hj with
  | 0, _ => exact hs _ (List.mem_of_getElem? (i := 445) (by decide +kernel))
  | 1, _ => exact hs _ (List.mem_of_getElem? (i := 446) (by decide +kernel))
  | 2, _ => exact hs _ (List.mem_of_getElem? (i := 447) (by decide +kernel))
  | 3, _ => exact hs _ (List.mem_of_getElem? (i := 448) (by decide +kernel))
  | 4, _ => exact hs _ (List.mem_of_getElem? (i := 449) (by decide +kernel))
  | 5, _ => exact hs _ (List.mem_of_getElem? (i := 450) (by decide +kernel))
  | 6, _ => exact hs _ (List.mem_of_getElem? (i := 451) (by decide +kernel))
  | 7, _ => exact hs _ (List.mem_of_getElem? (i := 452) (by decide +kernel))
  | 8, _ => exact hs _ (List.mem_of_getElem? (i := 453) (by decide +kernel))
  | j + 9, hj => exact absurd hj (by show ¬ j + 9 < 9; omega)
theorem sc_21 {s : State} {b : Nat} (hs : ∀ c ∈ flatC (Jvm.Cond.and given_1 narrow_1), c.before #[Value.ref b] s = true) : SC s b 21 := by
  refine ⟨hs _ (List.mem_of_getElem? (i := 454) (by decide +kernel)), hs _ (List.mem_of_getElem? (i := 455) (by decide +kernel)), hs _ (List.mem_of_getElem? (i := 456) (by decide +kernel)), hs _ (List.mem_of_getElem? (i := 457) (by decide +kernel)), fun j hj => ?_⟩
  match j, hj with
  | 0, _ => exact hs _ (List.mem_of_getElem? (i := 458) (by decide +kernel))
  | 1, _ => exact hs _ (List.mem_of_getElem? (i := 459) (by decide +kernel))
  | j + 2, hj => exact absurd hj (by show ¬ j + 2 < 2; omega)
theorem sc_22 {s : State} {b : Nat} (hs : ∀ c ∈ flatC (Jvm.Cond.and given_1 narrow_1), c.before #[Value.ref b] s = true) : SC s b 22 := by
  refine ⟨hs _ (List.mem_of_getElem? (i := 460) (by decide +kernel)), hs _ (List.mem_of_getElem? (i := 461) (by decide +kernel)), hs _ (List.mem_of_getElem? (i := 462) (by decide +kernel)), hs _ (List.mem_of_getElem? (i := 463) (by decide +kernel)), fun j hj => ?_⟩
  match j, hj with
  | 0, _ => exact hs _ (List.mem_of_getElem? (i := 464) (by decide +kernel))
  | 1, _ => exact hs _ (List.mem_of_getElem? (i := 465) (by decide +kernel))
  | 2, _ => exact hs _ (List.mem_of_getElem? (i := 466) (by decide +kernel))
  | 3, _ => exact hs _ (List.mem_of_getElem? (i := 467) (by decide +kernel))
  | 4, _ => exact hs _ (List.mem_of_getElem? (i := 468) (by decide +kernel))
  | 5, _ => exact hs _ (List.mem_of_getElem? (i := 469) (by decide +kernel))
  | j + 6, hj => exact absurd hj (by show ¬ j + 6 < 6; omega)
theorem sc_23 {s : State} {b : Nat} (hs : ∀ c ∈ flatC (Jvm.Cond.and given_1 narrow_1), c.before #[Value.ref b] s = true) : SC s b 23 := by
  refine ⟨hs _ (List.mem_of_getElem? (i := 470) (by decide +kernel)), hs _ (List.mem_of_getElem? (i := 471) (by decide +kernel)), hs _ (List.mem_of_getElem? (i := 472) (by decide +kernel)), hs _ (List.mem_of_getElem? (i := 473) (by decide +kernel)), fun j hj => ?_⟩
  match j, hj with
  | 0, _ => exact hs _ (List.mem_of_getElem? (i := 474) (by decide +kernel))
  | 1, _ => exact hs _ (List.mem_of_getElem? (i := 475) (by decide +kernel))
  | 2, _ => exact hs _ (List.mem_of_getElem? (i := 476) (by decide +kernel))
  | 3, _ => exact hs _ (List.mem_of_getElem? (i := 477) (by decide +kernel))
  | 4, _ => exact hs _ (List.mem_of_getElem? (i := 478) (by decide +kernel))
  | 5, _ => exact hs _ (List.mem_of_getElem? (i := 479) (by decide +kernel))
  | 6, _ => exact hs _ (List.mem_of_getElem? (i := 480) (by decide +kernel))
  | 7, _ => exact hs _ (List.mem_of_getElem? (i := 481) (by decide +kernel))
  | j + 8, hj => exact absurd hj (by show ¬ j + 8 < 8; omega)
theorem sc_24 {s : State} {b : Nat} (hs : ∀ c ∈ flatC (Jvm.Cond.and given_1 narrow_1), c.before #[Value.ref b] s = true) : SC s b 24 := by
  refine ⟨hs _ (List.mem_of_getElem? (i := 482) (by decide +kernel)), hs _ (List.mem_of_getElem? (i := 483) (by decide +kernel)), hs _ (List.mem_of_getElem? (i := 484) (by decide +kernel)), hs _ (List.mem_of_getElem? (i := 485) (by decide +kernel)), fun j hj => ?_⟩
  match j, hj with
  | 0, _ => exact hs _ (List.mem_of_getElem? (i := 486) (by decide +kernel))
  | 1, _ => exact hs _ (List.mem_of_getElem? (i := 487) (by decide +kernel))
  | j + 2, hj => exact absurd hj (by show ¬ j + 2 < 2; omega)
theorem sc_25 {s : State} {b : Nat} (hs : ∀ c ∈ flatC (Jvm.Cond.and given_1 narrow_1), c.before #[Value.ref b] s = true) : SC s b 25 := by
  refine ⟨hs _ (List.mem_of_getElem? (i := 736) (by decide +kernel)), hs _ (List.mem_of_getElem? (i := 737) (by decide +kernel)), hs _ (List.mem_of_getElem? (i := 738) (by decide +kernel)), hs _ (List.mem_of_getElem? (i := 739) (by decide +kernel)), fun j hj => ?_⟩
  match j, hj with
  | 0, _ => exact hs _ (List.mem_of_getElem? (i := 740) (by decide +kernel))
  | j + 1, hj => exact absurd hj (by show ¬ j + 1 < 1; omega)
theorem sc_all {s : State} {b : Nat} (hs : ∀ c ∈ flatC (Jvm.Cond.and given_1 narrow_1), c.before #[Value.ref b] s = true) : ∀ i, i < nJS → SC s b i := fun i hi => by
  match i, hi with
  | 0, _ => exact sc_0 hs
  | 1, _ => exact sc_1 hs
  | 2, _ => exact sc_2 hs
  | 3, _ => exact sc_3 hs
  | 4, _ => exact sc_4 hs
  | 5, _ => exact sc_5 hs
  | 6, _ => exact sc_6 hs
  | 7, _ => exact sc_7 hs
  | 8, _ => exact sc_8 hs
  | 9, _ => exact sc_9 hs
  | 10, _ => exact sc_10 hs
  | 11, _ => exact sc_11 hs
  | 12, _ => exact sc_12 hs
  | 13, _ => exact sc_13 hs
  | 14, _ => exact sc_14 hs
  | 15, _ => exact sc_15 hs
  | 16, _ => exact sc_16 hs
  | 17, _ => exact sc_17 hs
  | 18, _ => exact sc_18 hs
  | 19, _ => exact sc_19 hs
  | 20, _ => exact sc_20 hs
  | 21, _ => exact sc_21 hs
  | 22, _ => exact sc_22 hs
  | 23, _ => exact sc_23 hs
  | 24, _ => exact sc_24 hs
  | 25, _ => exact sc_25 hs
  | i + 26, hi => exact absurd hi (by show ¬ i + 26 < 26; omega)
theorem dg_0 {s : State} {b : Nat} (hs : ∀ c ∈ flatC (Jvm.Cond.and given_1 narrow_1), c.before #[Value.ref b] s = true) : ∀ j, 0 ≤ j → j < 10 → (Cond.eq (.elem (.static "java/lang/Integer" "DigitOnes" "[B") (.int (Int32.ofNat j))) (.int (nI (48 + j % 10)))).before #[Value.ref b] s = true := fun j h0 h1 => by
  have hc : j = 0 ∨ j = 1 ∨ j = 2 ∨ j = 3 ∨ j = 4 ∨ j = 5 ∨ j = 6 ∨ j = 7 ∨ j = 8 ∨ j = 9 := by omega
  rcases hc with rfl | rfl | rfl | rfl | rfl | rfl | rfl | rfl | rfl | rfl
  · exact hs _ (List.mem_of_getElem? (i := 12) (by decide +kernel))
  · exact hs _ (List.mem_of_getElem? (i := 13) (by decide +kernel))
  · exact hs _ (List.mem_of_getElem? (i := 14) (by decide +kernel))
  · exact hs _ (List.mem_of_getElem? (i := 15) (by decide +kernel))
  · exact hs _ (List.mem_of_getElem? (i := 16) (by decide +kernel))
  · exact hs _ (List.mem_of_getElem? (i := 17) (by decide +kernel))
  · exact hs _ (List.mem_of_getElem? (i := 18) (by decide +kernel))
  · exact hs _ (List.mem_of_getElem? (i := 19) (by decide +kernel))
  · exact hs _ (List.mem_of_getElem? (i := 20) (by decide +kernel))
  · exact hs _ (List.mem_of_getElem? (i := 21) (by decide +kernel))
theorem dg_1 {s : State} {b : Nat} (hs : ∀ c ∈ flatC (Jvm.Cond.and given_1 narrow_1), c.before #[Value.ref b] s = true) : ∀ j, 10 ≤ j → j < 20 → (Cond.eq (.elem (.static "java/lang/Integer" "DigitOnes" "[B") (.int (Int32.ofNat j))) (.int (nI (48 + j % 10)))).before #[Value.ref b] s = true := fun j h0 h1 => by
  have hc : j = 10 ∨ j = 11 ∨ j = 12 ∨ j = 13 ∨ j = 14 ∨ j = 15 ∨ j = 16 ∨ j = 17 ∨ j = 18 ∨ j = 19 := by omega
  rcases hc with rfl | rfl | rfl | rfl | rfl | rfl | rfl | rfl | rfl | rfl
  · exact hs _ (List.mem_of_getElem? (i := 22) (by decide +kernel))
  · exact hs _ (List.mem_of_getElem? (i := 23) (by decide +kernel))
  · exact hs _ (List.mem_of_getElem? (i := 24) (by decide +kernel))
  · exact hs _ (List.mem_of_getElem? (i := 25) (by decide +kernel))
  · exact hs _ (List.mem_of_getElem? (i := 26) (by decide +kernel))
  · exact hs _ (List.mem_of_getElem? (i := 27) (by decide +kernel))
  · exact hs _ (List.mem_of_getElem? (i := 28) (by decide +kernel))
  · exact hs _ (List.mem_of_getElem? (i := 29) (by decide +kernel))
  · exact hs _ (List.mem_of_getElem? (i := 30) (by decide +kernel))
  · exact hs _ (List.mem_of_getElem? (i := 31) (by decide +kernel))
theorem dg_2 {s : State} {b : Nat} (hs : ∀ c ∈ flatC (Jvm.Cond.and given_1 narrow_1), c.before #[Value.ref b] s = true) : ∀ j, 20 ≤ j → j < 30 → (Cond.eq (.elem (.static "java/lang/Integer" "DigitOnes" "[B") (.int (Int32.ofNat j))) (.int (nI (48 + j % 10)))).before #[Value.ref b] s = true := fun j h0 h1 => by
  have hc : j = 20 ∨ j = 21 ∨ j = 22 ∨ j = 23 ∨ j = 24 ∨ j = 25 ∨ j = 26 ∨ j = 27 ∨ j = 28 ∨ j = 29 := by omega
  rcases hc with rfl | rfl | rfl | rfl | rfl | rfl | rfl | rfl | rfl | rfl
  · exact hs _ (List.mem_of_getElem? (i := 32) (by decide +kernel))
  · exact hs _ (List.mem_of_getElem? (i := 33) (by decide +kernel))
  · exact hs _ (List.mem_of_getElem? (i := 34) (by decide +kernel))
  · exact hs _ (List.mem_of_getElem? (i := 35) (by decide +kernel))
  · exact hs _ (List.mem_of_getElem? (i := 36) (by decide +kernel))
  · exact hs _ (List.mem_of_getElem? (i := 37) (by decide +kernel))
  · exact hs _ (List.mem_of_getElem? (i := 38) (by decide +kernel))
  · exact hs _ (List.mem_of_getElem? (i := 39) (by decide +kernel))
  · exact hs _ (List.mem_of_getElem? (i := 40) (by decide +kernel))
  · exact hs _ (List.mem_of_getElem? (i := 41) (by decide +kernel))
theorem dg_3 {s : State} {b : Nat} (hs : ∀ c ∈ flatC (Jvm.Cond.and given_1 narrow_1), c.before #[Value.ref b] s = true) : ∀ j, 30 ≤ j → j < 40 → (Cond.eq (.elem (.static "java/lang/Integer" "DigitOnes" "[B") (.int (Int32.ofNat j))) (.int (nI (48 + j % 10)))).before #[Value.ref b] s = true := fun j h0 h1 => by
  have hc : j = 30 ∨ j = 31 ∨ j = 32 ∨ j = 33 ∨ j = 34 ∨ j = 35 ∨ j = 36 ∨ j = 37 ∨ j = 38 ∨ j = 39 := by omega
  rcases hc with rfl | rfl | rfl | rfl | rfl | rfl | rfl | rfl | rfl | rfl
  · exact hs _ (List.mem_of_getElem? (i := 42) (by decide +kernel))
  · exact hs _ (List.mem_of_getElem? (i := 43) (by decide +kernel))
  · exact hs _ (List.mem_of_getElem? (i := 44) (by decide +kernel))
  · exact hs _ (List.mem_of_getElem? (i := 45) (by decide +kernel))
  · exact hs _ (List.mem_of_getElem? (i := 46) (by decide +kernel))
  · exact hs _ (List.mem_of_getElem? (i := 47) (by decide +kernel))
  · exact hs _ (List.mem_of_getElem? (i := 48) (by decide +kernel))
  · exact hs _ (List.mem_of_getElem? (i := 49) (by decide +kernel))
  · exact hs _ (List.mem_of_getElem? (i := 50) (by decide +kernel))
  · exact hs _ (List.mem_of_getElem? (i := 51) (by decide +kernel))
theorem dg_4 {s : State} {b : Nat} (hs : ∀ c ∈ flatC (Jvm.Cond.and given_1 narrow_1), c.before #[Value.ref b] s = true) : ∀ j, 40 ≤ j → j < 50 → (Cond.eq (.elem (.static "java/lang/Integer" "DigitOnes" "[B") (.int (Int32.ofNat j))) (.int (nI (48 + j % 10)))).before #[Value.ref b] s = true := fun j h0 h1 => by
  have hc : j = 40 ∨ j = 41 ∨ j = 42 ∨ j = 43 ∨ j = 44 ∨ j = 45 ∨ j = 46 ∨ j = 47 ∨ j = 48 ∨ j = 49 := by omega
  rcases hc with rfl | rfl | rfl | rfl | rfl | rfl | rfl | rfl | rfl | rfl
  · exact hs _ (List.mem_of_getElem? (i := 52) (by decide +kernel))
  · exact hs _ (List.mem_of_getElem? (i := 53) (by decide +kernel))
  · exact hs _ (List.mem_of_getElem? (i := 54) (by decide +kernel))
  · exact hs _ (List.mem_of_getElem? (i := 55) (by decide +kernel))
  · exact hs _ (List.mem_of_getElem? (i := 56) (by decide +kernel))
  · exact hs _ (List.mem_of_getElem? (i := 57) (by decide +kernel))
  · exact hs _ (List.mem_of_getElem? (i := 58) (by decide +kernel))
  · exact hs _ (List.mem_of_getElem? (i := 59) (by decide +kernel))
  · exact hs _ (List.mem_of_getElem? (i := 60) (by decide +kernel))
  · exact hs _ (List.mem_of_getElem? (i := 61) (by decide +kernel))
theorem dg_5 {s : State} {b : Nat} (hs : ∀ c ∈ flatC (Jvm.Cond.and given_1 narrow_1), c.before #[Value.ref b] s = true) : ∀ j, 50 ≤ j → j < 60 → (Cond.eq (.elem (.static "java/lang/Integer" "DigitOnes" "[B") (.int (Int32.ofNat j))) (.int (nI (48 + j % 10)))).before #[Value.ref b] s = true := fun j h0 h1 => by
  have hc : j = 50 ∨ j = 51 ∨ j = 52 ∨ j = 53 ∨ j = 54 ∨ j = 55 ∨ j = 56 ∨ j = 57 ∨ j = 58 ∨ j = 59 := by omega
  rcases hc with rfl | rfl | rfl | rfl | rfl | rfl | rfl | rfl | rfl | rfl
  · exact hs _ (List.mem_of_getElem? (i := 62) (by decide +kernel))
  · exact hs _ (List.mem_of_getElem? (i := 63) (by decide +kernel))
  · exact hs _ (List.mem_of_getElem? (i := 64) (by decide +kernel))
  · exact hs _ (List.mem_of_getElem? (i := 65) (by decide +kernel))
  · exact hs _ (List.mem_of_getElem? (i := 66) (by decide +kernel))
  · exact hs _ (List.mem_of_getElem? (i := 67) (by decide +kernel))
  · exact hs _ (List.mem_of_getElem? (i := 68) (by decide +kernel))
  · exact hs _ (List.mem_of_getElem? (i := 69) (by decide +kernel))
  · exact hs _ (List.mem_of_getElem? (i := 70) (by decide +kernel))
  · exact hs _ (List.mem_of_getElem? (i := 71) (by decide +kernel))
theorem dg_6 {s : State} {b : Nat} (hs : ∀ c ∈ flatC (Jvm.Cond.and given_1 narrow_1), c.before #[Value.ref b] s = true) : ∀ j, 60 ≤ j → j < 70 → (Cond.eq (.elem (.static "java/lang/Integer" "DigitOnes" "[B") (.int (Int32.ofNat j))) (.int (nI (48 + j % 10)))).before #[Value.ref b] s = true := fun j h0 h1 => by
  have hc : j = 60 ∨ j = 61 ∨ j = 62 ∨ j = 63 ∨ j = 64 ∨ j = 65 ∨ j = 66 ∨ j = 67 ∨ j = 68 ∨ j = 69 := by omega
  rcases hc with rfl | rfl | rfl | rfl | rfl | rfl | rfl | rfl | rfl | rfl
  · exact hs _ (List.mem_of_getElem? (i := 72) (by decide +kernel))
  · exact hs _ (List.mem_of_getElem? (i := 73) (by decide +kernel))
  · exact hs _ (List.mem_of_getElem? (i := 74) (by decide +kernel))
  · exact hs _ (List.mem_of_getElem? (i := 75) (by decide +kernel))
  · exact hs _ (List.mem_of_getElem? (i := 76) (by decide +kernel))
  · exact hs _ (List.mem_of_getElem? (i := 77) (by decide +kernel))
  · exact hs _ (List.mem_of_getElem? (i := 78) (by decide +kernel))
  · exact hs _ (List.mem_of_getElem? (i := 79) (by decide +kernel))
  · exact hs _ (List.mem_of_getElem? (i := 80) (by decide +kernel))
  · exact hs _ (List.mem_of_getElem? (i := 81) (by decide +kernel))
theorem dg_7 {s : State} {b : Nat} (hs : ∀ c ∈ flatC (Jvm.Cond.and given_1 narrow_1), c.before #[Value.ref b] s = true) : ∀ j, 70 ≤ j → j < 80 → (Cond.eq (.elem (.static "java/lang/Integer" "DigitOnes" "[B") (.int (Int32.ofNat j))) (.int (nI (48 + j % 10)))).before #[Value.ref b] s = true := fun j h0 h1 => by
  have hc : j = 70 ∨ j = 71 ∨ j = 72 ∨ j = 73 ∨ j = 74 ∨ j = 75 ∨ j = 76 ∨ j = 77 ∨ j = 78 ∨ j = 79 := by omega
  rcases hc with rfl | rfl | rfl | rfl | rfl | rfl | rfl | rfl | rfl | rfl
  · exact hs _ (List.mem_of_getElem? (i := 82) (by decide +kernel))
  · exact hs _ (List.mem_of_getElem? (i := 83) (by decide +kernel))
  · exact hs _ (List.mem_of_getElem? (i := 84) (by decide +kernel))
  · exact hs _ (List.mem_of_getElem? (i := 85) (by decide +kernel))
  · exact hs _ (List.mem_of_getElem? (i := 86) (by decide +kernel))
  · exact hs _ (List.mem_of_getElem? (i := 87) (by decide +kernel))
  · exact hs _ (List.mem_of_getElem? (i := 88) (by decide +kernel))
  · exact hs _ (List.mem_of_getElem? (i := 89) (by decide +kernel))
  · exact hs _ (List.mem_of_getElem? (i := 90) (by decide +kernel))
  · exact hs _ (List.mem_of_getElem? (i := 91) (by decide +kernel))
theorem dg_8 {s : State} {b : Nat} (hs : ∀ c ∈ flatC (Jvm.Cond.and given_1 narrow_1), c.before #[Value.ref b] s = true) : ∀ j, 80 ≤ j → j < 90 → (Cond.eq (.elem (.static "java/lang/Integer" "DigitOnes" "[B") (.int (Int32.ofNat j))) (.int (nI (48 + j % 10)))).before #[Value.ref b] s = true := fun j h0 h1 => by
  have hc : j = 80 ∨ j = 81 ∨ j = 82 ∨ j = 83 ∨ j = 84 ∨ j = 85 ∨ j = 86 ∨ j = 87 ∨ j = 88 ∨ j = 89 := by omega
  rcases hc with rfl | rfl | rfl | rfl | rfl | rfl | rfl | rfl | rfl | rfl
  · exact hs _ (List.mem_of_getElem? (i := 92) (by decide +kernel))
  · exact hs _ (List.mem_of_getElem? (i := 93) (by decide +kernel))
  · exact hs _ (List.mem_of_getElem? (i := 94) (by decide +kernel))
  · exact hs _ (List.mem_of_getElem? (i := 95) (by decide +kernel))
  · exact hs _ (List.mem_of_getElem? (i := 96) (by decide +kernel))
  · exact hs _ (List.mem_of_getElem? (i := 97) (by decide +kernel))
  · exact hs _ (List.mem_of_getElem? (i := 98) (by decide +kernel))
  · exact hs _ (List.mem_of_getElem? (i := 99) (by decide +kernel))
  · exact hs _ (List.mem_of_getElem? (i := 100) (by decide +kernel))
  · exact hs _ (List.mem_of_getElem? (i := 101) (by decide +kernel))
theorem dg_9 {s : State} {b : Nat} (hs : ∀ c ∈ flatC (Jvm.Cond.and given_1 narrow_1), c.before #[Value.ref b] s = true) : ∀ j, 90 ≤ j → j < 100 → (Cond.eq (.elem (.static "java/lang/Integer" "DigitOnes" "[B") (.int (Int32.ofNat j))) (.int (nI (48 + j % 10)))).before #[Value.ref b] s = true := fun j h0 h1 => by
  have hc : j = 90 ∨ j = 91 ∨ j = 92 ∨ j = 93 ∨ j = 94 ∨ j = 95 ∨ j = 96 ∨ j = 97 ∨ j = 98 ∨ j = 99 := by omega
  rcases hc with rfl | rfl | rfl | rfl | rfl | rfl | rfl | rfl | rfl | rfl
  · exact hs _ (List.mem_of_getElem? (i := 102) (by decide +kernel))
  · exact hs _ (List.mem_of_getElem? (i := 103) (by decide +kernel))
  · exact hs _ (List.mem_of_getElem? (i := 104) (by decide +kernel))
  · exact hs _ (List.mem_of_getElem? (i := 105) (by decide +kernel))
  · exact hs _ (List.mem_of_getElem? (i := 106) (by decide +kernel))
  · exact hs _ (List.mem_of_getElem? (i := 107) (by decide +kernel))
  · exact hs _ (List.mem_of_getElem? (i := 108) (by decide +kernel))
  · exact hs _ (List.mem_of_getElem? (i := 109) (by decide +kernel))
  · exact hs _ (List.mem_of_getElem? (i := 110) (by decide +kernel))
  · exact hs _ (List.mem_of_getElem? (i := 111) (by decide +kernel))
theorem dg_all {s : State} {b : Nat} (hs : ∀ c ∈ flatC (Jvm.Cond.and given_1 narrow_1), c.before #[Value.ref b] s = true) : ∀ j, j < 100 → (Cond.eq (.elem (.static "java/lang/Integer" "DigitOnes" "[B") (.int (Int32.ofNat j))) (.int (nI (48 + j % 10)))).before #[Value.ref b] s = true := fun j h1 => by
  have hc : (0 ≤ j ∧ j < 10) ∨ (10 ≤ j ∧ j < 20) ∨ (20 ≤ j ∧ j < 30) ∨ (30 ≤ j ∧ j < 40) ∨ (40 ≤ j ∧ j < 50) ∨ (50 ≤ j ∧ j < 60) ∨ (60 ≤ j ∧ j < 70) ∨ (70 ≤ j ∧ j < 80) ∨ (80 ≤ j ∧ j < 90) ∨ (90 ≤ j ∧ j < 100) := by omega
  rcases hc with h | h | h | h | h | h | h | h | h | h
  · exact dg_0 hs j h.1 h.2
  · exact dg_1 hs j h.1 h.2
  · exact dg_2 hs j h.1 h.2
  · exact dg_3 hs j h.1 h.2
  · exact dg_4 hs j h.1 h.2
  · exact dg_5 hs j h.1 h.2
  · exact dg_6 hs j h.1 h.2
  · exact dg_7 hs j h.1 h.2
  · exact dg_8 hs j h.1 h.2
  · exact dg_9 hs j h.1 h.2
theorem sr_all : ∀ i, i < nJS → (Cond.stringRef (ownJS i) (idxJS i) (texJS i)) ∈ lw_tbl := fun i hi => by
  match i, hi with
  | 0, _ => exact List.mem_of_getElem? (i := 769) (by decide +kernel)
  | 1, _ => exact List.mem_of_getElem? (i := 883) (by decide +kernel)
  | 2, _ => exact List.mem_of_getElem? (i := 898) (by decide +kernel)
  | 3, _ => exact List.mem_of_getElem? (i := 922) (by decide +kernel)
  | 4, _ => exact List.mem_of_getElem? (i := 943) (by decide +kernel)
  | 5, _ => exact List.mem_of_getElem? (i := 952) (by decide +kernel)
  | 6, _ => exact List.mem_of_getElem? (i := 964) (by decide +kernel)
  | 7, _ => exact List.mem_of_getElem? (i := 988) (by decide +kernel)
  | 8, _ => exact List.mem_of_getElem? (i := 1003) (by decide +kernel)
  | 9, _ => exact List.mem_of_getElem? (i := 1015) (by decide +kernel)
  | 10, _ => exact List.mem_of_getElem? (i := 1032) (by decide +kernel)
  | 11, _ => exact List.mem_of_getElem? (i := 1124) (by decide +kernel)
  | 12, _ => exact List.mem_of_getElem? (i := 1502) (by decide +kernel)
  | 13, _ => exact List.mem_of_getElem? (i := 1521) (by decide +kernel)
  | 14, _ => exact List.mem_of_getElem? (i := 336) (by decide +kernel)
  | 15, _ => exact List.mem_of_getElem? (i := 503) (by decide +kernel)
  | 16, _ => exact List.mem_of_getElem? (i := 527) (by decide +kernel)
  | 17, _ => exact List.mem_of_getElem? (i := 532) (by decide +kernel)
  | 18, _ => exact List.mem_of_getElem? (i := 536) (by decide +kernel)
  | 19, _ => exact List.mem_of_getElem? (i := 541) (by decide +kernel)
  | 20, _ => exact List.mem_of_getElem? (i := 606) (by decide +kernel)
  | 21, _ => exact List.mem_of_getElem? (i := 607) (by decide +kernel)
  | 22, _ => exact List.mem_of_getElem? (i := 618) (by decide +kernel)
  | 23, _ => exact List.mem_of_getElem? (i := 653) (by decide +kernel)
  | 24, _ => exact List.mem_of_getElem? (i := 654) (by decide +kernel)
  | 25, _ => exact List.mem_of_getElem? (i := 1618) (by decide +kernel)
  | i + 26, hi => exact absurd hi (by show ¬ i + 26 < 26; omega)
theorem ne_all : ∀ q ∈ xNest, Cond.methodLinkNest q.1 q.2.1 q.2.2.1 q.2.2.2 ∈ lw_tbl := List.forall_mem_cons.mpr ⟨List.mem_of_getElem? (i := 1352) (by decide +kernel), List.forall_mem_cons.mpr ⟨List.mem_of_getElem? (i := 1407) (by decide +kernel), List.forall_mem_cons.mpr ⟨List.mem_of_getElem? (i := 119) (by decide +kernel), List.forall_mem_cons.mpr ⟨List.mem_of_getElem? (i := 1061) (by decide +kernel), List.forall_mem_cons.mpr ⟨List.mem_of_getElem? (i := 1481) (by decide +kernel), List.forall_mem_cons.mpr ⟨List.mem_of_getElem? (i := 1072) (by decide +kernel), List.forall_mem_cons.mpr ⟨List.mem_of_getElem? (i := 1089) (by decide +kernel), List.forall_mem_cons.mpr ⟨List.mem_of_getElem? (i := 1047) (by decide +kernel), List.forall_mem_cons.mpr ⟨List.mem_of_getElem? (i := 1184) (by decide +kernel), List.forall_mem_cons.mpr ⟨List.mem_of_getElem? (i := 1147) (by decide +kernel), List.forall_mem_cons.mpr ⟨List.mem_of_getElem? (i := 919) (by decide +kernel), List.forall_mem_cons.mpr ⟨List.mem_of_getElem? (i := 1224) (by decide +kernel), List.forall_mem_cons.mpr ⟨List.mem_of_getElem? (i := 1225) (by decide +kernel), List.forall_mem_cons.mpr ⟨List.mem_of_getElem? (i := 1012) (by decide +kernel), List.forall_mem_cons.mpr ⟨List.mem_of_getElem? (i := 1002) (by decide +kernel), List.forall_mem_cons.mpr ⟨List.mem_of_getElem? (i := 931) (by decide +kernel), List.forall_mem_cons.mpr ⟨List.mem_of_getElem? (i := 872) (by decide +kernel), List.forall_mem_cons.mpr ⟨List.mem_of_getElem? (i := 1457) (by decide +kernel), List.forall_mem_cons.mpr ⟨List.mem_of_getElem? (i := 1458) (by decide +kernel), List.forall_mem_cons.mpr ⟨List.mem_of_getElem? (i := 1418) (by decide +kernel), List.forall_mem_cons.mpr ⟨List.mem_of_getElem? (i := 623) (by decide +kernel), List.forall_mem_cons.mpr ⟨List.mem_of_getElem? (i := 1682) (by decide +kernel), List.forall_mem_cons.mpr ⟨List.mem_of_getElem? (i := 528) (by decide +kernel), List.forall_mem_cons.mpr ⟨List.mem_of_getElem? (i := 533) (by decide +kernel), List.forall_mem_cons.mpr ⟨List.mem_of_getElem? (i := 537) (by decide +kernel), List.forall_mem_cons.mpr ⟨List.mem_of_getElem? (i := 567) (by decide +kernel), List.forall_mem_cons.mpr ⟨List.mem_of_getElem? (i := 615) (by decide +kernel), (fun _ z => absurd z List.not_mem_nil)⟩⟩⟩⟩⟩⟩⟩⟩⟩⟩⟩⟩⟩⟩⟩⟩⟩⟩⟩⟩⟩⟩⟩⟩⟩⟩⟩
theorem nf_all : ∀ q ∈ xNeF, Cond.fieldLinkNest q.1 q.2.1 q.2.2.1 q.2.2.2.1 q.2.2.2.2.1 q.2.2.2.2.2 ∈ lw_tbl := List.forall_mem_cons.mpr ⟨List.mem_of_getElem? (i := 666) (by decide +kernel), List.forall_mem_cons.mpr ⟨List.mem_of_getElem? (i := 668) (by decide +kernel), List.forall_mem_cons.mpr ⟨List.mem_of_getElem? (i := 670) (by decide +kernel), List.forall_mem_cons.mpr ⟨List.mem_of_getElem? (i := 660) (by decide +kernel), List.forall_mem_cons.mpr ⟨List.mem_of_getElem? (i := 592) (by decide +kernel), List.forall_mem_cons.mpr ⟨List.mem_of_getElem? (i := 589) (by decide +kernel), List.forall_mem_cons.mpr ⟨List.mem_of_getElem? (i := 662) (by decide +kernel), List.forall_mem_cons.mpr ⟨List.mem_of_getElem? (i := 640) (by decide +kernel), List.forall_mem_cons.mpr ⟨List.mem_of_getElem? (i := 643) (by decide +kernel), List.forall_mem_cons.mpr ⟨List.mem_of_getElem? (i := 664) (by decide +kernel), List.forall_mem_cons.mpr ⟨List.mem_of_getElem? (i := 581) (by decide +kernel), List.forall_mem_cons.mpr ⟨List.mem_of_getElem? (i := 583) (by decide +kernel), List.forall_mem_cons.mpr ⟨List.mem_of_getElem? (i := 637) (by decide +kernel), List.forall_mem_cons.mpr ⟨List.mem_of_getElem? (i := 658) (by decide +kernel), List.forall_mem_cons.mpr ⟨List.mem_of_getElem? (i := 586) (by decide +kernel), List.forall_mem_cons.mpr ⟨List.mem_of_getElem? (i := 656) (by decide +kernel), List.forall_mem_cons.mpr ⟨List.mem_of_getElem? (i := 591) (by decide +kernel), List.forall_mem_cons.mpr ⟨List.mem_of_getElem? (i := 588) (by decide +kernel), List.forall_mem_cons.mpr ⟨List.mem_of_getElem? (i := 639) (by decide +kernel), List.forall_mem_cons.mpr ⟨List.mem_of_getElem? (i := 642) (by decide +kernel), (fun _ z => absurd z List.not_mem_nil)⟩⟩⟩⟩⟩⟩⟩⟩⟩⟩⟩⟩⟩⟩⟩⟩⟩⟩⟩⟩
theorem de_all : ∀ x ∈ xDec, Cond.declares x ∈ lw_tbl := List.forall_mem_cons.mpr ⟨List.mem_of_getElem? (i := 731) (by decide +kernel), List.forall_mem_cons.mpr ⟨List.mem_of_getElem? (i := 732) (by decide +kernel), List.forall_mem_cons.mpr ⟨List.mem_of_getElem? (i := 733) (by decide +kernel), List.forall_mem_cons.mpr ⟨List.mem_of_getElem? (i := 734) (by decide +kernel), List.forall_mem_cons.mpr ⟨List.mem_of_getElem? (i := 735) (by decide +kernel), List.forall_mem_cons.mpr ⟨List.mem_of_getElem? (i := 736) (by decide +kernel), (fun _ z => absurd z List.not_mem_nil)⟩⟩⟩⟩⟩⟩
theorem ca_all : ∀ i, Cond.castable (xnm i) (xnm i) ∈ lw_tbl
  | 0 => List.mem_of_getElem? (i := 1117) (show lw_tbl[1117]? = some (Cond.castable (xnm 0) (xnm 0)) by decide +kernel)
  | 1 => List.mem_of_getElem? (i := 730) (show lw_tbl[730]? = some (Cond.castable (xnm 1) (xnm 1)) by decide +kernel)
  | _ + 2 => List.mem_of_getElem? (i := 1025) (show lw_tbl[1025]? = some (Cond.castable (xnm 2) (xnm 2)) by decide +kernel)
theorem nc_all : ∀ i j, xnm i ≠ xnm j → Cond.not (.castable (xnm i) (xnm j)) ∈ flatC (Jvm.Cond.and given_1 narrow_1)
  | 0, 0, h => absurd rfl h
  | 0, 1, _ => List.mem_of_getElem? (i := 246) (show (flatC (Jvm.Cond.and given_1 narrow_1))[246]? = some (Cond.not (.castable (xnm 0) (xnm 1))) by decide +kernel)
  | 0, _ + 2, _ => List.mem_of_getElem? (i := 263) (show (flatC (Jvm.Cond.and given_1 narrow_1))[263]? = some (Cond.not (.castable (xnm 0) (xnm 2))) by decide +kernel)
  | 1, 0, _ => List.mem_of_getElem? (i := 230) (show (flatC (Jvm.Cond.and given_1 narrow_1))[230]? = some (Cond.not (.castable (xnm 1) (xnm 0))) by decide +kernel)
  | 1, 1, h => absurd rfl h
  | 1, _ + 2, _ => List.mem_of_getElem? (i := 264) (show (flatC (Jvm.Cond.and given_1 narrow_1))[264]? = some (Cond.not (.castable (xnm 1) (xnm 2))) by decide +kernel)
  | _ + 2, 0, _ => List.mem_of_getElem? (i := 229) (show (flatC (Jvm.Cond.and given_1 narrow_1))[229]? = some (Cond.not (.castable (xnm 2) (xnm 0))) by decide +kernel)
  | _ + 2, 1, _ => List.mem_of_getElem? (i := 247) (show (flatC (Jvm.Cond.and given_1 narrow_1))[247]? = some (Cond.not (.castable (xnm 2) (xnm 1))) by decide +kernel)
  | _ + 2, _ + 2, h => absurd rfl h
theorem sp_all {s : State} {b : Nat} (hts : ∀ w ∈ lw_tbl, w.before #[Value.ref b] s = true) : ∀ y ∈ xPrv, (Cond.selects RJ4 y y).before #[Value.ref b] s = true := List.forall_mem_cons.mpr ⟨sel_priv (z := yJ5_isLatin1_aae02) ⟨by decide, by decide⟩ rfl (hts _ inst23.1) (hts _ (List.mem_of_getElem? (i := 382) (by decide +kernel))) (hts _ (List.mem_of_getElem? (i := 383) (by decide +kernel))) (hts _ (List.mem_of_getElem? (i := 418) (by decide +kernel))), List.forall_mem_cons.mpr ⟨sel_priv (z := yJ5_isLatin1_aae02) ⟨by decide, by decide⟩ rfl (hts _ inst23.1) (hts _ (List.mem_of_getElem? (i := 386) (by decide +kernel))) (hts _ (List.mem_of_getElem? (i := 387) (by decide +kernel))) (hts _ (List.mem_of_getElem? (i := 418) (by decide +kernel))), List.forall_mem_cons.mpr ⟨sel_priv (z := yJ5_isLatin1_aae02) ⟨by decide, by decide⟩ rfl (hts _ inst23.1) (hts _ (List.mem_of_getElem? (i := 448) (by decide +kernel))) (hts _ (List.mem_of_getElem? (i := 449) (by decide +kernel))) (hts _ (List.mem_of_getElem? (i := 418) (by decide +kernel))), List.forall_mem_cons.mpr ⟨sel_priv (z := yJ5_isLatin1_aae02) ⟨by decide, by decide⟩ rfl (hts _ inst23.1) (hts _ (List.mem_of_getElem? (i := 452) (by decide +kernel))) (hts _ (List.mem_of_getElem? (i := 453) (by decide +kernel))) (hts _ (List.mem_of_getElem? (i := 418) (by decide +kernel))), (fun _ z => absurd z List.not_mem_nil)⟩⟩⟩⟩
