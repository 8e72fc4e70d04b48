/-! The class's constructor, by the machine. -/
set_option linter.unusedVariables false
theorem clX8_27 : xIn (.classLink RX8 27 "[[I") := ⟨List.mem_of_getElem? (i := 324) (by decide +kernel), rfl⟩
theorem S_multi {E : XG} {M : XM} {α : Type} {en : α → Option Value} {a b : Nat} {L : List (Option Value)} {st : List Value} {h : XH} (pc a0 N K : Nat) {idx : Nat} {own : String} {n kk : Int32} {f9 : Nat → XH → XP α} (ho : own = (mY M).cls) (hcl : xIn (.classLink own idx "[[I")) (hai : xIn (.arrayClass .int)) (hn : ¬ n < 0) (hk : ¬ kk < 0) (hN : n.toNatClampNeg = N) (hK : kk.toNatClampNeg = K) (bN : N ≤ 1000) (bK : K ≤ 1000) (d : decode (mC M) pc = .ok (.multianewarray idx 2, 4)) (kq : ∀ w h1, XS E M en a b (pc + 4) L (.ref w :: st) h1 (f9 w h1)) : XS E M en (a + 1 + N) (b + N + N * K) pc L (.int kk :: .int n :: st) h (xg (xk h a0 ≠ 0) (xmg h N K f9)) := fun r h' e =>
  X_less (by omega) (by omega) (X_multi (k := a + ek r) (u := b + es r) pc a0 N K (xg_of e).1 ho hcl hai hn hk hN hK bN bK d (kq _ _ r h' (xg_of e).2))
theorem CX8_init (E : XG) (t : Nat) (h : XH) : XN E mX8_init eU 222 9505 [.ref t] h (FX8_init E t h) := by
  unfold FX8_init
  refine S_enter (L := [some (.ref t)]) (by decide +kernel) rfl rfl rfl ?_
  refine S_aload_0 0 dX8_init_0 ?_
  refine S_objinit 1 rfl oiX8_3 oiI oiC (by decide) (by decide) (by exact Nat.le_of_ble_eq_true rfl) dX8_init_1 ?_
  refine S_aload_0 4 dX8_init_4 ?_
  refine S_sip 5 900 dX8_init_5 (by decide) ?_
  refine S_new_byte (a := 221) (b := 8605) 8 t 900 (by decide) (by decide) (by decide) ar11 dX8_init_8 (fun w1 h2 => ?_)
  refine S_putR 10 frX8_9 rfl rfl (fun _ => rfl) dX8_init_10 (fun h3 => ?_)
  refine S_aload_0 13 dX8_init_13 ?_
  refine S_ic 14 (-1) dX8_init_14 (by decide) ?_
  refine S_putI 15 frX8_13 rfl (fun q => by cases q) dX8_init_15 (fun h4 => ?_)
  refine S_aload_0 18 dX8_init_18 ?_
  refine S_new (a := 220) (b := 8598) 19 t (ci := 7) (N := 7) xok7 rfl nwX8_17 inst7 ini7 dv7 dX8_init_19 (fun w5 h6 => ?_)
  refine S_dup 22 dX8_init_22 rfl ?_
  refine S_callI (a' := 103) (b' := 1410) (a := 117) (b := 7188) 23 (As := []) rfl calX7_init rfl rfl imX7_init mkX8_19 rfl rfl rfl rfl rfl dX8_init_23 (CX7_init E w5 h6) (fun _ h7 => kqU ?_)
  refine S_putR 26 frX8_20 rfl rfl (fun q => by cases q) dX8_init_26 (fun h8 => ?_)
  refine S_aload_0 29 dX8_init_29 ?_
  refine S_new (a := 116) (b := 7181) 30 t (ci := 7) (N := 7) xok7 rfl nwX8_17 inst7 ini7 dv7 dX8_init_30 (fun w9 h10 => ?_)
  refine S_dup 33 dX8_init_33 rfl ?_
  refine S_callI (a' := 103) (b' := 1410) (a := 13) (b := 5771) 34 (As := []) rfl calX7_init rfl rfl imX7_init mkX8_19 rfl rfl rfl rfl rfl dX8_init_34 (CX7_init E w9 h10) (fun _ h11 => kqU ?_)
  refine S_putR 37 frX8_24 rfl rfl (fun q => by cases q) dX8_init_37 (fun h12 => ?_)
  refine S_aload_0 40 dX8_init_40 ?_
  refine S_bip 41 8 dX8_init_41 (by decide) ?_
  refine S_sip 43 569 dX8_init_43 (by decide) ?_
  refine S_multi (a := 4) (b := 1211) 46 t 8 569 rfl clX8_27 ar12 (by decide) (by decide) rfl rfl (by decide) (by decide) dX8_init_46 (fun w13 h14 => ?_)
  refine S_putR 50 frX8_29 rfl rfl (fun _ => rfl) dX8_init_50 (fun h15 => ?_)
  refine S_aload_0 53 dX8_init_53 ?_
  refine S_ic 54 2 dX8_init_54 (by decide) ?_
  refine S_sip 55 569 dX8_init_55 (by decide) ?_
  refine S_multi (a := 1) (b := 71) 58 t 2 569 rfl clX8_27 ar12 (by decide) (by decide) rfl rfl (by decide) (by decide) dX8_init_58 (fun w16 h17 => ?_)
  refine S_putR 62 frX8_32 rfl rfl (fun _ => rfl) dX8_init_62 (fun h18 => ?_)
  refine S_aload_0 65 dX8_init_65 ?_
  refine S_bip 66 71 dX8_init_66 (by decide) ?_
  refine S_new_byte (a := 0) (b := 0) 68 t 71 (by decide) (by decide) (by decide) ar11 dX8_init_68 (fun w19 h20 => ?_)
  refine S_putR 70 frX8_35 rfl rfl (fun _ => rfl) dX8_init_70 (fun h21 => ?_)
  exact S_ret 73 dX8_init_73 rfl
