/-! The law's wrappers, by the machine. -/
set_option linter.unusedVariables false
theorem clL_13 : xIn (.classLink RL 13 (xnm 1)) := ⟨List.mem_of_getElem? (i := 396) (by decide +kernel), rfl⟩
theorem clL_15 : xIn (.classLink RL 15 (xnm 2)) := ⟨List.mem_of_getElem? (i := 397) (by decide +kernel), rfl⟩
theorem clL_20 : xIn (.classLink RL 20 (xnm 0)) := ⟨List.mem_of_getElem? (i := 824) (by decide +kernel), rfl⟩
/-- how a wrapper ends: the value put into the long, or the code of what was caught -/
abbrev LQ (l : List Nat) (O : Nat) (r : Int32 ⊕ Nat) (h1 : XH) : XO → Prop := fun o => match r with
  | .inl v => o = (.inl (some (.int 0)), yj h1 O 0 v.toInt64)
  | .inr c => ∃ t, xt h1 ≤ t ∧ o = (.inl (some (.int (nI (cmT l c)))), yt h1 t)
theorem CL_load (E : XG) (X O : Nat) (p1 : Int32) (h : XH) {r : Int32 ⊕ Nat} {h1 : XH} (e : FX8_load E X p1 h = some (r, h1)) (hX : xk h X = 9) (hO : xk h1 O = 13 ∧ xn h1 O = 1) (hc : ∀ c, r = .inr c → c < 3 ∧ ¬ cmT [1, 2] c = 0) : XC E mL_load (2 + ek r) (11 + es r) [.ref X, .int p1, .ref O] h (LQ [1, 2] O r h1) := by
  refine X_enterH (L := [some (.ref X), some (.int p1), some (.ref O), none]) (by decide +kernel) rfl okL_load.1 rfl rfl ?_
  refine X_aload_2 0 dL_load_0 ?_
  refine X_ic 1 0 dL_load_1 (by decide) ?_
  refine X_aload_0 2 dL_load_2 ?_
  refine X_iload_1 3 dL_load_3 ?_
  refine X_callV (k := 0) (u := 0) (k' := 2 + ek r) (u' := 11 + es r) (ci := 8) 4 (As := [.int p1]) calX8_load imX8_load seX8_load mkL_7 rfl rfl rfl rfl rfl hX (by decide) rfl rfl dL_load_4 (CX8_load E X p1 h r h1 e) (fun ec h2 q => ?_) (fun v h2 q => ?_)
  · cases r with
    | inl v => cases q
    | inr c =>
      obtain ⟨t, ht, q⟩ := q
      cases q
      obtain ⟨c3, c0⟩ := hc ec rfl
      have c4 : ec = 0 ∨ ec = 1 ∨ ec = 2 := by omega
      rcases c4 with rfl | rfl | rfl
      · exact absurd (by decide) c0
      · refine XT_catch rfl [] ⟨0, 9, 12, 13⟩ [⟨0, 9, 15, 15⟩] rfl (fun z hz => by cases hz) rfl (by decide) clL_13 (fun w => ?_)
        refine X_astore_3 12 dL_load_12 rfl ?_
        refine X_ic 13 1 dL_load_13 (by decide) ?_
        exact X_iret 14 dL_load_14 rfl rfl ⟨t, ht, rfl⟩
      · refine XT_catch rfl [⟨0, 9, 12, 13⟩] ⟨0, 9, 15, 15⟩ [] rfl (fun z hz => by
          simp only [List.mem_cons, List.not_mem_nil, or_false] at hz
          rcases hz with rfl
          · exact Or.inr ⟨by decide, 1, clL_13, by decide⟩) rfl (by decide) clL_15 (fun w => ?_)
        refine X_astore_3 15 dL_load_15 rfl ?_
        refine X_ic 16 2 dL_load_16 (by decide) ?_
        exact X_iret 17 dL_load_17 rfl rfl ⟨t, ht, rfl⟩
  · cases r with
    | inr c =>
      obtain ⟨t, ht, q⟩ := q
      cases q
    | inl v' =>
      cases q
      refine X_i2l 7 dL_load_7 ?_
      refine X_last 8 hO.1 (xin_vp ⟨by decide, by rw [hO.2]; decide⟩) dL_load_8 ?_
      refine X_goto 9 18 dL_load_9 (by decide) ?_
      refine X_ic 18 0 dL_load_18 (by decide) ?_
      exact X_iret 19 dL_load_19 rfl rfl rfl
theorem CL_count (E : XG) (X O : Nat) (p1 : Int32) (h : XH) {r : Int32 ⊕ Nat} {h1 : XH} (e : FX8_count E X p1 h = some (r, h1)) (hX : xk h X = 9) (hO : xk h1 O = 13 ∧ xn h1 O = 1) (hc : ∀ c, r = .inr c → c < 3 ∧ ¬ cmT [0, 2] c = 0) : XC E mL_count (0 + ek r) (0 + es r) [.ref X, .int p1, .ref O] h (LQ [0, 2] O r h1) := by
  refine X_enterH (L := [some (.ref X), some (.int p1), some (.ref O), none]) (by decide +kernel) rfl okL_count.1 rfl rfl ?_
  refine X_aload_2 0 dL_count_0 ?_
  refine X_ic 1 0 dL_count_1 (by decide) ?_
  refine X_aload_0 2 dL_count_2 ?_
  refine X_iload_1 3 dL_count_3 ?_
  refine X_callV (k := 0) (u := 0) (k' := 0 + ek r) (u' := 0 + es r) (ci := 8) 4 (As := [.int p1]) calX8_count imX8_count seX8_count mkL_17 rfl rfl rfl rfl rfl hX (by decide) rfl rfl dL_count_4 (CX8_count E X p1 h r h1 e) (fun ec h2 q => ?_) (fun v h2 q => ?_)
  · cases r with
    | inl v => cases q
    | inr c =>
      obtain ⟨t, ht, q⟩ := q
      cases q
      obtain ⟨c3, c0⟩ := hc ec rfl
      have c4 : ec = 0 ∨ ec = 1 ∨ ec = 2 := by omega
      rcases c4 with rfl | rfl | rfl
      · refine XT_catch rfl [] ⟨0, 9, 12, 20⟩ [⟨0, 9, 15, 15⟩] rfl (fun z hz => by cases hz) rfl (by decide) clL_20 (fun w => ?_)
        refine X_astore_3 12 dL_count_12 rfl ?_
        refine X_ic 13 1 dL_count_13 (by decide) ?_
        exact X_iret 14 dL_count_14 rfl rfl ⟨t, ht, rfl⟩
      · exact absurd (by decide) c0
      · refine XT_catch rfl [⟨0, 9, 12, 20⟩] ⟨0, 9, 15, 15⟩ [] rfl (fun z hz => by
          simp only [List.mem_cons, List.not_mem_nil, or_false] at hz
          rcases hz with rfl
          · exact Or.inr ⟨by decide, 0, clL_20, by decide⟩) rfl (by decide) clL_15 (fun w => ?_)
        refine X_astore_3 15 dL_count_15 rfl ?_
        refine X_ic 16 2 dL_count_16 (by decide) ?_
        exact X_iret 17 dL_count_17 rfl rfl ⟨t, ht, rfl⟩
  · cases r with
    | inr c =>
      obtain ⟨t, ht, q⟩ := q
      cases q
    | inl v' =>
      cases q
      refine X_i2l 7 dL_count_7 ?_
      refine X_last 8 hO.1 (xin_vp ⟨by decide, by rw [hO.2]; decide⟩) dL_count_8 ?_
      refine X_goto 9 18 dL_count_9 (by decide) ?_
      refine X_ic 18 0 dL_count_18 (by decide) ?_
      exact X_iret 19 dL_count_19 rfl rfl rfl
theorem CL_letter (E : XG) (X O : Nat) (p1 p2 p3 : Int32) (h : XH) {r : Int32 ⊕ Nat} {h1 : XH} (e : FX8_letter E X p1 p2 p3 h = some (r, h1)) (hX : xk h X = 9) (hO : xk h1 O = 13 ∧ xn h1 O = 1) (hc : ∀ c, r = .inr c → c < 3 ∧ ¬ cmT [0, 1, 2] c = 0) : XC E mL_letter (0 + ek r) (0 + es r) [.ref X, .int p1, .int p2, .int p3, .ref O] h (LQ [0, 1, 2] O r h1) := by
  refine X_enterH (L := [some (.ref X), some (.int p1), some (.int p2), some (.int p3), some (.ref O), none]) (by decide +kernel) rfl okL_letter.1 rfl rfl ?_
  refine X_aload_4 0 dL_letter_0 ?_
  refine X_ic 2 0 dL_letter_2 (by decide) ?_
  refine X_aload_0 3 dL_letter_3 ?_
  refine X_iload_1 4 dL_letter_4 ?_
  refine X_iload_2 5 dL_letter_5 ?_
  refine X_iload_3 6 dL_letter_6 ?_
  refine X_callV (k := 0) (u := 0) (k' := 0 + ek r) (u' := 0 + es r) (ci := 8) 7 (As := [.int p1, .int p2, .int p3]) calX8_letter imX8_letter seX8_letter mkL_22 rfl rfl rfl rfl rfl hX (by decide) rfl rfl dL_letter_7 (CX8_letter E X p1 p2 p3 h r h1 e) (fun ec h2 q => ?_) (fun v h2 q => ?_)
  · cases r with
    | inl v => cases q
    | inr c =>
      obtain ⟨t, ht, q⟩ := q
      cases q
      obtain ⟨c3, c0⟩ := hc ec rfl
      have c4 : ec = 0 ∨ ec = 1 ∨ ec = 2 := by omega
      rcases c4 with rfl | rfl | rfl
      · refine XT_catch rfl [] ⟨0, 12, 15, 20⟩ [⟨0, 12, 19, 13⟩, ⟨0, 12, 23, 15⟩] rfl (fun z hz => by cases hz) rfl (by decide) clL_20 (fun w => ?_)
        refine X_astore_5 15 dL_letter_15 rfl ?_
        refine X_ic 17 1 dL_letter_17 (by decide) ?_
        exact X_iret 18 dL_letter_18 rfl rfl ⟨t, ht, rfl⟩
      · refine XT_catch rfl [⟨0, 12, 15, 20⟩] ⟨0, 12, 19, 13⟩ [⟨0, 12, 23, 15⟩] rfl (fun z hz => by
          simp only [List.mem_cons, List.not_mem_nil, or_false] at hz
          rcases hz with rfl
          · exact Or.inr ⟨by decide, 0, clL_20, by decide⟩) rfl (by decide) clL_13 (fun w => ?_)
        refine X_astore_5 19 dL_letter_19 rfl ?_
        refine X_ic 21 2 dL_letter_21 (by decide) ?_
        exact X_iret 22 dL_letter_22 rfl rfl ⟨t, ht, rfl⟩
      · refine XT_catch rfl [⟨0, 12, 15, 20⟩, ⟨0, 12, 19, 13⟩] ⟨0, 12, 23, 15⟩ [] rfl (fun z hz => by
          simp only [List.mem_cons, List.not_mem_nil, or_false] at hz
          rcases hz with rfl | rfl
          · exact Or.inr ⟨by decide, 0, clL_20, by decide⟩
          · exact Or.inr ⟨by decide, 1, clL_13, by decide⟩) rfl (by decide) clL_15 (fun w => ?_)
        refine X_astore_5 23 dL_letter_23 rfl ?_
        refine X_ic 25 3 dL_letter_25 (by decide) ?_
        exact X_iret 26 dL_letter_26 rfl rfl ⟨t, ht, rfl⟩
  · cases r with
    | inr c =>
      obtain ⟨t, ht, q⟩ := q
      cases q
    | inl v' =>
      cases q
      refine X_i2l 10 dL_letter_10 ?_
      refine X_last 11 hO.1 (xin_vp ⟨by decide, by rw [hO.2]; decide⟩) dL_letter_11 ?_
      refine X_goto 12 27 dL_letter_12 (by decide) ?_
      refine X_ic 27 0 dL_letter_27 (by decide) ?_
      exact X_iret 28 dL_letter_28 rfl rfl rfl
theorem CL_size (E : XG) (X O : Nat) (p1 : Int32) (h : XH) {r : Int32 ⊕ Nat} {h1 : XH} (e : FX8_size E X p1 h = some (r, h1)) (hX : xk h X = 9) (hO : xk h1 O = 13 ∧ xn h1 O = 1) (hc : ∀ c, r = .inr c → c < 3 ∧ ¬ cmT [0, 1] c = 0) : XC E mL_size (0 + ek r) (0 + es r) [.ref X, .int p1, .ref O] h (LQ [0, 1] O r h1) := by
  refine X_enterH (L := [some (.ref X), some (.int p1), some (.ref O), none]) (by decide +kernel) rfl okL_size.1 rfl rfl ?_
  refine X_aload_2 0 dL_size_0 ?_
  refine X_ic 1 0 dL_size_1 (by decide) ?_
  refine X_aload_0 2 dL_size_2 ?_
  refine X_iload_1 3 dL_size_3 ?_
  refine X_callV (k := 0) (u := 0) (k' := 0 + ek r) (u' := 0 + es r) (ci := 8) 4 (As := [.int p1]) calX8_size imX8_size seX8_size mkL_26 rfl rfl rfl rfl rfl hX (by decide) rfl rfl dL_size_4 (CX8_size E X p1 h r h1 e) (fun ec h2 q => ?_) (fun v h2 q => ?_)
  · cases r with
    | inl v => cases q
    | inr c =>
      obtain ⟨t, ht, q⟩ := q
      cases q
      obtain ⟨c3, c0⟩ := hc ec rfl
      have c4 : ec = 0 ∨ ec = 1 ∨ ec = 2 := by omega
      rcases c4 with rfl | rfl | rfl
      · refine XT_catch rfl [] ⟨0, 9, 12, 20⟩ [⟨0, 9, 15, 13⟩] rfl (fun z hz => by cases hz) rfl (by decide) clL_20 (fun w => ?_)
        refine X_astore_3 12 dL_size_12 rfl ?_
        refine X_ic 13 1 dL_size_13 (by decide) ?_
        exact X_iret 14 dL_size_14 rfl rfl ⟨t, ht, rfl⟩
      · refine XT_catch rfl [⟨0, 9, 12, 20⟩] ⟨0, 9, 15, 13⟩ [] rfl (fun z hz => by
          simp only [List.mem_cons, List.not_mem_nil, or_false] at hz
          rcases hz with rfl
          · exact Or.inr ⟨by decide, 0, clL_20, by decide⟩) rfl (by decide) clL_13 (fun w => ?_)
        refine X_astore_3 15 dL_size_15 rfl ?_
        refine X_ic 16 2 dL_size_16 (by decide) ?_
        exact X_iret 17 dL_size_17 rfl rfl ⟨t, ht, rfl⟩
      · exact absurd (by decide) c0
  · cases r with
    | inr c =>
      obtain ⟨t, ht, q⟩ := q
      cases q
    | inl v' =>
      cases q
      refine X_i2l 7 dL_size_7 ?_
      refine X_last 8 hO.1 (xin_vp ⟨by decide, by rw [hO.2]; decide⟩) dL_size_8 ?_
      refine X_goto 9 18 dL_size_9 (by decide) ?_
      refine X_ic 18 0 dL_size_18 (by decide) ?_
      exact X_iret 19 dL_size_19 rfl rfl rfl
theorem CL_times (E : XG) (X O : Nat) (p1 p2 p3 : Int32) (h : XH) {r : Int32 ⊕ Nat} {h1 : XH} (e : FX8_times E X p1 p2 p3 h = some (r, h1)) (hX : xk h X = 9) (hO : xk h1 O = 13 ∧ xn h1 O = 1) (hc : ∀ c, r = .inr c → c < 3 ∧ ¬ cmT [0, 1] c = 0) : XC E mL_times (0 + ek r) (0 + es r) [.ref X, .int p1, .int p2, .int p3, .ref O] h (LQ [0, 1] O r h1) := by
  refine X_enterH (L := [some (.ref X), some (.int p1), some (.int p2), some (.int p3), some (.ref O), none]) (by decide +kernel) rfl okL_times.1 rfl rfl ?_
  refine X_aload_4 0 dL_times_0 ?_
  refine X_ic 2 0 dL_times_2 (by decide) ?_
  refine X_aload_0 3 dL_times_3 ?_
  refine X_iload_1 4 dL_times_4 ?_
  refine X_iload_2 5 dL_times_5 ?_
  refine X_iload_3 6 dL_times_6 ?_
  refine X_callV (k := 0) (u := 0) (k' := 0 + ek r) (u' := 0 + es r) (ci := 8) 7 (As := [.int p1, .int p2, .int p3]) calX8_times imX8_times seX8_times mkL_29 rfl rfl rfl rfl rfl hX (by decide) rfl rfl dL_times_7 (CX8_times E X p1 p2 p3 h r h1 e) (fun ec h2 q => ?_) (fun v h2 q => ?_)
  · cases r with
    | inl v => cases q
    | inr c =>
      obtain ⟨t, ht, q⟩ := q
      cases q
      obtain ⟨c3, c0⟩ := hc ec rfl
      have c4 : ec = 0 ∨ ec = 1 ∨ ec = 2 := by omega
      rcases c4 with rfl | rfl | rfl
      · refine XT_catch rfl [] ⟨0, 12, 15, 20⟩ [⟨0, 12, 19, 13⟩] rfl (fun z hz => by cases hz) rfl (by decide) clL_20 (fun w => ?_)
        refine X_astore_5 15 dL_times_15 rfl ?_
        refine X_ic 17 1 dL_times_17 (by decide) ?_
        exact X_iret 18 dL_times_18 rfl rfl ⟨t, ht, rfl⟩
      · refine XT_catch rfl [⟨0, 12, 15, 20⟩] ⟨0, 12, 19, 13⟩ [] rfl (fun z hz => by
          simp only [List.mem_cons, List.not_mem_nil, or_false] at hz
          rcases hz with rfl
          · exact Or.inr ⟨by decide, 0, clL_20, by decide⟩) rfl (by decide) clL_13 (fun w => ?_)
        refine X_astore_5 19 dL_times_19 rfl ?_
        refine X_ic 21 2 dL_times_21 (by decide) ?_
        exact X_iret 22 dL_times_22 rfl rfl ⟨t, ht, rfl⟩
      · exact absurd (by decide) c0
  · cases r with
    | inr c =>
      obtain ⟨t, ht, q⟩ := q
      cases q
    | inl v' =>
      cases q
      refine X_i2l 10 dL_times_10 ?_
      refine X_last 11 hO.1 (xin_vp ⟨by decide, by rw [hO.2]; decide⟩) dL_times_11 ?_
      refine X_goto 12 23 dL_times_12 (by decide) ?_
      refine X_ic 23 0 dL_times_23 (by decide) ?_
      exact X_iret 24 dL_times_24 rfl rfl rfl
theorem CL_inverse (E : XG) (X O : Nat) (p1 p2 : Int32) (h : XH) {r : Int32 ⊕ Nat} {h1 : XH} (e : FX8_inverse E X p1 p2 h = some (r, h1)) (hX : xk h X = 9) (hO : xk h1 O = 13 ∧ xn h1 O = 1) (hc : ∀ c, r = .inr c → c < 3 ∧ ¬ cmT [0, 1] c = 0) : XC E mL_inverse (0 + ek r) (0 + es r) [.ref X, .int p1, .int p2, .ref O] h (LQ [0, 1] O r h1) := by
  refine X_enterH (L := [some (.ref X), some (.int p1), some (.int p2), some (.ref O), none]) (by decide +kernel) rfl okL_inverse.1 rfl rfl ?_
  refine X_aload_3 0 dL_inverse_0 ?_
  refine X_ic 1 0 dL_inverse_1 (by decide) ?_
  refine X_aload_0 2 dL_inverse_2 ?_
  refine X_iload_1 3 dL_inverse_3 ?_
  refine X_iload_2 4 dL_inverse_4 ?_
  refine X_callV (k := 0) (u := 0) (k' := 0 + ek r) (u' := 0 + es r) (ci := 8) 5 (As := [.int p1, .int p2]) calX8_inverse imX8_inverse seX8_inverse mkL_32 rfl rfl rfl rfl rfl hX (by decide) rfl rfl dL_inverse_5 (CX8_inverse E X p1 p2 h r h1 e) (fun ec h2 q => ?_) (fun v h2 q => ?_)
  · cases r with
    | inl v => cases q
    | inr c =>
      obtain ⟨t, ht, q⟩ := q
      cases q
      obtain ⟨c3, c0⟩ := hc ec rfl
      have c4 : ec = 0 ∨ ec = 1 ∨ ec = 2 := by omega
      rcases c4 with rfl | rfl | rfl
      · refine XT_catch rfl [] ⟨0, 10, 13, 20⟩ [⟨0, 10, 17, 13⟩] rfl (fun z hz => by cases hz) rfl (by decide) clL_20 (fun w => ?_)
        refine X_astore_4 13 dL_inverse_13 rfl ?_
        refine X_ic 15 1 dL_inverse_15 (by decide) ?_
        exact X_iret 16 dL_inverse_16 rfl rfl ⟨t, ht, rfl⟩
      · refine XT_catch rfl [⟨0, 10, 13, 20⟩] ⟨0, 10, 17, 13⟩ [] rfl (fun z hz => by
          simp only [List.mem_cons, List.not_mem_nil, or_false] at hz
          rcases hz with rfl
          · exact Or.inr ⟨by decide, 0, clL_20, by decide⟩) rfl (by decide) clL_13 (fun w => ?_)
        refine X_astore_4 17 dL_inverse_17 rfl ?_
        refine X_ic 19 2 dL_inverse_19 (by decide) ?_
        exact X_iret 20 dL_inverse_20 rfl rfl ⟨t, ht, rfl⟩
      · exact absurd (by decide) c0
  · cases r with
    | inr c =>
      obtain ⟨t, ht, q⟩ := q
      cases q
    | inl v' =>
      cases q
      refine X_i2l 8 dL_inverse_8 ?_
      refine X_last 9 hO.1 (xin_vp ⟨by decide, by rw [hO.2]; decide⟩) dL_inverse_9 ?_
      refine X_goto 10 21 dL_inverse_10 (by decide) ?_
      refine X_ic 21 0 dL_inverse_21 (by decide) ?_
      exact X_iret 22 dL_inverse_22 rfl rfl rfl
theorem CL_orderOf (E : XG) (X O : Nat) (p1 p2 : Int32) (h : XH) {r : Int32 ⊕ Nat} {h1 : XH} (e : FX8_orderOf E X p1 p2 h = some (r, h1)) (hX : xk h X = 9) (hO : xk h1 O = 13 ∧ xn h1 O = 1) (hc : ∀ c, r = .inr c → c < 3 ∧ ¬ cmT [0, 1] c = 0) : XC E mL_orderOf (0 + ek r) (0 + es r) [.ref X, .int p1, .int p2, .ref O] h (LQ [0, 1] O r h1) := by
  refine X_enterH (L := [some (.ref X), some (.int p1), some (.int p2), some (.ref O), none]) (by decide +kernel) rfl okL_orderOf.1 rfl rfl ?_
  refine X_aload_3 0 dL_orderOf_0 ?_
  refine X_ic 1 0 dL_orderOf_1 (by decide) ?_
  refine X_aload_0 2 dL_orderOf_2 ?_
  refine X_iload_1 3 dL_orderOf_3 ?_
  refine X_iload_2 4 dL_orderOf_4 ?_
  refine X_callV (k := 0) (u := 0) (k' := 0 + ek r) (u' := 0 + es r) (ci := 8) 5 (As := [.int p1, .int p2]) calX8_orderOf imX8_orderOf seX8_orderOf mkL_36 rfl rfl rfl rfl rfl hX (by decide) rfl rfl dL_orderOf_5 (CX8_orderOf E X p1 p2 h r h1 e) (fun ec h2 q => ?_) (fun v h2 q => ?_)
  · cases r with
    | inl v => cases q
    | inr c =>
      obtain ⟨t, ht, q⟩ := q
      cases q
      obtain ⟨c3, c0⟩ := hc ec rfl
      have c4 : ec = 0 ∨ ec = 1 ∨ ec = 2 := by omega
      rcases c4 with rfl | rfl | rfl
      · refine XT_catch rfl [] ⟨0, 10, 13, 20⟩ [⟨0, 10, 17, 13⟩] rfl (fun z hz => by cases hz) rfl (by decide) clL_20 (fun w => ?_)
        refine X_astore_4 13 dL_orderOf_13 rfl ?_
        refine X_ic 15 1 dL_orderOf_15 (by decide) ?_
        exact X_iret 16 dL_orderOf_16 rfl rfl ⟨t, ht, rfl⟩
      · refine XT_catch rfl [⟨0, 10, 13, 20⟩] ⟨0, 10, 17, 13⟩ [] rfl (fun z hz => by
          simp only [List.mem_cons, List.not_mem_nil, or_false] at hz
          rcases hz with rfl
          · exact Or.inr ⟨by decide, 0, clL_20, by decide⟩) rfl (by decide) clL_13 (fun w => ?_)
        refine X_astore_4 17 dL_orderOf_17 rfl ?_
        refine X_ic 19 2 dL_orderOf_19 (by decide) ?_
        exact X_iret 20 dL_orderOf_20 rfl rfl ⟨t, ht, rfl⟩
      · exact absurd (by decide) c0
  · cases r with
    | inr c =>
      obtain ⟨t, ht, q⟩ := q
      cases q
    | inl v' =>
      cases q
      refine X_i2l 8 dL_orderOf_8 ?_
      refine X_last 9 hO.1 (xin_vp ⟨by decide, by rw [hO.2]; decide⟩) dL_orderOf_9 ?_
      refine X_goto 10 21 dL_orderOf_10 (by decide) ?_
      refine X_ic 21 0 dL_orderOf_21 (by decide) ?_
      exact X_iret 22 dL_orderOf_22 rfl rfl rfl
theorem CL_centre (E : XG) (X O : Nat) (p1 : Int32) (h : XH) {r : Int32 ⊕ Nat} {h1 : XH} (e : FX8_centre E X p1 h = some (r, h1)) (hX : xk h X = 9) (hO : xk h1 O = 13 ∧ xn h1 O = 1) (hc : ∀ c, r = .inr c → c < 3 ∧ ¬ cmT [0, 1] c = 0) : XC E mL_centre (0 + ek r) (0 + es r) [.ref X, .int p1, .ref O] h (LQ [0, 1] O r h1) := by
  refine X_enterH (L := [some (.ref X), some (.int p1), some (.ref O), none]) (by decide +kernel) rfl okL_centre.1 rfl rfl ?_
  refine X_aload_2 0 dL_centre_0 ?_
  refine X_ic 1 0 dL_centre_1 (by decide) ?_
  refine X_aload_0 2 dL_centre_2 ?_
  refine X_iload_1 3 dL_centre_3 ?_
  refine X_callV (k := 0) (u := 0) (k' := 0 + ek r) (u' := 0 + es r) (ci := 8) 4 (As := [.int p1]) calX8_centre imX8_centre seX8_centre mkL_39 rfl rfl rfl rfl rfl hX (by decide) rfl rfl dL_centre_4 (CX8_centre E X p1 h r h1 e) (fun ec h2 q => ?_) (fun v h2 q => ?_)
  · cases r with
    | inl v => cases q
    | inr c =>
      obtain ⟨t, ht, q⟩ := q
      cases q
      obtain ⟨c3, c0⟩ := hc ec rfl
      have c4 : ec = 0 ∨ ec = 1 ∨ ec = 2 := by omega
      rcases c4 with rfl | rfl | rfl
      · refine XT_catch rfl [] ⟨0, 9, 12, 20⟩ [⟨0, 9, 15, 13⟩] rfl (fun z hz => by cases hz) rfl (by decide) clL_20 (fun w => ?_)
        refine X_astore_3 12 dL_centre_12 rfl ?_
        refine X_ic 13 1 dL_centre_13 (by decide) ?_
        exact X_iret 14 dL_centre_14 rfl rfl ⟨t, ht, rfl⟩
      · refine XT_catch rfl [⟨0, 9, 12, 20⟩] ⟨0, 9, 15, 13⟩ [] rfl (fun z hz => by
          simp only [List.mem_cons, List.not_mem_nil, or_false] at hz
          rcases hz with rfl
          · exact Or.inr ⟨by decide, 0, clL_20, by decide⟩) rfl (by decide) clL_13 (fun w => ?_)
        refine X_astore_3 15 dL_centre_15 rfl ?_
        refine X_ic 16 2 dL_centre_16 (by decide) ?_
        exact X_iret 17 dL_centre_17 rfl rfl ⟨t, ht, rfl⟩
      · exact absurd (by decide) c0
  · cases r with
    | inr c =>
      obtain ⟨t, ht, q⟩ := q
      cases q
    | inl v' =>
      cases q
      refine X_i2l 7 dL_centre_7 ?_
      refine X_last 8 hO.1 (xin_vp ⟨by decide, by rw [hO.2]; decide⟩) dL_centre_8 ?_
      refine X_goto 9 18 dL_centre_9 (by decide) ?_
      refine X_ic 18 0 dL_centre_18 (by decide) ?_
      exact X_iret 19 dL_centre_19 rfl rfl rfl
theorem CL_conjugacy (E : XG) (X O : Nat) (p1 : Int32) (h : XH) {r : Int32 ⊕ Nat} {h1 : XH} (e : FX8_conjugacy E X p1 h = some (r, h1)) (hX : xk h X = 9) (hO : xk h1 O = 13 ∧ xn h1 O = 1) (hc : ∀ c, r = .inr c → c < 3 ∧ ¬ cmT [0, 1] c = 0) : XC E mL_conjugacy (0 + ek r) (0 + es r) [.ref X, .int p1, .ref O] h (LQ [0, 1] O r h1) := by
  refine X_enterH (L := [some (.ref X), some (.int p1), some (.ref O), none]) (by decide +kernel) rfl okL_conjugacy.1 rfl rfl ?_
  refine X_aload_2 0 dL_conjugacy_0 ?_
  refine X_ic 1 0 dL_conjugacy_1 (by decide) ?_
  refine X_aload_0 2 dL_conjugacy_2 ?_
  refine X_iload_1 3 dL_conjugacy_3 ?_
  refine X_callV (k := 0) (u := 0) (k' := 0 + ek r) (u' := 0 + es r) (ci := 8) 4 (As := [.int p1]) calX8_conjugacy imX8_conjugacy seX8_conjugacy mkL_42 rfl rfl rfl rfl rfl hX (by decide) rfl rfl dL_conjugacy_4 (CX8_conjugacy E X p1 h r h1 e) (fun ec h2 q => ?_) (fun v h2 q => ?_)
  · cases r with
    | inl v => cases q
    | inr c =>
      obtain ⟨t, ht, q⟩ := q
      cases q
      obtain ⟨c3, c0⟩ := hc ec rfl
      have c4 : ec = 0 ∨ ec = 1 ∨ ec = 2 := by omega
      rcases c4 with rfl | rfl | rfl
      · refine XT_catch rfl [] ⟨0, 9, 12, 20⟩ [⟨0, 9, 15, 13⟩] rfl (fun z hz => by cases hz) rfl (by decide) clL_20 (fun w => ?_)
        refine X_astore_3 12 dL_conjugacy_12 rfl ?_
        refine X_ic 13 1 dL_conjugacy_13 (by decide) ?_
        exact X_iret 14 dL_conjugacy_14 rfl rfl ⟨t, ht, rfl⟩
      · refine XT_catch rfl [⟨0, 9, 12, 20⟩] ⟨0, 9, 15, 13⟩ [] rfl (fun z hz => by
          simp only [List.mem_cons, List.not_mem_nil, or_false] at hz
          rcases hz with rfl
          · exact Or.inr ⟨by decide, 0, clL_20, by decide⟩) rfl (by decide) clL_13 (fun w => ?_)
        refine X_astore_3 15 dL_conjugacy_15 rfl ?_
        refine X_ic 16 2 dL_conjugacy_16 (by decide) ?_
        exact X_iret 17 dL_conjugacy_17 rfl rfl ⟨t, ht, rfl⟩
      · exact absurd (by decide) c0
  · cases r with
    | inr c =>
      obtain ⟨t, ht, q⟩ := q
      cases q
    | inl v' =>
      cases q
      refine X_i2l 7 dL_conjugacy_7 ?_
      refine X_last 8 hO.1 (xin_vp ⟨by decide, by rw [hO.2]; decide⟩) dL_conjugacy_8 ?_
      refine X_goto 9 18 dL_conjugacy_9 (by decide) ?_
      refine X_ic 18 0 dL_conjugacy_18 (by decide) ?_
      exact X_iret 19 dL_conjugacy_19 rfl rfl rfl
theorem CL_generated (E : XG) (X O : Nat) (p1 p2 : Int32) (h : XH) {r : Int32 ⊕ Nat} {h1 : XH} (e : FX8_generated E X p1 p2 h = some (r, h1)) (hX : xk h X = 9) (hO : xk h1 O = 13 ∧ xn h1 O = 1) (hc : ∀ c, r = .inr c → c < 3 ∧ ¬ cmT [0, 1, 2] c = 0) : XC E mL_generated (0 + ek r) (0 + es r) [.ref X, .int p1, .int p2, .ref O] h (LQ [0, 1, 2] O r h1) := by
  refine X_enterH (L := [some (.ref X), some (.int p1), some (.int p2), some (.ref O), none]) (by decide +kernel) rfl okL_generated.1 rfl rfl ?_
  refine X_aload_3 0 dL_generated_0 ?_
  refine X_ic 1 0 dL_generated_1 (by decide) ?_
  refine X_aload_0 2 dL_generated_2 ?_
  refine X_iload_1 3 dL_generated_3 ?_
  refine X_iload_2 4 dL_generated_4 ?_
  refine X_callV (k := 0) (u := 0) (k' := 0 + ek r) (u' := 0 + es r) (ci := 8) 5 (As := [.int p1, .int p2]) calX8_generated imX8_generated seX8_generated mkL_45 rfl rfl rfl rfl rfl hX (by decide) rfl rfl dL_generated_5 (CX8_generated E X p1 p2 h r h1 e) (fun ec h2 q => ?_) (fun v h2 q => ?_)
  · cases r with
    | inl v => cases q
    | inr c =>
      obtain ⟨t, ht, q⟩ := q
      cases q
      obtain ⟨c3, c0⟩ := hc ec rfl
      have c4 : ec = 0 ∨ ec = 1 ∨ ec = 2 := by omega
      rcases c4 with rfl | rfl | rfl
      · refine XT_catch rfl [] ⟨0, 10, 13, 20⟩ [⟨0, 10, 17, 13⟩, ⟨0, 10, 21, 15⟩] rfl (fun z hz => by cases hz) rfl (by decide) clL_20 (fun w => ?_)
        refine X_astore_4 13 dL_generated_13 rfl ?_
        refine X_ic 15 1 dL_generated_15 (by decide) ?_
        exact X_iret 16 dL_generated_16 rfl rfl ⟨t, ht, rfl⟩
      · refine XT_catch rfl [⟨0, 10, 13, 20⟩] ⟨0, 10, 17, 13⟩ [⟨0, 10, 21, 15⟩] rfl (fun z hz => by
          simp only [List.mem_cons, List.not_mem_nil, or_false] at hz
          rcases hz with rfl
          · exact Or.inr ⟨by decide, 0, clL_20, by decide⟩) rfl (by decide) clL_13 (fun w => ?_)
        refine X_astore_4 17 dL_generated_17 rfl ?_
        refine X_ic 19 2 dL_generated_19 (by decide) ?_
        exact X_iret 20 dL_generated_20 rfl rfl ⟨t, ht, rfl⟩
      · refine XT_catch rfl [⟨0, 10, 13, 20⟩, ⟨0, 10, 17, 13⟩] ⟨0, 10, 21, 15⟩ [] rfl (fun z hz => by
          simp only [List.mem_cons, List.not_mem_nil, or_false] at hz
          rcases hz with rfl | rfl
          · exact Or.inr ⟨by decide, 0, clL_20, by decide⟩
          · exact Or.inr ⟨by decide, 1, clL_13, by decide⟩) rfl (by decide) clL_15 (fun w => ?_)
        refine X_astore_4 21 dL_generated_21 rfl ?_
        refine X_ic 23 3 dL_generated_23 (by decide) ?_
        exact X_iret 24 dL_generated_24 rfl rfl ⟨t, ht, rfl⟩
  · cases r with
    | inr c =>
      obtain ⟨t, ht, q⟩ := q
      cases q
    | inl v' =>
      cases q
      refine X_i2l 8 dL_generated_8 ?_
      refine X_last 9 hO.1 (xin_vp ⟨by decide, by rw [hO.2]; decide⟩) dL_generated_9 ?_
      refine X_goto 10 25 dL_generated_10 (by decide) ?_
      refine X_ic 25 0 dL_generated_25 (by decide) ?_
      exact X_iret 26 dL_generated_26 rfl rfl rfl
theorem CL_normal (E : XG) (X O : Nat) (p1 p2 : Int32) (h : XH) {r : Int32 ⊕ Nat} {h1 : XH} (e : FX8_normal E X p1 p2 h = some (r, h1)) (hX : xk h X = 9) (hO : xk h1 O = 13 ∧ xn h1 O = 1) (hc : ∀ c, r = .inr c → c < 3 ∧ ¬ cmT [0, 1, 2] c = 0) : XC E mL_normal (0 + ek r) (0 + es r) [.ref X, .int p1, .int p2, .ref O] h (LQ [0, 1, 2] O r h1) := by
  refine X_enterH (L := [some (.ref X), some (.int p1), some (.int p2), some (.ref O), none]) (by decide +kernel) rfl okL_normal.1 rfl rfl ?_
  refine X_aload_3 0 dL_normal_0 ?_
  refine X_ic 1 0 dL_normal_1 (by decide) ?_
  refine X_aload_0 2 dL_normal_2 ?_
  refine X_iload_1 3 dL_normal_3 ?_
  refine X_iload_2 4 dL_normal_4 ?_
  refine X_callV (k := 0) (u := 0) (k' := 0 + ek r) (u' := 0 + es r) (ci := 8) 5 (As := [.int p1, .int p2]) calX8_normal imX8_normal seX8_normal mkL_48 rfl rfl rfl rfl rfl hX (by decide) rfl rfl dL_normal_5 (CX8_normal E X p1 p2 h r h1 e) (fun ec h2 q => ?_) (fun v h2 q => ?_)
  · cases r with
    | inl v => cases q
    | inr c =>
      obtain ⟨t, ht, q⟩ := q
      cases q
      obtain ⟨c3, c0⟩ := hc ec rfl
      have c4 : ec = 0 ∨ ec = 1 ∨ ec = 2 := by omega
      rcases c4 with rfl | rfl | rfl
      · refine XT_catch rfl [] ⟨0, 10, 13, 20⟩ [⟨0, 10, 17, 13⟩, ⟨0, 10, 21, 15⟩] rfl (fun z hz => by cases hz) rfl (by decide) clL_20 (fun w => ?_)
        refine X_astore_4 13 dL_normal_13 rfl ?_
        refine X_ic 15 1 dL_normal_15 (by decide) ?_
        exact X_iret 16 dL_normal_16 rfl rfl ⟨t, ht, rfl⟩
      · refine XT_catch rfl [⟨0, 10, 13, 20⟩] ⟨0, 10, 17, 13⟩ [⟨0, 10, 21, 15⟩] rfl (fun z hz => by
          simp only [List.mem_cons, List.not_mem_nil, or_false] at hz
          rcases hz with rfl
          · exact Or.inr ⟨by decide, 0, clL_20, by decide⟩) rfl (by decide) clL_13 (fun w => ?_)
        refine X_astore_4 17 dL_normal_17 rfl ?_
        refine X_ic 19 2 dL_normal_19 (by decide) ?_
        exact X_iret 20 dL_normal_20 rfl rfl ⟨t, ht, rfl⟩
      · refine XT_catch rfl [⟨0, 10, 13, 20⟩, ⟨0, 10, 17, 13⟩] ⟨0, 10, 21, 15⟩ [] rfl (fun z hz => by
          simp only [List.mem_cons, List.not_mem_nil, or_false] at hz
          rcases hz with rfl | rfl
          · exact Or.inr ⟨by decide, 0, clL_20, by decide⟩
          · exact Or.inr ⟨by decide, 1, clL_13, by decide⟩) rfl (by decide) clL_15 (fun w => ?_)
        refine X_astore_4 21 dL_normal_21 rfl ?_
        refine X_ic 23 3 dL_normal_23 (by decide) ?_
        exact X_iret 24 dL_normal_24 rfl rfl ⟨t, ht, rfl⟩
  · cases r with
    | inr c =>
      obtain ⟨t, ht, q⟩ := q
      cases q
    | inl v' =>
      cases q
      refine X_i2l 8 dL_normal_8 ?_
      refine X_last 9 hO.1 (xin_vp ⟨by decide, by rw [hO.2]; decide⟩) dL_normal_9 ?_
      refine X_goto 10 25 dL_normal_10 (by decide) ?_
      refine X_ic 25 0 dL_normal_25 (by decide) ?_
      exact X_iret 26 dL_normal_26 rfl rfl rfl
theorem CL_groupOf (E : XG) (X O : Nat) (p1 p2 : Int32) (h : XH) {r : Int32 ⊕ Nat} {h1 : XH} (e : FX8_groupOf E X p1 p2 h = some (r, h1)) (hX : xk h X = 9) (hO : xk h1 O = 13 ∧ xn h1 O = 1) (hc : ∀ c, r = .inr c → c < 3 ∧ ¬ cmT [0, 1] c = 0) : XC E mL_groupOf (0 + ek r) (0 + es r) [.ref X, .int p1, .int p2, .ref O] h (LQ [0, 1] O r h1) := by
  refine X_enterH (L := [some (.ref X), some (.int p1), some (.int p2), some (.ref O), none]) (by decide +kernel) rfl okL_groupOf.1 rfl rfl ?_
  refine X_aload_3 0 dL_groupOf_0 ?_
  refine X_ic 1 0 dL_groupOf_1 (by decide) ?_
  refine X_aload_0 2 dL_groupOf_2 ?_
  refine X_iload_1 3 dL_groupOf_3 ?_
  refine X_iload_2 4 dL_groupOf_4 ?_
  refine X_callV (k := 0) (u := 0) (k' := 0 + ek r) (u' := 0 + es r) (ci := 8) 5 (As := [.int p1, .int p2]) calX8_groupOf imX8_groupOf seX8_groupOf mkL_51 rfl rfl rfl rfl rfl hX (by decide) rfl rfl dL_groupOf_5 (CX8_groupOf E X p1 p2 h r h1 e) (fun ec h2 q => ?_) (fun v h2 q => ?_)
  · cases r with
    | inl v => cases q
    | inr c =>
      obtain ⟨t, ht, q⟩ := q
      cases q
      obtain ⟨c3, c0⟩ := hc ec rfl
      have c4 : ec = 0 ∨ ec = 1 ∨ ec = 2 := by omega
      rcases c4 with rfl | rfl | rfl
      · refine XT_catch rfl [] ⟨0, 10, 13, 20⟩ [⟨0, 10, 17, 13⟩] rfl (fun z hz => by cases hz) rfl (by decide) clL_20 (fun w => ?_)
        refine X_astore_4 13 dL_groupOf_13 rfl ?_
        refine X_ic 15 1 dL_groupOf_15 (by decide) ?_
        exact X_iret 16 dL_groupOf_16 rfl rfl ⟨t, ht, rfl⟩
      · refine XT_catch rfl [⟨0, 10, 13, 20⟩] ⟨0, 10, 17, 13⟩ [] rfl (fun z hz => by
          simp only [List.mem_cons, List.not_mem_nil, or_false] at hz
          rcases hz with rfl
          · exact Or.inr ⟨by decide, 0, clL_20, by decide⟩) rfl (by decide) clL_13 (fun w => ?_)
        refine X_astore_4 17 dL_groupOf_17 rfl ?_
        refine X_ic 19 2 dL_groupOf_19 (by decide) ?_
        exact X_iret 20 dL_groupOf_20 rfl rfl ⟨t, ht, rfl⟩
      · exact absurd (by decide) c0
  · cases r with
    | inr c =>
      obtain ⟨t, ht, q⟩ := q
      cases q
    | inl v' =>
      cases q
      refine X_i2l 8 dL_groupOf_8 ?_
      refine X_last 9 hO.1 (xin_vp ⟨by decide, by rw [hO.2]; decide⟩) dL_groupOf_9 ?_
      refine X_goto 10 21 dL_groupOf_10 (by decide) ?_
      refine X_ic 21 0 dL_groupOf_21 (by decide) ?_
      exact X_iret 22 dL_groupOf_22 rfl rfl rfl
theorem CL_boundary (E : XG) (X O : Nat) (p1 p2 : Int32) (h : XH) {r : Int32 ⊕ Nat} {h1 : XH} (e : FX8_boundary E X p1 p2 h = some (r, h1)) (hX : xk h X = 9) (hO : xk h1 O = 13 ∧ xn h1 O = 1) (hc : ∀ c, r = .inr c → c < 3 ∧ ¬ cmT [0, 1] c = 0) : XC E mL_boundary (0 + ek r) (0 + es r) [.ref X, .int p1, .int p2, .ref O] h (LQ [0, 1] O r h1) := by
  refine X_enterH (L := [some (.ref X), some (.int p1), some (.int p2), some (.ref O), none]) (by decide +kernel) rfl okL_boundary.1 rfl rfl ?_
  refine X_aload_3 0 dL_boundary_0 ?_
  refine X_ic 1 0 dL_boundary_1 (by decide) ?_
  refine X_aload_0 2 dL_boundary_2 ?_
  refine X_iload_1 3 dL_boundary_3 ?_
  refine X_iload_2 4 dL_boundary_4 ?_
  refine X_callV (k := 0) (u := 0) (k' := 0 + ek r) (u' := 0 + es r) (ci := 8) 5 (As := [.int p1, .int p2]) calX8_boundary imX8_boundary seX8_boundary mkL_55 rfl rfl rfl rfl rfl hX (by decide) rfl rfl dL_boundary_5 (CX8_boundary E X p1 p2 h r h1 e) (fun ec h2 q => ?_) (fun v h2 q => ?_)
  · cases r with
    | inl v => cases q
    | inr c =>
      obtain ⟨t, ht, q⟩ := q
      cases q
      obtain ⟨c3, c0⟩ := hc ec rfl
      have c4 : ec = 0 ∨ ec = 1 ∨ ec = 2 := by omega
      rcases c4 with rfl | rfl | rfl
      · refine XT_catch rfl [] ⟨0, 10, 13, 20⟩ [⟨0, 10, 17, 13⟩] rfl (fun z hz => by cases hz) rfl (by decide) clL_20 (fun w => ?_)
        refine X_astore_4 13 dL_boundary_13 rfl ?_
        refine X_ic 15 1 dL_boundary_15 (by decide) ?_
        exact X_iret 16 dL_boundary_16 rfl rfl ⟨t, ht, rfl⟩
      · refine XT_catch rfl [⟨0, 10, 13, 20⟩] ⟨0, 10, 17, 13⟩ [] rfl (fun z hz => by
          simp only [List.mem_cons, List.not_mem_nil, or_false] at hz
          rcases hz with rfl
          · exact Or.inr ⟨by decide, 0, clL_20, by decide⟩) rfl (by decide) clL_13 (fun w => ?_)
        refine X_astore_4 17 dL_boundary_17 rfl ?_
        refine X_ic 19 2 dL_boundary_19 (by decide) ?_
        exact X_iret 20 dL_boundary_20 rfl rfl ⟨t, ht, rfl⟩
      · exact absurd (by decide) c0
  · cases r with
    | inr c =>
      obtain ⟨t, ht, q⟩ := q
      cases q
    | inl v' =>
      cases q
      refine X_i2l 8 dL_boundary_8 ?_
      refine X_last 9 hO.1 (xin_vp ⟨by decide, by rw [hO.2]; decide⟩) dL_boundary_9 ?_
      refine X_goto 10 21 dL_boundary_10 (by decide) ?_
      refine X_ic 21 0 dL_boundary_21 (by decide) ?_
      exact X_iret 22 dL_boundary_22 rfl rfl rfl
theorem CL_act (E : XG) (X O : Nat) (p1 p2 p3 : Int32) (h : XH) {r : Int32 ⊕ Nat} {h1 : XH} (e : FX8_act E X p1 p2 p3 h = some (r, h1)) (hX : xk h X = 9) (hO : xk h1 O = 13 ∧ xn h1 O = 1) (hc : ∀ c, r = .inr c → c < 3 ∧ ¬ cmT [0, 1] c = 0) : XC E mL_act (0 + ek r) (0 + es r) [.ref X, .int p1, .int p2, .int p3, .ref O] h (LQ [0, 1] O r h1) := by
  refine X_enterH (L := [some (.ref X), some (.int p1), some (.int p2), some (.int p3), some (.ref O), none]) (by decide +kernel) rfl okL_act.1 rfl rfl ?_
  refine X_aload_4 0 dL_act_0 ?_
  refine X_ic 2 0 dL_act_2 (by decide) ?_
  refine X_aload_0 3 dL_act_3 ?_
  refine X_iload_1 4 dL_act_4 ?_
  refine X_iload_2 5 dL_act_5 ?_
  refine X_iload_3 6 dL_act_6 ?_
  refine X_callV (k := 0) (u := 0) (k' := 0 + ek r) (u' := 0 + es r) (ci := 8) 7 (As := [.int p1, .int p2, .int p3]) calX8_act imX8_act seX8_act mkL_58 rfl rfl rfl rfl rfl hX (by decide) rfl rfl dL_act_7 (CX8_act E X p1 p2 p3 h r h1 e) (fun ec h2 q => ?_) (fun v h2 q => ?_)
  · cases r with
    | inl v => cases q
    | inr c =>
      obtain ⟨t, ht, q⟩ := q
      cases q
      obtain ⟨c3, c0⟩ := hc ec rfl
      have c4 : ec = 0 ∨ ec = 1 ∨ ec = 2 := by omega
      rcases c4 with rfl | rfl | rfl
      · refine XT_catch rfl [] ⟨0, 12, 15, 20⟩ [⟨0, 12, 19, 13⟩] rfl (fun z hz => by cases hz) rfl (by decide) clL_20 (fun w => ?_)
        refine X_astore_5 15 dL_act_15 rfl ?_
        refine X_ic 17 1 dL_act_17 (by decide) ?_
        exact X_iret 18 dL_act_18 rfl rfl ⟨t, ht, rfl⟩
      · refine XT_catch rfl [⟨0, 12, 15, 20⟩] ⟨0, 12, 19, 13⟩ [] rfl (fun z hz => by
          simp only [List.mem_cons, List.not_mem_nil, or_false] at hz
          rcases hz with rfl
          · exact Or.inr ⟨by decide, 0, clL_20, by decide⟩) rfl (by decide) clL_13 (fun w => ?_)
        refine X_astore_5 19 dL_act_19 rfl ?_
        refine X_ic 21 2 dL_act_21 (by decide) ?_
        exact X_iret 22 dL_act_22 rfl rfl ⟨t, ht, rfl⟩
      · exact absurd (by decide) c0
  · cases r with
    | inr c =>
      obtain ⟨t, ht, q⟩ := q
      cases q
    | inl v' =>
      cases q
      refine X_i2l 10 dL_act_10 ?_
      refine X_last 11 hO.1 (xin_vp ⟨by decide, by rw [hO.2]; decide⟩) dL_act_11 ?_
      refine X_goto 12 23 dL_act_12 (by decide) ?_
      refine X_ic 23 0 dL_act_23 (by decide) ?_
      exact X_iret 24 dL_act_24 rfl rfl rfl
theorem CL_why (E : XG) (X O : Nat) (p1 : Int32) (h : XH) {r : Int32 ⊕ Nat} {h1 : XH} (e : FX8_why E X p1 h = some (r, h1)) (hX : xk h X = 9) (hO : xk h1 O = 13 ∧ xn h1 O = 1) (hc : ∀ c, r = .inr c → c < 3 ∧ ¬ cmT [0, 1] c = 0) : XC E mL_why (0 + ek r) (0 + es r) [.ref X, .int p1, .ref O] h (LQ [0, 1] O r h1) := by
  refine X_enterH (L := [some (.ref X), some (.int p1), some (.ref O), none]) (by decide +kernel) rfl okL_why.1 rfl rfl ?_
  refine X_aload_2 0 dL_why_0 ?_
  refine X_ic 1 0 dL_why_1 (by decide) ?_
  refine X_aload_0 2 dL_why_2 ?_
  refine X_iload_1 3 dL_why_3 ?_
  refine X_callV (k := 0) (u := 0) (k' := 0 + ek r) (u' := 0 + es r) (ci := 8) 4 (As := [.int p1]) calX8_why imX8_why seX8_why mkL_61 rfl rfl rfl rfl rfl hX (by decide) rfl rfl dL_why_4 (CX8_why E X p1 h r h1 e) (fun ec h2 q => ?_) (fun v h2 q => ?_)
  · cases r with
    | inl v => cases q
    | inr c =>
      obtain ⟨t, ht, q⟩ := q
      cases q
      obtain ⟨c3, c0⟩ := hc ec rfl
      have c4 : ec = 0 ∨ ec = 1 ∨ ec = 2 := by omega
      rcases c4 with rfl | rfl | rfl
      · refine XT_catch rfl [] ⟨0, 9, 12, 20⟩ [⟨0, 9, 15, 13⟩] rfl (fun z hz => by cases hz) rfl (by decide) clL_20 (fun w => ?_)
        refine X_astore_3 12 dL_why_12 rfl ?_
        refine X_ic 13 1 dL_why_13 (by decide) ?_
        exact X_iret 14 dL_why_14 rfl rfl ⟨t, ht, rfl⟩
      · refine XT_catch rfl [⟨0, 9, 12, 20⟩] ⟨0, 9, 15, 13⟩ [] rfl (fun z hz => by
          simp only [List.mem_cons, List.not_mem_nil, or_false] at hz
          rcases hz with rfl
          · exact Or.inr ⟨by decide, 0, clL_20, by decide⟩) rfl (by decide) clL_13 (fun w => ?_)
        refine X_astore_3 15 dL_why_15 rfl ?_
        refine X_ic 16 2 dL_why_16 (by decide) ?_
        exact X_iret 17 dL_why_17 rfl rfl ⟨t, ht, rfl⟩
      · exact absurd (by decide) c0
  · cases r with
    | inr c =>
      obtain ⟨t, ht, q⟩ := q
      cases q
    | inl v' =>
      cases q
      refine X_i2l 7 dL_why_7 ?_
      refine X_last 8 hO.1 (xin_vp ⟨by decide, by rw [hO.2]; decide⟩) dL_why_8 ?_
      refine X_goto 9 18 dL_why_9 (by decide) ?_
      refine X_ic 18 0 dL_why_18 (by decide) ?_
      exact X_iret 19 dL_why_19 rfl rfl rfl
theorem CL_lawful (E : XG) (X O : Nat) (h : XH) {r : Int32 ⊕ Nat} {h1 : XH} (e : FX8_lawful E X  h = some (r, h1)) (hX : xk h X = 9) (hO : xk h1 O = 13 ∧ xn h1 O = 1) (hc : ∀ c, r = .inr c → c < 3 ∧ ¬ cmT [0] c = 0) : XC E mL_lawful (0 + ek r) (0 + es r) [.ref X, .ref O] h (LQ [0] O r h1) := by
  refine X_enterH (L := [some (.ref X), some (.ref O), none]) (by decide +kernel) rfl okL_lawful.1 rfl rfl ?_
  refine X_aload_1 0 dL_lawful_0 ?_
  refine X_ic 1 0 dL_lawful_1 (by decide) ?_
  refine X_aload_0 2 dL_lawful_2 ?_
  refine X_callV (k := 0) (u := 0) (k' := 0 + ek r) (u' := 0 + es r) (ci := 8) 3 (As := []) calX8_lawful imX8_lawful seX8_lawful mkL_64 rfl rfl rfl rfl rfl hX (by decide) rfl rfl dL_lawful_3 (CX8_lawful E X  h r h1 e) (fun ec h2 q => ?_) (fun v h2 q => ?_)
  · cases r with
    | inl v => cases q
    | inr c =>
      obtain ⟨t, ht, q⟩ := q
      cases q
      obtain ⟨c3, c0⟩ := hc ec rfl
      have c4 : ec = 0 ∨ ec = 1 ∨ ec = 2 := by omega
      rcases c4 with rfl | rfl | rfl
      · refine XT_catch rfl [] ⟨0, 8, 11, 20⟩ [] rfl (fun z hz => by cases hz) rfl (by decide) clL_20 (fun w => ?_)
        refine X_astore_2 11 dL_lawful_11 rfl ?_
        refine X_ic 12 1 dL_lawful_12 (by decide) ?_
        exact X_iret 13 dL_lawful_13 rfl rfl ⟨t, ht, rfl⟩
      · exact absurd (by decide) c0
      · exact absurd (by decide) c0
  · cases r with
    | inr c =>
      obtain ⟨t, ht, q⟩ := q
      cases q
    | inl v' =>
      cases q
      refine X_i2l 6 dL_lawful_6 ?_
      refine X_last 7 hO.1 (xin_vp ⟨by decide, by rw [hO.2]; decide⟩) dL_lawful_7 ?_
      refine X_goto 8 14 dL_lawful_8 (by decide) ?_
      refine X_ic 14 0 dL_lawful_14 (by decide) ?_
      exact X_iret 15 dL_lawful_15 rfl rfl rfl
theorem CL_kernel (E : XG) (X O : Nat) (p1 : Int32) (h : XH) {r : Int32 ⊕ Nat} {h1 : XH} (e : FX8_kernel E X p1 h = some (r, h1)) (hX : xk h X = 9) (hO : xk h1 O = 13 ∧ xn h1 O = 1) (hc : ∀ c, r = .inr c → c < 3 ∧ ¬ cmT [0, 1] c = 0) : XC E mL_kernel (0 + ek r) (0 + es r) [.ref X, .int p1, .ref O] h (LQ [0, 1] O r h1) := by
  refine X_enterH (L := [some (.ref X), some (.int p1), some (.ref O), none]) (by decide +kernel) rfl okL_kernel.1 rfl rfl ?_
  refine X_aload_2 0 dL_kernel_0 ?_
  refine X_ic 1 0 dL_kernel_1 (by decide) ?_
  refine X_aload_0 2 dL_kernel_2 ?_
  refine X_iload_1 3 dL_kernel_3 ?_
  refine X_callV (k := 0) (u := 0) (k' := 0 + ek r) (u' := 0 + es r) (ci := 8) 4 (As := [.int p1]) calX8_kernel imX8_kernel seX8_kernel mkL_68 rfl rfl rfl rfl rfl hX (by decide) rfl rfl dL_kernel_4 (CX8_kernel E X p1 h r h1 e) (fun ec h2 q => ?_) (fun v h2 q => ?_)
  · cases r with
    | inl v => cases q
    | inr c =>
      obtain ⟨t, ht, q⟩ := q
      cases q
      obtain ⟨c3, c0⟩ := hc ec rfl
      have c4 : ec = 0 ∨ ec = 1 ∨ ec = 2 := by omega
      rcases c4 with rfl | rfl | rfl
      · refine XT_catch rfl [] ⟨0, 9, 12, 20⟩ [⟨0, 9, 15, 13⟩] rfl (fun z hz => by cases hz) rfl (by decide) clL_20 (fun w => ?_)
        refine X_astore_3 12 dL_kernel_12 rfl ?_
        refine X_ic 13 1 dL_kernel_13 (by decide) ?_
        exact X_iret 14 dL_kernel_14 rfl rfl ⟨t, ht, rfl⟩
      · refine XT_catch rfl [⟨0, 9, 12, 20⟩] ⟨0, 9, 15, 13⟩ [] rfl (fun z hz => by
          simp only [List.mem_cons, List.not_mem_nil, or_false] at hz
          rcases hz with rfl
          · exact Or.inr ⟨by decide, 0, clL_20, by decide⟩) rfl (by decide) clL_13 (fun w => ?_)
        refine X_astore_3 15 dL_kernel_15 rfl ?_
        refine X_ic 16 2 dL_kernel_16 (by decide) ?_
        exact X_iret 17 dL_kernel_17 rfl rfl ⟨t, ht, rfl⟩
      · exact absurd (by decide) c0
  · cases r with
    | inr c =>
      obtain ⟨t, ht, q⟩ := q
      cases q
    | inl v' =>
      cases q
      refine X_i2l 7 dL_kernel_7 ?_
      refine X_last 8 hO.1 (xin_vp ⟨by decide, by rw [hO.2]; decide⟩) dL_kernel_8 ?_
      refine X_goto 9 18 dL_kernel_9 (by decide) ?_
      refine X_ic 18 0 dL_kernel_18 (by decide) ?_
      exact X_iret 19 dL_kernel_19 rfl rfl rfl
theorem CL_image (E : XG) (X O : Nat) (p1 : Int32) (h : XH) {r : Int32 ⊕ Nat} {h1 : XH} (e : FX8_image E X p1 h = some (r, h1)) (hX : xk h X = 9) (hO : xk h1 O = 13 ∧ xn h1 O = 1) (hc : ∀ c, r = .inr c → c < 3 ∧ ¬ cmT [0, 1] c = 0) : XC E mL_image (0 + ek r) (0 + es r) [.ref X, .int p1, .ref O] h (LQ [0, 1] O r h1) := by
  refine X_enterH (L := [some (.ref X), some (.int p1), some (.ref O), none]) (by decide +kernel) rfl okL_image.1 rfl rfl ?_
  refine X_aload_2 0 dL_image_0 ?_
  refine X_ic 1 0 dL_image_1 (by decide) ?_
  refine X_aload_0 2 dL_image_2 ?_
  refine X_iload_1 3 dL_image_3 ?_
  refine X_callV (k := 0) (u := 0) (k' := 0 + ek r) (u' := 0 + es r) (ci := 8) 4 (As := [.int p1]) calX8_image imX8_image seX8_image mkL_71 rfl rfl rfl rfl rfl hX (by decide) rfl rfl dL_image_4 (CX8_image E X p1 h r h1 e) (fun ec h2 q => ?_) (fun v h2 q => ?_)
  · cases r with
    | inl v => cases q
    | inr c =>
      obtain ⟨t, ht, q⟩ := q
      cases q
      obtain ⟨c3, c0⟩ := hc ec rfl
      have c4 : ec = 0 ∨ ec = 1 ∨ ec = 2 := by omega
      rcases c4 with rfl | rfl | rfl
      · refine XT_catch rfl [] ⟨0, 9, 12, 20⟩ [⟨0, 9, 15, 13⟩] rfl (fun z hz => by cases hz) rfl (by decide) clL_20 (fun w => ?_)
        refine X_astore_3 12 dL_image_12 rfl ?_
        refine X_ic 13 1 dL_image_13 (by decide) ?_
        exact X_iret 14 dL_image_14 rfl rfl ⟨t, ht, rfl⟩
      · refine XT_catch rfl [⟨0, 9, 12, 20⟩] ⟨0, 9, 15, 13⟩ [] rfl (fun z hz => by
          simp only [List.mem_cons, List.not_mem_nil, or_false] at hz
          rcases hz with rfl
          · exact Or.inr ⟨by decide, 0, clL_20, by decide⟩) rfl (by decide) clL_13 (fun w => ?_)
        refine X_astore_3 15 dL_image_15 rfl ?_
        refine X_ic 16 2 dL_image_16 (by decide) ?_
        exact X_iret 17 dL_image_17 rfl rfl ⟨t, ht, rfl⟩
      · exact absurd (by decide) c0
  · cases r with
    | inr c =>
      obtain ⟨t, ht, q⟩ := q
      cases q
    | inl v' =>
      cases q
      refine X_i2l 7 dL_image_7 ?_
      refine X_last 8 hO.1 (xin_vp ⟨by decide, by rw [hO.2]; decide⟩) dL_image_8 ?_
      refine X_goto 9 18 dL_image_9 (by decide) ?_
      refine X_ic 18 0 dL_image_18 (by decide) ?_
      exact X_iret 19 dL_image_19 rfl rfl rfl
theorem CL_isCentral (E : XG) (X O : Nat) (p1 : Int32) (h : XH) {r : Int32 ⊕ Nat} {h1 : XH} (e : FX8_isCentral E X p1 h = some (r, h1)) (hX : xk h X = 9) (hO : xk h1 O = 13 ∧ xn h1 O = 1) (hc : ∀ c, r = .inr c → c < 3 ∧ ¬ cmT [0, 1] c = 0) (hb : ∀ v, r = .inl v → v = 0 ∨ v = 1) : XC E mL_isCentral (0 + ek r) (0 + es r) [.ref X, .int p1, .ref O] h (LQ [0, 1] O r h1) := by
  refine X_enterH (L := [some (.ref X), some (.int p1), some (.ref O), none]) (by decide +kernel) rfl okL_isCentral.1 rfl rfl ?_
  refine X_aload_2 0 dL_isCentral_0 ?_
  refine X_ic 1 0 dL_isCentral_1 (by decide) ?_
  refine X_aload_0 2 dL_isCentral_2 ?_
  refine X_iload_1 3 dL_isCentral_3 ?_
  refine X_callV (k := 0) (u := 0) (k' := 0 + ek r) (u' := 0 + es r) (ci := 8) 4 (As := [.int p1]) calX8_isCentral imX8_isCentral seX8_isCentral mkL_74 rfl rfl rfl rfl rfl hX (by decide) rfl rfl dL_isCentral_4 (CX8_isCentral E X p1 h r h1 e) (fun ec h2 q => ?_) (fun v h2 q => ?_)
  · cases r with
    | inl v => cases q
    | inr c =>
      obtain ⟨t, ht, q⟩ := q
      cases q
      obtain ⟨c3, c0⟩ := hc ec rfl
      have c4 : ec = 0 ∨ ec = 1 ∨ ec = 2 := by omega
      rcases c4 with rfl | rfl | rfl
      · refine XT_catch rfl [] ⟨0, 16, 19, 20⟩ [⟨0, 16, 22, 13⟩] rfl (fun z hz => by cases hz) rfl (by decide) clL_20 (fun w => ?_)
        refine X_astore_3 19 dL_isCentral_19 rfl ?_
        refine X_ic 20 1 dL_isCentral_20 (by decide) ?_
        exact X_iret 21 dL_isCentral_21 rfl rfl ⟨t, ht, rfl⟩
      · refine XT_catch rfl [⟨0, 16, 19, 20⟩] ⟨0, 16, 22, 13⟩ [] rfl (fun z hz => by
          simp only [List.mem_cons, List.not_mem_nil, or_false] at hz
          rcases hz with rfl
          · exact Or.inr ⟨by decide, 0, clL_20, by decide⟩) rfl (by decide) clL_13 (fun w => ?_)
        refine X_astore_3 22 dL_isCentral_22 rfl ?_
        refine X_ic 23 2 dL_isCentral_23 (by decide) ?_
        exact X_iret 24 dL_isCentral_24 rfl rfl ⟨t, ht, rfl⟩
      · exact absurd (by decide) c0
  · cases r with
    | inr c =>
      obtain ⟨t, ht, q⟩ := q
      cases q
    | inl v' =>
      cases q
      refine X_ifeq 7 14 dL_isCentral_7 (by decide) (fun z => ?_) (fun z => ?_)
      · refine X_lconst 14 0 dL_isCentral_14 ?_
        refine X_last 15 hO.1 (xin_vp ⟨by decide, by rw [hO.2]; decide⟩) dL_isCentral_15 ?_
        refine X_goto 16 25 dL_isCentral_16 (by decide) ?_
        refine X_ic 25 0 dL_isCentral_25 (by decide) ?_
        exact X_iret 26 dL_isCentral_26 rfl rfl (by rw [z]; rfl)
      · have z1 : v' = 1 := (hb v' rfl).resolve_left z
        refine X_lconst 10 1 dL_isCentral_10 ?_
        refine X_goto 11 15 dL_isCentral_11 (by decide) ?_
        refine X_last 15 hO.1 (xin_vp ⟨by decide, by rw [hO.2]; decide⟩) dL_isCentral_15 ?_
        refine X_goto 16 25 dL_isCentral_16 (by decide) ?_
        refine X_ic 25 0 dL_isCentral_25 (by decide) ?_
        exact X_iret 26 dL_isCentral_26 rfl rfl (by rw [z1]; rfl)
theorem CL_fixed (E : XG) (X O : Nat) (p1 p2 : Int32) (h : XH) {r : Int32 ⊕ Nat} {h1 : XH} (e : FX8_fixed E X p1 p2 h = some (r, h1)) (hX : xk h X = 9) (hO : xk h1 O = 13 ∧ xn h1 O = 1) (hc : ∀ c, r = .inr c → c < 3 ∧ ¬ cmT [0, 1] c = 0) : XC E mL_fixed (0 + ek r) (0 + es r) [.ref X, .int p1, .int p2, .ref O] h (LQ [0, 1] O r h1) := by
  refine X_enterH (L := [some (.ref X), some (.int p1), some (.int p2), some (.ref O), none]) (by decide +kernel) rfl okL_fixed.1 rfl rfl ?_
  refine X_aload_3 0 dL_fixed_0 ?_
  refine X_ic 1 0 dL_fixed_1 (by decide) ?_
  refine X_aload_0 2 dL_fixed_2 ?_
  refine X_iload_1 3 dL_fixed_3 ?_
  refine X_iload_2 4 dL_fixed_4 ?_
  refine X_callV (k := 0) (u := 0) (k' := 0 + ek r) (u' := 0 + es r) (ci := 8) 5 (As := [.int p1, .int p2]) calX8_fixed imX8_fixed seX8_fixed mkL_78 rfl rfl rfl rfl rfl hX (by decide) rfl rfl dL_fixed_5 (CX8_fixed E X p1 p2 h r h1 e) (fun ec h2 q => ?_) (fun v h2 q => ?_)
  · cases r with
    | inl v => cases q
    | inr c =>
      obtain ⟨t, ht, q⟩ := q
      cases q
      obtain ⟨c3, c0⟩ := hc ec rfl
      have c4 : ec = 0 ∨ ec = 1 ∨ ec = 2 := by omega
      rcases c4 with rfl | rfl | rfl
      · refine XT_catch rfl [] ⟨0, 10, 13, 20⟩ [⟨0, 10, 17, 13⟩] rfl (fun z hz => by cases hz) rfl (by decide) clL_20 (fun w => ?_)
        refine X_astore_4 13 dL_fixed_13 rfl ?_
        refine X_ic 15 1 dL_fixed_15 (by decide) ?_
        exact X_iret 16 dL_fixed_16 rfl rfl ⟨t, ht, rfl⟩
      · refine XT_catch rfl [⟨0, 10, 13, 20⟩] ⟨0, 10, 17, 13⟩ [] rfl (fun z hz => by
          simp only [List.mem_cons, List.not_mem_nil, or_false] at hz
          rcases hz with rfl
          · exact Or.inr ⟨by decide, 0, clL_20, by decide⟩) rfl (by decide) clL_13 (fun w => ?_)
        refine X_astore_4 17 dL_fixed_17 rfl ?_
        refine X_ic 19 2 dL_fixed_19 (by decide) ?_
        exact X_iret 20 dL_fixed_20 rfl rfl ⟨t, ht, rfl⟩
      · exact absurd (by decide) c0
  · cases r with
    | inr c =>
      obtain ⟨t, ht, q⟩ := q
      cases q
    | inl v' =>
      cases q
      refine X_i2l 8 dL_fixed_8 ?_
      refine X_last 9 hO.1 (xin_vp ⟨by decide, by rw [hO.2]; decide⟩) dL_fixed_9 ?_
      refine X_goto 10 21 dL_fixed_10 (by decide) ?_
      refine X_ic 21 0 dL_fixed_21 (by decide) ?_
      exact X_iret 22 dL_fixed_22 rfl rfl rfl
theorem CL_orbit (E : XG) (X O : Nat) (p1 p2 : Int32) (h : XH) {r : Int32 ⊕ Nat} {h1 : XH} (e : FX8_orbit E X p1 p2 h = some (r, h1)) (hX : xk h X = 9) (hO : xk h1 O = 13 ∧ xn h1 O = 1) (hc : ∀ c, r = .inr c → c < 3 ∧ ¬ cmT [0, 1] c = 0) : XC E mL_orbit (0 + ek r) (0 + es r) [.ref X, .int p1, .int p2, .ref O] h (LQ [0, 1] O r h1) := by
  refine X_enterH (L := [some (.ref X), some (.int p1), some (.int p2), some (.ref O), none]) (by decide +kernel) rfl okL_orbit.1 rfl rfl ?_
  refine X_aload_3 0 dL_orbit_0 ?_
  refine X_ic 1 0 dL_orbit_1 (by decide) ?_
  refine X_aload_0 2 dL_orbit_2 ?_
  refine X_iload_1 3 dL_orbit_3 ?_
  refine X_iload_2 4 dL_orbit_4 ?_
  refine X_callV (k := 0) (u := 0) (k' := 0 + ek r) (u' := 0 + es r) (ci := 8) 5 (As := [.int p1, .int p2]) calX8_orbit imX8_orbit seX8_orbit mkL_81 rfl rfl rfl rfl rfl hX (by decide) rfl rfl dL_orbit_5 (CX8_orbit E X p1 p2 h r h1 e) (fun ec h2 q => ?_) (fun v h2 q => ?_)
  · cases r with
    | inl v => cases q
    | inr c =>
      obtain ⟨t, ht, q⟩ := q
      cases q
      obtain ⟨c3, c0⟩ := hc ec rfl
      have c4 : ec = 0 ∨ ec = 1 ∨ ec = 2 := by omega
      rcases c4 with rfl | rfl | rfl
      · refine XT_catch rfl [] ⟨0, 10, 13, 20⟩ [⟨0, 10, 17, 13⟩] rfl (fun z hz => by cases hz) rfl (by decide) clL_20 (fun w => ?_)
        refine X_astore_4 13 dL_orbit_13 rfl ?_
        refine X_ic 15 1 dL_orbit_15 (by decide) ?_
        exact X_iret 16 dL_orbit_16 rfl rfl ⟨t, ht, rfl⟩
      · refine XT_catch rfl [⟨0, 10, 13, 20⟩] ⟨0, 10, 17, 13⟩ [] rfl (fun z hz => by
          simp only [List.mem_cons, List.not_mem_nil, or_false] at hz
          rcases hz with rfl
          · exact Or.inr ⟨by decide, 0, clL_20, by decide⟩) rfl (by decide) clL_13 (fun w => ?_)
        refine X_astore_4 17 dL_orbit_17 rfl ?_
        refine X_ic 19 2 dL_orbit_19 (by decide) ?_
        exact X_iret 20 dL_orbit_20 rfl rfl ⟨t, ht, rfl⟩
      · exact absurd (by decide) c0
  · cases r with
    | inr c =>
      obtain ⟨t, ht, q⟩ := q
      cases q
    | inl v' =>
      cases q
      refine X_i2l 8 dL_orbit_8 ?_
      refine X_last 9 hO.1 (xin_vp ⟨by decide, by rw [hO.2]; decide⟩) dL_orbit_9 ?_
      refine X_goto 10 21 dL_orbit_10 (by decide) ?_
      refine X_ic 21 0 dL_orbit_21 (by decide) ?_
      exact X_iret 22 dL_orbit_22 rfl rfl rfl
theorem CL_classes (E : XG) (X O : Nat) (p1 : Int32) (h : XH) {r : Int32 ⊕ Nat} {h1 : XH} (e : FX8_classes E X p1 h = some (r, h1)) (hX : xk h X = 9) (hO : xk h1 O = 13 ∧ xn h1 O = 1) (hc : ∀ c, r = .inr c → c < 3 ∧ ¬ cmT [0, 1, 2] c = 0) : XC E mL_classes (0 + ek r) (0 + es r) [.ref X, .int p1, .ref O] h (LQ [0, 1, 2] O r h1) := by
  refine X_enterH (L := [some (.ref X), some (.int p1), some (.ref O), none]) (by decide +kernel) rfl okL_classes.1 rfl rfl ?_
  refine X_aload_2 0 dL_classes_0 ?_
  refine X_ic 1 0 dL_classes_1 (by decide) ?_
  refine X_aload_0 2 dL_classes_2 ?_
  refine X_iload_1 3 dL_classes_3 ?_
  refine X_callV (k := 0) (u := 0) (k' := 0 + ek r) (u' := 0 + es r) (ci := 8) 4 (As := [.int p1]) calX8_classes imX8_classes seX8_classes mkL_84 rfl rfl rfl rfl rfl hX (by decide) rfl rfl dL_classes_4 (CX8_classes E X p1 h r h1 e) (fun ec h2 q => ?_) (fun v h2 q => ?_)
  · cases r with
    | inl v => cases q
    | inr c =>
      obtain ⟨t, ht, q⟩ := q
      cases q
      obtain ⟨c3, c0⟩ := hc ec rfl
      have c4 : ec = 0 ∨ ec = 1 ∨ ec = 2 := by omega
      rcases c4 with rfl | rfl | rfl
      · refine XT_catch rfl [] ⟨0, 9, 12, 20⟩ [⟨0, 9, 15, 13⟩, ⟨0, 9, 18, 15⟩] rfl (fun z hz => by cases hz) rfl (by decide) clL_20 (fun w => ?_)
        refine X_astore_3 12 dL_classes_12 rfl ?_
        refine X_ic 13 1 dL_classes_13 (by decide) ?_
        exact X_iret 14 dL_classes_14 rfl rfl ⟨t, ht, rfl⟩
      · refine XT_catch rfl [⟨0, 9, 12, 20⟩] ⟨0, 9, 15, 13⟩ [⟨0, 9, 18, 15⟩] rfl (fun z hz => by
          simp only [List.mem_cons, List.not_mem_nil, or_false] at hz
          rcases hz with rfl
          · exact Or.inr ⟨by decide, 0, clL_20, by decide⟩) rfl (by decide) clL_13 (fun w => ?_)
        refine X_astore_3 15 dL_classes_15 rfl ?_
        refine X_ic 16 2 dL_classes_16 (by decide) ?_
        exact X_iret 17 dL_classes_17 rfl rfl ⟨t, ht, rfl⟩
      · refine XT_catch rfl [⟨0, 9, 12, 20⟩, ⟨0, 9, 15, 13⟩] ⟨0, 9, 18, 15⟩ [] rfl (fun z hz => by
          simp only [List.mem_cons, List.not_mem_nil, or_false] at hz
          rcases hz with rfl | rfl
          · exact Or.inr ⟨by decide, 0, clL_20, by decide⟩
          · exact Or.inr ⟨by decide, 1, clL_13, by decide⟩) rfl (by decide) clL_15 (fun w => ?_)
        refine X_astore_3 18 dL_classes_18 rfl ?_
        refine X_ic 19 3 dL_classes_19 (by decide) ?_
        exact X_iret 20 dL_classes_20 rfl rfl ⟨t, ht, rfl⟩
  · cases r with
    | inr c =>
      obtain ⟨t, ht, q⟩ := q
      cases q
    | inl v' =>
      cases q
      refine X_i2l 7 dL_classes_7 ?_
      refine X_last 8 hO.1 (xin_vp ⟨by decide, by rw [hO.2]; decide⟩) dL_classes_8 ?_
      refine X_goto 9 21 dL_classes_9 (by decide) ?_
      refine X_ic 21 0 dL_classes_21 (by decide) ?_
      exact X_iret 22 dL_classes_22 rfl rfl rfl
theorem CL_classOf (E : XG) (X O : Nat) (p1 p2 : Int32) (h : XH) {r : Int32 ⊕ Nat} {h1 : XH} (e : FX8_classOf E X p1 p2 h = some (r, h1)) (hX : xk h X = 9) (hO : xk h1 O = 13 ∧ xn h1 O = 1) (hc : ∀ c, r = .inr c → c < 3 ∧ ¬ cmT [0, 1, 2] c = 0) : XC E mL_classOf (0 + ek r) (0 + es r) [.ref X, .int p1, .int p2, .ref O] h (LQ [0, 1, 2] O r h1) := by
  refine X_enterH (L := [some (.ref X), some (.int p1), some (.int p2), some (.ref O), none]) (by decide +kernel) rfl okL_classOf.1 rfl rfl ?_
  refine X_aload_3 0 dL_classOf_0 ?_
  refine X_ic 1 0 dL_classOf_1 (by decide) ?_
  refine X_aload_0 2 dL_classOf_2 ?_
  refine X_iload_1 3 dL_classOf_3 ?_
  refine X_iload_2 4 dL_classOf_4 ?_
  refine X_callV (k := 0) (u := 0) (k' := 0 + ek r) (u' := 0 + es r) (ci := 8) 5 (As := [.int p1, .int p2]) calX8_classOf imX8_classOf seX8_classOf mkL_87 rfl rfl rfl rfl rfl hX (by decide) rfl rfl dL_classOf_5 (CX8_classOf E X p1 p2 h r h1 e) (fun ec h2 q => ?_) (fun v h2 q => ?_)
  · cases r with
    | inl v => cases q
    | inr c =>
      obtain ⟨t, ht, q⟩ := q
      cases q
      obtain ⟨c3, c0⟩ := hc ec rfl
      have c4 : ec = 0 ∨ ec = 1 ∨ ec = 2 := by omega
      rcases c4 with rfl | rfl | rfl
      · refine XT_catch rfl [] ⟨0, 10, 13, 20⟩ [⟨0, 10, 17, 13⟩, ⟨0, 10, 21, 15⟩] rfl (fun z hz => by cases hz) rfl (by decide) clL_20 (fun w => ?_)
        refine X_astore_4 13 dL_classOf_13 rfl ?_
        refine X_ic 15 1 dL_classOf_15 (by decide) ?_
        exact X_iret 16 dL_classOf_16 rfl rfl ⟨t, ht, rfl⟩
      · refine XT_catch rfl [⟨0, 10, 13, 20⟩] ⟨0, 10, 17, 13⟩ [⟨0, 10, 21, 15⟩] rfl (fun z hz => by
          simp only [List.mem_cons, List.not_mem_nil, or_false] at hz
          rcases hz with rfl
          · exact Or.inr ⟨by decide, 0, clL_20, by decide⟩) rfl (by decide) clL_13 (fun w => ?_)
        refine X_astore_4 17 dL_classOf_17 rfl ?_
        refine X_ic 19 2 dL_classOf_19 (by decide) ?_
        exact X_iret 20 dL_classOf_20 rfl rfl ⟨t, ht, rfl⟩
      · refine XT_catch rfl [⟨0, 10, 13, 20⟩, ⟨0, 10, 17, 13⟩] ⟨0, 10, 21, 15⟩ [] rfl (fun z hz => by
          simp only [List.mem_cons, List.not_mem_nil, or_false] at hz
          rcases hz with rfl | rfl
          · exact Or.inr ⟨by decide, 0, clL_20, by decide⟩
          · exact Or.inr ⟨by decide, 1, clL_13, by decide⟩) rfl (by decide) clL_15 (fun w => ?_)
        refine X_astore_4 21 dL_classOf_21 rfl ?_
        refine X_ic 23 3 dL_classOf_23 (by decide) ?_
        exact X_iret 24 dL_classOf_24 rfl rfl ⟨t, ht, rfl⟩
  · cases r with
    | inr c =>
      obtain ⟨t, ht, q⟩ := q
      cases q
    | inl v' =>
      cases q
      refine X_i2l 8 dL_classOf_8 ?_
      refine X_last 9 hO.1 (xin_vp ⟨by decide, by rw [hO.2]; decide⟩) dL_classOf_9 ?_
      refine X_goto 10 25 dL_classOf_10 (by decide) ?_
      refine X_ic 25 0 dL_classOf_25 (by decide) ?_
      exact X_iret 26 dL_classOf_26 rfl rfl rfl
theorem CL_classTimes (E : XG) (X O : Nat) (p1 p2 p3 : Int32) (h : XH) {r : Int32 ⊕ Nat} {h1 : XH} (e : FX8_classTimes E X p1 p2 p3 h = some (r, h1)) (hX : xk h X = 9) (hO : xk h1 O = 13 ∧ xn h1 O = 1) (hc : ∀ c, r = .inr c → c < 3 ∧ ¬ cmT [0, 1, 2] c = 0) : XC E mL_classTimes (0 + ek r) (0 + es r) [.ref X, .int p1, .int p2, .int p3, .ref O] h (LQ [0, 1, 2] O r h1) := by
  refine X_enterH (L := [some (.ref X), some (.int p1), some (.int p2), some (.int p3), some (.ref O), none]) (by decide +kernel) rfl okL_classTimes.1 rfl rfl ?_
  refine X_aload_4 0 dL_classTimes_0 ?_
  refine X_ic 2 0 dL_classTimes_2 (by decide) ?_
  refine X_aload_0 3 dL_classTimes_3 ?_
  refine X_iload_1 4 dL_classTimes_4 ?_
  refine X_iload_2 5 dL_classTimes_5 ?_
  refine X_iload_3 6 dL_classTimes_6 ?_
  refine X_callV (k := 0) (u := 0) (k' := 0 + ek r) (u' := 0 + es r) (ci := 8) 7 (As := [.int p1, .int p2, .int p3]) calX8_classTimes imX8_classTimes seX8_classTimes mkL_90 rfl rfl rfl rfl rfl hX (by decide) rfl rfl dL_classTimes_7 (CX8_classTimes E X p1 p2 p3 h r h1 e) (fun ec h2 q => ?_) (fun v h2 q => ?_)
  · cases r with
    | inl v => cases q
    | inr c =>
      obtain ⟨t, ht, q⟩ := q
      cases q
      obtain ⟨c3, c0⟩ := hc ec rfl
      have c4 : ec = 0 ∨ ec = 1 ∨ ec = 2 := by omega
      rcases c4 with rfl | rfl | rfl
      · refine XT_catch rfl [] ⟨0, 12, 15, 20⟩ [⟨0, 12, 19, 13⟩, ⟨0, 12, 23, 15⟩] rfl (fun z hz => by cases hz) rfl (by decide) clL_20 (fun w => ?_)
        refine X_astore_5 15 dL_classTimes_15 rfl ?_
        refine X_ic 17 1 dL_classTimes_17 (by decide) ?_
        exact X_iret 18 dL_classTimes_18 rfl rfl ⟨t, ht, rfl⟩
      · refine XT_catch rfl [⟨0, 12, 15, 20⟩] ⟨0, 12, 19, 13⟩ [⟨0, 12, 23, 15⟩] rfl (fun z hz => by
          simp only [List.mem_cons, List.not_mem_nil, or_false] at hz
          rcases hz with rfl
          · exact Or.inr ⟨by decide, 0, clL_20, by decide⟩) rfl (by decide) clL_13 (fun w => ?_)
        refine X_astore_5 19 dL_classTimes_19 rfl ?_
        refine X_ic 21 2 dL_classTimes_21 (by decide) ?_
        exact X_iret 22 dL_classTimes_22 rfl rfl ⟨t, ht, rfl⟩
      · refine XT_catch rfl [⟨0, 12, 15, 20⟩, ⟨0, 12, 19, 13⟩] ⟨0, 12, 23, 15⟩ [] rfl (fun z hz => by
          simp only [List.mem_cons, List.not_mem_nil, or_false] at hz
          rcases hz with rfl | rfl
          · exact Or.inr ⟨by decide, 0, clL_20, by decide⟩
          · exact Or.inr ⟨by decide, 1, clL_13, by decide⟩) rfl (by decide) clL_15 (fun w => ?_)
        refine X_astore_5 23 dL_classTimes_23 rfl ?_
        refine X_ic 25 3 dL_classTimes_25 (by decide) ?_
        exact X_iret 26 dL_classTimes_26 rfl rfl ⟨t, ht, rfl⟩
  · cases r with
    | inr c =>
      obtain ⟨t, ht, q⟩ := q
      cases q
    | inl v' =>
      cases q
      refine X_i2l 10 dL_classTimes_10 ?_
      refine X_last 11 hO.1 (xin_vp ⟨by decide, by rw [hO.2]; decide⟩) dL_classTimes_11 ?_
      refine X_goto 12 27 dL_classTimes_12 (by decide) ?_
      refine X_ic 27 0 dL_classTimes_27 (by decide) ?_
      exact X_iret 28 dL_classTimes_28 rfl rfl rfl
theorem CL_classAct (E : XG) (X O : Nat) (p1 p2 p3 : Int32) (h : XH) {r : Int32 ⊕ Nat} {h1 : XH} (e : FX8_classAct E X p1 p2 p3 h = some (r, h1)) (hX : xk h X = 9) (hO : xk h1 O = 13 ∧ xn h1 O = 1) (hc : ∀ c, r = .inr c → c < 3 ∧ ¬ cmT [0, 1, 2] c = 0) : XC E mL_classAct (0 + ek r) (0 + es r) [.ref X, .int p1, .int p2, .int p3, .ref O] h (LQ [0, 1, 2] O r h1) := by
  refine X_enterH (L := [some (.ref X), some (.int p1), some (.int p2), some (.int p3), some (.ref O), none]) (by decide +kernel) rfl okL_classAct.1 rfl rfl ?_
  refine X_aload_4 0 dL_classAct_0 ?_
  refine X_ic 2 0 dL_classAct_2 (by decide) ?_
  refine X_aload_0 3 dL_classAct_3 ?_
  refine X_iload_1 4 dL_classAct_4 ?_
  refine X_iload_2 5 dL_classAct_5 ?_
  refine X_iload_3 6 dL_classAct_6 ?_
  refine X_callV (k := 0) (u := 0) (k' := 0 + ek r) (u' := 0 + es r) (ci := 8) 7 (As := [.int p1, .int p2, .int p3]) calX8_classAct imX8_classAct seX8_classAct mkL_93 rfl rfl rfl rfl rfl hX (by decide) rfl rfl dL_classAct_7 (CX8_classAct E X p1 p2 p3 h r h1 e) (fun ec h2 q => ?_) (fun v h2 q => ?_)
  · cases r with
    | inl v => cases q
    | inr c =>
      obtain ⟨t, ht, q⟩ := q
      cases q
      obtain ⟨c3, c0⟩ := hc ec rfl
      have c4 : ec = 0 ∨ ec = 1 ∨ ec = 2 := by omega
      rcases c4 with rfl | rfl | rfl
      · refine XT_catch rfl [] ⟨0, 12, 15, 20⟩ [⟨0, 12, 19, 13⟩, ⟨0, 12, 23, 15⟩] rfl (fun z hz => by cases hz) rfl (by decide) clL_20 (fun w => ?_)
        refine X_astore_5 15 dL_classAct_15 rfl ?_
        refine X_ic 17 1 dL_classAct_17 (by decide) ?_
        exact X_iret 18 dL_classAct_18 rfl rfl ⟨t, ht, rfl⟩
      · refine XT_catch rfl [⟨0, 12, 15, 20⟩] ⟨0, 12, 19, 13⟩ [⟨0, 12, 23, 15⟩] rfl (fun z hz => by
          simp only [List.mem_cons, List.not_mem_nil, or_false] at hz
          rcases hz with rfl
          · exact Or.inr ⟨by decide, 0, clL_20, by decide⟩) rfl (by decide) clL_13 (fun w => ?_)
        refine X_astore_5 19 dL_classAct_19 rfl ?_
        refine X_ic 21 2 dL_classAct_21 (by decide) ?_
        exact X_iret 22 dL_classAct_22 rfl rfl ⟨t, ht, rfl⟩
      · refine XT_catch rfl [⟨0, 12, 15, 20⟩, ⟨0, 12, 19, 13⟩] ⟨0, 12, 23, 15⟩ [] rfl (fun z hz => by
          simp only [List.mem_cons, List.not_mem_nil, or_false] at hz
          rcases hz with rfl | rfl
          · exact Or.inr ⟨by decide, 0, clL_20, by decide⟩
          · exact Or.inr ⟨by decide, 1, clL_13, by decide⟩) rfl (by decide) clL_15 (fun w => ?_)
        refine X_astore_5 23 dL_classAct_23 rfl ?_
        refine X_ic 25 3 dL_classAct_25 (by decide) ?_
        exact X_iret 26 dL_classAct_26 rfl rfl ⟨t, ht, rfl⟩
  · cases r with
    | inr c =>
      obtain ⟨t, ht, q⟩ := q
      cases q
    | inl v' =>
      cases q
      refine X_i2l 10 dL_classAct_10 ?_
      refine X_last 11 hO.1 (xin_vp ⟨by decide, by rw [hO.2]; decide⟩) dL_classAct_11 ?_
      refine X_goto 12 27 dL_classAct_12 (by decide) ?_
      refine X_ic 27 0 dL_classAct_27 (by decide) ?_
      exact X_iret 28 dL_classAct_28 rfl rfl rfl
theorem CL_profile (E : XG) (X O : Nat) (p1 p2 p3 : Int32) (h : XH) {r : Int32 ⊕ Nat} {h1 : XH} (e : FX8_profile E X p1 p2 p3 h = some (r, h1)) (hX : xk h X = 9) (hO : xk h1 O = 13 ∧ xn h1 O = 1) (hc : ∀ c, r = .inr c → c < 3 ∧ ¬ cmT [0, 1, 2] c = 0) : XC E mL_profile (0 + ek r) (0 + es r) [.ref X, .int p1, .int p2, .int p3, .ref O] h (LQ [0, 1, 2] O r h1) := by
  refine X_enterH (L := [some (.ref X), some (.int p1), some (.int p2), some (.int p3), some (.ref O), none]) (by decide +kernel) rfl okL_profile.1 rfl rfl ?_
  refine X_aload_4 0 dL_profile_0 ?_
  refine X_ic 2 0 dL_profile_2 (by decide) ?_
  refine X_aload_0 3 dL_profile_3 ?_
  refine X_iload_1 4 dL_profile_4 ?_
  refine X_iload_2 5 dL_profile_5 ?_
  refine X_iload_3 6 dL_profile_6 ?_
  refine X_callV (k := 0) (u := 0) (k' := 0 + ek r) (u' := 0 + es r) (ci := 8) 7 (As := [.int p1, .int p2, .int p3]) calX8_profile imX8_profile seX8_profile mkL_96 rfl rfl rfl rfl rfl hX (by decide) rfl rfl dL_profile_7 (CX8_profile E X p1 p2 p3 h r h1 e) (fun ec h2 q => ?_) (fun v h2 q => ?_)
  · cases r with
    | inl v => cases q
    | inr c =>
      obtain ⟨t, ht, q⟩ := q
      cases q
      obtain ⟨c3, c0⟩ := hc ec rfl
      have c4 : ec = 0 ∨ ec = 1 ∨ ec = 2 := by omega
      rcases c4 with rfl | rfl | rfl
      · refine XT_catch rfl [] ⟨0, 12, 15, 20⟩ [⟨0, 12, 19, 13⟩, ⟨0, 12, 23, 15⟩] rfl (fun z hz => by cases hz) rfl (by decide) clL_20 (fun w => ?_)
        refine X_astore_5 15 dL_profile_15 rfl ?_
        refine X_ic 17 1 dL_profile_17 (by decide) ?_
        exact X_iret 18 dL_profile_18 rfl rfl ⟨t, ht, rfl⟩
      · refine XT_catch rfl [⟨0, 12, 15, 20⟩] ⟨0, 12, 19, 13⟩ [⟨0, 12, 23, 15⟩] rfl (fun z hz => by
          simp only [List.mem_cons, List.not_mem_nil, or_false] at hz
          rcases hz with rfl
          · exact Or.inr ⟨by decide, 0, clL_20, by decide⟩) rfl (by decide) clL_13 (fun w => ?_)
        refine X_astore_5 19 dL_profile_19 rfl ?_
        refine X_ic 21 2 dL_profile_21 (by decide) ?_
        exact X_iret 22 dL_profile_22 rfl rfl ⟨t, ht, rfl⟩
      · refine XT_catch rfl [⟨0, 12, 15, 20⟩, ⟨0, 12, 19, 13⟩] ⟨0, 12, 23, 15⟩ [] rfl (fun z hz => by
          simp only [List.mem_cons, List.not_mem_nil, or_false] at hz
          rcases hz with rfl | rfl
          · exact Or.inr ⟨by decide, 0, clL_20, by decide⟩
          · exact Or.inr ⟨by decide, 1, clL_13, by decide⟩) rfl (by decide) clL_15 (fun w => ?_)
        refine X_astore_5 23 dL_profile_23 rfl ?_
        refine X_ic 25 3 dL_profile_25 (by decide) ?_
        exact X_iret 26 dL_profile_26 rfl rfl ⟨t, ht, rfl⟩
  · cases r with
    | inr c =>
      obtain ⟨t, ht, q⟩ := q
      cases q
    | inl v' =>
      cases q
      refine X_i2l 10 dL_profile_10 ?_
      refine X_last 11 hO.1 (xin_vp ⟨by decide, by rw [hO.2]; decide⟩) dL_profile_11 ?_
      refine X_goto 12 27 dL_profile_12 (by decide) ?_
      refine X_ic 27 0 dL_profile_27 (by decide) ?_
      exact X_iret 28 dL_profile_28 rfl rfl rfl
theorem CL_areAlike (E : XG) (X O : Nat) (p1 p2 : Int32) (h : XH) {r : Int32 ⊕ Nat} {h1 : XH} (e : FX8_areAlike E X p1 p2 h = some (r, h1)) (hX : xk h X = 9) (hO : xk h1 O = 13 ∧ xn h1 O = 1) (hc : ∀ c, r = .inr c → c < 3 ∧ ¬ cmT [0, 1, 2] c = 0) (hb : ∀ v, r = .inl v → v = 0 ∨ v = 1) : XC E mL_areAlike (0 + ek r) (0 + es r) [.ref X, .int p1, .int p2, .ref O] h (LQ [0, 1, 2] O r h1) := by
  refine X_enterH (L := [some (.ref X), some (.int p1), some (.int p2), some (.ref O), none]) (by decide +kernel) rfl okL_areAlike.1 rfl rfl ?_
  refine X_aload_3 0 dL_areAlike_0 ?_
  refine X_ic 1 0 dL_areAlike_1 (by decide) ?_
  refine X_aload_0 2 dL_areAlike_2 ?_
  refine X_iload_1 3 dL_areAlike_3 ?_
  refine X_iload_2 4 dL_areAlike_4 ?_
  refine X_callV (k := 0) (u := 0) (k' := 0 + ek r) (u' := 0 + es r) (ci := 8) 5 (As := [.int p1, .int p2]) calX8_areAlike imX8_areAlike seX8_areAlike mkL_100 rfl rfl rfl rfl rfl hX (by decide) rfl rfl dL_areAlike_5 (CX8_areAlike E X p1 p2 h r h1 e) (fun ec h2 q => ?_) (fun v h2 q => ?_)
  · cases r with
    | inl v => cases q
    | inr c =>
      obtain ⟨t, ht, q⟩ := q
      cases q
      obtain ⟨c3, c0⟩ := hc ec rfl
      have c4 : ec = 0 ∨ ec = 1 ∨ ec = 2 := by omega
      rcases c4 with rfl | rfl | rfl
      · refine XT_catch rfl [] ⟨0, 17, 20, 20⟩ [⟨0, 17, 24, 13⟩, ⟨0, 17, 28, 15⟩] rfl (fun z hz => by cases hz) rfl (by decide) clL_20 (fun w => ?_)
        refine X_astore_4 20 dL_areAlike_20 rfl ?_
        refine X_ic 22 1 dL_areAlike_22 (by decide) ?_
        exact X_iret 23 dL_areAlike_23 rfl rfl ⟨t, ht, rfl⟩
      · refine XT_catch rfl [⟨0, 17, 20, 20⟩] ⟨0, 17, 24, 13⟩ [⟨0, 17, 28, 15⟩] rfl (fun z hz => by
          simp only [List.mem_cons, List.not_mem_nil, or_false] at hz
          rcases hz with rfl
          · exact Or.inr ⟨by decide, 0, clL_20, by decide⟩) rfl (by decide) clL_13 (fun w => ?_)
        refine X_astore_4 24 dL_areAlike_24 rfl ?_
        refine X_ic 26 2 dL_areAlike_26 (by decide) ?_
        exact X_iret 27 dL_areAlike_27 rfl rfl ⟨t, ht, rfl⟩
      · refine XT_catch rfl [⟨0, 17, 20, 20⟩, ⟨0, 17, 24, 13⟩] ⟨0, 17, 28, 15⟩ [] rfl (fun z hz => by
          simp only [List.mem_cons, List.not_mem_nil, or_false] at hz
          rcases hz with rfl | rfl
          · exact Or.inr ⟨by decide, 0, clL_20, by decide⟩
          · exact Or.inr ⟨by decide, 1, clL_13, by decide⟩) rfl (by decide) clL_15 (fun w => ?_)
        refine X_astore_4 28 dL_areAlike_28 rfl ?_
        refine X_ic 30 3 dL_areAlike_30 (by decide) ?_
        exact X_iret 31 dL_areAlike_31 rfl rfl ⟨t, ht, rfl⟩
  · cases r with
    | inr c =>
      obtain ⟨t, ht, q⟩ := q
      cases q
    | inl v' =>
      cases q
      refine X_ifeq 8 15 dL_areAlike_8 (by decide) (fun z => ?_) (fun z => ?_)
      · refine X_lconst 15 0 dL_areAlike_15 ?_
        refine X_last 16 hO.1 (xin_vp ⟨by decide, by rw [hO.2]; decide⟩) dL_areAlike_16 ?_
        refine X_goto 17 32 dL_areAlike_17 (by decide) ?_
        refine X_ic 32 0 dL_areAlike_32 (by decide) ?_
        exact X_iret 33 dL_areAlike_33 rfl rfl (by rw [z]; rfl)
      · have z1 : v' = 1 := (hb v' rfl).resolve_left z
        refine X_lconst 11 1 dL_areAlike_11 ?_
        refine X_goto 12 16 dL_areAlike_12 (by decide) ?_
        refine X_last 16 hO.1 (xin_vp ⟨by decide, by rw [hO.2]; decide⟩) dL_areAlike_16 ?_
        refine X_goto 17 32 dL_areAlike_17 (by decide) ?_
        refine X_ic 32 0 dL_areAlike_32 (by decide) ?_
        exact X_iret 33 dL_areAlike_33 rfl rfl (by rw [z1]; rfl)
theorem CL_kinds (E : XG) (X O : Nat) (h : XH) {r : Int32 ⊕ Nat} {h1 : XH} (e : FX8_kinds E X  h = some (r, h1)) (hX : xk h X = 9) (hO : xk h1 O = 13 ∧ xn h1 O = 1) (hc : ∀ c, r = .inr c → c < 3 ∧ ¬ cmT [0] c = 0) : XC E mL_kinds (0 + ek r) (0 + es r) [.ref X, .ref O] h (LQ [0] O r h1) := by
  refine X_enterH (L := [some (.ref X), some (.ref O), none]) (by decide +kernel) rfl okL_kinds.1 rfl rfl ?_
  refine X_aload_1 0 dL_kinds_0 ?_
  refine X_ic 1 0 dL_kinds_1 (by decide) ?_
  refine X_aload_0 2 dL_kinds_2 ?_
  refine X_callV (k := 0) (u := 0) (k' := 0 + ek r) (u' := 0 + es r) (ci := 8) 3 (As := []) calX8_kinds imX8_kinds seX8_kinds mkL_104 rfl rfl rfl rfl rfl hX (by decide) rfl rfl dL_kinds_3 (CX8_kinds E X  h r h1 e) (fun ec h2 q => ?_) (fun v h2 q => ?_)
  · cases r with
    | inl v => cases q
    | inr c =>
      obtain ⟨t, ht, q⟩ := q
      cases q
      obtain ⟨c3, c0⟩ := hc ec rfl
      have c4 : ec = 0 ∨ ec = 1 ∨ ec = 2 := by omega
      rcases c4 with rfl | rfl | rfl
      · refine XT_catch rfl [] ⟨0, 8, 11, 20⟩ [] rfl (fun z hz => by cases hz) rfl (by decide) clL_20 (fun w => ?_)
        refine X_astore_2 11 dL_kinds_11 rfl ?_
        refine X_ic 12 1 dL_kinds_12 (by decide) ?_
        exact X_iret 13 dL_kinds_13 rfl rfl ⟨t, ht, rfl⟩
      · exact absurd (by decide) c0
      · exact absurd (by decide) c0
  · cases r with
    | inr c =>
      obtain ⟨t, ht, q⟩ := q
      cases q
    | inl v' =>
      cases q
      refine X_i2l 6 dL_kinds_6 ?_
      refine X_last 7 hO.1 (xin_vp ⟨by decide, by rw [hO.2]; decide⟩) dL_kinds_7 ?_
      refine X_goto 8 14 dL_kinds_8 (by decide) ?_
      refine X_ic 14 0 dL_kinds_14 (by decide) ?_
      exact X_iret 15 dL_kinds_15 rfl rfl rfl
theorem CL_firstAlike (E : XG) (X O : Nat) (p1 : Int32) (h : XH) {r : Int32 ⊕ Nat} {h1 : XH} (e : FX8_firstAlike E X p1 h = some (r, h1)) (hX : xk h X = 9) (hO : xk h1 O = 13 ∧ xn h1 O = 1) (hc : ∀ c, r = .inr c → c < 3 ∧ ¬ cmT [0, 1, 2] c = 0) : XC E mL_firstAlike (0 + ek r) (0 + es r) [.ref X, .int p1, .ref O] h (LQ [0, 1, 2] O r h1) := by
  refine X_enterH (L := [some (.ref X), some (.int p1), some (.ref O), none]) (by decide +kernel) rfl okL_firstAlike.1 rfl rfl ?_
  refine X_aload_2 0 dL_firstAlike_0 ?_
  refine X_ic 1 0 dL_firstAlike_1 (by decide) ?_
  refine X_aload_0 2 dL_firstAlike_2 ?_
  refine X_iload_1 3 dL_firstAlike_3 ?_
  refine X_callV (k := 0) (u := 0) (k' := 0 + ek r) (u' := 0 + es r) (ci := 8) 4 (As := [.int p1]) calX8_firstAlike imX8_firstAlike seX8_firstAlike mkL_107 rfl rfl rfl rfl rfl hX (by decide) rfl rfl dL_firstAlike_4 (CX8_firstAlike E X p1 h r h1 e) (fun ec h2 q => ?_) (fun v h2 q => ?_)
  · cases r with
    | inl v => cases q
    | inr c =>
      obtain ⟨t, ht, q⟩ := q
      cases q
      obtain ⟨c3, c0⟩ := hc ec rfl
      have c4 : ec = 0 ∨ ec = 1 ∨ ec = 2 := by omega
      rcases c4 with rfl | rfl | rfl
      · refine XT_catch rfl [] ⟨0, 9, 12, 20⟩ [⟨0, 9, 15, 13⟩, ⟨0, 9, 18, 15⟩] rfl (fun z hz => by cases hz) rfl (by decide) clL_20 (fun w => ?_)
        refine X_astore_3 12 dL_firstAlike_12 rfl ?_
        refine X_ic 13 1 dL_firstAlike_13 (by decide) ?_
        exact X_iret 14 dL_firstAlike_14 rfl rfl ⟨t, ht, rfl⟩
      · refine XT_catch rfl [⟨0, 9, 12, 20⟩] ⟨0, 9, 15, 13⟩ [⟨0, 9, 18, 15⟩] rfl (fun z hz => by
          simp only [List.mem_cons, List.not_mem_nil, or_false] at hz
          rcases hz with rfl
          · exact Or.inr ⟨by decide, 0, clL_20, by decide⟩) rfl (by decide) clL_13 (fun w => ?_)
        refine X_astore_3 15 dL_firstAlike_15 rfl ?_
        refine X_ic 16 2 dL_firstAlike_16 (by decide) ?_
        exact X_iret 17 dL_firstAlike_17 rfl rfl ⟨t, ht, rfl⟩
      · refine XT_catch rfl [⟨0, 9, 12, 20⟩, ⟨0, 9, 15, 13⟩] ⟨0, 9, 18, 15⟩ [] rfl (fun z hz => by
          simp only [List.mem_cons, List.not_mem_nil, or_false] at hz
          rcases hz with rfl | rfl
          · exact Or.inr ⟨by decide, 0, clL_20, by decide⟩
          · exact Or.inr ⟨by decide, 1, clL_13, by decide⟩) rfl (by decide) clL_15 (fun w => ?_)
        refine X_astore_3 18 dL_firstAlike_18 rfl ?_
        refine X_ic 19 3 dL_firstAlike_19 (by decide) ?_
        exact X_iret 20 dL_firstAlike_20 rfl rfl ⟨t, ht, rfl⟩
  · cases r with
    | inr c =>
      obtain ⟨t, ht, q⟩ := q
      cases q
    | inl v' =>
      cases q
      refine X_i2l 7 dL_firstAlike_7 ?_
      refine X_last 8 hO.1 (xin_vp ⟨by decide, by rw [hO.2]; decide⟩) dL_firstAlike_8 ?_
      refine X_goto 9 21 dL_firstAlike_9 (by decide) ?_
      refine X_ic 21 0 dL_firstAlike_21 (by decide) ?_
      exact X_iret 22 dL_firstAlike_22 rfl rfl rfl
theorem CL_largeTimes (E : XG) (X O : Nat) (p1 p2 p3 : Int32) (h : XH) {r : Int32 ⊕ Nat} {h1 : XH} (e : FX8_largeTimes E X p1 p2 p3 h = some (r, h1)) (hX : xk h X = 9) (hO : xk h1 O = 13 ∧ xn h1 O = 1) (hc : ∀ c, r = .inr c → c < 3 ∧ ¬ cmT [0, 1, 2] c = 0) : XC E mL_largeTimes (0 + ek r) (0 + es r) [.ref X, .int p1, .int p2, .int p3, .ref O] h (LQ [0, 1, 2] O r h1) := by
  refine X_enterH (L := [some (.ref X), some (.int p1), some (.int p2), some (.int p3), some (.ref O), none]) (by decide +kernel) rfl okL_largeTimes.1 rfl rfl ?_
  refine X_aload_4 0 dL_largeTimes_0 ?_
  refine X_ic 2 0 dL_largeTimes_2 (by decide) ?_
  refine X_aload_0 3 dL_largeTimes_3 ?_
  refine X_iload_1 4 dL_largeTimes_4 ?_
  refine X_iload_2 5 dL_largeTimes_5 ?_
  refine X_iload_3 6 dL_largeTimes_6 ?_
  refine X_callV (k := 0) (u := 0) (k' := 0 + ek r) (u' := 0 + es r) (ci := 8) 7 (As := [.int p1, .int p2, .int p3]) calX8_largeTimes imX8_largeTimes seX8_largeTimes mkL_110 rfl rfl rfl rfl rfl hX (by decide) rfl rfl dL_largeTimes_7 (CX8_largeTimes E X p1 p2 p3 h r h1 e) (fun ec h2 q => ?_) (fun v h2 q => ?_)
  · cases r with
    | inl v => cases q
    | inr c =>
      obtain ⟨t, ht, q⟩ := q
      cases q
      obtain ⟨c3, c0⟩ := hc ec rfl
      have c4 : ec = 0 ∨ ec = 1 ∨ ec = 2 := by omega
      rcases c4 with rfl | rfl | rfl
      · refine XT_catch rfl [] ⟨0, 12, 15, 20⟩ [⟨0, 12, 19, 13⟩, ⟨0, 12, 23, 15⟩] rfl (fun z hz => by cases hz) rfl (by decide) clL_20 (fun w => ?_)
        refine X_astore_5 15 dL_largeTimes_15 rfl ?_
        refine X_ic 17 1 dL_largeTimes_17 (by decide) ?_
        exact X_iret 18 dL_largeTimes_18 rfl rfl ⟨t, ht, rfl⟩
      · refine XT_catch rfl [⟨0, 12, 15, 20⟩] ⟨0, 12, 19, 13⟩ [⟨0, 12, 23, 15⟩] rfl (fun z hz => by
          simp only [List.mem_cons, List.not_mem_nil, or_false] at hz
          rcases hz with rfl
          · exact Or.inr ⟨by decide, 0, clL_20, by decide⟩) rfl (by decide) clL_13 (fun w => ?_)
        refine X_astore_5 19 dL_largeTimes_19 rfl ?_
        refine X_ic 21 2 dL_largeTimes_21 (by decide) ?_
        exact X_iret 22 dL_largeTimes_22 rfl rfl ⟨t, ht, rfl⟩
      · refine XT_catch rfl [⟨0, 12, 15, 20⟩, ⟨0, 12, 19, 13⟩] ⟨0, 12, 23, 15⟩ [] rfl (fun z hz => by
          simp only [List.mem_cons, List.not_mem_nil, or_false] at hz
          rcases hz with rfl | rfl
          · exact Or.inr ⟨by decide, 0, clL_20, by decide⟩
          · exact Or.inr ⟨by decide, 1, clL_13, by decide⟩) rfl (by decide) clL_15 (fun w => ?_)
        refine X_astore_5 23 dL_largeTimes_23 rfl ?_
        refine X_ic 25 3 dL_largeTimes_25 (by decide) ?_
        exact X_iret 26 dL_largeTimes_26 rfl rfl ⟨t, ht, rfl⟩
  · cases r with
    | inr c =>
      obtain ⟨t, ht, q⟩ := q
      cases q
    | inl v' =>
      cases q
      refine X_i2l 10 dL_largeTimes_10 ?_
      refine X_last 11 hO.1 (xin_vp ⟨by decide, by rw [hO.2]; decide⟩) dL_largeTimes_11 ?_
      refine X_goto 12 27 dL_largeTimes_12 (by decide) ?_
      refine X_ic 27 0 dL_largeTimes_27 (by decide) ?_
      exact X_iret 28 dL_largeTimes_28 rfl rfl rfl
theorem CL_target (E : XG) (X O : Nat) (p1 p2 : Int32) (h : XH) {r : Int32 ⊕ Nat} {h1 : XH} (e : FX8_target E X p1 p2 h = some (r, h1)) (hX : xk h X = 9) (hO : xk h1 O = 13 ∧ xn h1 O = 1) (hc : ∀ c, r = .inr c → c < 3 ∧ ¬ cmT [0, 1, 2] c = 0) : XC E mL_target (0 + ek r) (0 + es r) [.ref X, .int p1, .int p2, .ref O] h (LQ [0, 1, 2] O r h1) := by
  refine X_enterH (L := [some (.ref X), some (.int p1), some (.int p2), some (.ref O), none]) (by decide +kernel) rfl okL_target.1 rfl rfl ?_
  refine X_aload_3 0 dL_target_0 ?_
  refine X_ic 1 0 dL_target_1 (by decide) ?_
  refine X_aload_0 2 dL_target_2 ?_
  refine X_iload_1 3 dL_target_3 ?_
  refine X_iload_2 4 dL_target_4 ?_
  refine X_callV (k := 0) (u := 0) (k' := 0 + ek r) (u' := 0 + es r) (ci := 8) 5 (As := [.int p1, .int p2]) calX8_target imX8_target seX8_target mkL_113 rfl rfl rfl rfl rfl hX (by decide) rfl rfl dL_target_5 (CX8_target E X p1 p2 h r h1 e) (fun ec h2 q => ?_) (fun v h2 q => ?_)
  · cases r with
    | inl v => cases q
    | inr c =>
      obtain ⟨t, ht, q⟩ := q
      cases q
      obtain ⟨c3, c0⟩ := hc ec rfl
      have c4 : ec = 0 ∨ ec = 1 ∨ ec = 2 := by omega
      rcases c4 with rfl | rfl | rfl
      · refine XT_catch rfl [] ⟨0, 10, 13, 20⟩ [⟨0, 10, 17, 13⟩, ⟨0, 10, 21, 15⟩] rfl (fun z hz => by cases hz) rfl (by decide) clL_20 (fun w => ?_)
        refine X_astore_4 13 dL_target_13 rfl ?_
        refine X_ic 15 1 dL_target_15 (by decide) ?_
        exact X_iret 16 dL_target_16 rfl rfl ⟨t, ht, rfl⟩
      · refine XT_catch rfl [⟨0, 10, 13, 20⟩] ⟨0, 10, 17, 13⟩ [⟨0, 10, 21, 15⟩] rfl (fun z hz => by
          simp only [List.mem_cons, List.not_mem_nil, or_false] at hz
          rcases hz with rfl
          · exact Or.inr ⟨by decide, 0, clL_20, by decide⟩) rfl (by decide) clL_13 (fun w => ?_)
        refine X_astore_4 17 dL_target_17 rfl ?_
        refine X_ic 19 2 dL_target_19 (by decide) ?_
        exact X_iret 20 dL_target_20 rfl rfl ⟨t, ht, rfl⟩
      · refine XT_catch rfl [⟨0, 10, 13, 20⟩, ⟨0, 10, 17, 13⟩] ⟨0, 10, 21, 15⟩ [] rfl (fun z hz => by
          simp only [List.mem_cons, List.not_mem_nil, or_false] at hz
          rcases hz with rfl | rfl
          · exact Or.inr ⟨by decide, 0, clL_20, by decide⟩
          · exact Or.inr ⟨by decide, 1, clL_13, by decide⟩) rfl (by decide) clL_15 (fun w => ?_)
        refine X_astore_4 21 dL_target_21 rfl ?_
        refine X_ic 23 3 dL_target_23 (by decide) ?_
        exact X_iret 24 dL_target_24 rfl rfl ⟨t, ht, rfl⟩
  · cases r with
    | inr c =>
      obtain ⟨t, ht, q⟩ := q
      cases q
    | inl v' =>
      cases q
      refine X_i2l 8 dL_target_8 ?_
      refine X_last 9 hO.1 (xin_vp ⟨by decide, by rw [hO.2]; decide⟩) dL_target_9 ?_
      refine X_goto 10 25 dL_target_10 (by decide) ?_
      refine X_ic 25 0 dL_target_25 (by decide) ?_
      exact X_iret 26 dL_target_26 rfl rfl rfl
theorem CL_largeOrder (E : XG) (X O : Nat) (p1 p2 : Int32) (h : XH) {r : Int32 ⊕ Nat} {h1 : XH} (e : FX8_largeOrder E X p1 p2 h = some (r, h1)) (hX : xk h X = 9) (hO : xk h1 O = 13 ∧ xn h1 O = 1) (hc : ∀ c, r = .inr c → c < 3 ∧ ¬ cmT [0, 1, 2] c = 0) : XC E mL_largeOrder (0 + ek r) (0 + es r) [.ref X, .int p1, .int p2, .ref O] h (LQ [0, 1, 2] O r h1) := by
  refine X_enterH (L := [some (.ref X), some (.int p1), some (.int p2), some (.ref O), none]) (by decide +kernel) rfl okL_largeOrder.1 rfl rfl ?_
  refine X_aload_3 0 dL_largeOrder_0 ?_
  refine X_ic 1 0 dL_largeOrder_1 (by decide) ?_
  refine X_aload_0 2 dL_largeOrder_2 ?_
  refine X_iload_1 3 dL_largeOrder_3 ?_
  refine X_iload_2 4 dL_largeOrder_4 ?_
  refine X_callV (k := 0) (u := 0) (k' := 0 + ek r) (u' := 0 + es r) (ci := 8) 5 (As := [.int p1, .int p2]) calX8_largeOrder imX8_largeOrder seX8_largeOrder mkL_116 rfl rfl rfl rfl rfl hX (by decide) rfl rfl dL_largeOrder_5 (CX8_largeOrder E X p1 p2 h r h1 e) (fun ec h2 q => ?_) (fun v h2 q => ?_)
  · cases r with
    | inl v => cases q
    | inr c =>
      obtain ⟨t, ht, q⟩ := q
      cases q
      obtain ⟨c3, c0⟩ := hc ec rfl
      have c4 : ec = 0 ∨ ec = 1 ∨ ec = 2 := by omega
      rcases c4 with rfl | rfl | rfl
      · refine XT_catch rfl [] ⟨0, 10, 13, 20⟩ [⟨0, 10, 17, 13⟩, ⟨0, 10, 21, 15⟩] rfl (fun z hz => by cases hz) rfl (by decide) clL_20 (fun w => ?_)
        refine X_astore_4 13 dL_largeOrder_13 rfl ?_
        refine X_ic 15 1 dL_largeOrder_15 (by decide) ?_
        exact X_iret 16 dL_largeOrder_16 rfl rfl ⟨t, ht, rfl⟩
      · refine XT_catch rfl [⟨0, 10, 13, 20⟩] ⟨0, 10, 17, 13⟩ [⟨0, 10, 21, 15⟩] rfl (fun z hz => by
          simp only [List.mem_cons, List.not_mem_nil, or_false] at hz
          rcases hz with rfl
          · exact Or.inr ⟨by decide, 0, clL_20, by decide⟩) rfl (by decide) clL_13 (fun w => ?_)
        refine X_astore_4 17 dL_largeOrder_17 rfl ?_
        refine X_ic 19 2 dL_largeOrder_19 (by decide) ?_
        exact X_iret 20 dL_largeOrder_20 rfl rfl ⟨t, ht, rfl⟩
      · refine XT_catch rfl [⟨0, 10, 13, 20⟩, ⟨0, 10, 17, 13⟩] ⟨0, 10, 21, 15⟩ [] rfl (fun z hz => by
          simp only [List.mem_cons, List.not_mem_nil, or_false] at hz
          rcases hz with rfl | rfl
          · exact Or.inr ⟨by decide, 0, clL_20, by decide⟩
          · exact Or.inr ⟨by decide, 1, clL_13, by decide⟩) rfl (by decide) clL_15 (fun w => ?_)
        refine X_astore_4 21 dL_largeOrder_21 rfl ?_
        refine X_ic 23 3 dL_largeOrder_23 (by decide) ?_
        exact X_iret 24 dL_largeOrder_24 rfl rfl ⟨t, ht, rfl⟩
  · cases r with
    | inr c =>
      obtain ⟨t, ht, q⟩ := q
      cases q
    | inl v' =>
      cases q
      refine X_i2l 8 dL_largeOrder_8 ?_
      refine X_last 9 hO.1 (xin_vp ⟨by decide, by rw [hO.2]; decide⟩) dL_largeOrder_9 ?_
      refine X_goto 10 25 dL_largeOrder_10 (by decide) ?_
      refine X_ic 25 0 dL_largeOrder_25 (by decide) ?_
      exact X_iret 26 dL_largeOrder_26 rfl rfl rfl
theorem CL_between (E : XG) (X O : Nat) (p1 p2 p3 : Int32) (h : XH) {r : Int32 ⊕ Nat} {h1 : XH} (e : FX8_between E X p1 p2 p3 h = some (r, h1)) (hX : xk h X = 9) (hO : xk h1 O = 13 ∧ xn h1 O = 1) (hc : ∀ c, r = .inr c → c < 3 ∧ ¬ cmT [0, 1, 2] c = 0) : XC E mL_between (0 + ek r) (0 + es r) [.ref X, .int p1, .int p2, .int p3, .ref O] h (LQ [0, 1, 2] O r h1) := by
  refine X_enterH (L := [some (.ref X), some (.int p1), some (.int p2), some (.int p3), some (.ref O), none]) (by decide +kernel) rfl okL_between.1 rfl rfl ?_
  refine X_aload_4 0 dL_between_0 ?_
  refine X_ic 2 0 dL_between_2 (by decide) ?_
  refine X_aload_0 3 dL_between_3 ?_
  refine X_iload_1 4 dL_between_4 ?_
  refine X_iload_2 5 dL_between_5 ?_
  refine X_iload_3 6 dL_between_6 ?_
  refine X_callV (k := 0) (u := 0) (k' := 0 + ek r) (u' := 0 + es r) (ci := 8) 7 (As := [.int p1, .int p2, .int p3]) calX8_between imX8_between seX8_between mkL_119 rfl rfl rfl rfl rfl hX (by decide) rfl rfl dL_between_7 (CX8_between E X p1 p2 p3 h r h1 e) (fun ec h2 q => ?_) (fun v h2 q => ?_)
  · cases r with
    | inl v => cases q
    | inr c =>
      obtain ⟨t, ht, q⟩ := q
      cases q
      obtain ⟨c3, c0⟩ := hc ec rfl
      have c4 : ec = 0 ∨ ec = 1 ∨ ec = 2 := by omega
      rcases c4 with rfl | rfl | rfl
      · refine XT_catch rfl [] ⟨0, 12, 15, 20⟩ [⟨0, 12, 19, 13⟩, ⟨0, 12, 23, 15⟩] rfl (fun z hz => by cases hz) rfl (by decide) clL_20 (fun w => ?_)
        refine X_astore_5 15 dL_between_15 rfl ?_
        refine X_ic 17 1 dL_between_17 (by decide) ?_
        exact X_iret 18 dL_between_18 rfl rfl ⟨t, ht, rfl⟩
      · refine XT_catch rfl [⟨0, 12, 15, 20⟩] ⟨0, 12, 19, 13⟩ [⟨0, 12, 23, 15⟩] rfl (fun z hz => by
          simp only [List.mem_cons, List.not_mem_nil, or_false] at hz
          rcases hz with rfl
          · exact Or.inr ⟨by decide, 0, clL_20, by decide⟩) rfl (by decide) clL_13 (fun w => ?_)
        refine X_astore_5 19 dL_between_19 rfl ?_
        refine X_ic 21 2 dL_between_21 (by decide) ?_
        exact X_iret 22 dL_between_22 rfl rfl ⟨t, ht, rfl⟩
      · refine XT_catch rfl [⟨0, 12, 15, 20⟩, ⟨0, 12, 19, 13⟩] ⟨0, 12, 23, 15⟩ [] rfl (fun z hz => by
          simp only [List.mem_cons, List.not_mem_nil, or_false] at hz
          rcases hz with rfl | rfl
          · exact Or.inr ⟨by decide, 0, clL_20, by decide⟩
          · exact Or.inr ⟨by decide, 1, clL_13, by decide⟩) rfl (by decide) clL_15 (fun w => ?_)
        refine X_astore_5 23 dL_between_23 rfl ?_
        refine X_ic 25 3 dL_between_25 (by decide) ?_
        exact X_iret 26 dL_between_26 rfl rfl ⟨t, ht, rfl⟩
  · cases r with
    | inr c =>
      obtain ⟨t, ht, q⟩ := q
      cases q
    | inl v' =>
      cases q
      refine X_i2l 10 dL_between_10 ?_
      refine X_last 11 hO.1 (xin_vp ⟨by decide, by rw [hO.2]; decide⟩) dL_between_11 ?_
      refine X_goto 12 27 dL_between_12 (by decide) ?_
      refine X_ic 27 0 dL_between_27 (by decide) ?_
      exact X_iret 28 dL_between_28 rfl rfl rfl
theorem CL_end (E : XG) (X O : Nat) (p1 p2 : Int32) (h : XH) {r : Int32 ⊕ Nat} {h1 : XH} (e : FX8_end E X p1 p2 h = some (r, h1)) (hX : xk h X = 9) (hO : xk h1 O = 13 ∧ xn h1 O = 1) (hc : ∀ c, r = .inr c → c < 3 ∧ ¬ cmT [0, 1] c = 0) : XC E mL_end (0 + ek r) (0 + es r) [.ref X, .int p1, .int p2, .ref O] h (LQ [0, 1] O r h1) := by
  refine X_enterH (L := [some (.ref X), some (.int p1), some (.int p2), some (.ref O), none]) (by decide +kernel) rfl okL_end.1 rfl rfl ?_
  refine X_aload_3 0 dL_end_0 ?_
  refine X_ic 1 0 dL_end_1 (by decide) ?_
  refine X_aload_0 2 dL_end_2 ?_
  refine X_iload_1 3 dL_end_3 ?_
  refine X_iload_2 4 dL_end_4 ?_
  refine X_callV (k := 0) (u := 0) (k' := 0 + ek r) (u' := 0 + es r) (ci := 8) 5 (As := [.int p1, .int p2]) calX8_end imX8_end seX8_end mkL_122 rfl rfl rfl rfl rfl hX (by decide) rfl rfl dL_end_5 (CX8_end E X p1 p2 h r h1 e) (fun ec h2 q => ?_) (fun v h2 q => ?_)
  · cases r with
    | inl v => cases q
    | inr c =>
      obtain ⟨t, ht, q⟩ := q
      cases q
      obtain ⟨c3, c0⟩ := hc ec rfl
      have c4 : ec = 0 ∨ ec = 1 ∨ ec = 2 := by omega
      rcases c4 with rfl | rfl | rfl
      · refine XT_catch rfl [] ⟨0, 10, 13, 20⟩ [⟨0, 10, 17, 13⟩] rfl (fun z hz => by cases hz) rfl (by decide) clL_20 (fun w => ?_)
        refine X_astore_4 13 dL_end_13 rfl ?_
        refine X_ic 15 1 dL_end_15 (by decide) ?_
        exact X_iret 16 dL_end_16 rfl rfl ⟨t, ht, rfl⟩
      · refine XT_catch rfl [⟨0, 10, 13, 20⟩] ⟨0, 10, 17, 13⟩ [] rfl (fun z hz => by
          simp only [List.mem_cons, List.not_mem_nil, or_false] at hz
          rcases hz with rfl
          · exact Or.inr ⟨by decide, 0, clL_20, by decide⟩) rfl (by decide) clL_13 (fun w => ?_)
        refine X_astore_4 17 dL_end_17 rfl ?_
        refine X_ic 19 2 dL_end_19 (by decide) ?_
        exact X_iret 20 dL_end_20 rfl rfl ⟨t, ht, rfl⟩
      · exact absurd (by decide) c0
  · cases r with
    | inr c =>
      obtain ⟨t, ht, q⟩ := q
      cases q
    | inl v' =>
      cases q
      refine X_i2l 8 dL_end_8 ?_
      refine X_last 9 hO.1 (xin_vp ⟨by decide, by rw [hO.2]; decide⟩) dL_end_9 ?_
      refine X_goto 10 21 dL_end_10 (by decide) ?_
      refine X_ic 21 0 dL_end_21 (by decide) ?_
      exact X_iret 22 dL_end_22 rfl rfl rfl
theorem CL_top (E : XG) (X O : Nat) (p1 p2 : Int32) (h : XH) {r : Int32 ⊕ Nat} {h1 : XH} (e : FX8_top E X p1 p2 h = some (r, h1)) (hX : xk h X = 9) (hO : xk h1 O = 13 ∧ xn h1 O = 1) (hc : ∀ c, r = .inr c → c < 3 ∧ ¬ cmT [0, 1] c = 0) : XC E mL_top (0 + ek r) (0 + es r) [.ref X, .int p1, .int p2, .ref O] h (LQ [0, 1] O r h1) := by
  refine X_enterH (L := [some (.ref X), some (.int p1), some (.int p2), some (.ref O), none]) (by decide +kernel) rfl okL_top.1 rfl rfl ?_
  refine X_aload_3 0 dL_top_0 ?_
  refine X_ic 1 0 dL_top_1 (by decide) ?_
  refine X_aload_0 2 dL_top_2 ?_
  refine X_iload_1 3 dL_top_3 ?_
  refine X_iload_2 4 dL_top_4 ?_
  refine X_callV (k := 0) (u := 0) (k' := 0 + ek r) (u' := 0 + es r) (ci := 8) 5 (As := [.int p1, .int p2]) calX8_top imX8_top seX8_top mkL_125 rfl rfl rfl rfl rfl hX (by decide) rfl rfl dL_top_5 (CX8_top E X p1 p2 h r h1 e) (fun ec h2 q => ?_) (fun v h2 q => ?_)
  · cases r with
    | inl v => cases q
    | inr c =>
      obtain ⟨t, ht, q⟩ := q
      cases q
      obtain ⟨c3, c0⟩ := hc ec rfl
      have c4 : ec = 0 ∨ ec = 1 ∨ ec = 2 := by omega
      rcases c4 with rfl | rfl | rfl
      · refine XT_catch rfl [] ⟨0, 10, 13, 20⟩ [⟨0, 10, 17, 13⟩] rfl (fun z hz => by cases hz) rfl (by decide) clL_20 (fun w => ?_)
        refine X_astore_4 13 dL_top_13 rfl ?_
        refine X_ic 15 1 dL_top_15 (by decide) ?_
        exact X_iret 16 dL_top_16 rfl rfl ⟨t, ht, rfl⟩
      · refine XT_catch rfl [⟨0, 10, 13, 20⟩] ⟨0, 10, 17, 13⟩ [] rfl (fun z hz => by
          simp only [List.mem_cons, List.not_mem_nil, or_false] at hz
          rcases hz with rfl
          · exact Or.inr ⟨by decide, 0, clL_20, by decide⟩) rfl (by decide) clL_13 (fun w => ?_)
        refine X_astore_4 17 dL_top_17 rfl ?_
        refine X_ic 19 2 dL_top_19 (by decide) ?_
        exact X_iret 20 dL_top_20 rfl rfl ⟨t, ht, rfl⟩
      · exact absurd (by decide) c0
  · cases r with
    | inr c =>
      obtain ⟨t, ht, q⟩ := q
      cases q
    | inl v' =>
      cases q
      refine X_i2l 8 dL_top_8 ?_
      refine X_last 9 hO.1 (xin_vp ⟨by decide, by rw [hO.2]; decide⟩) dL_top_9 ?_
      refine X_goto 10 21 dL_top_10 (by decide) ?_
      refine X_ic 21 0 dL_top_21 (by decide) ?_
      exact X_iret 22 dL_top_22 rfl rfl rfl
theorem CL_bottom (E : XG) (X O : Nat) (p1 p2 : Int32) (h : XH) {r : Int32 ⊕ Nat} {h1 : XH} (e : FX8_bottom E X p1 p2 h = some (r, h1)) (hX : xk h X = 9) (hO : xk h1 O = 13 ∧ xn h1 O = 1) (hc : ∀ c, r = .inr c → c < 3 ∧ ¬ cmT [0, 1] c = 0) : XC E mL_bottom (0 + ek r) (0 + es r) [.ref X, .int p1, .int p2, .ref O] h (LQ [0, 1] O r h1) := by
  refine X_enterH (L := [some (.ref X), some (.int p1), some (.int p2), some (.ref O), none]) (by decide +kernel) rfl okL_bottom.1 rfl rfl ?_
  refine X_aload_3 0 dL_bottom_0 ?_
  refine X_ic 1 0 dL_bottom_1 (by decide) ?_
  refine X_aload_0 2 dL_bottom_2 ?_
  refine X_iload_1 3 dL_bottom_3 ?_
  refine X_iload_2 4 dL_bottom_4 ?_
  refine X_callV (k := 0) (u := 0) (k' := 0 + ek r) (u' := 0 + es r) (ci := 8) 5 (As := [.int p1, .int p2]) calX8_bottom imX8_bottom seX8_bottom mkL_128 rfl rfl rfl rfl rfl hX (by decide) rfl rfl dL_bottom_5 (CX8_bottom E X p1 p2 h r h1 e) (fun ec h2 q => ?_) (fun v h2 q => ?_)
  · cases r with
    | inl v => cases q
    | inr c =>
      obtain ⟨t, ht, q⟩ := q
      cases q
      obtain ⟨c3, c0⟩ := hc ec rfl
      have c4 : ec = 0 ∨ ec = 1 ∨ ec = 2 := by omega
      rcases c4 with rfl | rfl | rfl
      · refine XT_catch rfl [] ⟨0, 10, 13, 20⟩ [⟨0, 10, 17, 13⟩] rfl (fun z hz => by cases hz) rfl (by decide) clL_20 (fun w => ?_)
        refine X_astore_4 13 dL_bottom_13 rfl ?_
        refine X_ic 15 1 dL_bottom_15 (by decide) ?_
        exact X_iret 16 dL_bottom_16 rfl rfl ⟨t, ht, rfl⟩
      · refine XT_catch rfl [⟨0, 10, 13, 20⟩] ⟨0, 10, 17, 13⟩ [] rfl (fun z hz => by
          simp only [List.mem_cons, List.not_mem_nil, or_false] at hz
          rcases hz with rfl
          · exact Or.inr ⟨by decide, 0, clL_20, by decide⟩) rfl (by decide) clL_13 (fun w => ?_)
        refine X_astore_4 17 dL_bottom_17 rfl ?_
        refine X_ic 19 2 dL_bottom_19 (by decide) ?_
        exact X_iret 20 dL_bottom_20 rfl rfl ⟨t, ht, rfl⟩
      · exact absurd (by decide) c0
  · cases r with
    | inr c =>
      obtain ⟨t, ht, q⟩ := q
      cases q
    | inl v' =>
      cases q
      refine X_i2l 8 dL_bottom_8 ?_
      refine X_last 9 hO.1 (xin_vp ⟨by decide, by rw [hO.2]; decide⟩) dL_bottom_9 ?_
      refine X_goto 10 21 dL_bottom_10 (by decide) ?_
      refine X_ic 21 0 dL_bottom_21 (by decide) ?_
      exact X_iret 22 dL_bottom_22 rfl rfl rfl
theorem CL_arrowWhy (E : XG) (X O : Nat) (p1 : Int32) (h : XH) {r : Int32 ⊕ Nat} {h1 : XH} (e : FX8_arrowWhy E X p1 h = some (r, h1)) (hX : xk h X = 9) (hO : xk h1 O = 13 ∧ xn h1 O = 1) (hc : ∀ c, r = .inr c → c < 3 ∧ ¬ cmT [0, 1] c = 0) : XC E mL_arrowWhy (0 + ek r) (0 + es r) [.ref X, .int p1, .ref O] h (LQ [0, 1] O r h1) := by
  refine X_enterH (L := [some (.ref X), some (.int p1), some (.ref O), none]) (by decide +kernel) rfl okL_arrowWhy.1 rfl rfl ?_
  refine X_aload_2 0 dL_arrowWhy_0 ?_
  refine X_ic 1 0 dL_arrowWhy_1 (by decide) ?_
  refine X_aload_0 2 dL_arrowWhy_2 ?_
  refine X_iload_1 3 dL_arrowWhy_3 ?_
  refine X_callV (k := 0) (u := 0) (k' := 0 + ek r) (u' := 0 + es r) (ci := 8) 4 (As := [.int p1]) calX8_arrowWhy imX8_arrowWhy seX8_arrowWhy mkL_131 rfl rfl rfl rfl rfl hX (by decide) rfl rfl dL_arrowWhy_4 (CX8_arrowWhy E X p1 h r h1 e) (fun ec h2 q => ?_) (fun v h2 q => ?_)
  · cases r with
    | inl v => cases q
    | inr c =>
      obtain ⟨t, ht, q⟩ := q
      cases q
      obtain ⟨c3, c0⟩ := hc ec rfl
      have c4 : ec = 0 ∨ ec = 1 ∨ ec = 2 := by omega
      rcases c4 with rfl | rfl | rfl
      · refine XT_catch rfl [] ⟨0, 9, 12, 20⟩ [⟨0, 9, 15, 13⟩] rfl (fun z hz => by cases hz) rfl (by decide) clL_20 (fun w => ?_)
        refine X_astore_3 12 dL_arrowWhy_12 rfl ?_
        refine X_ic 13 1 dL_arrowWhy_13 (by decide) ?_
        exact X_iret 14 dL_arrowWhy_14 rfl rfl ⟨t, ht, rfl⟩
      · refine XT_catch rfl [⟨0, 9, 12, 20⟩] ⟨0, 9, 15, 13⟩ [] rfl (fun z hz => by
          simp only [List.mem_cons, List.not_mem_nil, or_false] at hz
          rcases hz with rfl
          · exact Or.inr ⟨by decide, 0, clL_20, by decide⟩) rfl (by decide) clL_13 (fun w => ?_)
        refine X_astore_3 15 dL_arrowWhy_15 rfl ?_
        refine X_ic 16 2 dL_arrowWhy_16 (by decide) ?_
        exact X_iret 17 dL_arrowWhy_17 rfl rfl ⟨t, ht, rfl⟩
      · exact absurd (by decide) c0
  · cases r with
    | inr c =>
      obtain ⟨t, ht, q⟩ := q
      cases q
    | inl v' =>
      cases q
      refine X_i2l 7 dL_arrowWhy_7 ?_
      refine X_last 8 hO.1 (xin_vp ⟨by decide, by rw [hO.2]; decide⟩) dL_arrowWhy_8 ?_
      refine X_goto 9 18 dL_arrowWhy_9 (by decide) ?_
      refine X_ic 18 0 dL_arrowWhy_18 (by decide) ?_
      exact X_iret 19 dL_arrowWhy_19 rfl rfl rfl
theorem CL_isEquivalence (E : XG) (X O : Nat) (p1 : Int32) (h : XH) {r : Int32 ⊕ Nat} {h1 : XH} (e : FX8_isEquivalence E X p1 h = some (r, h1)) (hX : xk h X = 9) (hO : xk h1 O = 13 ∧ xn h1 O = 1) (hc : ∀ c, r = .inr c → c < 3 ∧ ¬ cmT [0, 1] c = 0) (hb : ∀ v, r = .inl v → v = 0 ∨ v = 1) : XC E mL_isEquivalence (0 + ek r) (0 + es r) [.ref X, .int p1, .ref O] h (LQ [0, 1] O r h1) := by
  refine X_enterH (L := [some (.ref X), some (.int p1), some (.ref O), none]) (by decide +kernel) rfl okL_isEquivalence.1 rfl rfl ?_
  refine X_aload_2 0 dL_isEquivalence_0 ?_
  refine X_ic 1 0 dL_isEquivalence_1 (by decide) ?_
  refine X_aload_0 2 dL_isEquivalence_2 ?_
  refine X_iload_1 3 dL_isEquivalence_3 ?_
  refine X_callV (k := 0) (u := 0) (k' := 0 + ek r) (u' := 0 + es r) (ci := 8) 4 (As := [.int p1]) calX8_isEquivalence imX8_isEquivalence seX8_isEquivalence mkL_134 rfl rfl rfl rfl rfl hX (by decide) rfl rfl dL_isEquivalence_4 (CX8_isEquivalence E X p1 h r h1 e) (fun ec h2 q => ?_) (fun v h2 q => ?_)
  · cases r with
    | inl v => cases q
    | inr c =>
      obtain ⟨t, ht, q⟩ := q
      cases q
      obtain ⟨c3, c0⟩ := hc ec rfl
      have c4 : ec = 0 ∨ ec = 1 ∨ ec = 2 := by omega
      rcases c4 with rfl | rfl | rfl
      · refine XT_catch rfl [] ⟨0, 16, 19, 20⟩ [⟨0, 16, 22, 13⟩] rfl (fun z hz => by cases hz) rfl (by decide) clL_20 (fun w => ?_)
        refine X_astore_3 19 dL_isEquivalence_19 rfl ?_
        refine X_ic 20 1 dL_isEquivalence_20 (by decide) ?_
        exact X_iret 21 dL_isEquivalence_21 rfl rfl ⟨t, ht, rfl⟩
      · refine XT_catch rfl [⟨0, 16, 19, 20⟩] ⟨0, 16, 22, 13⟩ [] rfl (fun z hz => by
          simp only [List.mem_cons, List.not_mem_nil, or_false] at hz
          rcases hz with rfl
          · exact Or.inr ⟨by decide, 0, clL_20, by decide⟩) rfl (by decide) clL_13 (fun w => ?_)
        refine X_astore_3 22 dL_isEquivalence_22 rfl ?_
        refine X_ic 23 2 dL_isEquivalence_23 (by decide) ?_
        exact X_iret 24 dL_isEquivalence_24 rfl rfl ⟨t, ht, rfl⟩
      · exact absurd (by decide) c0
  · cases r with
    | inr c =>
      obtain ⟨t, ht, q⟩ := q
      cases q
    | inl v' =>
      cases q
      refine X_ifeq 7 14 dL_isEquivalence_7 (by decide) (fun z => ?_) (fun z => ?_)
      · refine X_lconst 14 0 dL_isEquivalence_14 ?_
        refine X_last 15 hO.1 (xin_vp ⟨by decide, by rw [hO.2]; decide⟩) dL_isEquivalence_15 ?_
        refine X_goto 16 25 dL_isEquivalence_16 (by decide) ?_
        refine X_ic 25 0 dL_isEquivalence_25 (by decide) ?_
        exact X_iret 26 dL_isEquivalence_26 rfl rfl (by rw [z]; rfl)
      · have z1 : v' = 1 := (hb v' rfl).resolve_left z
        refine X_lconst 10 1 dL_isEquivalence_10 ?_
        refine X_goto 11 15 dL_isEquivalence_11 (by decide) ?_
        refine X_last 15 hO.1 (xin_vp ⟨by decide, by rw [hO.2]; decide⟩) dL_isEquivalence_15 ?_
        refine X_goto 16 25 dL_isEquivalence_16 (by decide) ?_
        refine X_ic 25 0 dL_isEquivalence_25 (by decide) ?_
        exact X_iret 26 dL_isEquivalence_26 rfl rfl (by rw [z1]; rfl)
theorem CL_equivalences (E : XG) (X O : Nat) (h : XH) {r : Int32 ⊕ Nat} {h1 : XH} (e : FX8_equivalences E X  h = some (r, h1)) (hX : xk h X = 9) (hO : xk h1 O = 13 ∧ xn h1 O = 1) (hc : ∀ c, r = .inr c → c < 3 ∧ ¬ cmT [0] c = 0) : XC E mL_equivalences (0 + ek r) (0 + es r) [.ref X, .ref O] h (LQ [0] O r h1) := by
  refine X_enterH (L := [some (.ref X), some (.ref O), none]) (by decide +kernel) rfl okL_equivalences.1 rfl rfl ?_
  refine X_aload_1 0 dL_equivalences_0 ?_
  refine X_ic 1 0 dL_equivalences_1 (by decide) ?_
  refine X_aload_0 2 dL_equivalences_2 ?_
  refine X_callV (k := 0) (u := 0) (k' := 0 + ek r) (u' := 0 + es r) (ci := 8) 3 (As := []) calX8_equivalences imX8_equivalences seX8_equivalences mkL_137 rfl rfl rfl rfl rfl hX (by decide) rfl rfl dL_equivalences_3 (CX8_equivalences E X  h r h1 e) (fun ec h2 q => ?_) (fun v h2 q => ?_)
  · cases r with
    | inl v => cases q
    | inr c =>
      obtain ⟨t, ht, q⟩ := q
      cases q
      obtain ⟨c3, c0⟩ := hc ec rfl
      have c4 : ec = 0 ∨ ec = 1 ∨ ec = 2 := by omega
      rcases c4 with rfl | rfl | rfl
      · refine XT_catch rfl [] ⟨0, 8, 11, 20⟩ [] rfl (fun z hz => by cases hz) rfl (by decide) clL_20 (fun w => ?_)
        refine X_astore_2 11 dL_equivalences_11 rfl ?_
        refine X_ic 12 1 dL_equivalences_12 (by decide) ?_
        exact X_iret 13 dL_equivalences_13 rfl rfl ⟨t, ht, rfl⟩
      · exact absurd (by decide) c0
      · exact absurd (by decide) c0
  · cases r with
    | inr c =>
      obtain ⟨t, ht, q⟩ := q
      cases q
    | inl v' =>
      cases q
      refine X_i2l 6 dL_equivalences_6 ?_
      refine X_last 7 hO.1 (xin_vp ⟨by decide, by rw [hO.2]; decide⟩) dL_equivalences_7 ?_
      refine X_goto 8 14 dL_equivalences_8 (by decide) ?_
      refine X_ic 14 0 dL_equivalences_14 (by decide) ?_
      exact X_iret 15 dL_equivalences_15 rfl rfl rfl
theorem CL_ladder (E : XG) (X O : Nat) (p1 p2 : Int32) (h : XH) {r : Int32 ⊕ Nat} {h1 : XH} (e : FX8_ladder E X p1 p2 h = some (r, h1)) (hX : xk h X = 9) (hO : xk h1 O = 13 ∧ xn h1 O = 1) (hc : ∀ c, r = .inr c → c < 3 ∧ ¬ cmT [0, 1] c = 0) : XC E mL_ladder (0 + ek r) (0 + es r) [.ref X, .int p1, .int p2, .ref O] h (LQ [0, 1] O r h1) := by
  refine X_enterH (L := [some (.ref X), some (.int p1), some (.int p2), some (.ref O), none]) (by decide +kernel) rfl okL_ladder.1 rfl rfl ?_
  refine X_aload_3 0 dL_ladder_0 ?_
  refine X_ic 1 0 dL_ladder_1 (by decide) ?_
  refine X_aload_0 2 dL_ladder_2 ?_
  refine X_iload_1 3 dL_ladder_3 ?_
  refine X_iload_2 4 dL_ladder_4 ?_
  refine X_callV (k := 0) (u := 0) (k' := 0 + ek r) (u' := 0 + es r) (ci := 8) 5 (As := [.int p1, .int p2]) calX8_ladder imX8_ladder seX8_ladder mkL_140 rfl rfl rfl rfl rfl hX (by decide) rfl rfl dL_ladder_5 (CX8_ladder E X p1 p2 h r h1 e) (fun ec h2 q => ?_) (fun v h2 q => ?_)
  · cases r with
    | inl v => cases q
    | inr c =>
      obtain ⟨t, ht, q⟩ := q
      cases q
      obtain ⟨c3, c0⟩ := hc ec rfl
      have c4 : ec = 0 ∨ ec = 1 ∨ ec = 2 := by omega
      rcases c4 with rfl | rfl | rfl
      · refine XT_catch rfl [] ⟨0, 10, 13, 20⟩ [⟨0, 10, 17, 13⟩] rfl (fun z hz => by cases hz) rfl (by decide) clL_20 (fun w => ?_)
        refine X_astore_4 13 dL_ladder_13 rfl ?_
        refine X_ic 15 1 dL_ladder_15 (by decide) ?_
        exact X_iret 16 dL_ladder_16 rfl rfl ⟨t, ht, rfl⟩
      · refine XT_catch rfl [⟨0, 10, 13, 20⟩] ⟨0, 10, 17, 13⟩ [] rfl (fun z hz => by
          simp only [List.mem_cons, List.not_mem_nil, or_false] at hz
          rcases hz with rfl
          · exact Or.inr ⟨by decide, 0, clL_20, by decide⟩) rfl (by decide) clL_13 (fun w => ?_)
        refine X_astore_4 17 dL_ladder_17 rfl ?_
        refine X_ic 19 2 dL_ladder_19 (by decide) ?_
        exact X_iret 20 dL_ladder_20 rfl rfl ⟨t, ht, rfl⟩
      · exact absurd (by decide) c0
  · cases r with
    | inr c =>
      obtain ⟨t, ht, q⟩ := q
      cases q
    | inl v' =>
      cases q
      refine X_i2l 8 dL_ladder_8 ?_
      refine X_last 9 hO.1 (xin_vp ⟨by decide, by rw [hO.2]; decide⟩) dL_ladder_9 ?_
      refine X_goto 10 21 dL_ladder_10 (by decide) ?_
      refine X_ic 21 0 dL_ladder_21 (by decide) ?_
      exact X_iret 22 dL_ladder_22 rfl rfl rfl
theorem CL_joined (E : XG) (X O : Nat) (p1 : Int32) (h : XH) {r : Int32 ⊕ Nat} {h1 : XH} (e : FX8_joined E X p1 h = some (r, h1)) (hX : xk h X = 9) (hO : xk h1 O = 13 ∧ xn h1 O = 1) (hc : ∀ c, r = .inr c → c < 3 ∧ ¬ cmT [0, 1] c = 0) : XC E mL_joined (0 + ek r) (0 + es r) [.ref X, .int p1, .ref O] h (LQ [0, 1] O r h1) := by
  refine X_enterH (L := [some (.ref X), some (.int p1), some (.ref O), none]) (by decide +kernel) rfl okL_joined.1 rfl rfl ?_
  refine X_aload_2 0 dL_joined_0 ?_
  refine X_ic 1 0 dL_joined_1 (by decide) ?_
  refine X_aload_0 2 dL_joined_2 ?_
  refine X_iload_1 3 dL_joined_3 ?_
  refine X_callV (k := 0) (u := 0) (k' := 0 + ek r) (u' := 0 + es r) (ci := 8) 4 (As := [.int p1]) calX8_joined imX8_joined seX8_joined mkL_143 rfl rfl rfl rfl rfl hX (by decide) rfl rfl dL_joined_4 (CX8_joined E X p1 h r h1 e) (fun ec h2 q => ?_) (fun v h2 q => ?_)
  · cases r with
    | inl v => cases q
    | inr c =>
      obtain ⟨t, ht, q⟩ := q
      cases q
      obtain ⟨c3, c0⟩ := hc ec rfl
      have c4 : ec = 0 ∨ ec = 1 ∨ ec = 2 := by omega
      rcases c4 with rfl | rfl | rfl
      · refine XT_catch rfl [] ⟨0, 9, 12, 20⟩ [⟨0, 9, 15, 13⟩] rfl (fun z hz => by cases hz) rfl (by decide) clL_20 (fun w => ?_)
        refine X_astore_3 12 dL_joined_12 rfl ?_
        refine X_ic 13 1 dL_joined_13 (by decide) ?_
        exact X_iret 14 dL_joined_14 rfl rfl ⟨t, ht, rfl⟩
      · refine XT_catch rfl [⟨0, 9, 12, 20⟩] ⟨0, 9, 15, 13⟩ [] rfl (fun z hz => by
          simp only [List.mem_cons, List.not_mem_nil, or_false] at hz
          rcases hz with rfl
          · exact Or.inr ⟨by decide, 0, clL_20, by decide⟩) rfl (by decide) clL_13 (fun w => ?_)
        refine X_astore_3 15 dL_joined_15 rfl ?_
        refine X_ic 16 2 dL_joined_16 (by decide) ?_
        exact X_iret 17 dL_joined_17 rfl rfl ⟨t, ht, rfl⟩
      · exact absurd (by decide) c0
  · cases r with
    | inr c =>
      obtain ⟨t, ht, q⟩ := q
      cases q
    | inl v' =>
      cases q
      refine X_i2l 7 dL_joined_7 ?_
      refine X_last 8 hO.1 (xin_vp ⟨by decide, by rw [hO.2]; decide⟩) dL_joined_8 ?_
      refine X_goto 9 18 dL_joined_9 (by decide) ?_
      refine X_ic 18 0 dL_joined_18 (by decide) ?_
      exact X_iret 19 dL_joined_19 rfl rfl rfl
theorem CL_through (E : XG) (X O : Nat) (p1 p2 p3 : Int32) (h : XH) {r : Int32 ⊕ Nat} {h1 : XH} (e : FX8_through E X p1 p2 p3 h = some (r, h1)) (hX : xk h X = 9) (hO : xk h1 O = 13 ∧ xn h1 O = 1) (hc : ∀ c, r = .inr c → c < 3 ∧ ¬ cmT [0, 1, 2] c = 0) : XC E mL_through (0 + ek r) (0 + es r) [.ref X, .int p1, .int p2, .int p3, .ref O] h (LQ [0, 1, 2] O r h1) := by
  refine X_enterH (L := [some (.ref X), some (.int p1), some (.int p2), some (.int p3), some (.ref O), none]) (by decide +kernel) rfl okL_through.1 rfl rfl ?_
  refine X_aload_4 0 dL_through_0 ?_
  refine X_ic 2 0 dL_through_2 (by decide) ?_
  refine X_aload_0 3 dL_through_3 ?_
  refine X_iload_1 4 dL_through_4 ?_
  refine X_iload_2 5 dL_through_5 ?_
  refine X_iload_3 6 dL_through_6 ?_
  refine X_callV (k := 0) (u := 0) (k' := 0 + ek r) (u' := 0 + es r) (ci := 8) 7 (As := [.int p1, .int p2, .int p3]) calX8_through imX8_through seX8_through mkL_146 rfl rfl rfl rfl rfl hX (by decide) rfl rfl dL_through_7 (CX8_through E X p1 p2 p3 h r h1 e) (fun ec h2 q => ?_) (fun v h2 q => ?_)
  · cases r with
    | inl v => cases q
    | inr c =>
      obtain ⟨t, ht, q⟩ := q
      cases q
      obtain ⟨c3, c0⟩ := hc ec rfl
      have c4 : ec = 0 ∨ ec = 1 ∨ ec = 2 := by omega
      rcases c4 with rfl | rfl | rfl
      · refine XT_catch rfl [] ⟨0, 12, 15, 20⟩ [⟨0, 12, 19, 13⟩, ⟨0, 12, 23, 15⟩] rfl (fun z hz => by cases hz) rfl (by decide) clL_20 (fun w => ?_)
        refine X_astore_5 15 dL_through_15 rfl ?_
        refine X_ic 17 1 dL_through_17 (by decide) ?_
        exact X_iret 18 dL_through_18 rfl rfl ⟨t, ht, rfl⟩
      · refine XT_catch rfl [⟨0, 12, 15, 20⟩] ⟨0, 12, 19, 13⟩ [⟨0, 12, 23, 15⟩] rfl (fun z hz => by
          simp only [List.mem_cons, List.not_mem_nil, or_false] at hz
          rcases hz with rfl
          · exact Or.inr ⟨by decide, 0, clL_20, by decide⟩) rfl (by decide) clL_13 (fun w => ?_)
        refine X_astore_5 19 dL_through_19 rfl ?_
        refine X_ic 21 2 dL_through_21 (by decide) ?_
        exact X_iret 22 dL_through_22 rfl rfl ⟨t, ht, rfl⟩
      · refine XT_catch rfl [⟨0, 12, 15, 20⟩, ⟨0, 12, 19, 13⟩] ⟨0, 12, 23, 15⟩ [] rfl (fun z hz => by
          simp only [List.mem_cons, List.not_mem_nil, or_false] at hz
          rcases hz with rfl | rfl
          · exact Or.inr ⟨by decide, 0, clL_20, by decide⟩
          · exact Or.inr ⟨by decide, 1, clL_13, by decide⟩) rfl (by decide) clL_15 (fun w => ?_)
        refine X_astore_5 23 dL_through_23 rfl ?_
        refine X_ic 25 3 dL_through_25 (by decide) ?_
        exact X_iret 26 dL_through_26 rfl rfl ⟨t, ht, rfl⟩
  · cases r with
    | inr c =>
      obtain ⟨t, ht, q⟩ := q
      cases q
    | inl v' =>
      cases q
      refine X_i2l 10 dL_through_10 ?_
      refine X_last 11 hO.1 (xin_vp ⟨by decide, by rw [hO.2]; decide⟩) dL_through_11 ?_
      refine X_goto 12 27 dL_through_12 (by decide) ?_
      refine X_ic 27 0 dL_through_27 (by decide) ?_
      exact X_iret 28 dL_through_28 rfl rfl rfl
theorem CL_account (E : XG) (X O : Nat) (p1 : Int32) (h : XH) {r : Int32 ⊕ Nat} {h1 : XH} (e : FX8_account E X p1 h = some (r, h1)) (hX : xk h X = 9) (hO : xk h1 O = 13 ∧ xn h1 O = 1) (hc : ∀ c, r = .inr c → c < 3 ∧ ¬ cmT [0, 2] c = 0) : XC E mL_account (0 + ek r) (0 + es r) [.ref X, .int p1, .ref O] h (LQ [0, 2] O r h1) := by
  refine X_enterH (L := [some (.ref X), some (.int p1), some (.ref O), none]) (by decide +kernel) rfl okL_account.1 rfl rfl ?_
  refine X_aload_2 0 dL_account_0 ?_
  refine X_ic 1 0 dL_account_1 (by decide) ?_
  refine X_aload_0 2 dL_account_2 ?_
  refine X_iload_1 3 dL_account_3 ?_
  refine X_callV (k := 0) (u := 0) (k' := 0 + ek r) (u' := 0 + es r) (ci := 8) 4 (As := [.int p1]) calX8_account imX8_account seX8_account mkL_149 rfl rfl rfl rfl rfl hX (by decide) rfl rfl dL_account_4 (CX8_account E X p1 h r h1 e) (fun ec h2 q => ?_) (fun v h2 q => ?_)
  · cases r with
    | inl v => cases q
    | inr c =>
      obtain ⟨t, ht, q⟩ := q
      cases q
      obtain ⟨c3, c0⟩ := hc ec rfl
      have c4 : ec = 0 ∨ ec = 1 ∨ ec = 2 := by omega
      rcases c4 with rfl | rfl | rfl
      · refine XT_catch rfl [] ⟨0, 9, 12, 20⟩ [⟨0, 9, 15, 15⟩] rfl (fun z hz => by cases hz) rfl (by decide) clL_20 (fun w => ?_)
        refine X_astore_3 12 dL_account_12 rfl ?_
        refine X_ic 13 1 dL_account_13 (by decide) ?_
        exact X_iret 14 dL_account_14 rfl rfl ⟨t, ht, rfl⟩
      · exact absurd (by decide) c0
      · refine XT_catch rfl [⟨0, 9, 12, 20⟩] ⟨0, 9, 15, 15⟩ [] rfl (fun z hz => by
          simp only [List.mem_cons, List.not_mem_nil, or_false] at hz
          rcases hz with rfl
          · exact Or.inr ⟨by decide, 0, clL_20, by decide⟩) rfl (by decide) clL_15 (fun w => ?_)
        refine X_astore_3 15 dL_account_15 rfl ?_
        refine X_ic 16 2 dL_account_16 (by decide) ?_
        exact X_iret 17 dL_account_17 rfl rfl ⟨t, ht, rfl⟩
  · cases r with
    | inr c =>
      obtain ⟨t, ht, q⟩ := q
      cases q
    | inl v' =>
      cases q
      refine X_i2l 7 dL_account_7 ?_
      refine X_last 8 hO.1 (xin_vp ⟨by decide, by rw [hO.2]; decide⟩) dL_account_8 ?_
      refine X_goto 9 18 dL_account_9 (by decide) ?_
      refine X_ic 18 0 dL_account_18 (by decide) ?_
      exact X_iret 19 dL_account_19 rfl rfl rfl
theorem CL_writeModule (E : XG) (X O : Nat) (p1 : Int32) (h : XH) {r : Int32 ⊕ Nat} {h1 : XH} (e : FX8_writeModule E X p1 h = some (r, h1)) (hX : xk h X = 9) (hO : xk h1 O = 13 ∧ xn h1 O = 1) (hc : ∀ c, r = .inr c → c < 3 ∧ ¬ cmT [0, 1] c = 0) : XC E mL_writeModule (0 + ek r) (0 + es r) [.ref X, .int p1, .ref O] h (LQ [0, 1] O r h1) := by
  refine X_enterH (L := [some (.ref X), some (.int p1), some (.ref O), none]) (by decide +kernel) rfl okL_writeModule.1 rfl rfl ?_
  refine X_aload_2 0 dL_writeModule_0 ?_
  refine X_ic 1 0 dL_writeModule_1 (by decide) ?_
  refine X_aload_0 2 dL_writeModule_2 ?_
  refine X_iload_1 3 dL_writeModule_3 ?_
  refine X_callV (k := 0) (u := 0) (k' := 0 + ek r) (u' := 0 + es r) (ci := 8) 4 (As := [.int p1]) calX8_writeModule imX8_writeModule seX8_writeModule mkL_152 rfl rfl rfl rfl rfl hX (by decide) rfl rfl dL_writeModule_4 (CX8_writeModule E X p1 h r h1 e) (fun ec h2 q => ?_) (fun v h2 q => ?_)
  · cases r with
    | inl v => cases q
    | inr c =>
      obtain ⟨t, ht, q⟩ := q
      cases q
      obtain ⟨c3, c0⟩ := hc ec rfl
      have c4 : ec = 0 ∨ ec = 1 ∨ ec = 2 := by omega
      rcases c4 with rfl | rfl | rfl
      · refine XT_catch rfl [] ⟨0, 9, 12, 20⟩ [⟨0, 9, 15, 13⟩] rfl (fun z hz => by cases hz) rfl (by decide) clL_20 (fun w => ?_)
        refine X_astore_3 12 dL_writeModule_12 rfl ?_
        refine X_ic 13 1 dL_writeModule_13 (by decide) ?_
        exact X_iret 14 dL_writeModule_14 rfl rfl ⟨t, ht, rfl⟩
      · refine XT_catch rfl [⟨0, 9, 12, 20⟩] ⟨0, 9, 15, 13⟩ [] rfl (fun z hz => by
          simp only [List.mem_cons, List.not_mem_nil, or_false] at hz
          rcases hz with rfl
          · exact Or.inr ⟨by decide, 0, clL_20, by decide⟩) rfl (by decide) clL_13 (fun w => ?_)
        refine X_astore_3 15 dL_writeModule_15 rfl ?_
        refine X_ic 16 2 dL_writeModule_16 (by decide) ?_
        exact X_iret 17 dL_writeModule_17 rfl rfl ⟨t, ht, rfl⟩
      · exact absurd (by decide) c0
  · cases r with
    | inr c =>
      obtain ⟨t, ht, q⟩ := q
      cases q
    | inl v' =>
      cases q
      refine X_i2l 7 dL_writeModule_7 ?_
      refine X_last 8 hO.1 (xin_vp ⟨by decide, by rw [hO.2]; decide⟩) dL_writeModule_8 ?_
      refine X_goto 9 18 dL_writeModule_9 (by decide) ?_
      refine X_ic 18 0 dL_writeModule_18 (by decide) ?_
      exact X_iret 19 dL_writeModule_19 rfl rfl rfl
theorem CL_writeTable (E : XG) (X O : Nat) (p1 : Int32) (h : XH) {r : Int32 ⊕ Nat} {h1 : XH} (e : FX8_writeTable E X p1 h = some (r, h1)) (hX : xk h X = 9) (hO : xk h1 O = 13 ∧ xn h1 O = 1) (hc : ∀ c, r = .inr c → c < 3 ∧ ¬ cmT [0, 1] c = 0) : XC E mL_writeTable (0 + ek r) (0 + es r) [.ref X, .int p1, .ref O] h (LQ [0, 1] O r h1) := by
  refine X_enterH (L := [some (.ref X), some (.int p1), some (.ref O), none]) (by decide +kernel) rfl okL_writeTable.1 rfl rfl ?_
  refine X_aload_2 0 dL_writeTable_0 ?_
  refine X_ic 1 0 dL_writeTable_1 (by decide) ?_
  refine X_aload_0 2 dL_writeTable_2 ?_
  refine X_iload_1 3 dL_writeTable_3 ?_
  refine X_callV (k := 0) (u := 0) (k' := 0 + ek r) (u' := 0 + es r) (ci := 8) 4 (As := [.int p1]) calX8_writeTable imX8_writeTable seX8_writeTable mkL_155 rfl rfl rfl rfl rfl hX (by decide) rfl rfl dL_writeTable_4 (CX8_writeTable E X p1 h r h1 e) (fun ec h2 q => ?_) (fun v h2 q => ?_)
  · cases r with
    | inl v => cases q
    | inr c =>
      obtain ⟨t, ht, q⟩ := q
      cases q
      obtain ⟨c3, c0⟩ := hc ec rfl
      have c4 : ec = 0 ∨ ec = 1 ∨ ec = 2 := by omega
      rcases c4 with rfl | rfl | rfl
      · refine XT_catch rfl [] ⟨0, 9, 12, 20⟩ [⟨0, 9, 15, 13⟩] rfl (fun z hz => by cases hz) rfl (by decide) clL_20 (fun w => ?_)
        refine X_astore_3 12 dL_writeTable_12 rfl ?_
        refine X_ic 13 1 dL_writeTable_13 (by decide) ?_
        exact X_iret 14 dL_writeTable_14 rfl rfl ⟨t, ht, rfl⟩
      · refine XT_catch rfl [⟨0, 9, 12, 20⟩] ⟨0, 9, 15, 13⟩ [] rfl (fun z hz => by
          simp only [List.mem_cons, List.not_mem_nil, or_false] at hz
          rcases hz with rfl
          · exact Or.inr ⟨by decide, 0, clL_20, by decide⟩) rfl (by decide) clL_13 (fun w => ?_)
        refine X_astore_3 15 dL_writeTable_15 rfl ?_
        refine X_ic 16 2 dL_writeTable_16 (by decide) ?_
        exact X_iret 17 dL_writeTable_17 rfl rfl ⟨t, ht, rfl⟩
      · exact absurd (by decide) c0
  · cases r with
    | inr c =>
      obtain ⟨t, ht, q⟩ := q
      cases q
    | inl v' =>
      cases q
      refine X_i2l 7 dL_writeTable_7 ?_
      refine X_last 8 hO.1 (xin_vp ⟨by decide, by rw [hO.2]; decide⟩) dL_writeTable_8 ?_
      refine X_goto 9 18 dL_writeTable_9 (by decide) ?_
      refine X_ic 18 0 dL_writeTable_18 (by decide) ?_
      exact X_iret 19 dL_writeTable_19 rfl rfl rfl
theorem CL_textByte (E : XG) (X O : Nat) (p1 : Int32) (h : XH) {r : Int32 ⊕ Nat} {h1 : XH} (e : FX8_textByte E X p1 h = some (r, h1)) (hX : xk h X = 9) (hO : xk h1 O = 13 ∧ xn h1 O = 1) (hc : ∀ c, r = .inr c → c < 3 ∧ ¬ cmT [1] c = 0) : XC E mL_textByte (0 + ek r) (0 + es r) [.ref X, .int p1, .ref O] h (LQ [1] O r h1) := by
  refine X_enterH (L := [some (.ref X), some (.int p1), some (.ref O), none]) (by decide +kernel) rfl okL_textByte.1 rfl rfl ?_
  refine X_aload_2 0 dL_textByte_0 ?_
  refine X_ic 1 0 dL_textByte_1 (by decide) ?_
  refine X_aload_0 2 dL_textByte_2 ?_
  refine X_iload_1 3 dL_textByte_3 ?_
  refine X_callV (k := 0) (u := 0) (k' := 0 + ek r) (u' := 0 + es r) (ci := 8) 4 (As := [.int p1]) calX8_textByte imX8_textByte seX8_textByte mkL_158 rfl rfl rfl rfl rfl hX (by decide) rfl rfl dL_textByte_4 (CX8_textByte E X p1 h r h1 e) (fun ec h2 q => ?_) (fun v h2 q => ?_)
  · cases r with
    | inl v => cases q
    | inr c =>
      obtain ⟨t, ht, q⟩ := q
      cases q
      obtain ⟨c3, c0⟩ := hc ec rfl
      have c4 : ec = 0 ∨ ec = 1 ∨ ec = 2 := by omega
      rcases c4 with rfl | rfl | rfl
      · exact absurd (by decide) c0
      · refine XT_catch rfl [] ⟨0, 9, 12, 13⟩ [] rfl (fun z hz => by cases hz) rfl (by decide) clL_13 (fun w => ?_)
        refine X_astore_3 12 dL_textByte_12 rfl ?_
        refine X_ic 13 1 dL_textByte_13 (by decide) ?_
        exact X_iret 14 dL_textByte_14 rfl rfl ⟨t, ht, rfl⟩
      · exact absurd (by decide) c0
  · cases r with
    | inr c =>
      obtain ⟨t, ht, q⟩ := q
      cases q
    | inl v' =>
      cases q
      refine X_i2l 7 dL_textByte_7 ?_
      refine X_last 8 hO.1 (xin_vp ⟨by decide, by rw [hO.2]; decide⟩) dL_textByte_8 ?_
      refine X_goto 9 15 dL_textByte_9 (by decide) ?_
      refine X_ic 15 0 dL_textByte_15 (by decide) ?_
      exact X_iret 16 dL_textByte_16 rfl rfl rfl
theorem CL_setBoundary (E : XG) (X O : Nat) (p1 p2 p3 : Int32) (h : XH) {r : Int32 ⊕ Nat} {h1 : XH} (e : FX8_setBoundary E X p1 p2 p3 h = some (r, h1)) (hX : xk h X = 9) (hO : xk h1 O = 13 ∧ xn h1 O = 1) (hc : ∀ c, r = .inr c → c < 3 ∧ ¬ cmT [0, 1] c = 0) : XC E mL_setBoundary (0 + ek r) (0 + es r) [.ref X, .int p1, .int p2, .int p3, .ref O] h (LQ [0, 1] O r h1) := by
  refine X_enterH (L := [some (.ref X), some (.int p1), some (.int p2), some (.int p3), some (.ref O), none]) (by decide +kernel) rfl okL_setBoundary.1 rfl rfl ?_
  refine X_aload_4 0 dL_setBoundary_0 ?_
  refine X_ic 2 0 dL_setBoundary_2 (by decide) ?_
  refine X_aload_0 3 dL_setBoundary_3 ?_
  refine X_iload_1 4 dL_setBoundary_4 ?_
  refine X_iload_2 5 dL_setBoundary_5 ?_
  refine X_iload_3 6 dL_setBoundary_6 ?_
  refine X_callV (k := 0) (u := 0) (k' := 0 + ek r) (u' := 0 + es r) (ci := 8) 7 (As := [.int p1, .int p2, .int p3]) calX8_setBoundary imX8_setBoundary seX8_setBoundary mkL_161 rfl rfl rfl rfl rfl hX (by decide) rfl rfl dL_setBoundary_7 (CX8_setBoundary E X p1 p2 p3 h r h1 e) (fun ec h2 q => ?_) (fun v h2 q => ?_)
  · cases r with
    | inl v => cases q
    | inr c =>
      obtain ⟨t, ht, q⟩ := q
      cases q
      obtain ⟨c3, c0⟩ := hc ec rfl
      have c4 : ec = 0 ∨ ec = 1 ∨ ec = 2 := by omega
      rcases c4 with rfl | rfl | rfl
      · refine XT_catch rfl [] ⟨0, 12, 15, 20⟩ [⟨0, 12, 19, 13⟩] rfl (fun z hz => by cases hz) rfl (by decide) clL_20 (fun w => ?_)
        refine X_astore_5 15 dL_setBoundary_15 rfl ?_
        refine X_ic 17 1 dL_setBoundary_17 (by decide) ?_
        exact X_iret 18 dL_setBoundary_18 rfl rfl ⟨t, ht, rfl⟩
      · refine XT_catch rfl [⟨0, 12, 15, 20⟩] ⟨0, 12, 19, 13⟩ [] rfl (fun z hz => by
          simp only [List.mem_cons, List.not_mem_nil, or_false] at hz
          rcases hz with rfl
          · exact Or.inr ⟨by decide, 0, clL_20, by decide⟩) rfl (by decide) clL_13 (fun w => ?_)
        refine X_astore_5 19 dL_setBoundary_19 rfl ?_
        refine X_ic 21 2 dL_setBoundary_21 (by decide) ?_
        exact X_iret 22 dL_setBoundary_22 rfl rfl ⟨t, ht, rfl⟩
      · exact absurd (by decide) c0
  · cases r with
    | inr c =>
      obtain ⟨t, ht, q⟩ := q
      cases q
    | inl v' =>
      cases q
      refine X_i2l 10 dL_setBoundary_10 ?_
      refine X_last 11 hO.1 (xin_vp ⟨by decide, by rw [hO.2]; decide⟩) dL_setBoundary_11 ?_
      refine X_goto 12 23 dL_setBoundary_12 (by decide) ?_
      refine X_ic 23 0 dL_setBoundary_23 (by decide) ?_
      exact X_iret 24 dL_setBoundary_24 rfl rfl rfl
theorem CL_setAct (E : XG) (X O : Nat) (p1 p2 p3 p4 : Int32) (h : XH) {r : Int32 ⊕ Nat} {h1 : XH} (e : FX8_setAct E X p1 p2 p3 p4 h = some (r, h1)) (hX : xk h X = 9) (hO : xk h1 O = 13 ∧ xn h1 O = 1) (hc : ∀ c, r = .inr c → c < 3 ∧ ¬ cmT [0, 1] c = 0) : XC E mL_setAct (0 + ek r) (0 + es r) [.ref X, .int p1, .int p2, .int p3, .int p4, .ref O] h (LQ [0, 1] O r h1) := by
  refine X_enterH (L := [some (.ref X), some (.int p1), some (.int p2), some (.int p3), some (.int p4), some (.ref O), none]) (by decide +kernel) rfl okL_setAct.1 rfl rfl ?_
  refine X_aload_5 0 dL_setAct_0 ?_
  refine X_ic 2 0 dL_setAct_2 (by decide) ?_
  refine X_aload_0 3 dL_setAct_3 ?_
  refine X_iload_1 4 dL_setAct_4 ?_
  refine X_iload_2 5 dL_setAct_5 ?_
  refine X_iload_3 6 dL_setAct_6 ?_
  refine X_iload_4 7 dL_setAct_7 ?_
  refine X_callV (k := 0) (u := 0) (k' := 0 + ek r) (u' := 0 + es r) (ci := 8) 9 (As := [.int p1, .int p2, .int p3, .int p4]) calX8_setAct imX8_setAct seX8_setAct mkL_164 rfl rfl rfl rfl rfl hX (by decide) rfl rfl dL_setAct_9 (CX8_setAct E X p1 p2 p3 p4 h r h1 e) (fun ec h2 q => ?_) (fun v h2 q => ?_)
  · cases r with
    | inl v => cases q
    | inr c =>
      obtain ⟨t, ht, q⟩ := q
      cases q
      obtain ⟨c3, c0⟩ := hc ec rfl
      have c4 : ec = 0 ∨ ec = 1 ∨ ec = 2 := by omega
      rcases c4 with rfl | rfl | rfl
      · refine XT_catch rfl [] ⟨0, 14, 17, 20⟩ [⟨0, 14, 21, 13⟩] rfl (fun z hz => by cases hz) rfl (by decide) clL_20 (fun w => ?_)
        refine X_astore_6 17 dL_setAct_17 rfl ?_
        refine X_ic 19 1 dL_setAct_19 (by decide) ?_
        exact X_iret 20 dL_setAct_20 rfl rfl ⟨t, ht, rfl⟩
      · refine XT_catch rfl [⟨0, 14, 17, 20⟩] ⟨0, 14, 21, 13⟩ [] rfl (fun z hz => by
          simp only [List.mem_cons, List.not_mem_nil, or_false] at hz
          rcases hz with rfl
          · exact Or.inr ⟨by decide, 0, clL_20, by decide⟩) rfl (by decide) clL_13 (fun w => ?_)
        refine X_astore_6 21 dL_setAct_21 rfl ?_
        refine X_ic 23 2 dL_setAct_23 (by decide) ?_
        exact X_iret 24 dL_setAct_24 rfl rfl ⟨t, ht, rfl⟩
      · exact absurd (by decide) c0
  · cases r with
    | inr c =>
      obtain ⟨t, ht, q⟩ := q
      cases q
    | inl v' =>
      cases q
      refine X_i2l 12 dL_setAct_12 ?_
      refine X_last 13 hO.1 (xin_vp ⟨by decide, by rw [hO.2]; decide⟩) dL_setAct_13 ?_
      refine X_goto 14 25 dL_setAct_14 (by decide) ?_
      refine X_ic 25 0 dL_setAct_25 (by decide) ?_
      exact X_iret 26 dL_setAct_26 rfl rfl rfl
theorem CL_rest (E : XG) (X O : Nat) (p1 : Int32) (h : XH) {r : Int32 ⊕ Nat} {h1 : XH} (e : FX8_rest E X p1 h = some (r, h1)) (hX : xk h X = 9) (hO : xk h1 O = 13 ∧ xn h1 O = 1) (hc : ∀ c, r = .inr c → c < 3 ∧ ¬ cmT [0, 1] c = 0) : XC E mL_rest (0 + ek r) (0 + es r) [.ref X, .int p1, .ref O] h (LQ [0, 1] O r h1) := by
  refine X_enterH (L := [some (.ref X), some (.int p1), some (.ref O), none]) (by decide +kernel) rfl okL_rest.1 rfl rfl ?_
  refine X_aload_2 0 dL_rest_0 ?_
  refine X_ic 1 0 dL_rest_1 (by decide) ?_
  refine X_aload_0 2 dL_rest_2 ?_
  refine X_iload_1 3 dL_rest_3 ?_
  refine X_callV (k := 0) (u := 0) (k' := 0 + ek r) (u' := 0 + es r) (ci := 8) 4 (As := [.int p1]) calX8_rest imX8_rest seX8_rest mkL_168 rfl rfl rfl rfl rfl hX (by decide) rfl rfl dL_rest_4 (CX8_rest E X p1 h r h1 e) (fun ec h2 q => ?_) (fun v h2 q => ?_)
  · cases r with
    | inl v => cases q
    | inr c =>
      obtain ⟨t, ht, q⟩ := q
      cases q
      obtain ⟨c3, c0⟩ := hc ec rfl
      have c4 : ec = 0 ∨ ec = 1 ∨ ec = 2 := by omega
      rcases c4 with rfl | rfl | rfl
      · refine XT_catch rfl [] ⟨0, 9, 12, 20⟩ [⟨0, 9, 15, 13⟩] rfl (fun z hz => by cases hz) rfl (by decide) clL_20 (fun w => ?_)
        refine X_astore_3 12 dL_rest_12 rfl ?_
        refine X_ic 13 1 dL_rest_13 (by decide) ?_
        exact X_iret 14 dL_rest_14 rfl rfl ⟨t, ht, rfl⟩
      · refine XT_catch rfl [⟨0, 9, 12, 20⟩] ⟨0, 9, 15, 13⟩ [] rfl (fun z hz => by
          simp only [List.mem_cons, List.not_mem_nil, or_false] at hz
          rcases hz with rfl
          · exact Or.inr ⟨by decide, 0, clL_20, by decide⟩) rfl (by decide) clL_13 (fun w => ?_)
        refine X_astore_3 15 dL_rest_15 rfl ?_
        refine X_ic 16 2 dL_rest_16 (by decide) ?_
        exact X_iret 17 dL_rest_17 rfl rfl ⟨t, ht, rfl⟩
      · exact absurd (by decide) c0
  · cases r with
    | inr c =>
      obtain ⟨t, ht, q⟩ := q
      cases q
    | inl v' =>
      cases q
      refine X_i2l 7 dL_rest_7 ?_
      refine X_last 8 hO.1 (xin_vp ⟨by decide, by rw [hO.2]; decide⟩) dL_rest_8 ?_
      refine X_goto 9 18 dL_rest_9 (by decide) ?_
      refine X_ic 18 0 dL_rest_18 (by decide) ?_
      exact X_iret 19 dL_rest_19 rfl rfl rfl
theorem CL_conjugate (E : XG) (X O : Nat) (p1 : Int32) (h : XH) {r : Int32 ⊕ Nat} {h1 : XH} (e : FX8_conjugate E X p1 h = some (r, h1)) (hX : xk h X = 9) (hO : xk h1 O = 13 ∧ xn h1 O = 1) (hc : ∀ c, r = .inr c → c < 3 ∧ ¬ cmT [0, 1, 2] c = 0) : XC E mL_conjugate (0 + ek r) (0 + es r) [.ref X, .int p1, .ref O] h (LQ [0, 1, 2] O r h1) := by
  refine X_enterH (L := [some (.ref X), some (.int p1), some (.ref O), none]) (by decide +kernel) rfl okL_conjugate.1 rfl rfl ?_
  refine X_aload_2 0 dL_conjugate_0 ?_
  refine X_ic 1 0 dL_conjugate_1 (by decide) ?_
  refine X_aload_0 2 dL_conjugate_2 ?_
  refine X_iload_1 3 dL_conjugate_3 ?_
  refine X_callV (k := 0) (u := 0) (k' := 0 + ek r) (u' := 0 + es r) (ci := 8) 4 (As := [.int p1]) calX8_conjugate imX8_conjugate seX8_conjugate mkL_171 rfl rfl rfl rfl rfl hX (by decide) rfl rfl dL_conjugate_4 (CX8_conjugate E X p1 h r h1 e) (fun ec h2 q => ?_) (fun v h2 q => ?_)
  · cases r with
    | inl v => cases q
    | inr c =>
      obtain ⟨t, ht, q⟩ := q
      cases q
      obtain ⟨c3, c0⟩ := hc ec rfl
      have c4 : ec = 0 ∨ ec = 1 ∨ ec = 2 := by omega
      rcases c4 with rfl | rfl | rfl
      · refine XT_catch rfl [] ⟨0, 9, 12, 20⟩ [⟨0, 9, 15, 13⟩, ⟨0, 9, 18, 15⟩] rfl (fun z hz => by cases hz) rfl (by decide) clL_20 (fun w => ?_)
        refine X_astore_3 12 dL_conjugate_12 rfl ?_
        refine X_ic 13 1 dL_conjugate_13 (by decide) ?_
        exact X_iret 14 dL_conjugate_14 rfl rfl ⟨t, ht, rfl⟩
      · refine XT_catch rfl [⟨0, 9, 12, 20⟩] ⟨0, 9, 15, 13⟩ [⟨0, 9, 18, 15⟩] rfl (fun z hz => by
          simp only [List.mem_cons, List.not_mem_nil, or_false] at hz
          rcases hz with rfl
          · exact Or.inr ⟨by decide, 0, clL_20, by decide⟩) rfl (by decide) clL_13 (fun w => ?_)
        refine X_astore_3 15 dL_conjugate_15 rfl ?_
        refine X_ic 16 2 dL_conjugate_16 (by decide) ?_
        exact X_iret 17 dL_conjugate_17 rfl rfl ⟨t, ht, rfl⟩
      · refine XT_catch rfl [⟨0, 9, 12, 20⟩, ⟨0, 9, 15, 13⟩] ⟨0, 9, 18, 15⟩ [] rfl (fun z hz => by
          simp only [List.mem_cons, List.not_mem_nil, or_false] at hz
          rcases hz with rfl | rfl
          · exact Or.inr ⟨by decide, 0, clL_20, by decide⟩
          · exact Or.inr ⟨by decide, 1, clL_13, by decide⟩) rfl (by decide) clL_15 (fun w => ?_)
        refine X_astore_3 18 dL_conjugate_18 rfl ?_
        refine X_ic 19 3 dL_conjugate_19 (by decide) ?_
        exact X_iret 20 dL_conjugate_20 rfl rfl ⟨t, ht, rfl⟩
  · cases r with
    | inr c =>
      obtain ⟨t, ht, q⟩ := q
      cases q
    | inl v' =>
      cases q
      refine X_i2l 7 dL_conjugate_7 ?_
      refine X_last 8 hO.1 (xin_vp ⟨by decide, by rw [hO.2]; decide⟩) dL_conjugate_8 ?_
      refine X_goto 9 21 dL_conjugate_9 (by decide) ?_
      refine X_ic 21 0 dL_conjugate_21 (by decide) ?_
      exact X_iret 22 dL_conjugate_22 rfl rfl rfl
theorem CL_setTop (E : XG) (X O : Nat) (p1 p2 p3 : Int32) (h : XH) {r : Int32 ⊕ Nat} {h1 : XH} (e : FX8_setTop E X p1 p2 p3 h = some (r, h1)) (hX : xk h X = 9) (hO : xk h1 O = 13 ∧ xn h1 O = 1) (hc : ∀ c, r = .inr c → c < 3 ∧ ¬ cmT [0, 1] c = 0) : XC E mL_setTop (0 + ek r) (0 + es r) [.ref X, .int p1, .int p2, .int p3, .ref O] h (LQ [0, 1] O r h1) := by
  refine X_enterH (L := [some (.ref X), some (.int p1), some (.int p2), some (.int p3), some (.ref O), none]) (by decide +kernel) rfl okL_setTop.1 rfl rfl ?_
  refine X_aload_4 0 dL_setTop_0 ?_
  refine X_ic 2 0 dL_setTop_2 (by decide) ?_
  refine X_aload_0 3 dL_setTop_3 ?_
  refine X_iload_1 4 dL_setTop_4 ?_
  refine X_iload_2 5 dL_setTop_5 ?_
  refine X_iload_3 6 dL_setTop_6 ?_
  refine X_callV (k := 0) (u := 0) (k' := 0 + ek r) (u' := 0 + es r) (ci := 8) 7 (As := [.int p1, .int p2, .int p3]) calX8_setTop imX8_setTop seX8_setTop mkL_174 rfl rfl rfl rfl rfl hX (by decide) rfl rfl dL_setTop_7 (CX8_setTop E X p1 p2 p3 h r h1 e) (fun ec h2 q => ?_) (fun v h2 q => ?_)
  · cases r with
    | inl v => cases q
    | inr c =>
      obtain ⟨t, ht, q⟩ := q
      cases q
      obtain ⟨c3, c0⟩ := hc ec rfl
      have c4 : ec = 0 ∨ ec = 1 ∨ ec = 2 := by omega
      rcases c4 with rfl | rfl | rfl
      · refine XT_catch rfl [] ⟨0, 12, 15, 20⟩ [⟨0, 12, 19, 13⟩] rfl (fun z hz => by cases hz) rfl (by decide) clL_20 (fun w => ?_)
        refine X_astore_5 15 dL_setTop_15 rfl ?_
        refine X_ic 17 1 dL_setTop_17 (by decide) ?_
        exact X_iret 18 dL_setTop_18 rfl rfl ⟨t, ht, rfl⟩
      · refine XT_catch rfl [⟨0, 12, 15, 20⟩] ⟨0, 12, 19, 13⟩ [] rfl (fun z hz => by
          simp only [List.mem_cons, List.not_mem_nil, or_false] at hz
          rcases hz with rfl
          · exact Or.inr ⟨by decide, 0, clL_20, by decide⟩) rfl (by decide) clL_13 (fun w => ?_)
        refine X_astore_5 19 dL_setTop_19 rfl ?_
        refine X_ic 21 2 dL_setTop_21 (by decide) ?_
        exact X_iret 22 dL_setTop_22 rfl rfl ⟨t, ht, rfl⟩
      · exact absurd (by decide) c0
  · cases r with
    | inr c =>
      obtain ⟨t, ht, q⟩ := q
      cases q
    | inl v' =>
      cases q
      refine X_i2l 10 dL_setTop_10 ?_
      refine X_last 11 hO.1 (xin_vp ⟨by decide, by rw [hO.2]; decide⟩) dL_setTop_11 ?_
      refine X_goto 12 23 dL_setTop_12 (by decide) ?_
      refine X_ic 23 0 dL_setTop_23 (by decide) ?_
      exact X_iret 24 dL_setTop_24 rfl rfl rfl
theorem CL_setBottom (E : XG) (X O : Nat) (p1 p2 p3 : Int32) (h : XH) {r : Int32 ⊕ Nat} {h1 : XH} (e : FX8_setBottom E X p1 p2 p3 h = some (r, h1)) (hX : xk h X = 9) (hO : xk h1 O = 13 ∧ xn h1 O = 1) (hc : ∀ c, r = .inr c → c < 3 ∧ ¬ cmT [0, 1] c = 0) : XC E mL_setBottom (0 + ek r) (0 + es r) [.ref X, .int p1, .int p2, .int p3, .ref O] h (LQ [0, 1] O r h1) := by
  refine X_enterH (L := [some (.ref X), some (.int p1), some (.int p2), some (.int p3), some (.ref O), none]) (by decide +kernel) rfl okL_setBottom.1 rfl rfl ?_
  refine X_aload_4 0 dL_setBottom_0 ?_
  refine X_ic 2 0 dL_setBottom_2 (by decide) ?_
  refine X_aload_0 3 dL_setBottom_3 ?_
  refine X_iload_1 4 dL_setBottom_4 ?_
  refine X_iload_2 5 dL_setBottom_5 ?_
  refine X_iload_3 6 dL_setBottom_6 ?_
  refine X_callV (k := 0) (u := 0) (k' := 0 + ek r) (u' := 0 + es r) (ci := 8) 7 (As := [.int p1, .int p2, .int p3]) calX8_setBottom imX8_setBottom seX8_setBottom mkL_177 rfl rfl rfl rfl rfl hX (by decide) rfl rfl dL_setBottom_7 (CX8_setBottom E X p1 p2 p3 h r h1 e) (fun ec h2 q => ?_) (fun v h2 q => ?_)
  · cases r with
    | inl v => cases q
    | inr c =>
      obtain ⟨t, ht, q⟩ := q
      cases q
      obtain ⟨c3, c0⟩ := hc ec rfl
      have c4 : ec = 0 ∨ ec = 1 ∨ ec = 2 := by omega
      rcases c4 with rfl | rfl | rfl
      · refine XT_catch rfl [] ⟨0, 12, 15, 20⟩ [⟨0, 12, 19, 13⟩] rfl (fun z hz => by cases hz) rfl (by decide) clL_20 (fun w => ?_)
        refine X_astore_5 15 dL_setBottom_15 rfl ?_
        refine X_ic 17 1 dL_setBottom_17 (by decide) ?_
        exact X_iret 18 dL_setBottom_18 rfl rfl ⟨t, ht, rfl⟩
      · refine XT_catch rfl [⟨0, 12, 15, 20⟩] ⟨0, 12, 19, 13⟩ [] rfl (fun z hz => by
          simp only [List.mem_cons, List.not_mem_nil, or_false] at hz
          rcases hz with rfl
          · exact Or.inr ⟨by decide, 0, clL_20, by decide⟩) rfl (by decide) clL_13 (fun w => ?_)
        refine X_astore_5 19 dL_setBottom_19 rfl ?_
        refine X_ic 21 2 dL_setBottom_21 (by decide) ?_
        exact X_iret 22 dL_setBottom_22 rfl rfl ⟨t, ht, rfl⟩
      · exact absurd (by decide) c0
  · cases r with
    | inr c =>
      obtain ⟨t, ht, q⟩ := q
      cases q
    | inl v' =>
      cases q
      refine X_i2l 10 dL_setBottom_10 ?_
      refine X_last 11 hO.1 (xin_vp ⟨by decide, by rw [hO.2]; decide⟩) dL_setBottom_11 ?_
      refine X_goto 12 23 dL_setBottom_12 (by decide) ?_
      refine X_ic 23 0 dL_setBottom_23 (by decide) ?_
      exact X_iret 24 dL_setBottom_24 rfl rfl rfl
theorem CL_undo (E : XG) (X O : Nat) (h : XH) {r : Int32 ⊕ Nat} {h1 : XH} (e : FX8_undo E X  h = some (r, h1)) (hX : xk h X = 9) (hO : xk h1 O = 13 ∧ xn h1 O = 1) (hc : ∀ c, r = .inr c → c < 3 ∧ ¬ cmT [0] c = 0) : XC E mL_undo (0 + ek r) (0 + es r) [.ref X, .ref O] h (LQ [0] O r h1) := by
  refine X_enterH (L := [some (.ref X), some (.ref O), none]) (by decide +kernel) rfl okL_undo.1 rfl rfl ?_
  refine X_aload_1 0 dL_undo_0 ?_
  refine X_ic 1 0 dL_undo_1 (by decide) ?_
  refine X_aload_0 2 dL_undo_2 ?_
  refine X_callV (k := 0) (u := 0) (k' := 0 + ek r) (u' := 0 + es r) (ci := 8) 3 (As := []) calX8_undo imX8_undo seX8_undo mkL_180 rfl rfl rfl rfl rfl hX (by decide) rfl rfl dL_undo_3 (CX8_undo E X  h r h1 e) (fun ec h2 q => ?_) (fun v h2 q => ?_)
  · cases r with
    | inl v => cases q
    | inr c =>
      obtain ⟨t, ht, q⟩ := q
      cases q
      obtain ⟨c3, c0⟩ := hc ec rfl
      have c4 : ec = 0 ∨ ec = 1 ∨ ec = 2 := by omega
      rcases c4 with rfl | rfl | rfl
      · refine XT_catch rfl [] ⟨0, 8, 11, 20⟩ [] rfl (fun z hz => by cases hz) rfl (by decide) clL_20 (fun w => ?_)
        refine X_astore_2 11 dL_undo_11 rfl ?_
        refine X_ic 12 1 dL_undo_12 (by decide) ?_
        exact X_iret 13 dL_undo_13 rfl rfl ⟨t, ht, rfl⟩
      · exact absurd (by decide) c0
      · exact absurd (by decide) c0
  · cases r with
    | inr c =>
      obtain ⟨t, ht, q⟩ := q
      cases q
    | inl v' =>
      cases q
      refine X_i2l 6 dL_undo_6 ?_
      refine X_last 7 hO.1 (xin_vp ⟨by decide, by rw [hO.2]; decide⟩) dL_undo_7 ?_
      refine X_goto 8 14 dL_undo_8 (by decide) ?_
      refine X_ic 14 0 dL_undo_14 (by decide) ?_
      exact X_iret 15 dL_undo_15 rfl rfl rfl
theorem CL_save (E : XG) (X O : Nat) (p1 : Int32) (h : XH) {r : Int32 ⊕ Nat} {h1 : XH} (e : FX8_save E X p1 h = some (r, h1)) (hX : xk h X = 9) (hO : xk h1 O = 13 ∧ xn h1 O = 1) (hc : ∀ c, r = .inr c → c < 3 ∧ ¬ cmT [0, 1] c = 0) : XC E mL_save (0 + ek r) (0 + es r) [.ref X, .int p1, .ref O] h (LQ [0, 1] O r h1) := by
  refine X_enterH (L := [some (.ref X), some (.int p1), some (.ref O), none]) (by decide +kernel) rfl okL_save.1 rfl rfl ?_
  refine X_aload_2 0 dL_save_0 ?_
  refine X_ic 1 0 dL_save_1 (by decide) ?_
  refine X_aload_0 2 dL_save_2 ?_
  refine X_iload_1 3 dL_save_3 ?_
  refine X_callV (k := 0) (u := 0) (k' := 0 + ek r) (u' := 0 + es r) (ci := 8) 4 (As := [.int p1]) calX8_save imX8_save seX8_save mkL_183 rfl rfl rfl rfl rfl hX (by decide) rfl rfl dL_save_4 (CX8_save E X p1 h r h1 e) (fun ec h2 q => ?_) (fun v h2 q => ?_)
  · cases r with
    | inl v => cases q
    | inr c =>
      obtain ⟨t, ht, q⟩ := q
      cases q
      obtain ⟨c3, c0⟩ := hc ec rfl
      have c4 : ec = 0 ∨ ec = 1 ∨ ec = 2 := by omega
      rcases c4 with rfl | rfl | rfl
      · refine XT_catch rfl [] ⟨0, 9, 12, 20⟩ [⟨0, 9, 15, 13⟩] rfl (fun z hz => by cases hz) rfl (by decide) clL_20 (fun w => ?_)
        refine X_astore_3 12 dL_save_12 rfl ?_
        refine X_ic 13 1 dL_save_13 (by decide) ?_
        exact X_iret 14 dL_save_14 rfl rfl ⟨t, ht, rfl⟩
      · refine XT_catch rfl [⟨0, 9, 12, 20⟩] ⟨0, 9, 15, 13⟩ [] rfl (fun z hz => by
          simp only [List.mem_cons, List.not_mem_nil, or_false] at hz
          rcases hz with rfl
          · exact Or.inr ⟨by decide, 0, clL_20, by decide⟩) rfl (by decide) clL_13 (fun w => ?_)
        refine X_astore_3 15 dL_save_15 rfl ?_
        refine X_ic 16 2 dL_save_16 (by decide) ?_
        exact X_iret 17 dL_save_17 rfl rfl ⟨t, ht, rfl⟩
      · exact absurd (by decide) c0
  · cases r with
    | inr c =>
      obtain ⟨t, ht, q⟩ := q
      cases q
    | inl v' =>
      cases q
      refine X_i2l 7 dL_save_7 ?_
      refine X_last 8 hO.1 (xin_vp ⟨by decide, by rw [hO.2]; decide⟩) dL_save_8 ?_
      refine X_goto 9 18 dL_save_9 (by decide) ?_
      refine X_ic 18 0 dL_save_18 (by decide) ?_
      exact X_iret 19 dL_save_19 rfl rfl rfl
theorem CL_restore (E : XG) (X O : Nat) (p1 : Int32) (h : XH) {r : Int32 ⊕ Nat} {h1 : XH} (e : FX8_restore E X p1 h = some (r, h1)) (hX : xk h X = 9) (hO : xk h1 O = 13 ∧ xn h1 O = 1) (hc : ∀ c, r = .inr c → c < 3 ∧ ¬ cmT [1, 0] c = 0) : XC E mL_restore (0 + ek r) (0 + es r) [.ref X, .int p1, .ref O] h (LQ [1, 0] O r h1) := by
  refine X_enterH (L := [some (.ref X), some (.int p1), some (.ref O), none]) (by decide +kernel) rfl okL_restore.1 rfl rfl ?_
  refine X_aload_2 0 dL_restore_0 ?_
  refine X_ic 1 0 dL_restore_1 (by decide) ?_
  refine X_aload_0 2 dL_restore_2 ?_
  refine X_iload_1 3 dL_restore_3 ?_
  refine X_callV (k := 0) (u := 0) (k' := 0 + ek r) (u' := 0 + es r) (ci := 8) 4 (As := [.int p1]) calX8_restore imX8_restore seX8_restore mkL_186 rfl rfl rfl rfl rfl hX (by decide) rfl rfl dL_restore_4 (CX8_restore E X p1 h r h1 e) (fun ec h2 q => ?_) (fun v h2 q => ?_)
  · cases r with
    | inl v => cases q
    | inr c =>
      obtain ⟨t, ht, q⟩ := q
      cases q
      obtain ⟨c3, c0⟩ := hc ec rfl
      have c4 : ec = 0 ∨ ec = 1 ∨ ec = 2 := by omega
      rcases c4 with rfl | rfl | rfl
      · refine XT_catch rfl [⟨0, 9, 12, 13⟩] ⟨0, 9, 15, 20⟩ [] rfl (fun z hz => by
          simp only [List.mem_cons, List.not_mem_nil, or_false] at hz
          rcases hz with rfl
          · exact Or.inr ⟨by decide, 1, clL_13, by decide⟩) rfl (by decide) clL_20 (fun w => ?_)
        refine X_astore_3 15 dL_restore_15 rfl ?_
        refine X_ic 16 2 dL_restore_16 (by decide) ?_
        exact X_iret 17 dL_restore_17 rfl rfl ⟨t, ht, rfl⟩
      · refine XT_catch rfl [] ⟨0, 9, 12, 13⟩ [⟨0, 9, 15, 20⟩] rfl (fun z hz => by cases hz) rfl (by decide) clL_13 (fun w => ?_)
        refine X_astore_3 12 dL_restore_12 rfl ?_
        refine X_ic 13 1 dL_restore_13 (by decide) ?_
        exact X_iret 14 dL_restore_14 rfl rfl ⟨t, ht, rfl⟩
      · exact absurd (by decide) c0
  · cases r with
    | inr c =>
      obtain ⟨t, ht, q⟩ := q
      cases q
    | inl v' =>
      cases q
      refine X_i2l 7 dL_restore_7 ?_
      refine X_last 8 hO.1 (xin_vp ⟨by decide, by rw [hO.2]; decide⟩) dL_restore_8 ?_
      refine X_goto 9 18 dL_restore_9 (by decide) ?_
      refine X_ic 18 0 dL_restore_18 (by decide) ?_
      exact X_iret 19 dL_restore_19 rfl rfl rfl
