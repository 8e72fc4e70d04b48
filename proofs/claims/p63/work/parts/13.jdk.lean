/-! The JDK's String members over the class's constants. -/
set_option linter.unusedVariables false
def sch (i k : Nat) : Int32 := (bytJS.getD i []).getD k 0
theorem sch_all : ∀ i, i < nJS → (lenJS.getD i 0 = (bytJS.getD i []).length ∧ lenJS.getD i 0 < 100) ∧ ∀ k, k < lenJS.getD i 0 → ((sch i k &&& 255).toUInt32 % 65536).toInt32 = sch i k ∧ narrow .char (.int (sch i k)) = .int (sch i k) := by decide +kernel
def FJ0_length (i : Nat) (h : XH) : XP Int32 := xg (i < nJS) (xv (Int32.ofNat (lenJS.getD i 0)) h)
def FJ0_charAt (i : Nat) (k : Int32) (h : XH) : XP Int32 := xg (i < nJS ∧ xin k (lenJS.getD i 0)) (xv (sch i k.toNatClampNeg) h)
section XJD
variable {E : XG} {M : XM} {k u : Nat} {L : List (Option Value)} {st : List Value} {h : XH} {Q : XO → Prop}
theorem X_slen (pc i : Nat) (hi : i < nJS) (d : decode (mC M) pc = .ok (.arraylength, 1)) (kq : XW E M k u (pc + 1) L (.int (Int32.ofNat (lenJS.getD i 0)) :: st) h Q) : XW E M k u pc L (.ref (eV E i) :: st) h Q := by
  intro p e R s m args below meth c H locs cells slots ls F hR hS hl hc hs
  exact va_tlen F.1 F.2.1 (F.stat.2.2.1 i hi).2.2.2 hS rfl d (kq p e R s m args below meth c H locs cells slots ls F hR hS hl hc hs)
theorem X_sbald (pc i : Nat) {q : Int32} (hi : i < nJS) (hin : vp_in q (lenJS.getD i 0)) (d : decode (mC M) pc = .ok (.baload, 1)) (kq : XW E M k u (pc + 1) L (.int (sch i q.toNatClampNeg) :: st) h Q) : XW E M k u pc L (.int q :: .ref (eV E i) :: st) h Q := by
  intro p e R s m args below meth c H locs cells slots ls F hR hS hl hc hs
  exact va_tb F.1 F.2.1 (F.stat.2.2.1 i hi).2.2.2 hS hin rfl d (kq p e R s m args below meth c H locs cells slots ls F hR hS hl hc hs)
theorem X_sio (pc : Nat) {idx : Nat} {own : String} (ho : own = (mY M).cls) (hw : xIn (.fieldLink own idx "jdk/internal/util/Preconditions" "SIOOBE_FORMATTER" "Ljava/util/function/BiFunction;")) (d : decode (mC M) pc = .ok (.getstatic idx, 3)) (k0 : XW E M k u (pc + 3) L (.null :: st) h Q) (k1 : ∀ t, XW E M k u (pc + 3) L (.ref t :: st) h Q) : XW E M k u pc L st h Q := by
  intro p e R s m args below meth c H locs cells slots ls F hR hS hl hc hs
  subst ho
  rcases F.stat.2.2.2.2.1 with hz | ⟨t, hz⟩
  · exact va_gets F.1 F.2.1 hz hS F.own (F.env.word hw args) (fun x hx => hx) d (k0 p e R s m args below meth c H locs cells slots ls F hR hS hl hc hs)
  · exact va_gets F.1 F.2.1 hz hS F.own (F.env.word hw args) (fun x hx => hx) d (k1 t p e R s m args below meth c H locs cells slots ls F hR hS hl hc hs)
end XJD
abbrev xisv (v : Value) (h : XH) : XO → Prop := fun o => o = (.inl (some v), h)
theorem wJ3_check {E : XG} {h : XH} {i n : Int32} {v : Value} (hv : v = .null ∨ ∃ t, v = .ref t) (h0 : 0 ≤ i) (h1 : i < n) : XC E mJ3_checkIndex_8e157 0 0 [.int i, .int n, v] h (xisv (.int i) h) := by
  refine X_enter (L := [some (.int i), some (.int n), some v]) (by decide +kernel) rfl (by rcases hv with rfl | ⟨t, rfl⟩ <;> rfl) rfl ?_
  refine X_iload_0 0 dJ3_checkIndex_8e157_0 (X_iflt 1 9 dJ3_checkIndex_8e157_1 (by decide) (fun q => absurd q (Int32.not_lt.mpr h0)) (fun _ => ?_))
  refine X_iload_0 4 dJ3_checkIndex_8e157_4 (X_iload_1 5 dJ3_checkIndex_8e157_5 (X_icmplt 6 16 dJ3_checkIndex_8e157_6 (by decide) (fun _ => ?_) (fun q => absurd h1 q)))
  exact X_iload_0 16 dJ3_checkIndex_8e157_16 (X_iret 17 dJ3_checkIndex_8e157_17 rfl rfl rfl)
theorem wJ0_check {E : XG} {h : XH} {i n : Int32} (h0 : 0 ≤ i) (h1 : i < n) : XC E mJ0_checkIndex_df160 0 0 [.int i, .int n] h (fun o => o = (.inl none, h)) := by
  refine X_enter (L := [some (.int i), some (.int n)]) (by decide +kernel) rfl rfl rfl ?_
  refine X_iload_0 0 dJ0_checkIndex_df160_0 (X_iload_1 1 dJ0_checkIndex_df160_1 (X_sio 2 rfl ⟨List.mem_of_getElem? (i := 433) (by decide +kernel), rfl⟩ dJ0_checkIndex_df160_2 ?_ (fun t => ?_)))
  · exact X_callS (k := 0) (u := 0) (k' := 0) (u' := 0) 5 (As := [.int i, .int n, .null]) calJ3_checkIndex_8e157 stJ3_checkIndex_8e157 mkJ0_1059 rfl rfl rfl rfl rfl dJ0_checkIndex_df160_5 (wJ3_check (Or.inl rfl) h0 h1) (fun ec h1 q => by cases q) (fun v h2 q => by
      cases q
      exact X_pop 8 dJ0_checkIndex_df160_8 rfl (X_ret 9 dJ0_checkIndex_df160_9 rfl rfl))
  · exact X_callS (k := 0) (u := 0) (k' := 0) (u' := 0) 5 (As := [.int i, .int n, .ref t]) calJ3_checkIndex_8e157 stJ3_checkIndex_8e157 mkJ0_1059 rfl rfl rfl rfl rfl dJ0_checkIndex_df160_5 (wJ3_check (Or.inr ⟨t, rfl⟩) h0 h1) (fun ec h1 q => by cases q) (fun v h2 q => by
      cases q
      exact X_pop 8 dJ0_checkIndex_df160_8 rfl (X_ret 9 dJ0_checkIndex_df160_9 rfl rfl))
theorem wJ1_charAt {E : XG} {h : XH} {i : Nat} {q : Int32} (hi : i < nJS) (h0 : 0 ≤ q) (h1 : q.toNatClampNeg < lenJS.getD i 0) (h2 : q < Int32.ofNat (lenJS.getD i 0)) : XC E mJ1_charAt_3b067 0 0 [.ref (eV E i), .int q] h (xisv (.int (sch i q.toNatClampNeg)) h) := by
  refine X_enter (L := [some (.ref (eV E i)), some (.int q)]) (by decide +kernel) rfl rfl rfl ?_
  obtain ⟨-, hb⟩ := sch_all i hi
  obtain ⟨b1, b2⟩ := hb _ h1
  refine X_iload_1 0 dJ1_charAt_3b067_0 (X_aload_0 1 dJ1_charAt_3b067_1 (X_slen 2 i hi dJ1_charAt_3b067_2 ?_))
  refine X_callS (k := 0) (u := 0) (k' := 0) (u' := 0) 3 (As := [.int q, .int (Int32.ofNat (lenJS.getD i 0))]) calJ0_checkIndex_df160 stJ0_checkIndex_df160 mkJ1_9 rfl rfl rfl rfl rfl dJ1_charAt_3b067_3 (wJ0_check h0 h2) (fun ec h1 q => by cases q) (fun v h2 z => ?_)
  cases z
  refine X_aload_0 6 dJ1_charAt_3b067_6 (X_iload_1 7 dJ1_charAt_3b067_7 (X_sbald 8 i hi (xin_vp ⟨h0, h1⟩) dJ1_charAt_3b067_8 (X_sip 9 255 dJ1_charAt_3b067_9 rfl (X_iand 12 dJ1_charAt_3b067_12 (X_i2c 13 dJ1_charAt_3b067_13 ?_)))))
  rw [b1]
  exact X_iret 14 dJ1_charAt_3b067_14 rfl b2 rfl
theorem wJ0_coder {E : XG} {h : XH} {i : Nat} (hi : i < nJS) : XC E mJ0_coder_7d493 0 0 [.ref (eK E i)] h (xisv (.int 0) h) := by
  refine X_enter (L := [some (.ref (eK E i))]) (by decide +kernel) rfl rfl rfl ?_
  refine X_compact 0 rfl ⟨List.mem_of_getElem? (i := 352) (by decide +kernel), rfl⟩ dJ0_coder_7d493_0 (X_ifeq 3 13 dJ0_coder_7d493_3 (by decide) (fun q => by cases q) (fun _ => ?_))
  exact X_aload_0 6 dJ0_coder_7d493_6 (X_getsc 7 i hi rfl ⟨List.mem_of_getElem? (i := 1752) (by decide +kernel), rfl⟩ dJ0_coder_7d493_7 (X_goto 10 14 dJ0_coder_7d493_10 (by decide) (X_iret 14 dJ0_coder_7d493_14 rfl rfl rfl)))
theorem wJ0_isLatin1 {E : XG} {h : XH} {i : Nat} (hi : i < nJS) : XC E mJ0_isLatin1_aae02 0 0 [.ref (eK E i)] h (xisv (.int 1) h) := by
  refine X_enter (L := [some (.ref (eK E i))]) (by decide +kernel) rfl rfl rfl ?_
  refine X_compact 0 rfl ⟨List.mem_of_getElem? (i := 352) (by decide +kernel), rfl⟩ dJ0_isLatin1_aae02_0 (X_ifeq 3 17 dJ0_isLatin1_aae02_3 (by decide) (fun q => by cases q) (fun _ => ?_))
  refine X_aload_0 6 dJ0_isLatin1_aae02_6 (X_getsc 7 i hi rfl ⟨List.mem_of_getElem? (i := 1752) (by decide +kernel), rfl⟩ dJ0_isLatin1_aae02_7 (X_ifne 10 17 dJ0_isLatin1_aae02_10 (by decide) (fun q => absurd rfl q) (fun _ => ?_)))
  exact X_ic 13 1 dJ0_isLatin1_aae02_13 rfl (X_goto 14 18 dJ0_isLatin1_aae02_14 (by decide) (X_iret 18 dJ0_isLatin1_aae02_18 rfl rfl rfl))
theorem CJ0_length (E : XG) (i : Nat) (h : XH) : XN E mJ0_length_8abf5 eI 0 0 [.ref (eK E i)] h (FJ0_length i h) := by
  intro r h' e
  obtain ⟨hi, e⟩ := xg_of e
  cases e
  obtain ⟨⟨-, hl⟩, -⟩ := sch_all i hi
  refine ⟨⟨Nat.le_refl _, Nat.le_refl _⟩, ?_⟩
  show XC E _ (xc h - xc h + 0) (xu h - xu h + 0) _ _ _
  rw [Nat.sub_self, Nat.sub_self]
  refine X_enter (L := [some (.ref (eK E i))]) (by decide +kernel) rfl rfl rfl ?_
  refine X_aload_0 0 dJ0_length_8abf5_0 (X_getsv 1 i hi rfl ⟨List.mem_of_getElem? (i := 1751) (by decide +kernel), rfl⟩ dJ0_length_8abf5_1 (X_slen 4 i hi dJ0_length_8abf5_4 (X_aload_0 5 dJ0_length_8abf5_5 ?_)))
  refine X_callVS (k := 0) (u := 0) (k' := 0) (u' := 0) 6 i (As := []) hi calJ0_coder_7d493 rfl imJ0_coder_7d493 seJ0_coder_7d493 mkJ0_335 rfl rfl rfl rfl rfl dJ0_length_8abf5_6 (wJ0_coder hi) (fun ec h1 q => by cases q) (fun v h2 z => ?_)
  cases z
  refine X_ishr 9 dJ0_length_8abf5_9 ?_
  have e0 : Int32.ofNat (lenJS.getD i 0) >>> ((0 : Int32) &&& 31) = Int32.ofNat (lenJS.getD i 0) := by
    rw [show ((0 : Int32) &&& 31) = 0 from rfl, Int32.shiftRight_zero]
  rw [e0]
  exact X_iret 10 dJ0_length_8abf5_10 rfl rfl rfl
theorem CJ0_charAt (E : XG) (i : Nat) (q : Int32) (h : XH) : XN E mJ0_charAt_5068e eI 0 0 [.ref (eK E i), .int q] h (FJ0_charAt i q h) := by
  intro r h' e
  obtain ⟨⟨hi, h0, h1⟩, e⟩ := xg_of e
  cases e
  obtain ⟨⟨-, hl⟩, hb⟩ := sch_all i hi
  obtain ⟨b1, b2⟩ := hb _ h1
  have h2 : q < Int32.ofNat (lenJS.getD i 0) := by
    obtain ⟨n, hn, rfl⟩ := nI_of (Int32.not_lt.mpr h0)
    rw [nI_clamp hn] at h1
    exact nI_lt h1 (by omega)
  refine ⟨⟨Nat.le_refl _, Nat.le_refl _⟩, ?_⟩
  show XC E _ (xc h - xc h + 0) (xu h - xu h + 0) _ _ _
  rw [Nat.sub_self, Nat.sub_self]
  refine X_enter (L := [some (.ref (eK E i)), some (.int q)]) (by decide +kernel) rfl rfl rfl ?_
  refine X_aload_0 0 dJ0_charAt_5068e_0 ?_
  refine X_callVS (k := 0) (u := 0) (k' := 0) (u' := 0) 1 i (As := []) hi calJ0_isLatin1_aae02 rfl imJ0_isLatin1_aae02 seJ0_isLatin1_aae02 mkJ0_492 rfl rfl rfl rfl rfl dJ0_charAt_5068e_1 (wJ0_isLatin1 hi) (fun ec h1 q => by cases q) (fun v h2 z => ?_)
  cases z
  refine X_ifeq 4 16 dJ0_charAt_5068e_4 (by decide) (fun q => by cases q) (fun _ => ?_)
  refine X_aload_0 7 dJ0_charAt_5068e_7 (X_getsv 8 i hi rfl ⟨List.mem_of_getElem? (i := 1751) (by decide +kernel), rfl⟩ dJ0_charAt_5068e_8 (X_iload_1 11 dJ0_charAt_5068e_11 ?_))
  refine X_callS (k := 0) (u := 0) (k' := 0) (u' := 0) 12 (As := [.ref (eV E i), .int q]) calJ1_charAt_3b067 stJ1_charAt_3b067 mkJ0_495 rfl rfl rfl rfl rfl dJ0_charAt_5068e_12 (wJ1_charAt hi h0 h1 ‹_›) (fun ec h1 q => by cases q) (fun v h2 z => ?_)
  cases z
  exact X_iret 15 dJ0_charAt_5068e_15 rfl b2 rfl
def FJ0_coder (i : Nat) (h : XH) : XP Int32 := xg (i < nJS) (xv 0 h)
theorem CJ0_coder (E : XG) (i : Nat) (h : XH) : XN E mJ0_coder_7d493 eI 0 0 [.ref (eK E i)] h (FJ0_coder i h) := by
  intro r h' e
  obtain ⟨hi, e⟩ := xg_of e
  cases e
  refine ⟨⟨Nat.le_refl _, Nat.le_refl _⟩, ?_⟩
  show XC E _ (xc h - xc h + 0) (xu h - xu h + 0) _ _ _
  rw [Nat.sub_self, Nat.sub_self]
  exact wJ0_coder hi
def FJ0_checkIndex (i n : Int32) (h : XH) : XP Unit := xg (0 ≤ i ∧ i < n) (xv () h)
theorem CJ0_checkIndex (E : XG) (i n : Int32) (h : XH) : XN E mJ0_checkIndex_df160 eU 0 0 [.int i, .int n] h (FJ0_checkIndex i n h) := by
  intro r h' e
  obtain ⟨⟨h0, h1⟩, e⟩ := xg_of e
  cases e
  refine ⟨⟨Nat.le_refl _, Nat.le_refl _⟩, ?_⟩
  show XC E _ (xc h - xc h + 0) (xu h - xu h + 0) _ _ _
  rw [Nat.sub_self, Nat.sub_self]
  exact wJ0_check h0 h1
section XJE
variable {E : XG} {M : XM} {α : Type} {en : α → Option Value} {a b : Nat} {L : List (Option Value)} {st : List Value} {h : XH} {mm : XP α}
theorem S_slen (pc i : Nat) (hi : i < nJS) (d : decode (mC M) pc = .ok (.arraylength, 1)) (kq : XS E M en a b (pc + 1) L (.int (Int32.ofNat (lenJS.getD i 0)) :: st) h mm) : XS E M en a b pc L (.ref (eV E i) :: st) h mm := fun r h' e => xs1 (X_slen pc i hi d) (kq r h' e)
theorem S_getsv (pc i : Nat) {idx : Nat} {own : String} (hi : i < nJS) (ho : own = (mY M).cls) (hw : xIn (.fieldLink own idx "java/lang/String" "value" "[B")) (d : decode (mC M) pc = .ok (.getfield idx, 3)) (kq : XS E M en a b (pc + 3) L (.ref (eV E i) :: st) h mm) : XS E M en a b pc L (.ref (eK E i) :: st) h mm := fun r h' e => xs1 (X_getsv pc i hi ho hw d) (kq r h' e)
end XJE

