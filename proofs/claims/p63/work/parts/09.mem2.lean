/-! Rows over the heap, second half: what is new, copies, constants. -/
set_option linter.unusedVariables false
section XNEW
variable {E : XG} {M : XM} {k u : Nat} {L : List (Option Value)} {st : List Value} {h : XH} {Q : XO → Prop}
theorem xS_new {A : Nat → Prop} {H0 H H1 : Heap} {locs : List Loc} (hS : va_S A H0 H locs) (z1 : H1.size = H.size + 1) (o1 : ∀ q : Nat, q < H.size → H1[q]? = H[q]?) : va_S A H0 H1 locs :=
  ⟨Nat.le_trans hS.1 (by omega), fun x h1 h2 => (o1 x (Nat.lt_of_lt_of_le h1 hS.1)).trans (hS.2.1 x h1 h2), hS.2.2⟩
theorem X_newB (pc : Nat) {idx ci N : Nat} {C own : String} {T : u_T} {tyc : Nat → FieldType} (ok : xok ci C T N tyc) (ho : own = (mY M).cls) (hcl : xIn (.classLink own idx C)) (hins : xIn (.instantiable C N)) (hini : xIn (.initialized C))
    (hd : ∀ j t, (xft ci)[j]? = some t → defaultValue (tyc j) = xfv (ya h (ci + 1) 0) (xt h) j t) (d : decode (mC M) pc = .ok (.new idx, 3)) (kq : XW E M k u (pc + 3) L (.ref (xt h) :: st) (ya h (ci + 1) 0) Q) : XW E M (k + 1) (u + N) pc L st h Q := by
  intro p e R s m args below meth c H locs cells slots ls F hR hS hl hc hs
  subst ho
  obtain ⟨o1, o2, o3, o4, o5, o6⟩ := ok
  have hts := F.env.words o2 args
  have hKn := F.env.2.1.1 ci _ o1
  refine W.newcK F.1 F.2.1 F.own (F.env.word hcl args) (F.env.word hins args) (F.env.word hini args) rfl d (by omega) (by omega) hKn.2.1 hR.1.1.symm fun H1 kC hkC e1 z1 g1 => ?_
  rw [hR.1.1] at z1 g1
  have hfv : ∀ j, j < N → defaultValue (tyc j) = vp_V (xfl (ya h (ci + 1) 0) (xt h) (xft ci) 0) j := by
    intro j hj
    have hj' : j < (xft ci).length := by rw [← o6]; exact hj
    have := hd j _ (List.getElem?_eq_getElem hj')
    unfold vp_V
    rw [List.getD_eq_getElem?_getD, xfl_get _ _ _ 0 j _ (List.getElem?_eq_getElem hj'), Nat.zero_add]
    exact this
  refine kq p e R s m args below meth c H1 locs (cells + 1) (slots + N) ls F (hR.new z1 g1 (ob27 o5 (by omega)).2 ?_) (xS_new hS z1 g1) hl (by omega) (by omega)
  rw [xen_obj (h := ya h (ci + 1) 0) (a := xt h) (by rw [xk_ya, if_pos rfl]) o5]
  exact ⟨_, o1, (u_born tyc hts (fun w hw => hw) hKn hkC e1 o3).to hfv⟩
theorem X_new (pc : Nat) (a0 : Nat) {idx ci N : Nat} {C own : String} {T : u_T} {tyc : Nat → FieldType} (ok : xok ci C T N tyc) (ho : own = (mY M).cls) (h0 : xk h a0 ≠ 0) (hcl : xIn (.classLink own idx C)) (hins : xIn (.instantiable C N)) (hini : xIn (.initialized C))
    (hd : ∀ j t, (xft ci)[j]? = some t → defaultValue (tyc j) = xfv (ya h (ci + 1) 0) (xt h) j t) (d : decode (mC M) pc = .ok (.new idx, 3)) (kq : XW E M k u (pc + 3) L (.ref (xt h) :: st) (ya h (ci + 1) 0) Q) : XW E M (k + 1) (u + N) pc L st h Q := by
  intro p e R s m args below meth c H locs cells slots ls F hR hS hl hc hs
  exact X_newB pc ok ho hcl hins hini hd d kq p e R s m args below meth c H locs cells slots ls F hR hS hl hc hs
theorem X_newB_int (pc : Nat) (N : Nat) {n : Int32} (hn : ¬ n < 0) (hN : n.toNatClampNeg = N) (hb : N ≤ 60000000) (hw : xIn (.arrayClass (newarray.typeOf .int))) (d : decode (mC M) pc = .ok (.newarray .int, 2)) (kq : XW E M k u (pc + 2) L (.ref (xt h) :: st) (ya h 12 N) Q) : XW E M (k + 1) (u + N) pc L (.int n :: st) h Q := by
  intro p e R s m args below meth c H locs cells slots ls F hR hS hl hc hs
  refine va_newaK F.1 F.2.1 (F.env.word hw args) rfl d rfl hn hN (by show N * 4 ≤ _; omega) (by omega) (by omega) hR.1.1.symm fun H1 cA e1 z1 g1 hAr hNm => ?_
  rw [hR.1.1] at z1 g1
  have hcA : cA = eC E 12 := Option.some.inj (hNm.symm.trans (F.env.2.1.2 1 _ rfl).2)
  subst hcA
  refine kq p e R s m args below meth c H1 locs (cells + 1) (slots + N) ls F (hR.new z1 g1 (by decide) ?_) (xS_new hS z1 g1) hl (by omega) (by omega)
  rw [xen_int (h := ya h 12 N) (a := xt h) (g := 12) (by rw [xk_ya, if_pos rfl]) (by decide), xn_ya, if_pos rfl]
  show H1[xt h]? = some (vp_cell _ _)
  rw [e1, vp_cell_i]
  congr 2
  funext j
  rw [xi_ya, if_pos rfl]
  rfl
theorem X_new_int (pc : Nat) (a0 N : Nat) {n : Int32} (h0 : xk h a0 ≠ 0) (hn : ¬ n < 0) (hN : n.toNatClampNeg = N) (hb : N ≤ 60000000) (hw : xIn (.arrayClass (newarray.typeOf .int))) (d : decode (mC M) pc = .ok (.newarray .int, 2)) (kq : XW E M k u (pc + 2) L (.ref (xt h) :: st) (ya h 12 N) Q) : XW E M (k + 1) (u + N) pc L (.int n :: st) h Q := by
  intro p e R s m args below meth c H locs cells slots ls F hR hS hl hc hs
  exact X_newB_int pc N hn hN hb hw d kq p e R s m args below meth c H locs cells slots ls F hR hS hl hc hs
theorem X_newB_byte (pc : Nat) (N : Nat) {n : Int32} (hn : ¬ n < 0) (hN : n.toNatClampNeg = N) (hb : N ≤ 60000000) (hw : xIn (.arrayClass (newarray.typeOf .byte))) (d : decode (mC M) pc = .ok (.newarray .byte, 2)) (kq : XW E M k u (pc + 2) L (.ref (xt h) :: st) (ya h 11 N) Q) : XW E M (k + 1) (u + N) pc L (.int n :: st) h Q := by
  intro p e R s m args below meth c H locs cells slots ls F hR hS hl hc hs
  refine va_newaK F.1 F.2.1 (F.env.word hw args) rfl d rfl hn hN (by show N * 1 ≤ _; omega) (by omega) (by omega) hR.1.1.symm fun H1 cA e1 z1 g1 hAr hNm => ?_
  rw [hR.1.1] at z1 g1
  have hcA : cA = eC E 11 := Option.some.inj (hNm.symm.trans (F.env.2.1.2 0 _ rfl).2)
  subst hcA
  refine kq p e R s m args below meth c H1 locs (cells + 1) (slots + N) ls F (hR.new z1 g1 (by decide) ?_) (xS_new hS z1 g1) hl (by omega) (by omega)
  rw [xen_int (h := ya h 11 N) (a := xt h) (g := 11) (by rw [xk_ya, if_pos rfl]) (by decide), xn_ya, if_pos rfl]
  show H1[xt h]? = some (vp_cell _ _)
  rw [e1, vp_cell_i]
  congr 2
  funext j
  rw [xi_ya, if_pos rfl]
  rfl
theorem X_new_byte (pc : Nat) (a0 N : Nat) {n : Int32} (h0 : xk h a0 ≠ 0) (hn : ¬ n < 0) (hN : n.toNatClampNeg = N) (hb : N ≤ 60000000) (hw : xIn (.arrayClass (newarray.typeOf .byte))) (d : decode (mC M) pc = .ok (.newarray .byte, 2)) (kq : XW E M k u (pc + 2) L (.ref (xt h) :: st) (ya h 11 N) Q) : XW E M (k + 1) (u + N) pc L (.int n :: st) h Q := by
  intro p e R s m args below meth c H locs cells slots ls F hR hS hl hc hs
  exact X_newB_byte pc N hn hN hb hw d kq p e R s m args below meth c H locs cells slots ls F hR hS hl hc hs
theorem X_newB_long (pc : Nat) (N : Nat) {n : Int32} (hn : ¬ n < 0) (hN : n.toNatClampNeg = N) (hb : N ≤ 60000000) (hw : xIn (.arrayClass (newarray.typeOf .long))) (d : decode (mC M) pc = .ok (.newarray .long, 2)) (kq : XW E M k u (pc + 2) L (.ref (xt h) :: st) (ya h 13 N) Q) : XW E M (k + 1) (u + N) pc L (.int n :: st) h Q := by
  intro p e R s m args below meth c H locs cells slots ls F hR hS hl hc hs
  refine va_newaK F.1 F.2.1 (F.env.word hw args) rfl d rfl hn hN (by show N * 8 ≤ _; omega) (by omega) (by omega) hR.1.1.symm fun H1 cA e1 z1 g1 hAr hNm => ?_
  rw [hR.1.1] at z1 g1
  have hcA : cA = eC E 13 := Option.some.inj (hNm.symm.trans (F.env.2.1.2 2 _ rfl).2)
  subst hcA
  refine kq p e R s m args below meth c H1 locs (cells + 1) (slots + N) ls F (hR.new z1 g1 (by decide) ?_) (xS_new hS z1 g1) hl (by omega) (by omega)
  rw [xen_long (h := ya h 13 N) (a := xt h) (by rw [xk_ya, if_pos rfl]), xn_ya, if_pos rfl]
  show H1[xt h]? = some (vp_cell _ _)
  rw [e1, vp_cell_l]
  congr 2
  funext j
  rw [xj_ya, if_pos rfl]
  rfl
theorem X_new_long (pc : Nat) (a0 N : Nat) {n : Int32} (h0 : xk h a0 ≠ 0) (hn : ¬ n < 0) (hN : n.toNatClampNeg = N) (hb : N ≤ 60000000) (hw : xIn (.arrayClass (newarray.typeOf .long))) (d : decode (mC M) pc = .ok (.newarray .long, 2)) (kq : XW E M k u (pc + 2) L (.ref (xt h) :: st) (ya h 13 N) Q) : XW E M (k + 1) (u + N) pc L (.int n :: st) h Q := by
  intro p e R s m args below meth c H locs cells slots ls F hR hS hl hc hs
  exact X_newB_long pc N hn hN hb hw d kq p e R s m args below meth c H locs cells slots ls F hR hS hl hc hs
theorem X_newq (pc : Nat) (a0 N g t0 : Nat) {idx : Nat} {C own : String} {n : Int32} (hg : xog g) (ht : (xtys E)[t0]? = some (eC E g, .object C)) (hao : ∀ U, xE E U → va_AO C U) (ho : own = (mY M).cls) (hcl : xIn (.classLink own idx C)) (hn : ¬ n < 0) (hN : n.toNatClampNeg = N) (hb : N ≤ 60000000) (d : decode (mC M) pc = .ok (.anewarray idx, 3)) (kq : XW E M k u (pc + 3) L (.ref (xt h) :: st) (ya h g N) Q) : XW E M (k + 1) (u + N) pc L (.int n :: st) h Q := by
  intro p e R s m args below meth c H locs cells slots ls F hR hS hl hc hs
  subst ho; subst hN
  refine W.anew F.1 F.2.1 F.own (F.env.word hcl args) (va_AO.use (hao s F.env)) rfl d rfl hn (by omega) (by omega) (by omega) fun cA kA comp f1 f2 f3 f4 => ?_
  generalize hH1 : H.push ({ cls := cA, slots := Array.replicate n.toNatClampNeg .null, vm := .none } : Cell) = H1
  have z1 : H1.size = H.size + 1 := by rw [← hH1, Array.size_push]
  have e1 : H1[H.size]? = some (arrV cA n.toNatClampNeg (fun _ => .null)) := by rw [← hH1, Array.getElem?_push_size, ← arrV_new]
  have g1 : ∀ q : Nat, q < H.size → H1[q]? = H[q]? := fun q hq => by rw [← hH1, Array.getElem?_push, if_neg (Nat.ne_of_lt hq)]
  obtain ⟨kA2, comp2, -, -, -, k4⟩ := (F.env.2.1.2 t0 _ ht).2
  have hcA : cA = eC E g := Option.some.inj (f1.symm.trans k4)
  subst hcA
  rw [← hR.1.1] at e1
  show W p (eL E) e R s m args below meth c H1 locs (cells + 1) (slots + n.toNatClampNeg) _ (F0 m (pc + 3) ls (.ref H.size :: st))
  rw [← hR.1.1]
  refine kq p e R s m args below meth c H1 locs (cells + 1) (slots + n.toNatClampNeg) ls F (hR.new z1 g1 (xog_of hg).2.2.1 ?_) (xS_new hS z1 g1) hl (by omega) (by omega)
  · rw [xen_ref (h := ya h g n.toNatClampNeg) (a := xt h) (g := g) (by rw [xk_ya, if_pos rfl]) hg, xn_ya, if_pos rfl]
    show H1[xt h]? = some (vp_cell _ _)
    rw [e1, vp_cell_q]
    congr 2
    funext j
    rw [xr_ya, if_pos rfl]
    rfl
theorem X_objinit (pc : Nat) {a idx : Nat} {own : String} (ho : own = (mY M).cls) (hl0 : xIn (.methodLink own idx Lib.objectInit)) (hi0 : xIn (.instanceMethod Lib.objectInit)) (hc0 : xIn (.code Lib.objectInit ⟨#[0xb1]⟩ 1 none)) (hf : 1 ≤ mF M) (hw : 22 ≤ mW M) (hst : (st.map fun v => v.category).sum ≤ 10) (d : decode (mC M) pc = .ok (.invokespecial idx, 3)) (kq : XW E M k u (pc + 3) L st h Q) : XW E M k u pc L (.ref a :: st) h Q := by
  intro p e R s m args below meth c H locs cells slots ls F hR hS hl hc hs
  subst ho
  exact W.objInit F.1 F.2.1 F.own (F.env.word hl0 args) (F.env.word hi0 args) (F.env.word hc0 args) rfl (by show ls.size = _; rw [hl.1, F.maxl]) rfl d (Nat.le_trans hf F.frames) (by have := F.locals; show 2 * 0 + _ + 12 ≤ R.locals; omega) (kq p e R s m args below meth c H locs cells slots ls F hR hS hl hc hs)
theorem X_ldcS (pc i : Nat) {idx : Nat} (hi : i < nJS) (ho : ownJS i = (mY M).cls) (hx : idxJS i = idx) (d : decode (mC M) pc = .ok (.ldc idx, 2)) (kq : XW E M k u (pc + 2) L (.ref (eK E i) :: st) h Q) : XW E M k u pc L st h Q := by
  intro p e R s m args below meth c H locs cells slots ls F hR hS hl hc hs
  subst hx
  exact va_ldcS F.1 F.2.1 (by rw [ho]; exact F.own) (F.env.2.2.2.2.1 i hi) d (kq p e R s m args below meth c H locs cells slots ls F hR hS hl hc hs)
theorem X_ldc2 (pc : Nat) {idx : Nat} {own : String} {v : Int64} (ho : own = (mY M).cls) (hw : xIn (.constantLong own idx v)) (d : decode (mC M) pc = .ok (.ldc2_w idx, 3)) (kq : XW E M k u (pc + 3) L (.long v :: st) h Q) : XW E M k u pc L st h Q := by
  intro p e R s m args below meth c H locs cells slots ls F hR hS hl hc hs
  subst ho
  exact lv_ldc2 F.1 F.2.1 F.own (F.env.word hw args) d (kq p e R s m args below meth c H locs cells slots ls F hR hS hl hc hs)
theorem X_ldcw (pc : Nat) {idx : Nat} {own : String} {v : Int32} (ho : own = (mY M).cls) (hw : xIn (.constant own idx v)) (d : decode (mC M) pc = .ok (.ldc_w idx, 3)) (kq : XW E M k u (pc + 3) L (.int v :: st) h Q) : XW E M k u pc L st h Q := by
  intro p e R s m args below meth c H locs cells slots ls F hR hS hl hc hs
  subst ho
  exact lv_ldcw F.1 F.2.1 F.own (F.env.word hw args) d (kq p e R s m args below meth c H locs cells slots ls F hR hS hl hc hs)
/-- the String constants: their fields, their bytes -/
theorem X_getsv (pc i : Nat) {idx : Nat} {own : String} (hi : i < nJS) (ho : own = (mY M).cls) (hw : xIn (.fieldLink own idx "java/lang/String" "value" "[B")) (d : decode (mC M) pc = .ok (.getfield idx, 3)) (kq : XW E M k u (pc + 3) L (.ref (eV E i) :: st) h Q) : XW E M k u pc L (.ref (eK E i) :: st) h Q := by
  intro p e R s m args below meth c H locs cells slots ls F hR hS hl hc hs
  subst ho
  exact vk_getf F.1 F.2.1 (F.stat.2.2.1 i hi).2.2.1 hS F.own (F.env.word hw args) (fun x hx => hx) d (kq p e R s m args below meth c H locs cells slots ls F hR hS hl hc hs)
theorem X_getsc (pc i : Nat) {idx : Nat} {own : String} (hi : i < nJS) (ho : own = (mY M).cls) (hw : xIn (.fieldLink own idx "java/lang/String" "coder" "B")) (d : decode (mC M) pc = .ok (.getfield idx, 3)) (kq : XW E M k u (pc + 3) L (.int 0 :: st) h Q) : XW E M k u pc L (.ref (eK E i) :: st) h Q := by
  intro p e R s m args below meth c H locs cells slots ls F hR hS hl hc hs
  subst ho
  exact vk_getf F.1 F.2.1 (F.stat.2.2.1 i hi).2.1 hS F.own (F.env.word hw args) (fun x hx => hx) d (kq p e R s m args below meth c H locs cells slots ls F hR hS hl hc hs)
theorem X_compact (pc : Nat) {idx : Nat} {own : String} (ho : own = (mY M).cls) (hw : xIn (.fieldLink own idx "java/lang/String" "COMPACT_STRINGS" "Z")) (d : decode (mC M) pc = .ok (.getstatic idx, 3)) (kq : XW E M k u (pc + 3) L (.int 1 :: st) h Q) : XW E M k u pc L st h Q := by
  intro p e R s m args below meth c H locs cells slots ls F hR hS hl hc hs
  subst ho
  exact va_gets F.1 F.2.1 F.stat.2.2.2.1 hS F.own (F.env.word hw args) (fun x hx => hx) d (kq p e R s m args below meth c H locs cells slots ls F hR hS hl hc hs)
/-- the copy of a stretch of ints -/
theorem X_copy (pc : Nat) {a b idx : Nat} {own : String} {sp dp n : Int32} (ho : own = (mY M).cls) (w1 : xIn (.methodLink own idx arraycopyName)) (w2 : xIn (.native arraycopyName)) (w3 : xIn (.static arraycopyName)) (w4 : xIn (.initialized "java/lang/System")) (hf : 1 ≤ mF M) (hw : (st.map fun v => v.category).sum + 30 ≤ mW M)
    (hka : xk h a = 12) (hkb : xk h b = 12) (h1 : ¬ sp < 0) (h2 : ¬ dp < 0) (h3 : ¬ n < 0) (h4 : sp.toNatClampNeg + n.toNatClampNeg ≤ xn h a) (h5 : dp.toNatClampNeg + n.toNatClampNeg ≤ xn h b) (d : decode (mC M) pc = .ok (.invokestatic idx, 3))
    (kq : XW E M k u (pc + 3) L st (yc h b (va_cpy (xi h a) (xi h b) sp.toNatClampNeg dp.toNatClampNeg n.toNatClampNeg)) Q) : XW E M k u pc L (.int n :: .int dp :: .ref b :: .int sp :: .ref a :: st) h Q := by
  intro p e R s m args below meth c H locs cells slots ls F hR hS hl hc hs
  subst ho
  have nn : ∀ z : Int32, ¬ z < 0 → z.toInt = (z.toNatClampNeg : Int) := by
    intro z hz
    have hz0 : (0 : Int) ≤ z.toInt := by
      have := Int32.not_lt.mp hz
      simpa using Int32.le_iff_toInt_le.mp this
    show z.toInt = ((z.toInt.toNat : Nat) : Int)
    omega
  have hk0 : xk h b ≠ 0 ∧ xk h b ≠ 27 := by rw [hkb]; decide
  intro T hT X
  have hc0 : H[a]? = some (vp_cell (eC E 12) (xn h a, .inl (xi h a))) := hR.cell (by rw [hka]; decide) (xen_int hka (by decide))
  have hc1 : H[b]? = some (vp_cell (eC E 12) (xn h b, .inl (xi h b))) := hR.cell hk0 (xen_int hkb (by decide))
  obtain ⟨-, k0, hk0', cm0, hkk0⟩ := (F.env.2.1.2 1 _ rfl).1 (xn h a) (fun j => .int (xi h a j))
  obtain ⟨-, k1, hk1, cm1, hkk1⟩ := (F.env.2.1.2 1 _ rfl).1 (xn h b) (fun j => .int (xi h b j))
  obtain ⟨vm', X', step⟩ := X.arraycopy F.1 F.own (F.env.word w1 args) (F.env.word w2 args) (F.env.word w3 args) (F.env.word w4 args) (src := a) (dst := b) (cs := vp_cell (eC E 12) (xn h a, .inl (xi h a))) (cd := vp_cell (eC E 12) (xn h b, .inl (xi h b))) (srcPos := sp) (destPos := dp) (n := n) (by rw [hT]; exact hc0) (by rw [hT]; exact hc1)
    (fun _ h => by cases h) (fun _ h => by cases h) (fun h => by cases h) (fun h => by cases h) hk0' hk1 hkk0 hkk1 (by simp [refKind]) h1 h2 h3
    (by rw [nn sp h1, nn n h3]; show ¬ _ > ((arrV (eC E 12) (xn h a) (fun j => .int (xi h a j))).slots.size : Int); rw [arrV_size]; omega)
    (by rw [nn dp h2, nn n h3]; show ¬ _ > ((arrV (eC E 12) (xn h b) (fun j => .int (xi h b j))).slots.size : Int); rw [arrV_size]; omega)
    (fun vm₁ _ i hi => by
      have e : (vp_cell (eC E 12) (xn h a, .inl (xi h a))).slots.getD (sp.toNatClampNeg + i) .null = .int (xi h a (sp.toNatClampNeg + i)) := by
        show (arrV (eC E 12) (xn h a) (fun j => .int (xi h a j))).slots.getD _ _ = _
        rw [Array.getD_eq_getD_getElem?, arrV_read _ _ (by omega)]
        rfl
      refine ⟨?_, ?_⟩
      · rw [e]
        rfl
      · rw [e]
        exact trivial)
    (g := F0 m pc ls (.int n :: .int dp :: .ref b :: .int sp :: .ref a :: st)) rfl (by show ls.size = _; rw [hl.1, F.maxl]) (rest := st) rfl (by rw [F.2.1]; exact d) (Nat.le_trans hf F.frames) (by have := F.locals; have e9 : nativeFrameWords "java/lang/System" "arraycopy" 5 + 11 ≤ 30 := (by decide +kernel); show 2 * 0 + _ + _ ≤ _; omega)
  have e1 : copied (vp_cell (eC E 12) (xn h a, .inl (xi h a))) (vp_cell (eC E 12) (xn h b, .inl (xi h b))) sp dp n = vp_cell (eC E 12) (xn h b, .inl (va_cpy (xi h a) (xi h b) sp.toNatClampNeg dp.toNatClampNeg n.toNatClampNeg)) := va_copied (fun z => .int z) (eC E 12) (eC E 12) (xi h a) (xi h b) h4
  rw [e1] at X' step
  have hl2 : b < H.size := (Array.getElem?_eq_some_iff.mp hc1).1
  generalize hcell : vp_cell (eC E 12) (xn h b, .inl (va_cpy (xi h a) (xi h b) sp.toNatClampNeg dp.toNatClampNeg n.toNatClampNeg)) = cellN at X' step
  have hheap : ((T.setVm vm').setCell b cellN).heap = H.setIfInBounds b cellN := by rw [← hT]; rfl
  have oq : ∀ q : Nat, q ≠ b → (H.setIfInBounds b cellN)[q]? = H[q]? := fun q hq => by simp [Array.getElem?_setIfInBounds, Ne.symm hq]
  obtain ⟨t, a1, b1⟩ := kq p e R s m args below meth c (H.setIfInBounds b cellN) _ cells slots ls F (hR.put (h' := yc h b (va_cpy (xi h a) (xi h b) sp.toNatClampNeg dp.toNatClampNeg n.toNatClampNeg)) hk0 (by simp) oq (by
      rw [xen_int (h := yc h b _) (a := b) (g := 12) hkb (by decide), xn_yc]
      show (H.setIfInBounds b cellN)[b]? = some (vp_cell _ _)
      rw [← hcell]
      have ef : xi (yc h b (va_cpy (xi h a) (xi h b) sp.toNatClampNeg dp.toNatClampNeg n.toNatClampNeg)) b = va_cpy (xi h a) (xi h b) sp.toNatClampNeg dp.toNatClampNeg n.toNatClampNeg := funext fun j => by rw [xi_yc, if_pos rfl]
      rw [ef]
      simp [Array.getElem?_setIfInBounds, hl2]) rfl (fun _ => rfl) (fun b' hb' => xen_yc h b _ hb')) ⟨by simp; exact hS.1, fun q g1 g2 => by
      rw [oq q (fun e => g2 (by rw [e]; exact xA_of hR hk0 (by rw [hkb]; decide)))]
      exact hS.2.1 q g1 g2, fun q hq => by
      rcases List.mem_append.mp hq with h | h
      · exact hS.2.2 q h
      · obtain ⟨z, -, hz⟩ := List.mem_map.mp h
        rw [← hz]
        exact xA_of hR hk0 (by rw [hkb]; decide)⟩ hl hc hs _ hheap X'
  exact ⟨t, step t a1, b1⟩
end XNEW
