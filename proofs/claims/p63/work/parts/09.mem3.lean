/-! Rows over the heap, third part: nest mates' fields, rows of rows, bytes, the script, what the JDK's texts want. -/
set_option linter.unusedVariables false
section XM3
variable {E : XG} {M : XM} {k u : Nat} {L : List (Option Value)} {st : List Value} {h : XH} {Q : XO → Prop}
theorem X_getVN (pc : Nat) {a idx ci kk t : Nat} {own : String} {v : Value} (f : xfn own idx ci kk t) (ho : own = (mY M).cls) (hk : xk h a = ci + 1) (hv : xfv h a kk t = v) (d : decode (mC M) pc = .ok (.getfield idx, 3)) (kq : XW E M k u (pc + 3) L (v :: st) h Q) : XW E M k u pc L (.ref a :: st) h Q := by
  intro p e R s m args below meth c H locs cells slots ls F hR hS hl hc hs
  subst ho
  obtain ⟨C, T, N, tyc, host, ⟨o1, o2, o3, o4, o5, o6⟩, f1, f2, f3⟩ := f
  exact va_getN F.1 F.2.1 (F.env.words o2 args) (fun w hw => hw) F.own F.env.2.1 (hR.at (by rw [hk]; exact ob27 o5 (by omega)) (xen_obj hk o5)) 0 rfl o1 kk f1 (va_Nw.use rfl (F.env.2.2.1.2.2.2.2.1 _ f3)) (fun x hx => hx) (by rw [xfl_get h a _ 0 kk t f2, Nat.zero_add, hv]) d (kq p e R s m args below meth c H locs cells slots ls F hR hS hl hc hs)
theorem X_getIN (pc : Nat) {a idx ci kk : Nat} {own : String} (f : xfn own idx ci kk 0) (ho : own = (mY M).cls) (hk : xk h a = ci + 1) (d : decode (mC M) pc = .ok (.getfield idx, 3)) (kq : XW E M k u (pc + 3) L (.int (xi h a kk) :: st) h Q) : XW E M k u pc L (.ref a :: st) h Q := X_getVN pc f ho hk rfl d kq
theorem X_getRN (pc : Nat) {a w idx ci kk : Nat} {own : String} (f : xfn own idx ci kk 2) (ho : own = (mY M).cls) (hk : xk h a = ci + 1) (hw : xr h a kk = some w) (d : decode (mC M) pc = .ok (.getfield idx, 3)) (kq : XW E M k u (pc + 3) L (.ref w :: st) h Q) : XW E M k u pc L (.ref a :: st) h Q := X_getVN pc f ho hk (by show va_rf _ = _; rw [hw]; rfl) d kq
theorem X_areta (pc : Nat) {a : Nat} (d : decode (mC M) pc = .ok (.areturn, 1)) {t : FieldType} (hr : mR M = some (.array t)) (hq : Q (.inl (some (.ref a)), h)) : XW E M k u pc L [.ref a] h Q := by
  intro p e R s m args below meth c H locs cells slots ls F hR hS hl hc hs
  refine W.widen (k := R.cells) (n := R.slots) (by omega) (by omega) (vx_ret ?_)
  exact W.aret F.1 F.2.1 (F.2.2.1.trans hr) (Or.inr ⟨t, rfl⟩) (Or.inr ⟨a, rfl⟩) (fun t ht hW => ⟨⟨_, _, rfl, hq, by rw [ht]; exact hR⟩, hS.F ht⟩) hS.2.2 d F.2.2.2.1
/-- the rows of kind g hold rows of kind gv -/
def xrow (E : XG) (g gv : Nat) (t : FieldType) : Prop := ∀ U, xE E U → ∃ kA kC : Class, U.vm.classes[eC E g]? = some kA ∧ kA.kind = .array (eC E gv) (.array t) ∧ U.vm.classes[eC E gv]? = some kC
theorem xrow_of {g gv tg tv : Nat} {t : FieldType} (htg : (xtys E)[tg]? = some (eC E g, .array t)) (htv : (xtys E)[tv]? = some (eC E gv, t)) (hra : ∀ U, va_RA U (eC E gv) t → U.vm.findClass (FieldType.array t).toString = some (eC E gv)) (hao : ∀ U, xE E U → (Cond.arrayOver (.array t)).before #[] U = true) : xrow E g gv t := by
  intro U hU
  obtain ⟨comp, cA, kA, h1, h3, h4, h5⟩ := Cond.arrayOver_specA (args := #[]) (first := U) (o := none) (s := U) (idx := []) (hao U hU)
  have e1 : U.vm.findClass ("[" ++ (FieldType.array t).toString) = some (eC E g) := (hU.2.1.2 tg _ htg).2
  have e2 := hra U (hU.2.1.2 tv _ htv).2
  cases Option.some.inj (h5.symm.trans e1)
  cases Option.some.inj (h1.symm.trans e2)
  obtain ⟨kC, hkC, -⟩ := Vm.findClass_spec e2
  exact ⟨kA, kC, h3, h4, hkC⟩
theorem xrow18 : xrow E 18 12 .int := xrow_of (tg := 7) (tv := 1) rfl rfl (fun U h => h) (fun U h => h.2.2.2.1.2.2.2.1)
theorem xrow19 : xrow E 19 18 (.array .int) := xrow_of (tg := 8) (tv := 7) rfl rfl (fun U h => h) (fun U h => h.2.2.2.1.2.2.2.2.1)
theorem X_aastA (pc : Nat) {a v g gv : Nat} {t : FieldType} {x : vp_A} {i : Int32} (hk : xk h a = g) (hg : xog g) (hrow : xrow E g gv t) (hv0 : xk h v ≠ 0 ∧ xk h v ≠ 27) (hv : xen E h v = .inl (eC E gv, x)) (hin : vp_in i (xn h a)) (d : decode (mC M) pc = .ok (.aastore, 1)) (kq : XW E M k u (pc + 1) L st (yr h a i.toNatClampNeg (some v)) Q) : XW E M k u pc L (.ref v :: .int i :: .ref a :: st) h Q := by
  intro p e R s m args below meth c H locs cells slots ls F hR hS hl hc hs
  have hk0 : xk h a ≠ 0 ∧ xk h a ≠ 27 := by rw [hk]; exact ⟨(xog_of hg).2.2.2.2, (xog_of hg).2.2.1⟩
  have hlt : i.toNatClampNeg < xn h a := Nat.not_le.mp fun q => hin (Or.inr q)
  have h0 : ¬ i < 0 := fun q => hin (Or.inl q)
  have hat : H[a]? = some (vp_cell (eC E g) (xn h a, .inr (.inr (.inr (.inr (xr h a)))))) := hR.cell hk0 (xen_ref hk hg)
  have hcv : H[v]? = some (vp_cell (eC E gv) x) := hR.cell hv0 hv
  have hvm0 : (vp_cell (eC E gv) x).vm = .none := by obtain ⟨n, f | f | f | f | f⟩ := x <;> rfl
  have hcl0 : (vp_cell (eC E gv) x).cls = eC E gv := by obtain ⟨n, f | f | f | f | f⟩ := x <;> rfl
  obtain ⟨kA, kC, k1, k2, hkC⟩ := hrow s F.env
  refine W.aast F.1 F.2.1 hat (fun q h => by cases h) (fun h => by cases h) k1 k2 rfl hkC ⟨h0, by show _ < (arrV _ _ _).slots.size; rw [arrV_size]; exact hlt⟩ hcv (fun q h => by rw [hvm0] at h; cases h) (by rw [hcl0]; exact hkC) (by rw [hcl0]; exact va_asg _ _) rfl rfl d fun H1 e1 z oq => ?_
  refine kq p e R s m args below meth c H1 _ cells slots ls F (hR.put hk0 z oq ?_ rfl (fun _ => rfl) (fun b hb => xen_yr h a _ _ hb)) (hS.put z oq (xA_of hR hk0 (by rw [hk]; exact (xog_of hg).2.2.1))) hl hc hs
  rw [xen_ref (h := yr h a i.toNatClampNeg (some v)) (a := a) (g := g) hk hg]
  show H1[a]? = some (vp_cell _ _)
  rw [e1, vp_cell_q, vp_cell_q, arrV_store, xn_yr]
  congr 2
  funext q
  show _ = va_rf (xr _ _ _)
  by_cases hq : q = i.toNatClampNeg
  · subst hq
    simp [updV, xr_yr, va_rf]
  · simp [updV, xr_yr, hq]
theorem X_newqA (pc N g t0 : Nat) {idx : Nat} {own : String} {t : FieldType} {n : Int32} (hg : xog g) (ht : (xtys E)[t0]? = some (eC E g, .array t)) (hao : ∀ U, xE E U → (Cond.arrayOver (.array t)).before #[] U = true) (ho : own = (mY M).cls) (hcl : xIn (.classLink own idx (FieldType.array t).toString)) (hn : ¬ n < 0) (hN : n.toNatClampNeg = N) (hb : N ≤ 60000000) (d : decode (mC M) pc = .ok (.anewarray idx, 3)) (kq : XW E M k u (pc + 3) L (.ref (xt h) :: st) (ya h g N) Q) : XW E M (k + 1) (u + N) pc L (.int n :: st) h Q := by
  intro p e R s m args below meth c H locs cells slots ls F hR hS hl hc hs
  subst ho; subst hN
  refine W.anewA F.1 F.2.1 F.own (F.env.word hcl args) (hao s F.env) rfl d rfl hn (by omega) (by omega) (by omega) fun cA kA comp f1 f2 f3 f4 => ?_
  generalize hH1 : H.push ({ cls := cA, slots := Array.replicate n.toNatClampNeg .null, vm := .none } : Cell) = H1
  have z1 : H1.size = H.size + 1 := by rw [← hH1, Array.size_push]
  have e1 : H1[H.size]? = some (arrV cA n.toNatClampNeg (fun _ => .null)) := by rw [← hH1, Array.getElem?_push_size, ← arrV_new]
  have g1 : ∀ q : Nat, q < H.size → H1[q]? = H[q]? := fun q hq => by rw [← hH1, Array.getElem?_push, if_neg (Nat.ne_of_lt hq)]
  have k4 : s.vm.findClass ("[" ++ (FieldType.array t).toString) = some (eC E g) := (F.env.2.1.2 t0 _ ht).2
  have hcA : cA = eC E g := Option.some.inj (f1.symm.trans k4)
  subst hcA
  rw [← hR.1.1] at e1
  show W p (eL E) e R s m args below meth c H1 locs (cells + 1) (slots + n.toNatClampNeg) _ (F0 m (pc + 3) ls (.ref H.size :: st))
  rw [← hR.1.1]
  refine kq p e R s m args below meth c H1 locs (cells + 1) (slots + n.toNatClampNeg) ls F (hR.new z1 g1 (xog_of hg).2.2.1 ?_) (xS_new hS z1 g1) hl (by omega) (by omega)
  rw [xen_ref (h := ya h g n.toNatClampNeg) (a := xt h) (g := g) (by rw [xk_ya, if_pos rfl]) hg, xn_ya, if_pos rfl]
  show H1[xt h]? = some (vp_cell _ _)
  rw [e1, vp_cell_q]
  congr 2
  funext j
  rw [xr_ya, if_pos rfl]
  rfl
/-- the script -/
theorem X_qlen (pc : Nat) {a : Nat} (hk : xk h a = 27) (d : decode (mC M) pc = .ok (.arraylength, 1)) (kq : XW E M k u (pc + 1) L (.int (Int32.ofNat (xn h a)) :: st) h Q) : XW E M k u pc L (.ref a :: st) h Q := by
  intro p e R s m args below meth c H locs cells slots ls F hR hS hl hc hs
  obtain ⟨n, f, e0, scr, h1, h2, h3, h4, h5, h6⟩ := (hR.2 a (by rw [hk]; decide)).2.2 hk
  have e0 : xen E h a = .inl (eC E 12, n, .inl f) := e0
  rw [xen_scr hk] at e0
  injection e0 with e0
  injection e0 with _ e0
  injection e0 with e1 e2
  have hA : s.isArrayOf scr .int := ⟨h3, by rw [h2]; exact (F.env.2.2.2.2.2 0 (fun _ => .null)).2⟩
  exact W.alen (n := Int32.ofNat (xn h a)) F.1 F.2.1 h1 hA (by rw [h5, e1]) rfl rfl d (kq p e R s m args below meth c H locs cells slots ls F hR hS hl hc hs)
theorem X_qald (pc : Nat) {a : Nat} {i : Int32} (hk : xk h a = 27) (hin : vp_in i (xn h a)) (d : decode (mC M) pc = .ok (.iaload, 1)) (kq : XW E M k u (pc + 1) L (.int (xi h a i.toNatClampNeg) :: st) h Q) : XW E M k u pc L (.int i :: .ref a :: st) h Q := by
  intro p e R s m args below meth c H locs cells slots ls F hR hS hl hc hs
  have hlt : i.toNatClampNeg < xn h a := Nat.not_le.mp fun q => hin (Or.inr q)
  obtain ⟨n, f, e0, scr, h1, h2, h3, h4, h5, h6⟩ := (hR.2 a (by rw [hk]; decide)).2.2 hk
  have e0 : xen E h a = .inl (eC E 12, n, .inl f) := e0
  rw [xen_scr hk] at e0
  injection e0 with e0
  injection e0 with _ e0
  injection e0 with e1 e2
  injection e2 with e2
  subst e1
  subst e2
  have hA : s.isArrayOf scr .int := ⟨h3, by rw [h2]; exact (F.env.2.2.2.2.2 0 (fun _ => .null)).2⟩
  exact W.iald (v := .int (xi h a i.toNatClampNeg)) F.1 F.2.1 h1 hA h4 (by rw [h5]; exact hin) (h6 _ hlt) rfl rfl d (kq p e R s m args below meth c H locs cells slots ls F hR hS hl hc hs)
theorem X_ineg (pc : Nat) {x : Int32} (d : decode (mC M) pc = .ok (.ineg, 1)) (kk : XW E M k u (pc + 1) L (.int (-x) :: st) h Q) : XW E M k u pc L (.int x :: st) h Q := by
  intro p e R s m args below meth c H locs cells slots ls F hR hS hl hc hs
  exact lv_ineg F.1 F.2.1 d (kk p e R s m args below meth c H locs cells slots ls F hR hS hl hc hs)
theorem X_dup_x1 (pc : Nat) {va vb : Value} (d : decode (mC M) pc = .ok (.dup_x1, 1)) (hva : va.category = 1) (hvb : vb.category = 1) (kk : XW E M k u (pc + 1) L (va :: vb :: va :: st) h Q) : XW E M k u pc L (va :: vb :: st) h Q := by
  intro p e R s m args below meth c H locs cells slots ls F hR hS hl hc hs
  exact lv_dup_x1 F.1 F.2.1 d hva hvb (kk p e R s m args below meth c H locs cells slots ls F hR hS hl hc hs)
theorem X_null (pc : Nat) (d : decode (mC M) pc = .ok (.aconst_null, 1)) (kk : XW E M k u (pc + 1) L (.null :: st) h Q) : XW E M k u pc L st h Q := by
  intro p e R s m args below meth c H locs cells slots ls F hR hS hl hc hs
  exact lv_null F.1 F.2.1 d (kk p e R s m args below meth c H locs cells slots ls F hR hS hl hc hs)
theorem X_ifnn (pc tgt : Nat) {x : Nat} {off : Int} (d : decode (mC M) pc = .ok (.ifnonnull off, 3)) (ht : (pc : Int) + off = (tgt : Int)) (kt : XW E M k u tgt L st h Q) : XW E M k u pc L (.ref x :: st) h Q := by
  intro p e R s m args below meth c H locs cells slots ls F hR hS hl hc hs
  exact lv_ifnonnull F.1 F.2.1 d ht (kt p e R s m args below meth c H locs cells slots ls F hR hS hl hc hs)
theorem X_ldci (pc : Nat) {idx : Nat} {own : String} {v : Int32} (ho : own = (mY M).cls) (hw : xIn (.constant own idx v)) (d : decode (mC M) pc = .ok (.ldc idx, 2)) (kq : XW E M k u (pc + 2) L (.int v :: st) h Q) : XW E M k u pc L st h Q := by
  intro p e R s m args below meth c H locs cells slots ls F hR hS hl hc hs
  subst ho
  exact lv_ldc F.1 F.2.1 F.own (F.env.word hw args) d (kq p e R s m args below meth c H locs cells slots ls F hR hS hl hc hs)
theorem X_ldcwS (pc i : Nat) {idx : Nat} (hi : i < nJS) (ho : ownJS i = (mY M).cls) (hx : idxJS i = idx) (d : decode (mC M) pc = .ok (.ldc_w idx, 3)) (kq : XW E M k u (pc + 3) L (.ref (eK E i) :: st) h Q) : XW E M k u pc L st h Q := by
  intro p e R s m args below meth c H locs cells slots ls F hR hS hl hc hs
  subst hx
  intro T hT X
  obtain ⟨t, a1, b1⟩ := kq p e R s m args below meth c H locs cells slots ls F hR hS hl hc hs T hT X
  have hz := F.env.2.2.2.2.1 i hi
  exact ⟨t, X.ldcStringW F.1 (own := ownJS i) (text := texJS i) (index := idxJS i) (a := eK E i) (by rw [ho]; exact F.own) hz.1 hz.2 (g := F0 m pc ls st) rfl (by rw [F.2.1]; exact d) t a1, b1⟩
/-- the digits' row -/
theorem X_ones (pc : Nat) {idx : Nat} {own : String} (ho : own = (mY M).cls) (hw : xIn (.fieldLink own idx "java/lang/Integer" "DigitOnes" "[B")) (d : decode (mC M) pc = .ok (.getstatic idx, 3)) (kq : XW E M k u (pc + 3) L (.ref (eV E nJS) :: st) h Q) : XW E M k u pc L st h Q := by
  intro p e R s m args below meth c H locs cells slots ls F hR hS hl hc hs
  subst ho
  exact va_gets F.1 F.2.1 F.stat.2.2.2.2.2.1 hS F.own (F.env.word hw args) (fun x hx => hx) d (kq p e R s m args below meth c H locs cells slots ls F hR hS hl hc hs)
theorem X_oald (pc : Nat) {q : Int32} (hin : vp_in q 100) (d : decode (mC M) pc = .ok (.baload, 1)) (kq : XW E M k u (pc + 1) L (.int (nI (48 + q.toNatClampNeg % 10)) :: st) h Q) : XW E M k u pc L (.int q :: .ref (eV E nJS) :: st) h Q := by
  intro p e R s m args below meth c H locs cells slots ls F hR hS hl hc hs
  exact va_tb F.1 F.2.1 F.stat.2.2.2.2.2.2 hS hin rfl d (kq p e R s m args below meth c H locs cells slots ls F hR hS hl hc hs)
/-- a byte field -/
theorem X_putB (pc : Nat) {a idx ci kk : Nat} {own : String} {fin : Bool} {x : Int32} (f : xfr own idx ci kk 0 fin .byte) (ho : own = (mY M).cls) (hi : fin = true → (mY M).name = "<init>") (hk : xk h a = ci + 1) (hx : x = 0) (d : decode (mC M) pc = .ok (.putfield idx, 3)) (kq : XW E M k u (pc + 3) L st (yi h a kk x) Q) : XW E M k u pc L (.int x :: .ref a :: st) h Q := by
  subst hx
  exact X_putV (h' := yi h a kk 0) pc f ho hi hk rfl rfl rfl (fun _ => rfl) (fun b hb => xen_yi h a kk 0 hb) (xfv_yi h a kk 0) (fun i t' hne => xfv_ext (by rw [xi_yi, if_neg (fun q => hne q.2)]) rfl rfl) d kq
/-- a row of bytes cloned -/
theorem X_clone (pc : Nat) {a idx : Nat} {own : String} (hk : xk h a = 11) (ho : own = (mY M).cls) (hl0 : xIn (.methodLink own idx ⟨"[B", "clone", "()Ljava/lang/Object;"⟩)) (hsm : xIn (.sameMethod "[B" "java/lang/Object" "clone" "()Ljava/lang/Object;")) (hnat : xIn (.native ⟨"java/lang/Object", "clone", "()Ljava/lang/Object;"⟩)) (hinst : xIn (.instanceMethod ⟨"java/lang/Object", "clone", "()Ljava/lang/Object;"⟩)) (hsel : xIn (.selects "[B" ⟨"[B", "clone", "()Ljava/lang/Object;"⟩ ⟨"java/lang/Object", "clone", "()Ljava/lang/Object;"⟩))
    (hfit : ∀ i, i < xn h a → fits .byte (.int (xi h a i)) = true) (hf : 1 ≤ mF M) (hw : (st.map fun v => v.category).sum + 14 ≤ mW M) (d : decode (mC M) pc = .ok (.invokevirtual idx, 3)) (kq : XW E M k u (pc + 3) L (.ref (xt h) :: st) (yc (ya h 11 (xn h a)) (xt h) (xi h a)) Q) : XW E M (k + 1) (u + xn h a) pc L (.ref a :: st) h Q := by
  intro p e R s m args below meth c H locs cells slots ls F hR hS hl hc hs
  subst ho
  have hk0 : xk h a ≠ 0 ∧ xk h a ≠ 27 := by rw [hk]; decide
  have hne : a ≠ xt h := by have := hR.lt hk0.1; rw [← hR.1.1] at this; exact Nat.ne_of_lt this
  have hcell : H[a]? = some (vp_cell (eC E 11) (xn h a, .inl (xi h a))) := hR.cell hk0 (xen_int hk (by decide))
  have hnm : s.vm.findClass "[B" = some (eC E 11) := (F.env.2.1.2 0 _ rfl).2
  obtain ⟨c0, t0', f1, f2, f3⟩ := Cond.castable_spec (va_Nw.use (A := args) rfl F.env.2.2.1.2.2.2.2.2.1)
  cases hnm.symm.trans f1
  intro T hT X
  have hcellT : T.heap[a]? = some (vp_cell (eC E 11) (xn h a, .inl (xi h a))) := by rw [hT]; exact hcell
  obtain ⟨-, kA, hkA, comp, hkind⟩ := State.isArrayOf_alike X.warmed.alike ((F.env.2.1.2 0 _ rfl).1 0 (fun _ => .null))
  obtain ⟨-, kS, hkS, compS, hkindS⟩ := (F.env.2.1.2 0 _ rfl).1 0 (fun _ => .null)
  have hsz : (vp_cell (eC E 11) (xn h a, .inl (xi h a))).slots.size = xn h a := arrV_size _ _ _
  obtain ⟨vm', X', stp⟩ := X.cloneArray F.1 F.own (F.env.word hl0 args) (F.env.word hsm args) (F.env.word hnat args) (F.env.word hinst args) (F.env.word hsel args) (a := a) (cell := vp_cell (eC E 11) (xn h a, .inl (xi h a))) hcellT (fun k h => by cases h) (fun h => by cases h) hnm f2 f3
    (fun i v hv => by
      have hk' : T.vm.classes[eC E 11]? = some kA := hkA
      have hi : i < xn h a := by rw [← hsz]; exact (Array.getElem?_eq_some_iff.mp hv).1
      have hv2 : v = .int (xi h a i) := by
        have e9 : (arrV (eC E 11) (xn h a) fun j => .int (xi h a j)).slots[i]? = some v := hv
        rw [arrV_read _ _ hi] at e9
        exact (Option.some.inj e9).symm
      have := hfit i hi
      rw [← hv2] at this
      show T.fitsSlot (eC E 11) .none i v = true
      simpa [State.fitsSlot, State.slotType?, hk', hkind] using this)
    (g := F0 m pc ls (.ref a :: st)) rfl (by show ls.size = _; rw [hl.1, F.maxl]) rfl (by rw [F.2.1]; exact d) (Nat.le_trans hf F.frames) (by have := F.locals; show 2 * 0 + _ + 14 ≤ _; omega) (by omega) (by rw [hsz]; omega) (hloader := Vm.clonesLoader_of_array hkS hkindS)
  rw [hsz] at X'
  generalize hH1 : H.push (vp_cell (eC E 11) (xn h a, .inl (xi h a))) = H1
  have z1 : H1.size = H.size + 1 := by rw [← hH1, Array.size_push]
  have e1 : H1[H.size]? = some (vp_cell (eC E 11) (xn h a, .inl (xi h a))) := by rw [← hH1, Array.getElem?_push_size]
  have g1 : ∀ q : Nat, q < H.size → H1[q]? = H[q]? := fun q hq => by rw [← hH1, Array.getElem?_push, if_neg (Nat.ne_of_lt hq)]
  have hR1 : xR E (yc (ya h 11 (xn h a)) (xt h) (xi h a)) H1 := by
    refine ⟨⟨by rw [xt_yc, xt_ya, hR.1.1, z1], by rw [z1]; have := hR.1.2; omega⟩, fun b hb => ?_⟩
    by_cases eb : b = xt h
    · subst eb
      refine ⟨fun _ => by rw [hR.1.1]; exact hR.1.2, xat_of (by rw [xk_yc, xk_ya, if_pos rfl]; decide) ?_⟩
      rw [xen_int (h := yc (ya h 11 (xn h a)) (xt h) (xi h a)) (a := xt h) (g := 11) (by rw [xk_yc, xk_ya, if_pos rfl]) (by decide)]
      show H1[xt h]? = some (vp_cell _ _)
      have ef : xi (yc (ya h 11 (xn h a)) (xt h) (xi h a)) (xt h) = xi h a := funext fun j => by rw [xi_yc, if_pos rfl]
      rw [ef, xn_yc, xn_ya, if_pos rfl, hR.1.1]
      exact e1
    · have ek : xk (yc (ya h 11 (xn h a)) (xt h) (xi h a)) b = xk h b := by rw [xk_yc, xk_ya, if_neg eb]
      rw [ek] at hb
      refine ⟨fun q => (hR.2 b hb).1 (by rw [← ek]; exact q), ?_⟩
      rw [xen_yc _ _ _ eb, xen_ya h 11 _ eb, ek]
      exact (hR.2 b hb).2.kept (g1 b (hR.lt hb))
  obtain ⟨t, b1, b2⟩ := kq p e R s m args below meth c H1 locs (cells + 1) (slots + xn h a) ls F hR1 (xS_new hS z1 g1) hl (by omega) (by omega) _ (by show (T.heap.push _) = _; rw [hT]; exact hH1) X'
  refine ⟨t, stp _ ?_, b2⟩
  have ea : xt h = T.heap.size := by rw [hT]; exact hR.1.1
  rw [ea] at b1
  exact b1
theorem X_castB (pc : Nat) {a idx : Nat} {own : String} (hk : xk h a = 11) (ho : own = (mY M).cls) (hl0 : xIn (.classLink own idx "[B")) (d : decode (mC M) pc = .ok (.checkcast idx, 3)) (kq : XW E M k u (pc + 3) L (.ref a :: st) h Q) : XW E M k u pc L (.ref a :: st) h Q := by
  intro p e R s m args below meth c H locs cells slots ls F hR hS hl hc hs
  subst ho
  exact va_castA F.1 F.2.1 F.own (F.env.word hl0 args) (hR.at (by rw [hk]; decide) (xen_int hk (by decide))) 0 rfl (F.env.2.1.2 0 _ rfl).2 d (kq p e R s m args below meth c H locs cells slots ls F hR hS hl hc hs)
/-- the copy of a stretch of bytes -/
theorem X_bcopy (pc : Nat) {a b idx : Nat} {own : String} {sp dp n : Int32} (ho : own = (mY M).cls) (w1 : xIn (.methodLink own idx arraycopyName)) (w2 : xIn (.native arraycopyName)) (w3 : xIn (.static arraycopyName)) (w4 : xIn (.initialized "java/lang/System")) (hf : 1 ≤ mF M) (hw : (st.map fun v => v.category).sum + 30 ≤ mW M)
    (hka : xk h a = 11) (hkb : xk h b = 11) (h1 : ¬ sp < 0) (h2 : ¬ dp < 0) (h3 : ¬ n < 0) (h4 : sp.toNatClampNeg + n.toNatClampNeg ≤ xn h a) (h5 : dp.toNatClampNeg + n.toNatClampNeg ≤ xn h b) (hfit : ∀ i, i < n.toNatClampNeg → fits .byte (.int (xi h a (sp.toNatClampNeg + i))) = true) (d : decode (mC M) pc = .ok (.invokestatic idx, 3))
    (kq : XW E M k u (pc + 3) L st (yc h b (va_cpy (xi h a) (xi h b) sp.toNatClampNeg dp.toNatClampNeg n.toNatClampNeg)) Q) : XW E M k u pc L (.int n :: .int dp :: .ref b :: .int sp :: .ref a :: st) h Q := by
  intro p e R s m args below meth c H locs cells slots ls F hR hS hl hc hs
  subst ho
  have nn : ∀ z : Int32, ¬ z < 0 → z.toInt = (z.toNatClampNeg : Int) := by
    intro z hz
    have hz0 : (0 : Int) ≤ z.toInt := by
      have := Int32.not_lt.mp hz
      simpa using Int32.le_iff_toInt_le.mp this
    show z.toInt = ((z.toInt.toNat : Nat) : Int)
    omega
  have hk0 : xk h b ≠ 0 ∧ xk h b ≠ 27 := by rw [hkb]; decide
  intro T hT X
  have hc0 : H[a]? = some (vp_cell (eC E 11) (xn h a, .inl (xi h a))) := hR.cell (by rw [hka]; decide) (xen_int hka (by decide))
  have hc1 : H[b]? = some (vp_cell (eC E 11) (xn h b, .inl (xi h b))) := hR.cell hk0 (xen_int hkb (by decide))
  obtain ⟨-, k0, hk0', cm0, hkk0⟩ := (F.env.2.1.2 0 _ rfl).1 (xn h a) (fun j => .int (xi h a j))
  obtain ⟨-, k1, hk1, cm1, hkk1⟩ := (F.env.2.1.2 0 _ rfl).1 (xn h b) (fun j => .int (xi h b j))
  obtain ⟨vm', X', step⟩ := X.arraycopy F.1 F.own (F.env.word w1 args) (F.env.word w2 args) (F.env.word w3 args) (F.env.word w4 args) (src := a) (dst := b) (cs := vp_cell (eC E 11) (xn h a, .inl (xi h a))) (cd := vp_cell (eC E 11) (xn h b, .inl (xi h b))) (srcPos := sp) (destPos := dp) (n := n) (by rw [hT]; exact hc0) (by rw [hT]; exact hc1)
    (fun _ h => by cases h) (fun _ h => by cases h) (fun h => by cases h) (fun h => by cases h) hk0' hk1 hkk0 hkk1 (by simp [refKind]) h1 h2 h3
    (by rw [nn sp h1, nn n h3]; show ¬ _ > ((arrV (eC E 11) (xn h a) (fun j => .int (xi h a j))).slots.size : Int); rw [arrV_size]; omega)
    (by rw [nn dp h2, nn n h3]; show ¬ _ > ((arrV (eC E 11) (xn h b) (fun j => .int (xi h b j))).slots.size : Int); rw [arrV_size]; omega)
    (fun vm₁ _ i hi => by
      have e : (vp_cell (eC E 11) (xn h a, .inl (xi h a))).slots.getD (sp.toNatClampNeg + i) .null = .int (xi h a (sp.toNatClampNeg + i)) := by
        show (arrV (eC E 11) (xn h a) (fun j => .int (xi h a j))).slots.getD _ _ = _
        rw [Array.getD_eq_getD_getElem?, arrV_read _ _ (by omega)]
        rfl
      refine ⟨?_, ?_⟩
      · rw [e]
        exact hfit i hi
      · rw [e]
        exact trivial)
    (g := F0 m pc ls (.int n :: .int dp :: .ref b :: .int sp :: .ref a :: st)) rfl (by show ls.size = _; rw [hl.1, F.maxl]) (rest := st) rfl (by rw [F.2.1]; exact d) (Nat.le_trans hf F.frames) (by have := F.locals; have e9 : nativeFrameWords "java/lang/System" "arraycopy" 5 + 11 ≤ 30 := (by decide +kernel); show 2 * 0 + _ + _ ≤ _; omega)
  have e1 : copied (vp_cell (eC E 11) (xn h a, .inl (xi h a))) (vp_cell (eC E 11) (xn h b, .inl (xi h b))) sp dp n = vp_cell (eC E 11) (xn h b, .inl (va_cpy (xi h a) (xi h b) sp.toNatClampNeg dp.toNatClampNeg n.toNatClampNeg)) := va_copied (fun z => .int z) (eC E 11) (eC E 11) (xi h a) (xi h b) h4
  rw [e1] at X' step
  have hl2 : b < H.size := (Array.getElem?_eq_some_iff.mp hc1).1
  generalize hcell : vp_cell (eC E 11) (xn h b, .inl (va_cpy (xi h a) (xi h b) sp.toNatClampNeg dp.toNatClampNeg n.toNatClampNeg)) = cellN at X' step
  have hheap : ((T.setVm vm').setCell b cellN).heap = H.setIfInBounds b cellN := by rw [← hT]; rfl
  have oq : ∀ q : Nat, q ≠ b → (H.setIfInBounds b cellN)[q]? = H[q]? := fun q hq => by simp [Array.getElem?_setIfInBounds, Ne.symm hq]
  obtain ⟨t, a1, b1⟩ := kq p e R s m args below meth c (H.setIfInBounds b cellN) _ cells slots ls F (hR.put (h' := yc h b (va_cpy (xi h a) (xi h b) sp.toNatClampNeg dp.toNatClampNeg n.toNatClampNeg)) hk0 (by simp) oq (by
      rw [xen_int (h := yc h b _) (a := b) (g := 11) hkb (by decide), xn_yc]
      show (H.setIfInBounds b cellN)[b]? = some (vp_cell _ _)
      rw [← hcell]
      have ef : xi (yc h b (va_cpy (xi h a) (xi h b) sp.toNatClampNeg dp.toNatClampNeg n.toNatClampNeg)) b = va_cpy (xi h a) (xi h b) sp.toNatClampNeg dp.toNatClampNeg n.toNatClampNeg := funext fun j => by rw [xi_yc, if_pos rfl]
      rw [ef]
      simp [Array.getElem?_setIfInBounds, hl2]) rfl (fun _ => rfl) (fun b' hb' => xen_yc h b _ hb')) ⟨by simp; exact hS.1, fun q g1 g2 => by
      rw [oq q (fun e => g2 (by rw [e]; exact xA_of hR hk0 (by rw [hkb]; decide)))]
      exact hS.2.1 q g1 g2, fun q hq => by
      rcases List.mem_append.mp hq with h | h
      · exact hS.2.2 q h
      · obtain ⟨z, -, hz⟩ := List.mem_map.mp h
        rw [← hz]
        exact xA_of hR hk0 (by rw [hkb]; decide)⟩ hl hc hs _ hheap X'
  exact ⟨t, step t a1, b1⟩
/-- the copy of a stretch of a constant's bytes -/
theorem X_kcopy (pc : Nat) {i0 b idx : Nat} {own : String} {sp dp n : Int32} (ho : own = (mY M).cls) (w1 : xIn (.methodLink own idx arraycopyName)) (w2 : xIn (.native arraycopyName)) (w3 : xIn (.static arraycopyName)) (w4 : xIn (.initialized "java/lang/System")) (hf : 1 ≤ mF M) (hw : (st.map fun v => v.category).sum + 30 ≤ mW M)
    (hi0 : i0 < nJS) (hkb : xk h b = 11) (h1 : ¬ sp < 0) (h2 : ¬ dp < 0) (h3 : ¬ n < 0) (h4 : sp.toNatClampNeg + n.toNatClampNeg ≤ lenJS.getD i0 0) (h5 : dp.toNatClampNeg + n.toNatClampNeg ≤ xn h b) (hfit : ∀ i, i < n.toNatClampNeg → fits .byte (.int ((bytJS.getD i0 []).getD (sp.toNatClampNeg + i) 0)) = true) (d : decode (mC M) pc = .ok (.invokestatic idx, 3))
    (kq : XW E M k u (pc + 3) L st (yc h b (va_cpy (fun j => (bytJS.getD i0 []).getD j 0) (xi h b) sp.toNatClampNeg dp.toNatClampNeg n.toNatClampNeg)) Q) : XW E M k u pc L (.int n :: .int dp :: .ref b :: .int sp :: .ref (eV E i0) :: st) h Q := by
  intro p e R s m args below meth c H locs cells slots ls F hR hS hl hc hs
  subst ho
  have nn : ∀ z : Int32, ¬ z < 0 → z.toInt = (z.toNatClampNeg : Int) := by
    intro z hz
    have hz0 : (0 : Int) ≤ z.toInt := by
      have := Int32.not_lt.mp hz
      simpa using Int32.le_iff_toInt_le.mp this
    show z.toInt = ((z.toInt.toNat : Nat) : Int)
    omega
  have hk0 : xk h b ≠ 0 ∧ xk h b ≠ 27 := by rw [hkb]; decide
  intro T hT X
  obtain ⟨scr, s1, ⟨s6, k0, hk0', cm0, hkk0⟩, s3, s4, -, s5, -⟩ := (F.stat.2.2.1 i0 hi0).2.2.2.kept hS.2.1
  have hc1 : H[b]? = some (vp_cell (eC E 11) (xn h b, .inl (xi h b))) := hR.cell hk0 (xen_int hkb (by decide))
  obtain ⟨-, k1, hk1, cm1, hkk1⟩ := (F.env.2.1.2 0 _ rfl).1 (xn h b) (fun j => .int (xi h b j))
  obtain ⟨vm', X', step⟩ := X.arraycopy F.1 F.own (F.env.word w1 args) (F.env.word w2 args) (F.env.word w3 args) (F.env.word w4 args) (src := eV E i0) (dst := b) (cs := scr) (cd := vp_cell (eC E 11) (xn h b, .inl (xi h b))) (srcPos := sp) (destPos := dp) (n := n) (by rw [hT]; exact s1) (by rw [hT]; exact hc1)
    s6 (fun _ h => by cases h) s3 (fun h => by cases h) hk0' hk1 hkk0 hkk1 (by simp [refKind]) h1 h2 h3
    (by rw [nn sp h1, nn n h3]; omega)
    (by rw [nn dp h2, nn n h3]; show ¬ _ > ((arrV (eC E 11) (xn h b) (fun j => .int (xi h b j))).slots.size : Int); rw [arrV_size]; omega)
    (fun vm₁ _ i hi => by
      have e : scr.slots.getD (sp.toNatClampNeg + i) .null = .int ((bytJS.getD i0 []).getD (sp.toNatClampNeg + i) 0) := by
        rw [Array.getD_eq_getD_getElem?, s5 _ (by omega)]
        rfl
      refine ⟨?_, ?_⟩
      · rw [e]
        exact hfit i hi
      · rw [e]
        exact trivial)
    (g := F0 m pc ls (.int n :: .int dp :: .ref b :: .int sp :: .ref (eV E i0) :: st)) rfl (by show ls.size = _; rw [hl.1, F.maxl]) (rest := st) rfl (by rw [F.2.1]; exact d) (Nat.le_trans hf F.frames) (by have := F.locals; have e9 : nativeFrameWords "java/lang/System" "arraycopy" 5 + 11 ≤ 30 := (by decide +kernel); show 2 * 0 + _ + _ ≤ _; omega)
  have e1 : copied scr (vp_cell (eC E 11) (xn h b, .inl (xi h b))) sp dp n = vp_cell (eC E 11) (xn h b, .inl (va_cpy (fun j => (bytJS.getD i0 []).getD j 0) (xi h b) sp.toNatClampNeg dp.toNatClampNeg n.toNatClampNeg)) := va_copiedX (fun z => .int z) scr (eC E 11) (fun j => (bytJS.getD i0 []).getD j 0) (xi h b) s5 h4
  rw [e1] at X' step
  have hl2 : b < H.size := (Array.getElem?_eq_some_iff.mp hc1).1
  generalize hcell : vp_cell (eC E 11) (xn h b, .inl (va_cpy (fun j => (bytJS.getD i0 []).getD j 0) (xi h b) sp.toNatClampNeg dp.toNatClampNeg n.toNatClampNeg)) = cellN at X' step
  have hheap : ((T.setVm vm').setCell b cellN).heap = H.setIfInBounds b cellN := by rw [← hT]; rfl
  have oq : ∀ q : Nat, q ≠ b → (H.setIfInBounds b cellN)[q]? = H[q]? := fun q hq => by simp [Array.getElem?_setIfInBounds, Ne.symm hq]
  obtain ⟨t, a1, b1⟩ := kq p e R s m args below meth c (H.setIfInBounds b cellN) _ cells slots ls F (hR.put (h' := yc h b (va_cpy (fun j => (bytJS.getD i0 []).getD j 0) (xi h b) sp.toNatClampNeg dp.toNatClampNeg n.toNatClampNeg)) hk0 (by simp) oq (by
      rw [xen_int (h := yc h b _) (a := b) (g := 11) hkb (by decide), xn_yc]
      show (H.setIfInBounds b cellN)[b]? = some (vp_cell _ _)
      rw [← hcell]
      have ef : xi (yc h b (va_cpy (fun j => (bytJS.getD i0 []).getD j 0) (xi h b) sp.toNatClampNeg dp.toNatClampNeg n.toNatClampNeg)) b = va_cpy (fun j => (bytJS.getD i0 []).getD j 0) (xi h b) sp.toNatClampNeg dp.toNatClampNeg n.toNatClampNeg := funext fun j => by rw [xi_yc, if_pos rfl]
      rw [ef]
      simp [Array.getElem?_setIfInBounds, hl2]) rfl (fun _ => rfl) (fun b' hb' => xen_yc h b _ hb')) ⟨by simp; exact hS.1, fun q g1 g2 => by
      rw [oq q (fun e => g2 (by rw [e]; exact xA_of hR hk0 (by rw [hkb]; decide)))]
      exact hS.2.1 q g1 g2, fun q hq => by
      rcases List.mem_append.mp hq with h | h
      · exact hS.2.2 q h
      · obtain ⟨z, -, hz⟩ := List.mem_map.mp h
        rw [← hz]
        exact xA_of hR hk0 (by rw [hkb]; decide)⟩ hl hc hs _ hheap X'
  exact ⟨t, step t a1, b1⟩
end XM3
