/-! The law's own rows: the machine at the law's frame, the script beside it. -/
set_option linter.unusedVariables false
/-- the script lies ahead of what the run makes -/
def xX (E : XG) (s : State) : Prop := va_X (eS E) (eN E) (eX E) s s.heap ∧ eS E < s.heap.size ∧ eB E = s.heap.size
/-- the machine at the law's frame -/
def xFl (E : XG) (M : XM) (p : Program) (R : Room) (s : State) (m : MethodId) (meth : Method) (c : Code) : Prop :=
  p.tables.exec = Jvm.exec ∧ c.code = mC M ∧ meth.sig.returnType = mR M ∧ meth.locks = false ∧ c.maxLocals = mL M ∧ s.vm.findClass (mY M).cls = some m.cls ∧ xX E s ∧ mF M ≤ R.frames ∧ mW M ≤ R.locals ∧ xE E s ∧ xZ E s s.heap ∧ (eL E).stackTraces = false
section VACC
variable {E : XG} {M : XM} {p : Program} {R : Room} {s : State} {m : MethodId} {meth : Method} {c : Code}
theorem xFl.own (F : xFl E M p R s m meth c) : s.vm.findClass (mY M).cls = some m.cls := F.2.2.2.2.2.1
theorem xFl.scr (F : xFl E M p R s m meth c) : xX E s := F.2.2.2.2.2.2.1
theorem xFl.frames (F : xFl E M p R s m meth c) : mF M ≤ R.frames := F.2.2.2.2.2.2.2.1
theorem xFl.locals (F : xFl E M p R s m meth c) : mW M ≤ R.locals := F.2.2.2.2.2.2.2.2.1
theorem xFl.env (F : xFl E M p R s m meth c) : xE E s := F.2.2.2.2.2.2.2.2.2.1
theorem xFl.stat (F : xFl E M p R s m meth c) : xZ E s s.heap := F.2.2.2.2.2.2.2.2.2.2.1
theorem xFl.maxl (F : xFl E M p R s m meth c) : c.maxLocals = mL M := F.2.2.2.2.1
theorem xFl.locks (F : xFl E M p R s m meth c) : meth.locks = false := F.2.2.2.1
theorem xFl.traces (F : xFl E M p R s m meth c) : (eL E).stackTraces = false := F.2.2.2.2.2.2.2.2.2.2.2
end VACC
/-- the law's end: true, nothing written that was there before -/
def lwG (below : List Frame) (s : State) (R : Room) : State → Prop := fun t => ∃ o, t.status = .running ∧ Ended t below o ∧ o = .returned (some (.int 1)) ∧ Framed s o t [] R.cells R.slots
def XV (E : XG) (M : XM) (k u : Nat) (pc : Nat) (L : List (Option Value)) (st : List Value) (h : XH) (Q : XO → Prop) : Prop :=
  ∀ (p : Program) (e : Env) (R : Room) (s : State) (m : MethodId) (args : Array Value) (below : List Frame) (meth : Method) (c : Code) (H : Heap) (locs : List Loc) (cells slots : Nat) (ls : Array Slot),
    xFl E M p R s m meth c → xR E h H → va_S (xA E) s.heap H locs → xL ls (mL M) L → cells + k ≤ R.cells → slots + u ≤ R.slots →
    W p (eL E) e R s m args below meth c H locs cells slots (lwG below s R) (F0 m pc ls st)
section VRULES
variable {E : XG} {M : XM} {k u : Nat} {L : List (Option Value)} {st : List Value} {h : XH} {Q : XO → Prop}
theorem V_less {k' u' : Nat} {pc : Nat} (hk : k' ≤ k) (hu : u' ≤ u) (kk : XV E M k' u' pc L st h Q) : XV E M k u pc L st h Q := by
  intro p e R s m args below meth c H locs cells slots ls F hR hS hl hc hs
  exact kk p e R s m args below meth c H locs cells slots ls F hR hS hl (by omega) (by omega)
theorem V_iadd (pc : Nat) {x y : Int32} (d : decode (mC M) pc = .ok (.iadd, 1))  (kk : XV E M k u (pc + 1) L (.int (x + y) :: st) h Q) : XV E M k u pc L (.int y :: .int x :: st) h Q := by
  intro p e R s m args below meth c H locs cells slots ls F hR hS hl hc hs
  exact lv_iadd F.1 F.2.1 d  (kk p e R s m args below meth c H locs cells slots ls F hR hS hl hc hs)
theorem V_isub (pc : Nat) {x y : Int32} (d : decode (mC M) pc = .ok (.isub, 1))  (kk : XV E M k u (pc + 1) L (.int (x - y) :: st) h Q) : XV E M k u pc L (.int y :: .int x :: st) h Q := by
  intro p e R s m args below meth c H locs cells slots ls F hR hS hl hc hs
  exact lv_isub F.1 F.2.1 d  (kk p e R s m args below meth c H locs cells slots ls F hR hS hl hc hs)
theorem V_iand (pc : Nat) {x y : Int32} (d : decode (mC M) pc = .ok (.iand, 1))  (kk : XV E M k u (pc + 1) L (.int (x &&& y) :: st) h Q) : XV E M k u pc L (.int y :: .int x :: st) h Q := by
  intro p e R s m args below meth c H locs cells slots ls F hR hS hl hc hs
  exact lv_iand F.1 F.2.1 d  (kk p e R s m args below meth c H locs cells slots ls F hR hS hl hc hs)
theorem V_lcmp (pc : Nat) {x y : Int64} (d : decode (mC M) pc = .ok (.lcmp, 1))  (kk : XV E M k u (pc + 1) L (.int (lg_cmp x y) :: st) h Q) : XV E M k u pc L (.long y :: .long x :: st) h Q := by
  intro p e R s m args below meth c H locs cells slots ls F hR hS hl hc hs
  exact W.lcmp F.1 F.2.1 d  (kk p e R s m args below meth c H locs cells slots ls F hR hS hl hc hs)
theorem V_i2l (pc : Nat) {x : Int32} (d : decode (mC M) pc = .ok (.i2l, 1))  (kk : XV E M k u (pc + 1) L (.long x.toInt64 :: st) h Q) : XV E M k u pc L (.int x :: st) h Q := by
  intro p e R s m args below meth c H locs cells slots ls F hR hS hl hc hs
  exact lv_i2l F.1 F.2.1 d rfl (kk p e R s m args below meth c H locs cells slots ls F hR hS hl hc hs)
theorem V_lconst (pc : Nat) (n : Fin 2) (d : decode (mC M) pc = .ok (.lconst n, 1))  (kk : XV E M k u (pc + 1) L (.long (Int64.ofNat (n : Nat)) :: st) h Q) : XV E M k u pc L (st) h Q := by
  intro p e R s m args below meth c H locs cells slots ls F hR hS hl hc hs
  exact lv_lconst F.1 F.2.1 d rfl (kk p e R s m args below meth c H locs cells slots ls F hR hS hl hc hs)
theorem V_dup (pc : Nat) {va : Value} (d : decode (mC M) pc = .ok (.dup, 1)) (hva : va.category = 1) (kk : XV E M k u (pc + 1) L (va :: va :: st) h Q) : XV E M k u pc L (va :: st) h Q := by
  intro p e R s m args below meth c H locs cells slots ls F hR hS hl hc hs
  exact lv_dup F.1 F.2.1 d hva (kk p e R s m args below meth c H locs cells slots ls F hR hS hl hc hs)
theorem V_ic (pc : Nat) {z : Int} (v : Int32) (d : decode (mC M) pc = .ok (.iconst z, 1)) (hv : Int32.ofInt z = v) (kk : XV E M k u (pc + 1) L (.int v :: st) h Q) : XV E M k u pc L (st) h Q := by
  intro p e R s m args below meth c H locs cells slots ls F hR hS hl hc hs
  exact lv_iconst F.1 F.2.1 d hv (kk p e R s m args below meth c H locs cells slots ls F hR hS hl hc hs)
theorem V_bip (pc : Nat) {z : Int} (v : Int32) (d : decode (mC M) pc = .ok (.bipush z, 2)) (hv : (Int8.ofInt z).toInt32 = v) (kk : XV E M k u (pc + 2) L (.int v :: st) h Q) : XV E M k u pc L (st) h Q := by
  intro p e R s m args below meth c H locs cells slots ls F hR hS hl hc hs
  exact lv_bipush F.1 F.2.1 d hv (kk p e R s m args below meth c H locs cells slots ls F hR hS hl hc hs)
theorem V_isubN (pc : Nat) {x y : Nat} (d : decode (mC M) pc = .ok (.isub, 1)) (hle : y ≤ x) (kk : XV E M k u (pc + 1) L (.int (nI (x - y)) :: st) h Q) : XV E M k u pc L (.int (nI y) :: .int (nI x) :: st) h Q := by
  refine V_isub pc d ?_
  rw [pk_sub hle]; exact kk
theorem V_icmpeq (pc tgt : Nat) {x y : Int32} {off : Int} (d : decode (mC M) pc = .ok (.if_icmp .eq off, 3)) (ht : (pc : Int) + off = (tgt : Int)) (kt : x = y → XV E M k u tgt L (st) h Q) (kf : ¬ x = y → XV E M k u (pc + 3) L (st) h Q) : XV E M k u pc L (.int y :: .int x :: st) h Q := by
  intro p e R s m args below meth c H locs cells slots ls F hR hS hl hc hs
  exact lv_icmp_eq F.1 F.2.1 d ht (fun q => kt q p e R s m args below meth c H locs cells slots ls F hR hS hl hc hs) (fun q => kf q p e R s m args below meth c H locs cells slots ls F hR hS hl hc hs)
theorem V_icmpgt (pc tgt : Nat) {x y : Int32} {off : Int} (d : decode (mC M) pc = .ok (.if_icmp .gt off, 3)) (ht : (pc : Int) + off = (tgt : Int)) (kt : y < x → XV E M k u tgt L (st) h Q) (kf : ¬ y < x → XV E M k u (pc + 3) L (st) h Q) : XV E M k u pc L (.int y :: .int x :: st) h Q := by
  intro p e R s m args below meth c H locs cells slots ls F hR hS hl hc hs
  exact lv_icmp_gt F.1 F.2.1 d ht (fun q => kt q p e R s m args below meth c H locs cells slots ls F hR hS hl hc hs) (fun q => kf q p e R s m args below meth c H locs cells slots ls F hR hS hl hc hs)
theorem V_ifeq (pc tgt : Nat) {x : Int32} {off : Int} (d : decode (mC M) pc = .ok (.ifCond .eq off, 3)) (ht : (pc : Int) + off = (tgt : Int)) (kt : x = 0 → XV E M k u tgt L (st) h Q) (kf : ¬ x = 0 → XV E M k u (pc + 3) L (st) h Q) : XV E M k u pc L (.int x :: st) h Q := by
  intro p e R s m args below meth c H locs cells slots ls F hR hS hl hc hs
  exact lv_if_eq F.1 F.2.1 d ht (fun q => kt q p e R s m args below meth c H locs cells slots ls F hR hS hl hc hs) (fun q => kf q p e R s m args below meth c H locs cells slots ls F hR hS hl hc hs)
theorem V_ifne (pc tgt : Nat) {x : Int32} {off : Int} (d : decode (mC M) pc = .ok (.ifCond .ne off, 3)) (ht : (pc : Int) + off = (tgt : Int)) (kt : ¬ x = 0 → XV E M k u tgt L (st) h Q) (kf : x = 0 → XV E M k u (pc + 3) L (st) h Q) : XV E M k u pc L (.int x :: st) h Q := by
  intro p e R s m args below meth c H locs cells slots ls F hR hS hl hc hs
  exact lv_if_ne F.1 F.2.1 d ht (fun q => kt q p e R s m args below meth c H locs cells slots ls F hR hS hl hc hs) (fun q => kf q p e R s m args below meth c H locs cells slots ls F hR hS hl hc hs)
theorem V_goto (pc tgt : Nat) {off : Int} (d : decode (mC M) pc = .ok (.goto off, 3)) (ht : (pc : Int) + off = (tgt : Int)) (kk : XV E M k u tgt L (st) h Q) : XV E M k u pc L (st) h Q := by
  intro p e R s m args below meth c H locs cells slots ls F hR hS hl hc hs
  exact lv_goto F.1 F.2.1 d ht (kk p e R s m args below meth c H locs cells slots ls F hR hS hl hc hs)
theorem V_aload_0 (pc : Nat)  {x : Nat} (d : decode (mC M) pc = .ok (.aload_n 0, 1)) (kk : XV E M k u (pc + 1) (some (.ref x) :: L) (.ref x :: st) h Q) : XV E M k u pc (some (.ref x) :: L) (st) h Q := by
  intro p e R s m args below meth c H locs cells slots ls F hR hS hl hc hs
  exact lv_aload_n F.1 F.2.1 d rfl (hl.2.2.2 0 _ rfl) (kk p e R s m args below meth c H locs cells slots ls F hR hS hl hc hs)
theorem V_aload_1 (pc : Nat) {x0 : Option Value} {x : Nat} (d : decode (mC M) pc = .ok (.aload_n 1, 1)) (kk : XV E M k u (pc + 1) (x0 :: some (.ref x) :: L) (.ref x :: st) h Q) : XV E M k u pc (x0 :: some (.ref x) :: L) (st) h Q := by
  intro p e R s m args below meth c H locs cells slots ls F hR hS hl hc hs
  exact lv_aload_n F.1 F.2.1 d rfl (hl.2.2.2 1 _ rfl) (kk p e R s m args below meth c H locs cells slots ls F hR hS hl hc hs)
theorem V_aload_2 (pc : Nat) {x0 x1 : Option Value} {x : Nat} (d : decode (mC M) pc = .ok (.aload_n 2, 1)) (kk : XV E M k u (pc + 1) (x0 :: x1 :: some (.ref x) :: L) (.ref x :: st) h Q) : XV E M k u pc (x0 :: x1 :: some (.ref x) :: L) (st) h Q := by
  intro p e R s m args below meth c H locs cells slots ls F hR hS hl hc hs
  exact lv_aload_n F.1 F.2.1 d rfl (hl.2.2.2 2 _ rfl) (kk p e R s m args below meth c H locs cells slots ls F hR hS hl hc hs)
theorem V_aload_3 (pc : Nat) {x0 x1 x2 : Option Value} {x : Nat} (d : decode (mC M) pc = .ok (.aload_n 3, 1)) (kk : XV E M k u (pc + 1) (x0 :: x1 :: x2 :: some (.ref x) :: L) (.ref x :: st) h Q) : XV E M k u pc (x0 :: x1 :: x2 :: some (.ref x) :: L) (st) h Q := by
  intro p e R s m args below meth c H locs cells slots ls F hR hS hl hc hs
  exact lv_aload_n F.1 F.2.1 d rfl (hl.2.2.2 3 _ rfl) (kk p e R s m args below meth c H locs cells slots ls F hR hS hl hc hs)
theorem V_astore_1 (pc : Nat) {x0 : Option Value} {y : Option Value} {x : Nat} (d : decode (mC M) pc = .ok (.astore_n 1, 1)) (hp : xpv (x0 :: y :: L) 1 = true) (kk : XV E M k u (pc + 1) (x0 :: some (.ref x) :: L) (st) h Q) : XV E M k u pc (x0 :: y :: L) (.ref x :: st) h Q := by
  intro p e R s m args below meth c H locs cells slots ls F hR hS hl hc hs
  exact lv_astore_n F.1 F.2.1 d rfl hl.has (by have := hl.2.2.1; simp only [List.length_cons] at this; omega) rfl (fun ls1 hl1 => kk p e R s m args below meth c H locs cells slots ls1 F hR hS (hl.st1 hp hl1) hc hs)
theorem V_astore_2 (pc : Nat) {x0 x1 : Option Value} {y : Option Value} {x : Nat} (d : decode (mC M) pc = .ok (.astore_n 2, 1)) (hp : xpv (x0 :: x1 :: y :: L) 2 = true) (kk : XV E M k u (pc + 1) (x0 :: x1 :: some (.ref x) :: L) (st) h Q) : XV E M k u pc (x0 :: x1 :: y :: L) (.ref x :: st) h Q := by
  intro p e R s m args below meth c H locs cells slots ls F hR hS hl hc hs
  exact lv_astore_n F.1 F.2.1 d rfl hl.has (by have := hl.2.2.1; simp only [List.length_cons] at this; omega) rfl (fun ls1 hl1 => kk p e R s m args below meth c H locs cells slots ls1 F hR hS (hl.st1 hp hl1) hc hs)
theorem V_astore_3 (pc : Nat) {x0 x1 x2 : Option Value} {y : Option Value} {x : Nat} (d : decode (mC M) pc = .ok (.astore_n 3, 1)) (hp : xpv (x0 :: x1 :: x2 :: y :: L) 3 = true) (kk : XV E M k u (pc + 1) (x0 :: x1 :: x2 :: some (.ref x) :: L) (st) h Q) : XV E M k u pc (x0 :: x1 :: x2 :: y :: L) (.ref x :: st) h Q := by
  intro p e R s m args below meth c H locs cells slots ls F hR hS hl hc hs
  exact lv_astore_n F.1 F.2.1 d rfl hl.has (by have := hl.2.2.1; simp only [List.length_cons] at this; omega) rfl (fun ls1 hl1 => kk p e R s m args below meth c H locs cells slots ls1 F hR hS (hl.st1 hp hl1) hc hs)
theorem V_iload_4 (pc : Nat) {x0 x1 x2 x3 : Option Value} {x : Int32} (d : decode (mC M) pc = .ok (.iload 4, 2)) (kk : XV E M k u (pc + 2) (x0 :: x1 :: x2 :: x3 :: some (.int x) :: L) (.int x :: st) h Q) : XV E M k u pc (x0 :: x1 :: x2 :: x3 :: some (.int x) :: L) (st) h Q := by
  intro p e R s m args below meth c H locs cells slots ls F hR hS hl hc hs
  exact lv_iload F.1 F.2.1 d (hl.2.2.2 4 _ rfl) (kk p e R s m args below meth c H locs cells slots ls F hR hS hl hc hs)
theorem V_iload_5 (pc : Nat) {x0 x1 x2 x3 x4 : Option Value} {x : Int32} (d : decode (mC M) pc = .ok (.iload 5, 2)) (kk : XV E M k u (pc + 2) (x0 :: x1 :: x2 :: x3 :: x4 :: some (.int x) :: L) (.int x :: st) h Q) : XV E M k u pc (x0 :: x1 :: x2 :: x3 :: x4 :: some (.int x) :: L) (st) h Q := by
  intro p e R s m args below meth c H locs cells slots ls F hR hS hl hc hs
  exact lv_iload F.1 F.2.1 d (hl.2.2.2 5 _ rfl) (kk p e R s m args below meth c H locs cells slots ls F hR hS hl hc hs)
theorem V_iload_6 (pc : Nat) {x0 x1 x2 x3 x4 x5 : Option Value} {x : Int32} (d : decode (mC M) pc = .ok (.iload 6, 2)) (kk : XV E M k u (pc + 2) (x0 :: x1 :: x2 :: x3 :: x4 :: x5 :: some (.int x) :: L) (.int x :: st) h Q) : XV E M k u pc (x0 :: x1 :: x2 :: x3 :: x4 :: x5 :: some (.int x) :: L) (st) h Q := by
  intro p e R s m args below meth c H locs cells slots ls F hR hS hl hc hs
  exact lv_iload F.1 F.2.1 d (hl.2.2.2 6 _ rfl) (kk p e R s m args below meth c H locs cells slots ls F hR hS hl hc hs)
theorem V_istore_4 (pc : Nat) {x0 x1 x2 x3 : Option Value} {y : Option Value} {x : Int32} (d : decode (mC M) pc = .ok (.istore 4, 2)) (hp : xpv (x0 :: x1 :: x2 :: x3 :: y :: L) 4 = true) (kk : XV E M k u (pc + 2) (x0 :: x1 :: x2 :: x3 :: some (.int x) :: L) (st) h Q) : XV E M k u pc (x0 :: x1 :: x2 :: x3 :: y :: L) (.int x :: st) h Q := by
  intro p e R s m args below meth c H locs cells slots ls F hR hS hl hc hs
  exact lv_istore F.1 F.2.1 d hl.has (by have := hl.2.2.1; simp only [List.length_cons] at this; omega) rfl (fun ls1 hl1 => kk p e R s m args below meth c H locs cells slots ls1 F hR hS (hl.st1 hp hl1) hc hs)
theorem V_istore_5 (pc : Nat) {x0 x1 x2 x3 x4 : Option Value} {y : Option Value} {x : Int32} (d : decode (mC M) pc = .ok (.istore 5, 2)) (hp : xpv (x0 :: x1 :: x2 :: x3 :: x4 :: y :: L) 5 = true) (kk : XV E M k u (pc + 2) (x0 :: x1 :: x2 :: x3 :: x4 :: some (.int x) :: L) (st) h Q) : XV E M k u pc (x0 :: x1 :: x2 :: x3 :: x4 :: y :: L) (.int x :: st) h Q := by
  intro p e R s m args below meth c H locs cells slots ls F hR hS hl hc hs
  exact lv_istore F.1 F.2.1 d hl.has (by have := hl.2.2.1; simp only [List.length_cons] at this; omega) rfl (fun ls1 hl1 => kk p e R s m args below meth c H locs cells slots ls1 F hR hS (hl.st1 hp hl1) hc hs)
theorem V_istore_6 (pc : Nat) {x0 x1 x2 x3 x4 x5 : Option Value} {y : Option Value} {x : Int32} (d : decode (mC M) pc = .ok (.istore 6, 2)) (hp : xpv (x0 :: x1 :: x2 :: x3 :: x4 :: x5 :: y :: L) 6 = true) (kk : XV E M k u (pc + 2) (x0 :: x1 :: x2 :: x3 :: x4 :: x5 :: some (.int x) :: L) (st) h Q) : XV E M k u pc (x0 :: x1 :: x2 :: x3 :: x4 :: x5 :: y :: L) (.int x :: st) h Q := by
  intro p e R s m args below meth c H locs cells slots ls F hR hS hl hc hs
  exact lv_istore F.1 F.2.1 d hl.has (by have := hl.2.2.1; simp only [List.length_cons] at this; omega) rfl (fun ls1 hl1 => kk p e R s m args below meth c H locs cells slots ls1 F hR hS (hl.st1 hp hl1) hc hs)
theorem V_iinc_4 (pc : Nat) {x0 x1 x2 x3 : Option Value} {x : Int32} {n : Int} (v : Int32) (d : decode (mC M) pc = .ok (.iinc 4 n, 3)) (hv : x + Int32.ofInt n = v) (hp : xpv (x0 :: x1 :: x2 :: x3 :: some (.int x) :: L) 4 = true) (kk : XV E M k u (pc + 3) (x0 :: x1 :: x2 :: x3 :: some (.int v) :: L) (st) h Q) : XV E M k u pc (x0 :: x1 :: x2 :: x3 :: some (.int x) :: L) (st) h Q := by
  intro p e R s m args below meth c H locs cells slots ls F hR hS hl hc hs
  obtain ⟨k9, hk9⟩ := List.getElem?_of_mem ((xpl_mem (L := (x0 :: x1 :: x2 :: x3 :: some (.int x) :: L)) (i := 4) (v := .int x)).mpr rfl)
  exact lv_iinc F.1 F.2.1 d hl.has hk9 hv (by have := hl.2.2.1; simp only [List.length_cons] at this; omega) rfl (fun ls1 hl1 => kk p e R s m args below meth c H locs cells slots ls1 F hR hS (hl.st1 hp hl1) hc hs)
theorem V_lald (pc : Nat) {a : Nat} {i : Int32} (hk : xk h a = 13) (hin : vp_in i (xn h a)) (d : decode (mC M) pc = .ok (.laload, 1)) (kq : XV E M k u (pc + 1) L (.long (xj h a i.toNatClampNeg) :: st) h Q) : XV E M k u pc L (.int i :: .ref a :: st) h Q := by
  intro p e R s m args below meth c H locs cells slots ls F hR hS hl hc hs
  have hlt : i.toNatClampNeg < xn h a := Nat.not_le.mp fun q => hin (Or.inr q)
  have hat : H[a]? = some (vp_cell (eC E 13) (xn h a, .inr (.inl (xj h a)))) := hR.cell (by rw [hk]; decide) (xen_long hk)
  exact W.lald (v := .long (xj h a i.toNatClampNeg)) F.1 F.2.1 hat ((F.env.2.1.2 2 _ rfl).1 (xn h a) (fun j => .long (xj h a j))) (fun q => by cases q) (by show ¬ (i < 0 ∨ (arrV _ _ _).slots.size ≤ _); rw [arrV_size]; exact hin) (by show (arrV _ _ _).slots[_]? = _; rw [arrV_read _ _ hlt]) rfl rfl d (kq p e R s m args below meth c H locs cells slots ls F hR hS hl hc hs)
theorem V_newB (pc : Nat) {idx ci N : Nat} {C own : String} {T : u_T} {tyc : Nat → FieldType} (ok : xok ci C T N tyc) (ho : own = (mY M).cls) (hB : eB E ≤ xt h) (hcl : xIn (.classLink own idx C)) (hins : xIn (.instantiable C N)) (hini : xIn (.initialized C))
    (hd : ∀ j t, (xft ci)[j]? = some t → defaultValue (tyc j) = xfv (ya h (ci + 1) 0) (xt h) j t) (d : decode (mC M) pc = .ok (.new idx, 3)) (kq : XV E M k u (pc + 3) L (.ref (xt h) :: st) (ya h (ci + 1) 0) Q) : XV E M (k + 1) (u + N) pc L st h Q := by
  intro p e R s m args below meth c H locs cells slots ls F hR hS hl hc hs
  subst ho
  obtain ⟨o1, o2, o3, o4, o5, o6⟩ := ok
  have hts := F.env.words o2 args
  have hKn := F.env.2.1.1 ci _ o1
  refine W.newcK F.1 F.2.1 F.own (F.env.word hcl args) (F.env.word hins args) (F.env.word hini args) rfl d (by omega) (by omega) hKn.2.1 hR.1.symm fun H1 kC hkC e1 z1 g1 => ?_
  rw [hR.1] at z1 g1
  have hfv : ∀ j, j < N → defaultValue (tyc j) = vp_V (xfl (ya h (ci + 1) 0) (xt h) (xft ci) 0) j := by
    intro j hj
    have hj' : j < (xft ci).length := by rw [← o6]; exact hj
    have := hd j _ (List.getElem?_eq_getElem hj')
    unfold vp_V
    rw [List.getD_eq_getElem?_getD, xfl_get _ _ _ 0 j _ (List.getElem?_eq_getElem hj'), Nat.zero_add]
    exact this
  refine kq p e R s m args below meth c H1 locs (cells + 1) (slots + N) ls F (hR.new z1 g1 (by rw [← hR.1]; exact hB) ?_) (xS_new hS z1 g1) hl (by omega) (by omega)
  rw [xen_obj (h := ya h (ci + 1) 0) (a := xt h) (by rw [xk_ya, if_pos rfl]) o5]
  exact ⟨_, o1, (u_born tyc hts (fun w hw => hw) hKn hkC e1 o3).to hfv⟩
theorem V_newB_long (pc : Nat) (N : Nat) {n : Int32} (hB : eB E ≤ xt h) (hn : ¬ n < 0) (hN : n.toNatClampNeg = N) (hb : N ≤ 60000000) (hw : xIn (.arrayClass (newarray.typeOf .long))) (d : decode (mC M) pc = .ok (.newarray .long, 2)) (kq : XV E M k u (pc + 2) L (.ref (xt h) :: st) (ya h 13 N) Q) : XV E M (k + 1) (u + N) pc L (.int n :: st) h Q := by
  intro p e R s m args below meth c H locs cells slots ls F hR hS hl hc hs
  refine va_newaK F.1 F.2.1 (F.env.word hw args) rfl d rfl hn hN (by show N * 8 ≤ _; omega) (by omega) (by omega) hR.1.symm fun H1 cA e1 z1 g1 hAr hNm => ?_
  rw [hR.1] at z1 g1
  have hcA : cA = eC E 13 := Option.some.inj (hNm.symm.trans (F.env.2.1.2 2 _ rfl).2)
  subst hcA
  refine kq p e R s m args below meth c H1 locs (cells + 1) (slots + N) ls F (hR.new z1 g1 (by rw [← hR.1]; exact hB) ?_) (xS_new hS z1 g1) hl (by omega) (by omega)
  rw [xen_long (h := ya h 13 N) (a := xt h) (by rw [xk_ya, if_pos rfl]), xn_ya, if_pos rfl]
  show H1[xt h]? = some (vp_cell _ _)
  rw [e1, vp_cell_l]
  congr 2
  funext j
  rw [xj_ya, if_pos rfl]
  rfl
theorem V_xcal_B {M' : XM} {n idx : Nat} {k' u' : Nat} {own : String} {p : Program} {R : Room} {s : State} {m : MethodId} {args : Array Value} {meth : Method} {c : Code} (cal : xcal M' n) (hl : xIn (.methodLink own idx (mY M'))) (hr : xroom M M' = true) (F : xFl E M p R s m meth c) :
    CallB R s args own idx (mY M') (mC M') (mL M') (mR M') [xcode M'] { frames := mF M', cells := k', slots := u', locals := mW M' } k' u' n := by
  obtain ⟨c1, c2, c3, c4, c5⟩ := cal
  have hx := xcode_of c5
  refine ⟨rfl, rfl, (xroom_of hr F.frames F.locals).1, (xroom_of hr F.frames F.locals).2, fun w hw a' U hW => ?_, by rw [hx]; exact List.mem_cons_self, F.env.word c1 args, F.env.word c2 args, c3, fun sig hsig => ?_, F.env.word hl args⟩
  · rw [List.mem_singleton.mp hw, hx]
    exact word_at hW (good_of_word c1.2) (F.env.word c1 args)
  · rw [hsig] at c4
    exact (Option.some.inj c4).symm
theorem V_xfix {own : String} {p : Program} {R : Room} {s : State} {m : MethodId} {args : Array Value} {meth : Method} {c : Code} (ho : own = (mY M).cls) (F : xFl E M p R s m meth c) : CallFix p m c (mC M) (mL M) s args [] own := ⟨F.1, F.2.1, F.maxl, by rw [ho]; exact F.own, fun w hw => by cases hw⟩
theorem V_run {k' u' pc : Nat} {Q' : XO → Prop} {p : Program} {e : Env} {R : Room} {s : State} {m : MethodId} {args : Array Value} {below : List Frame} {meth : Method} {c : Code} {H : Heap} {locs : List Loc} {cells slots : Nat} {ls : Array Slot} {st0 : List Value} {a : Array Value}
    (F : xFl E M p R s m meth c) (hS : va_S (xA E) s.heap H locs) (hl : xL ls (mL M) L) (hc : cells + (k' + k) ≤ R.cells) (hs : slots + (u' + u) ≤ R.slots)
    (hr : vx_Run p (eL E) e R s m args below meth c H locs cells slots k' u' (F0 m pc ls st0) st (xQc E Q' a) (xXC E Q') (xA E))
    (kx : ∀ ec h1, ¬ Q' (.inr ec, h1)) (kk : ∀ v h1, Q' (.inl v, h1) → XV E M k u (pc + 3) L (v.toList ++ st) h1 Q) :
    W p (eL E) e R s m args below meth c H locs cells slots (lwG below s R) (F0 m pc ls st0) := by
  intro T hT X
  rcases hr T hT X with ⟨v, st₀, t, T', L', h0, X', hL, e1, e2, ⟨⟨v', h', hv, hq, hR'⟩, hF⟩, hst⟩ | ⟨q, st₀, t, T', L', En, ce, h0, X', hL, e1, e2, ⟨⟨ec, h', hn, hq, hR'⟩, hF⟩, hce, hcv, hcl, hst⟩
  · cases hv
    obtain ⟨k1, k2, k3⟩ := vx_keep h0 e1 hS (fun _ _ z => z) (fun _ z => z) hL hF
    obtain ⟨t2, a1, b1⟩ := kk v h' hq p e R s m args below meth c T'.heap (locs ++ L') (cells + k') (slots + u') ls F (by rw [e1]; exact hR') k3 hl (by omega) (by omega) T' rfl X'
    exact ⟨t2, hst t2 a1, b1⟩
  · exact absurd hq (kx ec h')
theorem V_callI (pc : Nat) {M' : XM} {k' u' n idx b : Nat} {own : String} {As st0 : List Value} {Q' : XO → Prop} (cal : xcal M' n) (hret : mR M' = none) (hnm : (mY M').name = "<init>") (him : xIn (.instanceMethod (mY M'))) (hl : xIn (.methodLink own idx (mY M'))) (ho : own = (mY M).cls) (hr : xroom M M' = true) (hw : Nat.ble (xcat st) 8 = true) (hn : As.length = n) (he : st0 = As.reverse ++ .ref b :: st) (d : decode (mC M) pc = .ok (.invokespecial idx, 3))
    (hC : XC E M' k' u' (.ref b :: As) h Q') (kx : ∀ ec h1, ¬ Q' (.inr ec, h1)) (kk : ∀ v h1, Q' (.inl v, h1) → XV E M k u (pc + 3) L (v.toList ++ st) h1 Q) : XV E M (k' + k) (u' + u) pc L st0 h Q := by
  intro p e R s m args below meth c H locs cells slots ls F hR hS hL hc hs
  exact V_run F hS hL hc hs (vx_runI (V_xfix ho F) hC ⟨by have := V_xcal_B cal hl hr F (args := args) (k' := k') (u' := u'); rw [hret] at this; exact this, hnm, F.env.word him args⟩ ⟨xPc_blind E _ h, fun U hU hW => xPc_of F.env F.stat hR hS F.traces hU hW⟩ rfl hn hL.1 he (by have := Nat.le_of_ble_eq_true hw; unfold xcat at this; show 2 * 0 + _ ≤ 8; omega) d ⟨by omega, by omega⟩) kx kk
theorem V_callV (pc : Nat) {M' : XM} {k' u' n idx b ci : Nat} {own : String} {r : vw_C} {As st0 : List Value} {Q' : XO → Prop} (cal : xcal M' n) (him : xIn (.instanceMethod (mY M'))) (hse : xIn (.selects (mY M').cls (mY M') (mY M'))) (hl : xIn (.methodLink own idx (mY M'))) (ho : own = (mY M).cls) (hr : xroom M M' = true) (hw : Nat.ble (xcat st) 8 = true) (hn : As.length = n) (he : st0 = As.reverse ++ .ref b :: st)
    (hk : xk h b = ci + 1) (hci : ci < 10) (hcl : vwCl[ci]? = some r) (hrc : r.1 = (mY M').cls) (d : decode (mC M) pc = .ok (.invokevirtual idx, 3))
    (hC : XC E M' k' u' (.ref b :: As) h Q') (kx : ∀ ec h1, ¬ Q' (.inr ec, h1)) (kk : ∀ v h1, Q' (.inl v, h1) → XV E M k u (pc + 3) L (v.toList ++ st) h1 Q) : XV E M (k' + k) (u' + u) pc L st0 h Q := by
  intro p e R s m args below meth c H locs cells slots ls F hR hS hL hc hs
  have hrecv := va_recv F.env.2.1 (hR.at (by rw [hk]; omega) (xen_obj hk hci)) (q0 := 0) hcl rfl
  rw [hrc] at hrecv
  exact V_run F hS hL hc hs (vx_runV (V_xfix ho F) hC ⟨V_xcal_B cal hl hr F, F.env.word him args, F.env.word hse args⟩ ⟨xPc_blind E _ h, hrecv, fun U hU hW => xPc_of F.env F.stat hR hS F.traces hU hW⟩ rfl hn hL.1 he (by have := Nat.le_of_ble_eq_true hw; unfold xcat at this; show 2 * 0 + _ ≤ 8; omega) d ⟨by omega, by omega⟩) kx kk
theorem V_callSH (pc : Nat) {M' : XM} {k' u' n idx : Nat} {own : String} {As st0 : List Value} {Q' : XO → Prop} {q : Nat × Nat × Nat × Nat} {hh : List (Nat × Nat × Nat × Nat)} (cal : xcalH M' q hh n) (hst : xIn (.static (mY M'))) (hl : xIn (.methodLink own idx (mY M'))) (ho : own = (mY M).cls) (hr : xroom M M' = true) (hw : Nat.ble (xcat st) 8 = true) (hn : As.length = n) (he : st0 = As.reverse ++ st) (d : decode (mC M) pc = .ok (.invokestatic idx, 3))
    (hC : XC E M' k' u' As h Q') (kx : ∀ ec h1, ¬ Q' (.inr ec, h1)) (kk : ∀ v h1, Q' (.inl v, h1) → XV E M k u (pc + 3) L (v.toList ++ st) h1 Q) : XV E M (k' + k) (u' + u) pc L st0 h Q := by
  intro p e R s m args below meth c H locs cells slots ls F hR hS hL hc hs
  obtain ⟨c1, c2, c3, c4, c5⟩ := cal
  have hx := xcode_w c5
  have cw : vx_CSW R s args own idx (mY M') (mC M') (mL M') (mR M') (q :: hh) [xcode M'] { frames := mF M', cells := k', slots := u', locals := mW M' } k' u' n := by
    refine ⟨⟨rfl, rfl, (xroom_of hr F.frames F.locals).1, (xroom_of hr F.frames F.locals).2, fun w hw a' U hW => ?_, by rw [hx]; exact List.mem_cons_self⟩, F.env.word c1 args, F.env.word c2 args, c3, fun sig hsig => ?_, F.env.word hl args, F.env.word hst args⟩
    · rw [List.mem_singleton.mp hw, hx]
      exact word_at hW (good_of_word c1.2) (F.env.word c1 args)
    · rw [hsig] at c4
      exact (Option.some.inj c4).symm
  exact V_run F hS hL hc hs (vx_runSX (V_xfix ho F) hC cw ⟨xPc_blind E As h, fun U hU hW => xPc_of F.env F.stat hR hS F.traces hU hW⟩ rfl hn hL.1 he (by have := Nat.le_of_ble_eq_true hw; unfold xcat at this; show 2 * 0 + _ ≤ 8; omega) d ⟨by omega, by omega⟩) kx kk
end VRULES
section VSCR
variable {E : XG} {M : XM} {k u : Nat} {L : List (Option Value)} {st : List Value} {h : XH} {Q : XO → Prop}
theorem V_sald (pc : Nat) {i : Int32} (hin : vp_in i (eN E)) (d : decode (mC M) pc = .ok (.iaload, 1)) (kq : XV E M k u (pc + 1) L (.int (eX E i.toNatClampNeg) :: st) h Q) : XV E M k u pc L (.int i :: .ref (eS E) :: st) h Q := by
  intro p e R s m args below meth c H locs cells slots ls F hR hS hl hc hs
  obtain ⟨x1, x2, x3⟩ := F.scr
  exact va_sld F.1 F.2.1 x1 x2 (fun q => by unfold xA at q; omega) hS hin d (kq p e R s m args below meth c H locs cells slots ls F hR hS hl hc hs)
theorem V_slen (pc : Nat) (d : decode (mC M) pc = .ok (.arraylength, 1)) (kq : XV E M k u (pc + 1) L (.int (nI (eN E)) :: st) h Q) : XV E M k u pc L (.ref (eS E) :: st) h Q := by
  intro p e R s m args below meth c H locs cells slots ls F hR hS hl hc hs
  obtain ⟨x1, x2, x3⟩ := F.scr
  exact va_slen F.1 F.2.1 x1 x2 (fun q => by unfold xA at q; omega) hS d (kq p e R s m args below meth c H locs cells slots ls F hR hS hl hc hs)
theorem V_base {pc : Nat} (kq : eB E ≤ xt h → XV E M k u pc L st h Q) : XV E M k u pc L st h Q := by
  intro p e R s m args below meth c H locs cells slots ls F hR hS hl hc hs
  obtain ⟨x1, x2, x3⟩ := F.scr
  exact kq (by rw [hR.1]; exact Nat.le_trans (Nat.le_of_eq x3) hS.1) p e R s m args below meth c H locs cells slots ls F hR hS hl hc hs
theorem V_tabI (pc tgt : Nat) {dflt lo hi : Int} {offs : Array Int} {len : Nat} {x : Int32} {off : Int} (d : decode (mC M) pc = .ok (.tableswitch dflt lo hi offs, len)) (h1 : ¬ x.toInt < lo) (h2 : ¬ hi < x.toInt) (ho : offs[(x.toInt - lo).toNat]? = some off) (ht : (pc : Int) + off = (tgt : Int)) (kq : XV E M k u tgt L st h Q) : XV E M k u pc L (.int x :: st) h Q := by
  intro p e R s m args below meth c H locs cells slots ls F hR hS hl hc hs
  exact lv_tableIn F.1 F.2.1 d h1 h2 ho ht (kq p e R s m args below meth c H locs cells slots ls F hR hS hl hc hs)
theorem V_tabO (pc tgt : Nat) {dflt lo hi : Int} {offs : Array Int} {len : Nat} {x : Int32} (d : decode (mC M) pc = .ok (.tableswitch dflt lo hi offs, len)) (h1 : x.toInt < lo ∨ hi < x.toInt) (ht : (pc : Int) + dflt = (tgt : Int)) (kq : XV E M k u tgt L st h Q) : XV E M k u pc L (.int x :: st) h Q := by
  intro p e R s m args below meth c H locs cells slots ls F hR hS hl hc hs
  exact lv_tableOut F.1 F.2.1 d h1 ht (kq p e R s m args below meth c H locs cells slots ls F hR hS hl hc hs)
/-- a script's int, put on the stack -/
theorem V_arg (pc a j : Nat) {x1 x2 x3 : Option Value} {L : List (Option Value)} {z : Int} (ha : a + 6 ≤ eN E) (hN : eN E < 2 ^ 31) (hj : j ≤ 5) (hz : Int32.ofInt z = nI j)
    (d0 : decode (mC M) pc = .ok (.aload_n 0, 1)) (d1 : decode (mC M) (pc + 1) = .ok (.iload 4, 2)) (d3 : decode (mC M) (pc + 3) = .ok (.iconst z, 1)) (d4 : decode (mC M) (pc + 4) = .ok (.iadd, 1)) (d5 : decode (mC M) (pc + 5) = .ok (.iaload, 1))
    (kq : XV E M k u (pc + 6) (some (.ref (eS E)) :: x1 :: x2 :: x3 :: some (.int (nI a)) :: L) (.int (eX E (a + j)) :: st) h Q) : XV E M k u pc (some (.ref (eS E)) :: x1 :: x2 :: x3 :: some (.int (nI a)) :: L) st h Q := by
  refine V_aload_0 pc d0 ?_
  refine V_iload_4 (pc + 1) d1 ?_
  refine V_ic (pc + 3) (nI j) d3 hz ?_
  refine V_iadd (pc + 4) d4 ?_
  rw [nI_add]
  refine V_sald (pc + 5) ?_ d5 ?_
  · exact xin_vp ⟨by rw [nI_0le (by omega)]; trivial, by rw [nI_clamp (by omega)]; omega⟩
  · rw [nI_clamp (by omega)]
    exact kq
theorem V_ret1 (pc : Nat) (d : decode (mC M) pc = .ok (.ireturn, 1)) (hr : mR M = some .boolean) : XV E M k u pc L [.int 1] h Q := by
  intro p e R s m args below meth c H locs cells slots ls F hR hS hl hc hs
  obtain ⟨x1, x2, x3⟩ := F.scr
  refine W.widen (k := R.cells) (n := R.slots) (by omega) (by omega) ?_
  refine va_forget (fun q hq => by have := hS.2.2 q hq; unfold xA at this; omega) ?_
  intro T hT X
  obtain ⟨t, a1, o, b1, b2, b3, L0, b4, b5⟩ := W.zret (Qc := fun _ _ o _ => o = .returned (some (.int 1))) (free := fun _ => False) F.1 F.2.1 (F.2.2.1.trans hr) (v := 1) rfl (fun t ht hW => rfl) (fun q hq => by cases hq) d F.2.2.2.1 T hT X
  have e : L0 = [] := by
    cases L0 with
    | nil => rfl
    | cons x xs => exact (b5 x List.mem_cons_self).elim
  subst e
  exact ⟨t, a1, o, b1, b2, b3, b4⟩
end VSCR
