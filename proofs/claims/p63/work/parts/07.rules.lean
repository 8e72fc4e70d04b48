def bI (b : Bool) : Int32 := if b then 1 else 0
theorem bI_nI (b : Bool) : bI b = nI (if b then 1 else 0) := by cases b <;> rfl
theorem bI_0 (b : Bool) : bI b = 0 ↔ b = false := by cases b <;> simp [bI]
theorem bI_nar (b : Bool) : narrow .boolean (.int (bI b)) = .int (bI b) := by cases b <;> rfl
section XRULES
variable {E : XG} {M : XM} {k u : Nat} {L : List (Option Value)} {st : List Value} {h : XH} {Q : XO → Prop}
/-- more room than is wanted -/
theorem X_less {k' u' : Nat} {pc : Nat} (hk : k' ≤ k) (hu : u' ≤ u) (kk : XW E M k' u' pc L st h Q) : XW E M k u pc L st h Q := by
  intro p e R s m args below meth c H locs cells slots ls F hR hS hl hc hs
  exact kk p e R s m args below meth c H locs cells slots ls F hR hS hl (by omega) (by omega)
theorem X_post {Q' : XO → Prop} {pc : Nat} (hq : ∀ o, Q' o → Q o) (kk : XW E M k u pc L st h Q') : XW E M k u pc L st h Q := by
  intro p e R s m args below meth c H locs cells slots ls F hR hS hl hc hs T hT X
  obtain ⟨t, a1, oc, b1, b2, b3⟩ := kk p e R s m args below meth c H locs cells slots ls F hR hS hl hc hs T hT X
  refine ⟨t, a1, oc, b1, b2, ?_⟩
  rcases b3 with ⟨⟨⟨v, h', q1, q2, q3⟩, q4⟩, q5⟩ | ⟨q, q1, En, ce, L1, ⟨⟨cc, h', q2, q3, q4⟩, q5⟩, q6⟩
  · exact Or.inl ⟨⟨⟨v, h', q1, hq _ q2, q3⟩, q4⟩, q5⟩
  · exact Or.inr ⟨q, q1, En, ce, L1, ⟨⟨cc, h', q2, hq _ q3, q4⟩, q5⟩, q6⟩
theorem X_iadd (pc : Nat) {x y : Int32} (d : decode (mC M) pc = .ok (.iadd, 1))  (kk : XW E M k u (pc + 1) L (.int (x + y) :: st) h Q) : XW E M k u pc L (.int y :: .int x :: st) h Q := by
  intro p e R s m args below meth c H locs cells slots ls F hR hS hl hc hs
  exact lv_iadd F.1 F.2.1 d  (kk p e R s m args below meth c H locs cells slots ls F hR hS hl hc hs)
theorem X_isub (pc : Nat) {x y : Int32} (d : decode (mC M) pc = .ok (.isub, 1))  (kk : XW E M k u (pc + 1) L (.int (x - y) :: st) h Q) : XW E M k u pc L (.int y :: .int x :: st) h Q := by
  intro p e R s m args below meth c H locs cells slots ls F hR hS hl hc hs
  exact lv_isub F.1 F.2.1 d  (kk p e R s m args below meth c H locs cells slots ls F hR hS hl hc hs)
theorem X_imul (pc : Nat) {x y : Int32} (d : decode (mC M) pc = .ok (.imul, 1))  (kk : XW E M k u (pc + 1) L (.int (x * y) :: st) h Q) : XW E M k u pc L (.int y :: .int x :: st) h Q := by
  intro p e R s m args below meth c H locs cells slots ls F hR hS hl hc hs
  exact lv_imul F.1 F.2.1 d  (kk p e R s m args below meth c H locs cells slots ls F hR hS hl hc hs)
theorem X_iand (pc : Nat) {x y : Int32} (d : decode (mC M) pc = .ok (.iand, 1))  (kk : XW E M k u (pc + 1) L (.int (x &&& y) :: st) h Q) : XW E M k u pc L (.int y :: .int x :: st) h Q := by
  intro p e R s m args below meth c H locs cells slots ls F hR hS hl hc hs
  exact lv_iand F.1 F.2.1 d  (kk p e R s m args below meth c H locs cells slots ls F hR hS hl hc hs)
theorem X_ior (pc : Nat) {x y : Int32} (d : decode (mC M) pc = .ok (.ior, 1))  (kk : XW E M k u (pc + 1) L (.int (x ||| y) :: st) h Q) : XW E M k u pc L (.int y :: .int x :: st) h Q := by
  intro p e R s m args below meth c H locs cells slots ls F hR hS hl hc hs
  exact lv_ior F.1 F.2.1 d  (kk p e R s m args below meth c H locs cells slots ls F hR hS hl hc hs)
theorem X_ixor (pc : Nat) {x y : Int32} (d : decode (mC M) pc = .ok (.ixor, 1))  (kk : XW E M k u (pc + 1) L (.int (x ^^^ y) :: st) h Q) : XW E M k u pc L (.int y :: .int x :: st) h Q := by
  intro p e R s m args below meth c H locs cells slots ls F hR hS hl hc hs
  exact lv_ixor F.1 F.2.1 d  (kk p e R s m args below meth c H locs cells slots ls F hR hS hl hc hs)
theorem X_ishl (pc : Nat) {x y : Int32} (d : decode (mC M) pc = .ok (.ishl, 1))  (kk : XW E M k u (pc + 1) L (.int (x <<< (y &&& 31)) :: st) h Q) : XW E M k u pc L (.int y :: .int x :: st) h Q := by
  intro p e R s m args below meth c H locs cells slots ls F hR hS hl hc hs
  exact lv_ishl F.1 F.2.1 d  (kk p e R s m args below meth c H locs cells slots ls F hR hS hl hc hs)
theorem X_ishr (pc : Nat) {x y : Int32} (d : decode (mC M) pc = .ok (.ishr, 1))  (kk : XW E M k u (pc + 1) L (.int (x >>> (y &&& 31)) :: st) h Q) : XW E M k u pc L (.int y :: .int x :: st) h Q := by
  intro p e R s m args below meth c H locs cells slots ls F hR hS hl hc hs
  exact lv_ishr F.1 F.2.1 d  (kk p e R s m args below meth c H locs cells slots ls F hR hS hl hc hs)
theorem X_idiv (pc : Nat) {x y : Int32} (d : decode (mC M) pc = .ok (.idiv, 1)) (hne : ¬ y = 0) (kk : XW E M k u (pc + 1) L (.int (x / y) :: st) h Q) : XW E M k u pc L (.int y :: .int x :: st) h Q := by
  intro p e R s m args below meth c H locs cells slots ls F hR hS hl hc hs
  exact lv_idiv F.1 F.2.1 d hne (kk p e R s m args below meth c H locs cells slots ls F hR hS hl hc hs)
theorem X_irem (pc : Nat) {x y : Int32} (d : decode (mC M) pc = .ok (.irem, 1)) (hne : ¬ y = 0) (kk : XW E M k u (pc + 1) L (.int (x - x / y * y) :: st) h Q) : XW E M k u pc L (.int y :: .int x :: st) h Q := by
  intro p e R s m args below meth c H locs cells slots ls F hR hS hl hc hs
  exact lv_irem F.1 F.2.1 d hne (kk p e R s m args below meth c H locs cells slots ls F hR hS hl hc hs)
theorem X_land (pc : Nat) {x y : Int64} (d : decode (mC M) pc = .ok (.land, 1))  (kk : XW E M k u (pc + 1) L (.long (x &&& y) :: st) h Q) : XW E M k u pc L (.long y :: .long x :: st) h Q := by
  intro p e R s m args below meth c H locs cells slots ls F hR hS hl hc hs
  exact lv_land F.1 F.2.1 d  (kk p e R s m args below meth c H locs cells slots ls F hR hS hl hc hs)
theorem X_lor (pc : Nat) {x y : Int64} (d : decode (mC M) pc = .ok (.lor, 1))  (kk : XW E M k u (pc + 1) L (.long (x ||| y) :: st) h Q) : XW E M k u pc L (.long y :: .long x :: st) h Q := by
  intro p e R s m args below meth c H locs cells slots ls F hR hS hl hc hs
  exact lv_lor F.1 F.2.1 d  (kk p e R s m args below meth c H locs cells slots ls F hR hS hl hc hs)
theorem X_lcmp (pc : Nat) {x y : Int64} (d : decode (mC M) pc = .ok (.lcmp, 1))  (kk : XW E M k u (pc + 1) L (.int (lg_cmp x y) :: st) h Q) : XW E M k u pc L (.long y :: .long x :: st) h Q := by
  intro p e R s m args below meth c H locs cells slots ls F hR hS hl hc hs
  exact W.lcmp F.1 F.2.1 d  (kk p e R s m args below meth c H locs cells slots ls F hR hS hl hc hs)
theorem X_i2l (pc : Nat) {x : Int32} (d : decode (mC M) pc = .ok (.i2l, 1))  (kk : XW E M k u (pc + 1) L (.long x.toInt64 :: st) h Q) : XW E M k u pc L (.int x :: st) h Q := by
  intro p e R s m args below meth c H locs cells slots ls F hR hS hl hc hs
  exact lv_i2l F.1 F.2.1 d rfl (kk p e R s m args below meth c H locs cells slots ls F hR hS hl hc hs)
theorem X_l2i (pc : Nat) {x : Int64} (d : decode (mC M) pc = .ok (.l2i, 1))  (kk : XW E M k u (pc + 1) L (.int x.toInt32 :: st) h Q) : XW E M k u pc L (.long x :: st) h Q := by
  intro p e R s m args below meth c H locs cells slots ls F hR hS hl hc hs
  exact lv_l2i F.1 F.2.1 d rfl (kk p e R s m args below meth c H locs cells slots ls F hR hS hl hc hs)
theorem X_i2b (pc : Nat) {x : Int32} (d : decode (mC M) pc = .ok (.i2b, 1))  (kk : XW E M k u (pc + 1) L (.int x.toInt8.toInt32 :: st) h Q) : XW E M k u pc L (.int x :: st) h Q := by
  intro p e R s m args below meth c H locs cells slots ls F hR hS hl hc hs
  exact lv_i2b F.1 F.2.1 d rfl (kk p e R s m args below meth c H locs cells slots ls F hR hS hl hc hs)
theorem X_i2c (pc : Nat) {x : Int32} (d : decode (mC M) pc = .ok (.i2c, 1))  (kk : XW E M k u (pc + 1) L (.int (x.toUInt32 % 65536).toInt32 :: st) h Q) : XW E M k u pc L (.int x :: st) h Q := by
  intro p e R s m args below meth c H locs cells slots ls F hR hS hl hc hs
  exact lv_i2c F.1 F.2.1 d rfl (kk p e R s m args below meth c H locs cells slots ls F hR hS hl hc hs)
theorem X_lshl (pc : Nat) {x : Int64} {y : Int32} (d : decode (mC M) pc = .ok (.lshl, 1))  (kk : XW E M k u (pc + 1) L (.long (x <<< (y.toInt64 &&& 63)) :: st) h Q) : XW E M k u pc L (.int y :: .long x :: st) h Q := by
  intro p e R s m args below meth c H locs cells slots ls F hR hS hl hc hs
  exact lv_lshl F.1 F.2.1 d rfl (kk p e R s m args below meth c H locs cells slots ls F hR hS hl hc hs)
theorem X_lshr (pc : Nat) {x : Int64} {y : Int32} (d : decode (mC M) pc = .ok (.lshr, 1))  (kk : XW E M k u (pc + 1) L (.long (x >>> (y.toInt64 &&& 63)) :: st) h Q) : XW E M k u pc L (.int y :: .long x :: st) h Q := by
  intro p e R s m args below meth c H locs cells slots ls F hR hS hl hc hs
  exact lv_lshr F.1 F.2.1 d rfl (kk p e R s m args below meth c H locs cells slots ls F hR hS hl hc hs)
theorem X_lconst (pc : Nat) (n : Fin 2) (d : decode (mC M) pc = .ok (.lconst n, 1))  (kk : XW E M k u (pc + 1) L (.long (Int64.ofNat (n : Nat)) :: st) h Q) : XW E M k u pc L (st) h Q := by
  intro p e R s m args below meth c H locs cells slots ls F hR hS hl hc hs
  exact lv_lconst F.1 F.2.1 d rfl (kk p e R s m args below meth c H locs cells slots ls F hR hS hl hc hs)
theorem X_dup (pc : Nat) {va : Value} (d : decode (mC M) pc = .ok (.dup, 1)) (hva : va.category = 1) (kk : XW E M k u (pc + 1) L (va :: va :: st) h Q) : XW E M k u pc L (va :: st) h Q := by
  intro p e R s m args below meth c H locs cells slots ls F hR hS hl hc hs
  exact lv_dup F.1 F.2.1 d hva (kk p e R s m args below meth c H locs cells slots ls F hR hS hl hc hs)
theorem X_pop (pc : Nat) {va : Value} (d : decode (mC M) pc = .ok (.pop, 1)) (hva : va.category = 1) (kk : XW E M k u (pc + 1) L (st) h Q) : XW E M k u pc L (va :: st) h Q := by
  intro p e R s m args below meth c H locs cells slots ls F hR hS hl hc hs
  exact lv_pop F.1 F.2.1 d hva (kk p e R s m args below meth c H locs cells slots ls F hR hS hl hc hs)
theorem X_dup2 (pc : Nat) {va vb : Value} (d : decode (mC M) pc = .ok (.dup2, 1)) (hva : va.category = 1) (hvb : vb.category = 1) (kk : XW E M k u (pc + 1) L (va :: vb :: va :: vb :: st) h Q) : XW E M k u pc L (va :: vb :: st) h Q := by
  intro p e R s m args below meth c H locs cells slots ls F hR hS hl hc hs
  exact lv_dup2_11 F.1 F.2.1 d hva hvb (kk p e R s m args below meth c H locs cells slots ls F hR hS hl hc hs)
theorem X_ic (pc : Nat) {z : Int} (v : Int32) (d : decode (mC M) pc = .ok (.iconst z, 1)) (hv : Int32.ofInt z = v) (kk : XW E M k u (pc + 1) L (.int v :: st) h Q) : XW E M k u pc L (st) h Q := by
  intro p e R s m args below meth c H locs cells slots ls F hR hS hl hc hs
  exact lv_iconst F.1 F.2.1 d hv (kk p e R s m args below meth c H locs cells slots ls F hR hS hl hc hs)
theorem X_bip (pc : Nat) {z : Int} (v : Int32) (d : decode (mC M) pc = .ok (.bipush z, 2)) (hv : (Int8.ofInt z).toInt32 = v) (kk : XW E M k u (pc + 2) L (.int v :: st) h Q) : XW E M k u pc L (st) h Q := by
  intro p e R s m args below meth c H locs cells slots ls F hR hS hl hc hs
  exact lv_bipush F.1 F.2.1 d hv (kk p e R s m args below meth c H locs cells slots ls F hR hS hl hc hs)
theorem X_sip (pc : Nat) {z : Int} (v : Int32) (d : decode (mC M) pc = .ok (.sipush z, 3)) (hv : (Int16.ofInt z).toInt32 = v) (kk : XW E M k u (pc + 3) L (.int v :: st) h Q) : XW E M k u pc L (st) h Q := by
  intro p e R s m args below meth c H locs cells slots ls F hR hS hl hc hs
  exact lv_sipush F.1 F.2.1 d hv (kk p e R s m args below meth c H locs cells slots ls F hR hS hl hc hs)
theorem X_iaddN (pc : Nat) {x y : Nat} (d : decode (mC M) pc = .ok (.iadd, 1))  (kk : XW E M k u (pc + 1) L (.int (nI (x + y)) :: st) h Q) : XW E M k u pc L (.int (nI y) :: .int (nI x) :: st) h Q := by
  refine X_iadd pc d ?_
  rw [nI_add]; exact kk
theorem X_imulN (pc : Nat) {x y : Nat} (d : decode (mC M) pc = .ok (.imul, 1))  (kk : XW E M k u (pc + 1) L (.int (nI (x * y)) :: st) h Q) : XW E M k u pc L (.int (nI y) :: .int (nI x) :: st) h Q := by
  refine X_imul pc d ?_
  rw [pk_mul]; exact kk
theorem X_isubN (pc : Nat) {x y : Nat} (d : decode (mC M) pc = .ok (.isub, 1)) (hle : y ≤ x) (kk : XW E M k u (pc + 1) L (.int (nI (x - y)) :: st) h Q) : XW E M k u pc L (.int (nI y) :: .int (nI x) :: st) h Q := by
  refine X_isub pc d ?_
  rw [pk_sub hle]; exact kk
theorem X_idivN (pc : Nat) {x y : Nat} (d : decode (mC M) pc = .ok (.idiv, 1)) (hx : x < 2 ^ 31) (h0 : 0 < y) (hy : y < 2 ^ 31) (kk : XW E M k u (pc + 1) L (.int (nI (x / y)) :: st) h Q) : XW E M k u pc L (.int (nI y) :: .int (nI x) :: st) h Q := by
  refine X_idiv pc d (nI_ne0 h0 hy) ?_
  rw [pk_div hx h0 hy]; exact kk
theorem X_iremN (pc : Nat) {x y : Nat} (d : decode (mC M) pc = .ok (.irem, 1)) (hx : x < 2 ^ 31) (h0 : 0 < y) (hy : y < 2 ^ 31) (kk : XW E M k u (pc + 1) L (.int (nI (x % y)) :: st) h Q) : XW E M k u pc L (.int (nI y) :: .int (nI x) :: st) h Q := by
  refine X_irem pc d (nI_ne0 h0 hy) ?_
  rw [pk_rem hx h0 hy]; exact kk
theorem X_icmpeq (pc tgt : Nat) {x y : Int32} {off : Int} (d : decode (mC M) pc = .ok (.if_icmp .eq off, 3)) (ht : (pc : Int) + off = (tgt : Int)) (kt : x = y → XW E M k u tgt L (st) h Q) (kf : ¬ x = y → XW E M k u (pc + 3) L (st) h Q) : XW E M k u pc L (.int y :: .int x :: st) h Q := by
  intro p e R s m args below meth c H locs cells slots ls F hR hS hl hc hs
  exact lv_icmp_eq F.1 F.2.1 d ht (fun q => kt q p e R s m args below meth c H locs cells slots ls F hR hS hl hc hs) (fun q => kf q p e R s m args below meth c H locs cells slots ls F hR hS hl hc hs)
theorem X_ifeq (pc tgt : Nat) {x : Int32} {off : Int} (d : decode (mC M) pc = .ok (.ifCond .eq off, 3)) (ht : (pc : Int) + off = (tgt : Int)) (kt : x = 0 → XW E M k u tgt L (st) h Q) (kf : ¬ x = 0 → XW E M k u (pc + 3) L (st) h Q) : XW E M k u pc L (.int x :: st) h Q := by
  intro p e R s m args below meth c H locs cells slots ls F hR hS hl hc hs
  exact lv_if_eq F.1 F.2.1 d ht (fun q => kt q p e R s m args below meth c H locs cells slots ls F hR hS hl hc hs) (fun q => kf q p e R s m args below meth c H locs cells slots ls F hR hS hl hc hs)
theorem X_icmpne (pc tgt : Nat) {x y : Int32} {off : Int} (d : decode (mC M) pc = .ok (.if_icmp .ne off, 3)) (ht : (pc : Int) + off = (tgt : Int)) (kt : ¬ x = y → XW E M k u tgt L (st) h Q) (kf : x = y → XW E M k u (pc + 3) L (st) h Q) : XW E M k u pc L (.int y :: .int x :: st) h Q := by
  intro p e R s m args below meth c H locs cells slots ls F hR hS hl hc hs
  exact lv_icmp_ne F.1 F.2.1 d ht (fun q => kt q p e R s m args below meth c H locs cells slots ls F hR hS hl hc hs) (fun q => kf q p e R s m args below meth c H locs cells slots ls F hR hS hl hc hs)
theorem X_ifne (pc tgt : Nat) {x : Int32} {off : Int} (d : decode (mC M) pc = .ok (.ifCond .ne off, 3)) (ht : (pc : Int) + off = (tgt : Int)) (kt : ¬ x = 0 → XW E M k u tgt L (st) h Q) (kf : x = 0 → XW E M k u (pc + 3) L (st) h Q) : XW E M k u pc L (.int x :: st) h Q := by
  intro p e R s m args below meth c H locs cells slots ls F hR hS hl hc hs
  exact lv_if_ne F.1 F.2.1 d ht (fun q => kt q p e R s m args below meth c H locs cells slots ls F hR hS hl hc hs) (fun q => kf q p e R s m args below meth c H locs cells slots ls F hR hS hl hc hs)
theorem X_icmplt (pc tgt : Nat) {x y : Int32} {off : Int} (d : decode (mC M) pc = .ok (.if_icmp .lt off, 3)) (ht : (pc : Int) + off = (tgt : Int)) (kt : x < y → XW E M k u tgt L (st) h Q) (kf : ¬ x < y → XW E M k u (pc + 3) L (st) h Q) : XW E M k u pc L (.int y :: .int x :: st) h Q := by
  intro p e R s m args below meth c H locs cells slots ls F hR hS hl hc hs
  exact lv_icmp_lt F.1 F.2.1 d ht (fun q => kt q p e R s m args below meth c H locs cells slots ls F hR hS hl hc hs) (fun q => kf q p e R s m args below meth c H locs cells slots ls F hR hS hl hc hs)
theorem X_iflt (pc tgt : Nat) {x : Int32} {off : Int} (d : decode (mC M) pc = .ok (.ifCond .lt off, 3)) (ht : (pc : Int) + off = (tgt : Int)) (kt : x < 0 → XW E M k u tgt L (st) h Q) (kf : ¬ x < 0 → XW E M k u (pc + 3) L (st) h Q) : XW E M k u pc L (.int x :: st) h Q := by
  intro p e R s m args below meth c H locs cells slots ls F hR hS hl hc hs
  exact lv_if_lt F.1 F.2.1 d ht (fun q => kt q p e R s m args below meth c H locs cells slots ls F hR hS hl hc hs) (fun q => kf q p e R s m args below meth c H locs cells slots ls F hR hS hl hc hs)
theorem X_icmpge (pc tgt : Nat) {x y : Int32} {off : Int} (d : decode (mC M) pc = .ok (.if_icmp .ge off, 3)) (ht : (pc : Int) + off = (tgt : Int)) (kt : y ≤ x → XW E M k u tgt L (st) h Q) (kf : ¬ y ≤ x → XW E M k u (pc + 3) L (st) h Q) : XW E M k u pc L (.int y :: .int x :: st) h Q := by
  intro p e R s m args below meth c H locs cells slots ls F hR hS hl hc hs
  exact lv_icmp_ge F.1 F.2.1 d ht (fun q => kt q p e R s m args below meth c H locs cells slots ls F hR hS hl hc hs) (fun q => kf q p e R s m args below meth c H locs cells slots ls F hR hS hl hc hs)
theorem X_ifge (pc tgt : Nat) {x : Int32} {off : Int} (d : decode (mC M) pc = .ok (.ifCond .ge off, 3)) (ht : (pc : Int) + off = (tgt : Int)) (kt : 0 ≤ x → XW E M k u tgt L (st) h Q) (kf : ¬ 0 ≤ x → XW E M k u (pc + 3) L (st) h Q) : XW E M k u pc L (.int x :: st) h Q := by
  intro p e R s m args below meth c H locs cells slots ls F hR hS hl hc hs
  exact lv_if_ge F.1 F.2.1 d ht (fun q => kt q p e R s m args below meth c H locs cells slots ls F hR hS hl hc hs) (fun q => kf q p e R s m args below meth c H locs cells slots ls F hR hS hl hc hs)
theorem X_icmpgt (pc tgt : Nat) {x y : Int32} {off : Int} (d : decode (mC M) pc = .ok (.if_icmp .gt off, 3)) (ht : (pc : Int) + off = (tgt : Int)) (kt : y < x → XW E M k u tgt L (st) h Q) (kf : ¬ y < x → XW E M k u (pc + 3) L (st) h Q) : XW E M k u pc L (.int y :: .int x :: st) h Q := by
  intro p e R s m args below meth c H locs cells slots ls F hR hS hl hc hs
  exact lv_icmp_gt F.1 F.2.1 d ht (fun q => kt q p e R s m args below meth c H locs cells slots ls F hR hS hl hc hs) (fun q => kf q p e R s m args below meth c H locs cells slots ls F hR hS hl hc hs)
theorem X_ifgt (pc tgt : Nat) {x : Int32} {off : Int} (d : decode (mC M) pc = .ok (.ifCond .gt off, 3)) (ht : (pc : Int) + off = (tgt : Int)) (kt : 0 < x → XW E M k u tgt L (st) h Q) (kf : ¬ 0 < x → XW E M k u (pc + 3) L (st) h Q) : XW E M k u pc L (.int x :: st) h Q := by
  intro p e R s m args below meth c H locs cells slots ls F hR hS hl hc hs
  exact lv_if_gt F.1 F.2.1 d ht (fun q => kt q p e R s m args below meth c H locs cells slots ls F hR hS hl hc hs) (fun q => kf q p e R s m args below meth c H locs cells slots ls F hR hS hl hc hs)
theorem X_icmple (pc tgt : Nat) {x y : Int32} {off : Int} (d : decode (mC M) pc = .ok (.if_icmp .le off, 3)) (ht : (pc : Int) + off = (tgt : Int)) (kt : x ≤ y → XW E M k u tgt L (st) h Q) (kf : ¬ x ≤ y → XW E M k u (pc + 3) L (st) h Q) : XW E M k u pc L (.int y :: .int x :: st) h Q := by
  intro p e R s m args below meth c H locs cells slots ls F hR hS hl hc hs
  exact lv_icmp_le F.1 F.2.1 d ht (fun q => kt q p e R s m args below meth c H locs cells slots ls F hR hS hl hc hs) (fun q => kf q p e R s m args below meth c H locs cells slots ls F hR hS hl hc hs)
theorem X_ifle (pc tgt : Nat) {x : Int32} {off : Int} (d : decode (mC M) pc = .ok (.ifCond .le off, 3)) (ht : (pc : Int) + off = (tgt : Int)) (kt : x ≤ 0 → XW E M k u tgt L (st) h Q) (kf : ¬ x ≤ 0 → XW E M k u (pc + 3) L (st) h Q) : XW E M k u pc L (.int x :: st) h Q := by
  intro p e R s m args below meth c H locs cells slots ls F hR hS hl hc hs
  exact lv_if_le F.1 F.2.1 d ht (fun q => kt q p e R s m args below meth c H locs cells slots ls F hR hS hl hc hs) (fun q => kf q p e R s m args below meth c H locs cells slots ls F hR hS hl hc hs)
theorem X_icmpeqN (pc tgt : Nat) {x y : Nat} {off : Int} (d : decode (mC M) pc = .ok (.if_icmp .eq off, 3)) (ht : (pc : Int) + off = (tgt : Int)) (hx : x < 2 ^ 31) (hy : y < 2 ^ 31) (kt : x = y → XW E M k u tgt L (st) h Q) (kf : x ≠ y → XW E M k u (pc + 3) L (st) h Q) : XW E M k u pc L (.int (nI y) :: .int (nI x) :: st) h Q :=
  X_icmpeq pc tgt d ht (fun q => kt ((nI_eq hx hy).mp q)) (fun q => kf (fun z => q ((nI_eq hx hy).mpr z)))
theorem X_icmpneN (pc tgt : Nat) {x y : Nat} {off : Int} (d : decode (mC M) pc = .ok (.if_icmp .ne off, 3)) (ht : (pc : Int) + off = (tgt : Int)) (hx : x < 2 ^ 31) (hy : y < 2 ^ 31) (kt : x ≠ y → XW E M k u tgt L (st) h Q) (kf : x = y → XW E M k u (pc + 3) L (st) h Q) : XW E M k u pc L (.int (nI y) :: .int (nI x) :: st) h Q :=
  X_icmpne pc tgt d ht (fun q => kt (fun z => q ((nI_eq hx hy).mpr z))) (fun q => kf ((nI_eq hx hy).mp q))
theorem X_icmpltN (pc tgt : Nat) {x y : Nat} {off : Int} (d : decode (mC M) pc = .ok (.if_icmp .lt off, 3)) (ht : (pc : Int) + off = (tgt : Int)) (hx : x < 2 ^ 31) (hy : y < 2 ^ 31) (kt : x < y → XW E M k u tgt L (st) h Q) (kf : y ≤ x → XW E M k u (pc + 3) L (st) h Q) : XW E M k u pc L (.int (nI y) :: .int (nI x) :: st) h Q :=
  X_icmplt pc tgt d ht (fun q => kt ((nI_ltI hx hy).mp q)) (fun q => kf (Nat.not_lt.mp (fun z => q ((nI_ltI hx hy).mpr z))))
theorem X_icmpgeN (pc tgt : Nat) {x y : Nat} {off : Int} (d : decode (mC M) pc = .ok (.if_icmp .ge off, 3)) (ht : (pc : Int) + off = (tgt : Int)) (hx : x < 2 ^ 31) (hy : y < 2 ^ 31) (kt : y ≤ x → XW E M k u tgt L (st) h Q) (kf : x < y → XW E M k u (pc + 3) L (st) h Q) : XW E M k u pc L (.int (nI y) :: .int (nI x) :: st) h Q :=
  X_icmpge pc tgt d ht (fun q => kt ((nI_leI hy hx).mp q)) (fun q => kf (Nat.not_le.mp (fun z => q ((nI_leI hy hx).mpr z))))
theorem X_icmpgtN (pc tgt : Nat) {x y : Nat} {off : Int} (d : decode (mC M) pc = .ok (.if_icmp .gt off, 3)) (ht : (pc : Int) + off = (tgt : Int)) (hx : x < 2 ^ 31) (hy : y < 2 ^ 31) (kt : y < x → XW E M k u tgt L (st) h Q) (kf : x ≤ y → XW E M k u (pc + 3) L (st) h Q) : XW E M k u pc L (.int (nI y) :: .int (nI x) :: st) h Q :=
  X_icmpgt pc tgt d ht (fun q => kt ((nI_ltI hy hx).mp q)) (fun q => kf (Nat.not_lt.mp (fun z => q ((nI_ltI hy hx).mpr z))))
theorem X_icmpleN (pc tgt : Nat) {x y : Nat} {off : Int} (d : decode (mC M) pc = .ok (.if_icmp .le off, 3)) (ht : (pc : Int) + off = (tgt : Int)) (hx : x < 2 ^ 31) (hy : y < 2 ^ 31) (kt : x ≤ y → XW E M k u tgt L (st) h Q) (kf : y < x → XW E M k u (pc + 3) L (st) h Q) : XW E M k u pc L (.int (nI y) :: .int (nI x) :: st) h Q :=
  X_icmple pc tgt d ht (fun q => kt ((nI_leI hx hy).mp q)) (fun q => kf (Nat.not_le.mp (fun z => q ((nI_leI hx hy).mpr z))))
theorem nI_z {x : Nat} (hx : x < 2 ^ 31) : nI x = 0 ↔ x = 0 := by rw [← nI_0]; exact nI_eq hx (by omega)
theorem nI_m1 {x : Nat} (hx : x < 2 ^ 31) : ¬ nI x = -1 := fun q => nI_pos hx (by rw [q]; decide)
theorem X_ifeqN (pc tgt : Nat) {x : Nat} {off : Int} (d : decode (mC M) pc = .ok (.ifCond .eq off, 3)) (ht : (pc : Int) + off = (tgt : Int)) (hx : x < 2 ^ 31) (kt : x = 0 → XW E M k u tgt L (st) h Q) (kf : x ≠ 0 → XW E M k u (pc + 3) L (st) h Q) : XW E M k u pc L (.int (nI x) :: st) h Q :=
  X_ifeq pc tgt d ht (fun q => kt ((nI_z hx).mp q)) (fun q => kf (fun z => q ((nI_z hx).mpr z)))
theorem X_ifeqB (pc tgt : Nat) {b : Bool} {off : Int} (d : decode (mC M) pc = .ok (.ifCond .eq off, 3)) (ht : (pc : Int) + off = (tgt : Int)) (kt : b = false → XW E M k u tgt L (st) h Q) (kf : b = true → XW E M k u (pc + 3) L (st) h Q) : XW E M k u pc L (.int (bI b) :: st) h Q :=
  X_ifeq pc tgt d ht (fun q => kt ((bI_0 b).mp q)) (fun q => kf (by cases b with | true => rfl | false => exact absurd rfl q))
theorem X_ifneN (pc tgt : Nat) {x : Nat} {off : Int} (d : decode (mC M) pc = .ok (.ifCond .ne off, 3)) (ht : (pc : Int) + off = (tgt : Int)) (hx : x < 2 ^ 31) (kt : x ≠ 0 → XW E M k u tgt L (st) h Q) (kf : x = 0 → XW E M k u (pc + 3) L (st) h Q) : XW E M k u pc L (.int (nI x) :: st) h Q :=
  X_ifne pc tgt d ht (fun q => kt (fun z => q ((nI_z hx).mpr z))) (fun q => kf ((nI_z hx).mp q))
theorem X_ifneB (pc tgt : Nat) {b : Bool} {off : Int} (d : decode (mC M) pc = .ok (.ifCond .ne off, 3)) (ht : (pc : Int) + off = (tgt : Int)) (kt : b = true → XW E M k u tgt L (st) h Q) (kf : b = false → XW E M k u (pc + 3) L (st) h Q) : XW E M k u pc L (.int (bI b) :: st) h Q :=
  X_ifne pc tgt d ht (fun q => kt (by cases b with | true => rfl | false => exact absurd rfl q)) (fun q => kf ((bI_0 b).mp q))
theorem X_ifltN (pc tgt : Nat) {x : Nat} {off : Int} (d : decode (mC M) pc = .ok (.ifCond .lt off, 3)) (ht : (pc : Int) + off = (tgt : Int)) (hx : x < 2 ^ 31) (kf : XW E M k u (pc + 3) L (st) h Q) : XW E M k u pc L (.int (nI x) :: st) h Q :=
  X_iflt pc tgt d ht (fun q => absurd q (nI_pos hx)) (fun _ => kf)
theorem X_ifgeN (pc tgt : Nat) {x : Nat} {off : Int} (d : decode (mC M) pc = .ok (.ifCond .ge off, 3)) (ht : (pc : Int) + off = (tgt : Int)) (hx : x < 2 ^ 31) (kt : XW E M k u tgt L (st) h Q) : XW E M k u pc L (.int (nI x) :: st) h Q :=
  X_ifge pc tgt d ht (fun _ => kt) (fun q => absurd (nI_pos' hx) q)
theorem X_ifleN (pc tgt : Nat) {x : Nat} {off : Int} (d : decode (mC M) pc = .ok (.ifCond .le off, 3)) (ht : (pc : Int) + off = (tgt : Int)) (hx : x < 2 ^ 31) (kt : x = 0 → XW E M k u tgt L (st) h Q) (kf : 0 < x → XW E M k u (pc + 3) L (st) h Q) : XW E M k u pc L (.int (nI x) :: st) h Q :=
  X_ifle pc tgt d ht (fun q => kt (by rcases Nat.eq_zero_or_pos x with z | z; exact z; exact absurd q (nI_nle z hx))) (fun q => kf (by rcases Nat.eq_zero_or_pos x with z | z; exact absurd (by rw [z]; decide) q; exact z))
theorem X_ifgtN (pc tgt : Nat) {x : Nat} {off : Int} (d : decode (mC M) pc = .ok (.ifCond .gt off, 3)) (ht : (pc : Int) + off = (tgt : Int)) (hx : x < 2 ^ 31) (kt : 0 < x → XW E M k u tgt L (st) h Q) (kf : x = 0 → XW E M k u (pc + 3) L (st) h Q) : XW E M k u pc L (.int (nI x) :: st) h Q :=
  X_ifgt pc tgt d ht (fun q => kt (by rcases Nat.eq_zero_or_pos x with z | z; exact absurd (by rw [z] at q; exact q) (by decide); exact z)) (fun q => kf (by rcases Nat.eq_zero_or_pos x with z | z; exact z; exact absurd (by have := nI_lt z hx; rwa [nI_0] at this) q))
theorem X_goto (pc tgt : Nat) {off : Int} (d : decode (mC M) pc = .ok (.goto off, 3)) (ht : (pc : Int) + off = (tgt : Int)) (kk : XW E M k u tgt L (st) h Q) : XW E M k u pc L (st) h Q := by
  intro p e R s m args below meth c H locs cells slots ls F hR hS hl hc hs
  exact lv_goto F.1 F.2.1 d ht (kk p e R s m args below meth c H locs cells slots ls F hR hS hl hc hs)
def xpl (L : List (Option Value)) : List (Nat × Value) := (List.range L.length).filterMap (fun i => (L[i]?.getD none).map (fun v => (i, v)))
theorem xpl_mem {L : List (Option Value)} {i : Nat} {v : Value} : (i, v) ∈ xpl L ↔ L[i]? = some (some v) := by
  unfold xpl
  rw [List.mem_filterMap]
  constructor
  · rintro ⟨j, hj, e⟩
    cases hl : L[j]? with
    | none => rw [hl] at e; simp at e
    | some o =>
      rw [hl] at e
      cases o with
      | none => simp at e
      | some w =>
        simp only [Option.getD_some, Option.map_some, Option.some.injEq, Prod.mk.injEq] at e
        obtain ⟨rfl, rfl⟩ := e
        exact hl
  · intro hl
    exact ⟨i, List.mem_range.mpr (List.getElem?_eq_some_iff.mp hl).1, by rw [hl]; rfl⟩
theorem xL.has {ls : Array Slot} {n : Nat} {L : List (Option Value)} (h : xL ls n L) : lv_has ls n (xpl L) :=
  ⟨h.1, h.2.1, fun q hq => h.2.2.2 q.1 q.2 (xpl_mem.mp hq)⟩
/-- the value ahead of a place has one half -/
def xpv (L : List (Option Value)) : Nat → Bool
  | 0 => true
  | j + 1 => match L[j]? with
    | some (some w) => w.category != 2
    | _ => true
theorem xpv_of {L : List (Option Value)} {i j : Nat} {w : Value} (hp : xpv L i = true) (hj : L[j]? = some (some w)) (e : j + 1 = i) : (w.category == 2) = false := by
  subst e
  simp only [xpv, hj] at hp
  simpa using hp
theorem xL.st1 {ls ls' : Array Slot} {n : Nat} {L : List (Option Value)} {i : Nat} {v : Value} (h0 : xL ls n L) (hp : xpv L i = true)
    (h : lv_has ls' n ((i, v) :: (xpl L).filter (fun q => !(q.1 == i) && !(q.1 + 1 == i && q.2.category == 2)))) : xL ls' n (L.set i (some v)) := by
  refine ⟨h.1, h.2.1, by rw [List.length_set]; exact h0.2.2.1, fun j w hj => ?_⟩
  by_cases e : j = i
  · subst e
    have hlt : j < L.length := by
      have := (List.getElem?_eq_some_iff.mp hj).1
      rwa [List.length_set] at this
    rw [List.getElem?_set_self hlt] at hj
    cases hj
    exact h.2.2 _ List.mem_cons_self
  · rw [List.getElem?_set_ne (Ne.symm e)] at hj
    refine h.2.2 (j, w) (List.mem_cons_of_mem _ (List.mem_filter.mpr ⟨xpl_mem.mpr hj, ?_⟩))
    have h1 : (j == i) = false := by simpa using e
    have h2 : (j + 1 == i && w.category == 2) = false := by
      by_cases e2 : j + 1 = i
      · rw [xpv_of hp hj e2, Bool.and_false]
      · have : (j + 1 == i) = false := by simpa using e2
        rw [this, Bool.false_and]
    simp only [h1, h2, Bool.not_false, Bool.and_self]
theorem xL.st2 {ls ls' : Array Slot} {n : Nat} {L : List (Option Value)} {i : Nat} {v : Value} (h0 : xL ls n L) (hp : xpv L i = true)
    (h : lv_has ls' n ((i, v) :: (xpl L).filter (fun q => !(q.1 == i) && (!(q.1 == i + 1) && !(q.1 + 1 == i && q.2.category == 2))))) : xL ls' n ((L.set i (some v)).set (i + 1) none) := by
  refine ⟨h.1, h.2.1, by rw [List.length_set, List.length_set]; exact h0.2.2.1, fun j w hj => ?_⟩
  by_cases e1 : j = i + 1
  · subst e1
    have hlt : i + 1 < (L.set i (some v)).length := by
      have := (List.getElem?_eq_some_iff.mp hj).1
      rwa [List.length_set] at this
    rw [List.getElem?_set_self hlt] at hj
    cases hj
  · rw [List.getElem?_set_ne (Ne.symm e1)] at hj
    by_cases e : j = i
    · subst e
      have hlt : j < L.length := by
        have := (List.getElem?_eq_some_iff.mp hj).1
        rwa [List.length_set] at this
      rw [List.getElem?_set_self hlt] at hj
      cases hj
      exact h.2.2 _ List.mem_cons_self
    · rw [List.getElem?_set_ne (Ne.symm e)] at hj
      refine h.2.2 (j, w) (List.mem_cons_of_mem _ (List.mem_filter.mpr ⟨xpl_mem.mpr hj, ?_⟩))
      have h1 : (j == i) = false := by simpa using e
      have h3 : (j == i + 1) = false := by simpa using e1
      have h2 : (j + 1 == i && w.category == 2) = false := by
        by_cases e2 : j + 1 = i
        · rw [xpv_of hp hj e2, Bool.and_false]
        · have : (j + 1 == i) = false := by simpa using e2
          rw [this, Bool.false_and]
      simp only [h1, h2, h3, Bool.not_false, Bool.and_self]
theorem X_iload_0 (pc : Nat)  {x : Int32} (d : decode (mC M) pc = .ok (.iload_n 0, 1)) (kk : XW E M k u (pc + 1) (some (.int x) :: L) (.int x :: st) h Q) : XW E M k u pc (some (.int x) :: L) (st) h Q := by
  intro p e R s m args below meth c H locs cells slots ls F hR hS hl hc hs
  exact lv_iload_n F.1 F.2.1 d rfl (hl.2.2.2 0 _ rfl) (kk p e R s m args below meth c H locs cells slots ls F hR hS hl hc hs)
theorem X_istore_0 (pc : Nat)  {y : Option Value} {x : Int32} (d : decode (mC M) pc = .ok (.istore_n 0, 1)) (hp : xpv (y :: L) 0 = true) (kk : XW E M k u (pc + 1) (some (.int x) :: L) (st) h Q) : XW E M k u pc (y :: L) (.int x :: st) h Q := by
  intro p e R s m args below meth c H locs cells slots ls F hR hS hl hc hs
  exact lv_istore_n F.1 F.2.1 d rfl hl.has (by have := hl.2.2.1; simp only [List.length_cons] at this; omega) rfl (fun ls1 hl1 => kk p e R s m args below meth c H locs cells slots ls1 F hR hS (hl.st1 hp hl1) hc hs)
theorem X_aload_0 (pc : Nat)  {x : Nat} (d : decode (mC M) pc = .ok (.aload_n 0, 1)) (kk : XW E M k u (pc + 1) (some (.ref x) :: L) (.ref x :: st) h Q) : XW E M k u pc (some (.ref x) :: L) (st) h Q := by
  intro p e R s m args below meth c H locs cells slots ls F hR hS hl hc hs
  exact lv_aload_n F.1 F.2.1 d rfl (hl.2.2.2 0 _ rfl) (kk p e R s m args below meth c H locs cells slots ls F hR hS hl hc hs)
theorem X_astore_0 (pc : Nat)  {y : Option Value} {x : Nat} (d : decode (mC M) pc = .ok (.astore_n 0, 1)) (hp : xpv (y :: L) 0 = true) (kk : XW E M k u (pc + 1) (some (.ref x) :: L) (st) h Q) : XW E M k u pc (y :: L) (.ref x :: st) h Q := by
  intro p e R s m args below meth c H locs cells slots ls F hR hS hl hc hs
  exact lv_astore_n F.1 F.2.1 d rfl hl.has (by have := hl.2.2.1; simp only [List.length_cons] at this; omega) rfl (fun ls1 hl1 => kk p e R s m args below meth c H locs cells slots ls1 F hR hS (hl.st1 hp hl1) hc hs)
theorem X_lload_0 (pc : Nat)  {x : Int64} (d : decode (mC M) pc = .ok (.lload_n 0, 1)) (kk : XW E M k u (pc + 1) (some (.long x) :: L) (.long x :: st) h Q) : XW E M k u pc (some (.long x) :: L) (st) h Q := by
  intro p e R s m args below meth c H locs cells slots ls F hR hS hl hc hs
  exact lv_lload_n F.1 F.2.1 d rfl (hl.2.2.2 0 _ rfl) (kk p e R s m args below meth c H locs cells slots ls F hR hS hl hc hs)
theorem X_lstore_0 (pc : Nat)  {y z : Option Value} {x : Int64} (d : decode (mC M) pc = .ok (.lstore_n 0, 1)) (hp : xpv (y :: z :: L) 0 = true) (kk : XW E M k u (pc + 1) (some (.long x) :: none :: L) (st) h Q) : XW E M k u pc (y :: z :: L) (.long x :: st) h Q := by
  intro p e R s m args below meth c H locs cells slots ls F hR hS hl hc hs
  exact lv_lstore_n F.1 F.2.1 d rfl hl.has (by have := hl.2.2.1; simp only [List.length_cons] at this; omega) rfl (fun ls1 hl1 => kk p e R s m args below meth c H locs cells slots ls1 F hR hS (hl.st2 hp hl1) hc hs)
theorem X_iinc_0 (pc : Nat)  {x : Int32} {n : Int} (v : Int32) (d : decode (mC M) pc = .ok (.iinc 0 n, 3)) (hv : x + Int32.ofInt n = v) (hp : xpv (some (.int x) :: L) 0 = true) (kk : XW E M k u (pc + 3) (some (.int v) :: L) (st) h Q) : XW E M k u pc (some (.int x) :: L) (st) h Q := by
  intro p e R s m args below meth c H locs cells slots ls F hR hS hl hc hs
  obtain ⟨k9, hk9⟩ := List.getElem?_of_mem ((xpl_mem (L := (some (.int x) :: L)) (i := 0) (v := .int x)).mpr rfl)
  exact lv_iinc F.1 F.2.1 d hl.has hk9 hv (by have := hl.2.2.1; simp only [List.length_cons] at this; omega) rfl (fun ls1 hl1 => kk p e R s m args below meth c H locs cells slots ls1 F hR hS (hl.st1 hp hl1) hc hs)
theorem X_iincN_0 (pc : Nat)  {x : Nat} (d : decode (mC M) pc = .ok (.iinc 0 1, 3)) (hp : xpv (some (.int (nI x)) :: L) 0 = true) (kk : XW E M k u (pc + 3) (some (.int (nI (x + 1))) :: L) (st) h Q) : XW E M k u pc (some (.int (nI x)) :: L) (st) h Q :=
  X_iinc_0 pc (nI (x + 1)) d (nI_1 x) hp kk
theorem X_iload_1 (pc : Nat) {x0 : Option Value} {x : Int32} (d : decode (mC M) pc = .ok (.iload_n 1, 1)) (kk : XW E M k u (pc + 1) (x0 :: some (.int x) :: L) (.int x :: st) h Q) : XW E M k u pc (x0 :: some (.int x) :: L) (st) h Q := by
  intro p e R s m args below meth c H locs cells slots ls F hR hS hl hc hs
  exact lv_iload_n F.1 F.2.1 d rfl (hl.2.2.2 1 _ rfl) (kk p e R s m args below meth c H locs cells slots ls F hR hS hl hc hs)
theorem X_istore_1 (pc : Nat) {x0 : Option Value} {y : Option Value} {x : Int32} (d : decode (mC M) pc = .ok (.istore_n 1, 1)) (hp : xpv (x0 :: y :: L) 1 = true) (kk : XW E M k u (pc + 1) (x0 :: some (.int x) :: L) (st) h Q) : XW E M k u pc (x0 :: y :: L) (.int x :: st) h Q := by
  intro p e R s m args below meth c H locs cells slots ls F hR hS hl hc hs
  exact lv_istore_n F.1 F.2.1 d rfl hl.has (by have := hl.2.2.1; simp only [List.length_cons] at this; omega) rfl (fun ls1 hl1 => kk p e R s m args below meth c H locs cells slots ls1 F hR hS (hl.st1 hp hl1) hc hs)
theorem X_aload_1 (pc : Nat) {x0 : Option Value} {x : Nat} (d : decode (mC M) pc = .ok (.aload_n 1, 1)) (kk : XW E M k u (pc + 1) (x0 :: some (.ref x) :: L) (.ref x :: st) h Q) : XW E M k u pc (x0 :: some (.ref x) :: L) (st) h Q := by
  intro p e R s m args below meth c H locs cells slots ls F hR hS hl hc hs
  exact lv_aload_n F.1 F.2.1 d rfl (hl.2.2.2 1 _ rfl) (kk p e R s m args below meth c H locs cells slots ls F hR hS hl hc hs)
theorem X_astore_1 (pc : Nat) {x0 : Option Value} {y : Option Value} {x : Nat} (d : decode (mC M) pc = .ok (.astore_n 1, 1)) (hp : xpv (x0 :: y :: L) 1 = true) (kk : XW E M k u (pc + 1) (x0 :: some (.ref x) :: L) (st) h Q) : XW E M k u pc (x0 :: y :: L) (.ref x :: st) h Q := by
  intro p e R s m args below meth c H locs cells slots ls F hR hS hl hc hs
  exact lv_astore_n F.1 F.2.1 d rfl hl.has (by have := hl.2.2.1; simp only [List.length_cons] at this; omega) rfl (fun ls1 hl1 => kk p e R s m args below meth c H locs cells slots ls1 F hR hS (hl.st1 hp hl1) hc hs)
theorem X_lload_1 (pc : Nat) {x0 : Option Value} {x : Int64} (d : decode (mC M) pc = .ok (.lload_n 1, 1)) (kk : XW E M k u (pc + 1) (x0 :: some (.long x) :: L) (.long x :: st) h Q) : XW E M k u pc (x0 :: some (.long x) :: L) (st) h Q := by
  intro p e R s m args below meth c H locs cells slots ls F hR hS hl hc hs
  exact lv_lload_n F.1 F.2.1 d rfl (hl.2.2.2 1 _ rfl) (kk p e R s m args below meth c H locs cells slots ls F hR hS hl hc hs)
theorem X_lstore_1 (pc : Nat) {x0 : Option Value} {y z : Option Value} {x : Int64} (d : decode (mC M) pc = .ok (.lstore_n 1, 1)) (hp : xpv (x0 :: y :: z :: L) 1 = true) (kk : XW E M k u (pc + 1) (x0 :: some (.long x) :: none :: L) (st) h Q) : XW E M k u pc (x0 :: y :: z :: L) (.long x :: st) h Q := by
  intro p e R s m args below meth c H locs cells slots ls F hR hS hl hc hs
  exact lv_lstore_n F.1 F.2.1 d rfl hl.has (by have := hl.2.2.1; simp only [List.length_cons] at this; omega) rfl (fun ls1 hl1 => kk p e R s m args below meth c H locs cells slots ls1 F hR hS (hl.st2 hp hl1) hc hs)
theorem X_iinc_1 (pc : Nat) {x0 : Option Value} {x : Int32} {n : Int} (v : Int32) (d : decode (mC M) pc = .ok (.iinc 1 n, 3)) (hv : x + Int32.ofInt n = v) (hp : xpv (x0 :: some (.int x) :: L) 1 = true) (kk : XW E M k u (pc + 3) (x0 :: some (.int v) :: L) (st) h Q) : XW E M k u pc (x0 :: some (.int x) :: L) (st) h Q := by
  intro p e R s m args below meth c H locs cells slots ls F hR hS hl hc hs
  obtain ⟨k9, hk9⟩ := List.getElem?_of_mem ((xpl_mem (L := (x0 :: some (.int x) :: L)) (i := 1) (v := .int x)).mpr rfl)
  exact lv_iinc F.1 F.2.1 d hl.has hk9 hv (by have := hl.2.2.1; simp only [List.length_cons] at this; omega) rfl (fun ls1 hl1 => kk p e R s m args below meth c H locs cells slots ls1 F hR hS (hl.st1 hp hl1) hc hs)
theorem X_iincN_1 (pc : Nat) {x0 : Option Value} {x : Nat} (d : decode (mC M) pc = .ok (.iinc 1 1, 3)) (hp : xpv (x0 :: some (.int (nI x)) :: L) 1 = true) (kk : XW E M k u (pc + 3) (x0 :: some (.int (nI (x + 1))) :: L) (st) h Q) : XW E M k u pc (x0 :: some (.int (nI x)) :: L) (st) h Q :=
  X_iinc_1 pc (nI (x + 1)) d (nI_1 x) hp kk
theorem X_iload_2 (pc : Nat) {x0 x1 : Option Value} {x : Int32} (d : decode (mC M) pc = .ok (.iload_n 2, 1)) (kk : XW E M k u (pc + 1) (x0 :: x1 :: some (.int x) :: L) (.int x :: st) h Q) : XW E M k u pc (x0 :: x1 :: some (.int x) :: L) (st) h Q := by
  intro p e R s m args below meth c H locs cells slots ls F hR hS hl hc hs
  exact lv_iload_n F.1 F.2.1 d rfl (hl.2.2.2 2 _ rfl) (kk p e R s m args below meth c H locs cells slots ls F hR hS hl hc hs)
theorem X_istore_2 (pc : Nat) {x0 x1 : Option Value} {y : Option Value} {x : Int32} (d : decode (mC M) pc = .ok (.istore_n 2, 1)) (hp : xpv (x0 :: x1 :: y :: L) 2 = true) (kk : XW E M k u (pc + 1) (x0 :: x1 :: some (.int x) :: L) (st) h Q) : XW E M k u pc (x0 :: x1 :: y :: L) (.int x :: st) h Q := by
  intro p e R s m args below meth c H locs cells slots ls F hR hS hl hc hs
  exact lv_istore_n F.1 F.2.1 d rfl hl.has (by have := hl.2.2.1; simp only [List.length_cons] at this; omega) rfl (fun ls1 hl1 => kk p e R s m args below meth c H locs cells slots ls1 F hR hS (hl.st1 hp hl1) hc hs)
theorem X_aload_2 (pc : Nat) {x0 x1 : Option Value} {x : Nat} (d : decode (mC M) pc = .ok (.aload_n 2, 1)) (kk : XW E M k u (pc + 1) (x0 :: x1 :: some (.ref x) :: L) (.ref x :: st) h Q) : XW E M k u pc (x0 :: x1 :: some (.ref x) :: L) (st) h Q := by
  intro p e R s m args below meth c H locs cells slots ls F hR hS hl hc hs
  exact lv_aload_n F.1 F.2.1 d rfl (hl.2.2.2 2 _ rfl) (kk p e R s m args below meth c H locs cells slots ls F hR hS hl hc hs)
theorem X_astore_2 (pc : Nat) {x0 x1 : Option Value} {y : Option Value} {x : Nat} (d : decode (mC M) pc = .ok (.astore_n 2, 1)) (hp : xpv (x0 :: x1 :: y :: L) 2 = true) (kk : XW E M k u (pc + 1) (x0 :: x1 :: some (.ref x) :: L) (st) h Q) : XW E M k u pc (x0 :: x1 :: y :: L) (.ref x :: st) h Q := by
  intro p e R s m args below meth c H locs cells slots ls F hR hS hl hc hs
  exact lv_astore_n F.1 F.2.1 d rfl hl.has (by have := hl.2.2.1; simp only [List.length_cons] at this; omega) rfl (fun ls1 hl1 => kk p e R s m args below meth c H locs cells slots ls1 F hR hS (hl.st1 hp hl1) hc hs)
theorem X_lload_2 (pc : Nat) {x0 x1 : Option Value} {x : Int64} (d : decode (mC M) pc = .ok (.lload_n 2, 1)) (kk : XW E M k u (pc + 1) (x0 :: x1 :: some (.long x) :: L) (.long x :: st) h Q) : XW E M k u pc (x0 :: x1 :: some (.long x) :: L) (st) h Q := by
  intro p e R s m args below meth c H locs cells slots ls F hR hS hl hc hs
  exact lv_lload_n F.1 F.2.1 d rfl (hl.2.2.2 2 _ rfl) (kk p e R s m args below meth c H locs cells slots ls F hR hS hl hc hs)
theorem X_lstore_2 (pc : Nat) {x0 x1 : Option Value} {y z : Option Value} {x : Int64} (d : decode (mC M) pc = .ok (.lstore_n 2, 1)) (hp : xpv (x0 :: x1 :: y :: z :: L) 2 = true) (kk : XW E M k u (pc + 1) (x0 :: x1 :: some (.long x) :: none :: L) (st) h Q) : XW E M k u pc (x0 :: x1 :: y :: z :: L) (.long x :: st) h Q := by
  intro p e R s m args below meth c H locs cells slots ls F hR hS hl hc hs
  exact lv_lstore_n F.1 F.2.1 d rfl hl.has (by have := hl.2.2.1; simp only [List.length_cons] at this; omega) rfl (fun ls1 hl1 => kk p e R s m args below meth c H locs cells slots ls1 F hR hS (hl.st2 hp hl1) hc hs)
theorem X_iinc_2 (pc : Nat) {x0 x1 : Option Value} {x : Int32} {n : Int} (v : Int32) (d : decode (mC M) pc = .ok (.iinc 2 n, 3)) (hv : x + Int32.ofInt n = v) (hp : xpv (x0 :: x1 :: some (.int x) :: L) 2 = true) (kk : XW E M k u (pc + 3) (x0 :: x1 :: some (.int v) :: L) (st) h Q) : XW E M k u pc (x0 :: x1 :: some (.int x) :: L) (st) h Q := by
  intro p e R s m args below meth c H locs cells slots ls F hR hS hl hc hs
  obtain ⟨k9, hk9⟩ := List.getElem?_of_mem ((xpl_mem (L := (x0 :: x1 :: some (.int x) :: L)) (i := 2) (v := .int x)).mpr rfl)
  exact lv_iinc F.1 F.2.1 d hl.has hk9 hv (by have := hl.2.2.1; simp only [List.length_cons] at this; omega) rfl (fun ls1 hl1 => kk p e R s m args below meth c H locs cells slots ls1 F hR hS (hl.st1 hp hl1) hc hs)
theorem X_iincN_2 (pc : Nat) {x0 x1 : Option Value} {x : Nat} (d : decode (mC M) pc = .ok (.iinc 2 1, 3)) (hp : xpv (x0 :: x1 :: some (.int (nI x)) :: L) 2 = true) (kk : XW E M k u (pc + 3) (x0 :: x1 :: some (.int (nI (x + 1))) :: L) (st) h Q) : XW E M k u pc (x0 :: x1 :: some (.int (nI x)) :: L) (st) h Q :=
  X_iinc_2 pc (nI (x + 1)) d (nI_1 x) hp kk
theorem X_iload_3 (pc : Nat) {x0 x1 x2 : Option Value} {x : Int32} (d : decode (mC M) pc = .ok (.iload_n 3, 1)) (kk : XW E M k u (pc + 1) (x0 :: x1 :: x2 :: some (.int x) :: L) (.int x :: st) h Q) : XW E M k u pc (x0 :: x1 :: x2 :: some (.int x) :: L) (st) h Q := by
  intro p e R s m args below meth c H locs cells slots ls F hR hS hl hc hs
  exact lv_iload_n F.1 F.2.1 d rfl (hl.2.2.2 3 _ rfl) (kk p e R s m args below meth c H locs cells slots ls F hR hS hl hc hs)
theorem X_istore_3 (pc : Nat) {x0 x1 x2 : Option Value} {y : Option Value} {x : Int32} (d : decode (mC M) pc = .ok (.istore_n 3, 1)) (hp : xpv (x0 :: x1 :: x2 :: y :: L) 3 = true) (kk : XW E M k u (pc + 1) (x0 :: x1 :: x2 :: some (.int x) :: L) (st) h Q) : XW E M k u pc (x0 :: x1 :: x2 :: y :: L) (.int x :: st) h Q := by
  intro p e R s m args below meth c H locs cells slots ls F hR hS hl hc hs
  exact lv_istore_n F.1 F.2.1 d rfl hl.has (by have := hl.2.2.1; simp only [List.length_cons] at this; omega) rfl (fun ls1 hl1 => kk p e R s m args below meth c H locs cells slots ls1 F hR hS (hl.st1 hp hl1) hc hs)
theorem X_aload_3 (pc : Nat) {x0 x1 x2 : Option Value} {x : Nat} (d : decode (mC M) pc = .ok (.aload_n 3, 1)) (kk : XW E M k u (pc + 1) (x0 :: x1 :: x2 :: some (.ref x) :: L) (.ref x :: st) h Q) : XW E M k u pc (x0 :: x1 :: x2 :: some (.ref x) :: L) (st) h Q := by
  intro p e R s m args below meth c H locs cells slots ls F hR hS hl hc hs
  exact lv_aload_n F.1 F.2.1 d rfl (hl.2.2.2 3 _ rfl) (kk p e R s m args below meth c H locs cells slots ls F hR hS hl hc hs)
theorem X_astore_3 (pc : Nat) {x0 x1 x2 : Option Value} {y : Option Value} {x : Nat} (d : decode (mC M) pc = .ok (.astore_n 3, 1)) (hp : xpv (x0 :: x1 :: x2 :: y :: L) 3 = true) (kk : XW E M k u (pc + 1) (x0 :: x1 :: x2 :: some (.ref x) :: L) (st) h Q) : XW E M k u pc (x0 :: x1 :: x2 :: y :: L) (.ref x :: st) h Q := by
  intro p e R s m args below meth c H locs cells slots ls F hR hS hl hc hs
  exact lv_astore_n F.1 F.2.1 d rfl hl.has (by have := hl.2.2.1; simp only [List.length_cons] at this; omega) rfl (fun ls1 hl1 => kk p e R s m args below meth c H locs cells slots ls1 F hR hS (hl.st1 hp hl1) hc hs)
theorem X_lload_3 (pc : Nat) {x0 x1 x2 : Option Value} {x : Int64} (d : decode (mC M) pc = .ok (.lload_n 3, 1)) (kk : XW E M k u (pc + 1) (x0 :: x1 :: x2 :: some (.long x) :: L) (.long x :: st) h Q) : XW E M k u pc (x0 :: x1 :: x2 :: some (.long x) :: L) (st) h Q := by
  intro p e R s m args below meth c H locs cells slots ls F hR hS hl hc hs
  exact lv_lload_n F.1 F.2.1 d rfl (hl.2.2.2 3 _ rfl) (kk p e R s m args below meth c H locs cells slots ls F hR hS hl hc hs)
theorem X_lstore_3 (pc : Nat) {x0 x1 x2 : Option Value} {y z : Option Value} {x : Int64} (d : decode (mC M) pc = .ok (.lstore_n 3, 1)) (hp : xpv (x0 :: x1 :: x2 :: y :: z :: L) 3 = true) (kk : XW E M k u (pc + 1) (x0 :: x1 :: x2 :: some (.long x) :: none :: L) (st) h Q) : XW E M k u pc (x0 :: x1 :: x2 :: y :: z :: L) (.long x :: st) h Q := by
  intro p e R s m args below meth c H locs cells slots ls F hR hS hl hc hs
  exact lv_lstore_n F.1 F.2.1 d rfl hl.has (by have := hl.2.2.1; simp only [List.length_cons] at this; omega) rfl (fun ls1 hl1 => kk p e R s m args below meth c H locs cells slots ls1 F hR hS (hl.st2 hp hl1) hc hs)
theorem X_iinc_3 (pc : Nat) {x0 x1 x2 : Option Value} {x : Int32} {n : Int} (v : Int32) (d : decode (mC M) pc = .ok (.iinc 3 n, 3)) (hv : x + Int32.ofInt n = v) (hp : xpv (x0 :: x1 :: x2 :: some (.int x) :: L) 3 = true) (kk : XW E M k u (pc + 3) (x0 :: x1 :: x2 :: some (.int v) :: L) (st) h Q) : XW E M k u pc (x0 :: x1 :: x2 :: some (.int x) :: L) (st) h Q := by
  intro p e R s m args below meth c H locs cells slots ls F hR hS hl hc hs
  obtain ⟨k9, hk9⟩ := List.getElem?_of_mem ((xpl_mem (L := (x0 :: x1 :: x2 :: some (.int x) :: L)) (i := 3) (v := .int x)).mpr rfl)
  exact lv_iinc F.1 F.2.1 d hl.has hk9 hv (by have := hl.2.2.1; simp only [List.length_cons] at this; omega) rfl (fun ls1 hl1 => kk p e R s m args below meth c H locs cells slots ls1 F hR hS (hl.st1 hp hl1) hc hs)
theorem X_iincN_3 (pc : Nat) {x0 x1 x2 : Option Value} {x : Nat} (d : decode (mC M) pc = .ok (.iinc 3 1, 3)) (hp : xpv (x0 :: x1 :: x2 :: some (.int (nI x)) :: L) 3 = true) (kk : XW E M k u (pc + 3) (x0 :: x1 :: x2 :: some (.int (nI (x + 1))) :: L) (st) h Q) : XW E M k u pc (x0 :: x1 :: x2 :: some (.int (nI x)) :: L) (st) h Q :=
  X_iinc_3 pc (nI (x + 1)) d (nI_1 x) hp kk
theorem X_iload_4 (pc : Nat) {x0 x1 x2 x3 : Option Value} {x : Int32} (d : decode (mC M) pc = .ok (.iload 4, 2)) (kk : XW E M k u (pc + 2) (x0 :: x1 :: x2 :: x3 :: some (.int x) :: L) (.int x :: st) h Q) : XW E M k u pc (x0 :: x1 :: x2 :: x3 :: some (.int x) :: L) (st) h Q := by
  intro p e R s m args below meth c H locs cells slots ls F hR hS hl hc hs
  exact lv_iload F.1 F.2.1 d (hl.2.2.2 4 _ rfl) (kk p e R s m args below meth c H locs cells slots ls F hR hS hl hc hs)
theorem X_istore_4 (pc : Nat) {x0 x1 x2 x3 : Option Value} {y : Option Value} {x : Int32} (d : decode (mC M) pc = .ok (.istore 4, 2)) (hp : xpv (x0 :: x1 :: x2 :: x3 :: y :: L) 4 = true) (kk : XW E M k u (pc + 2) (x0 :: x1 :: x2 :: x3 :: some (.int x) :: L) (st) h Q) : XW E M k u pc (x0 :: x1 :: x2 :: x3 :: y :: L) (.int x :: st) h Q := by
  intro p e R s m args below meth c H locs cells slots ls F hR hS hl hc hs
  exact lv_istore F.1 F.2.1 d hl.has (by have := hl.2.2.1; simp only [List.length_cons] at this; omega) rfl (fun ls1 hl1 => kk p e R s m args below meth c H locs cells slots ls1 F hR hS (hl.st1 hp hl1) hc hs)
theorem X_aload_4 (pc : Nat) {x0 x1 x2 x3 : Option Value} {x : Nat} (d : decode (mC M) pc = .ok (.aload 4, 2)) (kk : XW E M k u (pc + 2) (x0 :: x1 :: x2 :: x3 :: some (.ref x) :: L) (.ref x :: st) h Q) : XW E M k u pc (x0 :: x1 :: x2 :: x3 :: some (.ref x) :: L) (st) h Q := by
  intro p e R s m args below meth c H locs cells slots ls F hR hS hl hc hs
  exact lv_aload F.1 F.2.1 d (hl.2.2.2 4 _ rfl) (kk p e R s m args below meth c H locs cells slots ls F hR hS hl hc hs)
theorem X_astore_4 (pc : Nat) {x0 x1 x2 x3 : Option Value} {y : Option Value} {x : Nat} (d : decode (mC M) pc = .ok (.astore 4, 2)) (hp : xpv (x0 :: x1 :: x2 :: x3 :: y :: L) 4 = true) (kk : XW E M k u (pc + 2) (x0 :: x1 :: x2 :: x3 :: some (.ref x) :: L) (st) h Q) : XW E M k u pc (x0 :: x1 :: x2 :: x3 :: y :: L) (.ref x :: st) h Q := by
  intro p e R s m args below meth c H locs cells slots ls F hR hS hl hc hs
  exact lv_astore F.1 F.2.1 d hl.has (by have := hl.2.2.1; simp only [List.length_cons] at this; omega) rfl (fun ls1 hl1 => kk p e R s m args below meth c H locs cells slots ls1 F hR hS (hl.st1 hp hl1) hc hs)
theorem X_lload_4 (pc : Nat) {x0 x1 x2 x3 : Option Value} {x : Int64} (d : decode (mC M) pc = .ok (.lload 4, 2)) (kk : XW E M k u (pc + 2) (x0 :: x1 :: x2 :: x3 :: some (.long x) :: L) (.long x :: st) h Q) : XW E M k u pc (x0 :: x1 :: x2 :: x3 :: some (.long x) :: L) (st) h Q := by
  intro p e R s m args below meth c H locs cells slots ls F hR hS hl hc hs
  exact lv_lload F.1 F.2.1 d (hl.2.2.2 4 _ rfl) (kk p e R s m args below meth c H locs cells slots ls F hR hS hl hc hs)
theorem X_lstore_4 (pc : Nat) {x0 x1 x2 x3 : Option Value} {y z : Option Value} {x : Int64} (d : decode (mC M) pc = .ok (.lstore 4, 2)) (hp : xpv (x0 :: x1 :: x2 :: x3 :: y :: z :: L) 4 = true) (kk : XW E M k u (pc + 2) (x0 :: x1 :: x2 :: x3 :: some (.long x) :: none :: L) (st) h Q) : XW E M k u pc (x0 :: x1 :: x2 :: x3 :: y :: z :: L) (.long x :: st) h Q := by
  intro p e R s m args below meth c H locs cells slots ls F hR hS hl hc hs
  exact lv_lstore F.1 F.2.1 d hl.has (by have := hl.2.2.1; simp only [List.length_cons] at this; omega) rfl (fun ls1 hl1 => kk p e R s m args below meth c H locs cells slots ls1 F hR hS (hl.st2 hp hl1) hc hs)
theorem X_iinc_4 (pc : Nat) {x0 x1 x2 x3 : Option Value} {x : Int32} {n : Int} (v : Int32) (d : decode (mC M) pc = .ok (.iinc 4 n, 3)) (hv : x + Int32.ofInt n = v) (hp : xpv (x0 :: x1 :: x2 :: x3 :: some (.int x) :: L) 4 = true) (kk : XW E M k u (pc + 3) (x0 :: x1 :: x2 :: x3 :: some (.int v) :: L) (st) h Q) : XW E M k u pc (x0 :: x1 :: x2 :: x3 :: some (.int x) :: L) (st) h Q := by
  intro p e R s m args below meth c H locs cells slots ls F hR hS hl hc hs
  obtain ⟨k9, hk9⟩ := List.getElem?_of_mem ((xpl_mem (L := (x0 :: x1 :: x2 :: x3 :: some (.int x) :: L)) (i := 4) (v := .int x)).mpr rfl)
  exact lv_iinc F.1 F.2.1 d hl.has hk9 hv (by have := hl.2.2.1; simp only [List.length_cons] at this; omega) rfl (fun ls1 hl1 => kk p e R s m args below meth c H locs cells slots ls1 F hR hS (hl.st1 hp hl1) hc hs)
theorem X_iincN_4 (pc : Nat) {x0 x1 x2 x3 : Option Value} {x : Nat} (d : decode (mC M) pc = .ok (.iinc 4 1, 3)) (hp : xpv (x0 :: x1 :: x2 :: x3 :: some (.int (nI x)) :: L) 4 = true) (kk : XW E M k u (pc + 3) (x0 :: x1 :: x2 :: x3 :: some (.int (nI (x + 1))) :: L) (st) h Q) : XW E M k u pc (x0 :: x1 :: x2 :: x3 :: some (.int (nI x)) :: L) (st) h Q :=
  X_iinc_4 pc (nI (x + 1)) d (nI_1 x) hp kk
theorem X_iload_5 (pc : Nat) {x0 x1 x2 x3 x4 : Option Value} {x : Int32} (d : decode (mC M) pc = .ok (.iload 5, 2)) (kk : XW E M k u (pc + 2) (x0 :: x1 :: x2 :: x3 :: x4 :: some (.int x) :: L) (.int x :: st) h Q) : XW E M k u pc (x0 :: x1 :: x2 :: x3 :: x4 :: some (.int x) :: L) (st) h Q := by
  intro p e R s m args below meth c H locs cells slots ls F hR hS hl hc hs
  exact lv_iload F.1 F.2.1 d (hl.2.2.2 5 _ rfl) (kk p e R s m args below meth c H locs cells slots ls F hR hS hl hc hs)
theorem X_istore_5 (pc : Nat) {x0 x1 x2 x3 x4 : Option Value} {y : Option Value} {x : Int32} (d : decode (mC M) pc = .ok (.istore 5, 2)) (hp : xpv (x0 :: x1 :: x2 :: x3 :: x4 :: y :: L) 5 = true) (kk : XW E M k u (pc + 2) (x0 :: x1 :: x2 :: x3 :: x4 :: some (.int x) :: L) (st) h Q) : XW E M k u pc (x0 :: x1 :: x2 :: x3 :: x4 :: y :: L) (.int x :: st) h Q := by
  intro p e R s m args below meth c H locs cells slots ls F hR hS hl hc hs
  exact lv_istore F.1 F.2.1 d hl.has (by have := hl.2.2.1; simp only [List.length_cons] at this; omega) rfl (fun ls1 hl1 => kk p e R s m args below meth c H locs cells slots ls1 F hR hS (hl.st1 hp hl1) hc hs)
theorem X_aload_5 (pc : Nat) {x0 x1 x2 x3 x4 : Option Value} {x : Nat} (d : decode (mC M) pc = .ok (.aload 5, 2)) (kk : XW E M k u (pc + 2) (x0 :: x1 :: x2 :: x3 :: x4 :: some (.ref x) :: L) (.ref x :: st) h Q) : XW E M k u pc (x0 :: x1 :: x2 :: x3 :: x4 :: some (.ref x) :: L) (st) h Q := by
  intro p e R s m args below meth c H locs cells slots ls F hR hS hl hc hs
  exact lv_aload F.1 F.2.1 d (hl.2.2.2 5 _ rfl) (kk p e R s m args below meth c H locs cells slots ls F hR hS hl hc hs)
theorem X_astore_5 (pc : Nat) {x0 x1 x2 x3 x4 : Option Value} {y : Option Value} {x : Nat} (d : decode (mC M) pc = .ok (.astore 5, 2)) (hp : xpv (x0 :: x1 :: x2 :: x3 :: x4 :: y :: L) 5 = true) (kk : XW E M k u (pc + 2) (x0 :: x1 :: x2 :: x3 :: x4 :: some (.ref x) :: L) (st) h Q) : XW E M k u pc (x0 :: x1 :: x2 :: x3 :: x4 :: y :: L) (.ref x :: st) h Q := by
  intro p e R s m args below meth c H locs cells slots ls F hR hS hl hc hs
  exact lv_astore F.1 F.2.1 d hl.has (by have := hl.2.2.1; simp only [List.length_cons] at this; omega) rfl (fun ls1 hl1 => kk p e R s m args below meth c H locs cells slots ls1 F hR hS (hl.st1 hp hl1) hc hs)
theorem X_lload_5 (pc : Nat) {x0 x1 x2 x3 x4 : Option Value} {x : Int64} (d : decode (mC M) pc = .ok (.lload 5, 2)) (kk : XW E M k u (pc + 2) (x0 :: x1 :: x2 :: x3 :: x4 :: some (.long x) :: L) (.long x :: st) h Q) : XW E M k u pc (x0 :: x1 :: x2 :: x3 :: x4 :: some (.long x) :: L) (st) h Q := by
  intro p e R s m args below meth c H locs cells slots ls F hR hS hl hc hs
  exact lv_lload F.1 F.2.1 d (hl.2.2.2 5 _ rfl) (kk p e R s m args below meth c H locs cells slots ls F hR hS hl hc hs)
theorem X_lstore_5 (pc : Nat) {x0 x1 x2 x3 x4 : Option Value} {y z : Option Value} {x : Int64} (d : decode (mC M) pc = .ok (.lstore 5, 2)) (hp : xpv (x0 :: x1 :: x2 :: x3 :: x4 :: y :: z :: L) 5 = true) (kk : XW E M k u (pc + 2) (x0 :: x1 :: x2 :: x3 :: x4 :: some (.long x) :: none :: L) (st) h Q) : XW E M k u pc (x0 :: x1 :: x2 :: x3 :: x4 :: y :: z :: L) (.long x :: st) h Q := by
  intro p e R s m args below meth c H locs cells slots ls F hR hS hl hc hs
  exact lv_lstore F.1 F.2.1 d hl.has (by have := hl.2.2.1; simp only [List.length_cons] at this; omega) rfl (fun ls1 hl1 => kk p e R s m args below meth c H locs cells slots ls1 F hR hS (hl.st2 hp hl1) hc hs)
theorem X_iinc_5 (pc : Nat) {x0 x1 x2 x3 x4 : Option Value} {x : Int32} {n : Int} (v : Int32) (d : decode (mC M) pc = .ok (.iinc 5 n, 3)) (hv : x + Int32.ofInt n = v) (hp : xpv (x0 :: x1 :: x2 :: x3 :: x4 :: some (.int x) :: L) 5 = true) (kk : XW E M k u (pc + 3) (x0 :: x1 :: x2 :: x3 :: x4 :: some (.int v) :: L) (st) h Q) : XW E M k u pc (x0 :: x1 :: x2 :: x3 :: x4 :: some (.int x) :: L) (st) h Q := by
  intro p e R s m args below meth c H locs cells slots ls F hR hS hl hc hs
  obtain ⟨k9, hk9⟩ := List.getElem?_of_mem ((xpl_mem (L := (x0 :: x1 :: x2 :: x3 :: x4 :: some (.int x) :: L)) (i := 5) (v := .int x)).mpr rfl)
  exact lv_iinc F.1 F.2.1 d hl.has hk9 hv (by have := hl.2.2.1; simp only [List.length_cons] at this; omega) rfl (fun ls1 hl1 => kk p e R s m args below meth c H locs cells slots ls1 F hR hS (hl.st1 hp hl1) hc hs)
theorem X_iincN_5 (pc : Nat) {x0 x1 x2 x3 x4 : Option Value} {x : Nat} (d : decode (mC M) pc = .ok (.iinc 5 1, 3)) (hp : xpv (x0 :: x1 :: x2 :: x3 :: x4 :: some (.int (nI x)) :: L) 5 = true) (kk : XW E M k u (pc + 3) (x0 :: x1 :: x2 :: x3 :: x4 :: some (.int (nI (x + 1))) :: L) (st) h Q) : XW E M k u pc (x0 :: x1 :: x2 :: x3 :: x4 :: some (.int (nI x)) :: L) (st) h Q :=
  X_iinc_5 pc (nI (x + 1)) d (nI_1 x) hp kk
theorem X_iload_6 (pc : Nat) {x0 x1 x2 x3 x4 x5 : Option Value} {x : Int32} (d : decode (mC M) pc = .ok (.iload 6, 2)) (kk : XW E M k u (pc + 2) (x0 :: x1 :: x2 :: x3 :: x4 :: x5 :: some (.int x) :: L) (.int x :: st) h Q) : XW E M k u pc (x0 :: x1 :: x2 :: x3 :: x4 :: x5 :: some (.int x) :: L) (st) h Q := by
  intro p e R s m args below meth c H locs cells slots ls F hR hS hl hc hs
  exact lv_iload F.1 F.2.1 d (hl.2.2.2 6 _ rfl) (kk p e R s m args below meth c H locs cells slots ls F hR hS hl hc hs)
theorem X_istore_6 (pc : Nat) {x0 x1 x2 x3 x4 x5 : Option Value} {y : Option Value} {x : Int32} (d : decode (mC M) pc = .ok (.istore 6, 2)) (hp : xpv (x0 :: x1 :: x2 :: x3 :: x4 :: x5 :: y :: L) 6 = true) (kk : XW E M k u (pc + 2) (x0 :: x1 :: x2 :: x3 :: x4 :: x5 :: some (.int x) :: L) (st) h Q) : XW E M k u pc (x0 :: x1 :: x2 :: x3 :: x4 :: x5 :: y :: L) (.int x :: st) h Q := by
  intro p e R s m args below meth c H locs cells slots ls F hR hS hl hc hs
  exact lv_istore F.1 F.2.1 d hl.has (by have := hl.2.2.1; simp only [List.length_cons] at this; omega) rfl (fun ls1 hl1 => kk p e R s m args below meth c H locs cells slots ls1 F hR hS (hl.st1 hp hl1) hc hs)
theorem X_aload_6 (pc : Nat) {x0 x1 x2 x3 x4 x5 : Option Value} {x : Nat} (d : decode (mC M) pc = .ok (.aload 6, 2)) (kk : XW E M k u (pc + 2) (x0 :: x1 :: x2 :: x3 :: x4 :: x5 :: some (.ref x) :: L) (.ref x :: st) h Q) : XW E M k u pc (x0 :: x1 :: x2 :: x3 :: x4 :: x5 :: some (.ref x) :: L) (st) h Q := by
  intro p e R s m args below meth c H locs cells slots ls F hR hS hl hc hs
  exact lv_aload F.1 F.2.1 d (hl.2.2.2 6 _ rfl) (kk p e R s m args below meth c H locs cells slots ls F hR hS hl hc hs)
theorem X_astore_6 (pc : Nat) {x0 x1 x2 x3 x4 x5 : Option Value} {y : Option Value} {x : Nat} (d : decode (mC M) pc = .ok (.astore 6, 2)) (hp : xpv (x0 :: x1 :: x2 :: x3 :: x4 :: x5 :: y :: L) 6 = true) (kk : XW E M k u (pc + 2) (x0 :: x1 :: x2 :: x3 :: x4 :: x5 :: some (.ref x) :: L) (st) h Q) : XW E M k u pc (x0 :: x1 :: x2 :: x3 :: x4 :: x5 :: y :: L) (.ref x :: st) h Q := by
  intro p e R s m args below meth c H locs cells slots ls F hR hS hl hc hs
  exact lv_astore F.1 F.2.1 d hl.has (by have := hl.2.2.1; simp only [List.length_cons] at this; omega) rfl (fun ls1 hl1 => kk p e R s m args below meth c H locs cells slots ls1 F hR hS (hl.st1 hp hl1) hc hs)
theorem X_iinc_6 (pc : Nat) {x0 x1 x2 x3 x4 x5 : Option Value} {x : Int32} {n : Int} (v : Int32) (d : decode (mC M) pc = .ok (.iinc 6 n, 3)) (hv : x + Int32.ofInt n = v) (hp : xpv (x0 :: x1 :: x2 :: x3 :: x4 :: x5 :: some (.int x) :: L) 6 = true) (kk : XW E M k u (pc + 3) (x0 :: x1 :: x2 :: x3 :: x4 :: x5 :: some (.int v) :: L) (st) h Q) : XW E M k u pc (x0 :: x1 :: x2 :: x3 :: x4 :: x5 :: some (.int x) :: L) (st) h Q := by
  intro p e R s m args below meth c H locs cells slots ls F hR hS hl hc hs
  obtain ⟨k9, hk9⟩ := List.getElem?_of_mem ((xpl_mem (L := (x0 :: x1 :: x2 :: x3 :: x4 :: x5 :: some (.int x) :: L)) (i := 6) (v := .int x)).mpr rfl)
  exact lv_iinc F.1 F.2.1 d hl.has hk9 hv (by have := hl.2.2.1; simp only [List.length_cons] at this; omega) rfl (fun ls1 hl1 => kk p e R s m args below meth c H locs cells slots ls1 F hR hS (hl.st1 hp hl1) hc hs)
theorem X_iincN_6 (pc : Nat) {x0 x1 x2 x3 x4 x5 : Option Value} {x : Nat} (d : decode (mC M) pc = .ok (.iinc 6 1, 3)) (hp : xpv (x0 :: x1 :: x2 :: x3 :: x4 :: x5 :: some (.int (nI x)) :: L) 6 = true) (kk : XW E M k u (pc + 3) (x0 :: x1 :: x2 :: x3 :: x4 :: x5 :: some (.int (nI (x + 1))) :: L) (st) h Q) : XW E M k u pc (x0 :: x1 :: x2 :: x3 :: x4 :: x5 :: some (.int (nI x)) :: L) (st) h Q :=
  X_iinc_6 pc (nI (x + 1)) d (nI_1 x) hp kk
theorem X_iload_7 (pc : Nat) {x0 x1 x2 x3 x4 x5 x6 : Option Value} {x : Int32} (d : decode (mC M) pc = .ok (.iload 7, 2)) (kk : XW E M k u (pc + 2) (x0 :: x1 :: x2 :: x3 :: x4 :: x5 :: x6 :: some (.int x) :: L) (.int x :: st) h Q) : XW E M k u pc (x0 :: x1 :: x2 :: x3 :: x4 :: x5 :: x6 :: some (.int x) :: L) (st) h Q := by
  intro p e R s m args below meth c H locs cells slots ls F hR hS hl hc hs
  exact lv_iload F.1 F.2.1 d (hl.2.2.2 7 _ rfl) (kk p e R s m args below meth c H locs cells slots ls F hR hS hl hc hs)
theorem X_istore_7 (pc : Nat) {x0 x1 x2 x3 x4 x5 x6 : Option Value} {y : Option Value} {x : Int32} (d : decode (mC M) pc = .ok (.istore 7, 2)) (hp : xpv (x0 :: x1 :: x2 :: x3 :: x4 :: x5 :: x6 :: y :: L) 7 = true) (kk : XW E M k u (pc + 2) (x0 :: x1 :: x2 :: x3 :: x4 :: x5 :: x6 :: some (.int x) :: L) (st) h Q) : XW E M k u pc (x0 :: x1 :: x2 :: x3 :: x4 :: x5 :: x6 :: y :: L) (.int x :: st) h Q := by
  intro p e R s m args below meth c H locs cells slots ls F hR hS hl hc hs
  exact lv_istore F.1 F.2.1 d hl.has (by have := hl.2.2.1; simp only [List.length_cons] at this; omega) rfl (fun ls1 hl1 => kk p e R s m args below meth c H locs cells slots ls1 F hR hS (hl.st1 hp hl1) hc hs)
theorem X_aload_7 (pc : Nat) {x0 x1 x2 x3 x4 x5 x6 : Option Value} {x : Nat} (d : decode (mC M) pc = .ok (.aload 7, 2)) (kk : XW E M k u (pc + 2) (x0 :: x1 :: x2 :: x3 :: x4 :: x5 :: x6 :: some (.ref x) :: L) (.ref x :: st) h Q) : XW E M k u pc (x0 :: x1 :: x2 :: x3 :: x4 :: x5 :: x6 :: some (.ref x) :: L) (st) h Q := by
  intro p e R s m args below meth c H locs cells slots ls F hR hS hl hc hs
  exact lv_aload F.1 F.2.1 d (hl.2.2.2 7 _ rfl) (kk p e R s m args below meth c H locs cells slots ls F hR hS hl hc hs)
theorem X_astore_7 (pc : Nat) {x0 x1 x2 x3 x4 x5 x6 : Option Value} {y : Option Value} {x : Nat} (d : decode (mC M) pc = .ok (.astore 7, 2)) (hp : xpv (x0 :: x1 :: x2 :: x3 :: x4 :: x5 :: x6 :: y :: L) 7 = true) (kk : XW E M k u (pc + 2) (x0 :: x1 :: x2 :: x3 :: x4 :: x5 :: x6 :: some (.ref x) :: L) (st) h Q) : XW E M k u pc (x0 :: x1 :: x2 :: x3 :: x4 :: x5 :: x6 :: y :: L) (.ref x :: st) h Q := by
  intro p e R s m args below meth c H locs cells slots ls F hR hS hl hc hs
  exact lv_astore F.1 F.2.1 d hl.has (by have := hl.2.2.1; simp only [List.length_cons] at this; omega) rfl (fun ls1 hl1 => kk p e R s m args below meth c H locs cells slots ls1 F hR hS (hl.st1 hp hl1) hc hs)
theorem X_iinc_7 (pc : Nat) {x0 x1 x2 x3 x4 x5 x6 : Option Value} {x : Int32} {n : Int} (v : Int32) (d : decode (mC M) pc = .ok (.iinc 7 n, 3)) (hv : x + Int32.ofInt n = v) (hp : xpv (x0 :: x1 :: x2 :: x3 :: x4 :: x5 :: x6 :: some (.int x) :: L) 7 = true) (kk : XW E M k u (pc + 3) (x0 :: x1 :: x2 :: x3 :: x4 :: x5 :: x6 :: some (.int v) :: L) (st) h Q) : XW E M k u pc (x0 :: x1 :: x2 :: x3 :: x4 :: x5 :: x6 :: some (.int x) :: L) (st) h Q := by
  intro p e R s m args below meth c H locs cells slots ls F hR hS hl hc hs
  obtain ⟨k9, hk9⟩ := List.getElem?_of_mem ((xpl_mem (L := (x0 :: x1 :: x2 :: x3 :: x4 :: x5 :: x6 :: some (.int x) :: L)) (i := 7) (v := .int x)).mpr rfl)
  exact lv_iinc F.1 F.2.1 d hl.has hk9 hv (by have := hl.2.2.1; simp only [List.length_cons] at this; omega) rfl (fun ls1 hl1 => kk p e R s m args below meth c H locs cells slots ls1 F hR hS (hl.st1 hp hl1) hc hs)
theorem X_iincN_7 (pc : Nat) {x0 x1 x2 x3 x4 x5 x6 : Option Value} {x : Nat} (d : decode (mC M) pc = .ok (.iinc 7 1, 3)) (hp : xpv (x0 :: x1 :: x2 :: x3 :: x4 :: x5 :: x6 :: some (.int (nI x)) :: L) 7 = true) (kk : XW E M k u (pc + 3) (x0 :: x1 :: x2 :: x3 :: x4 :: x5 :: x6 :: some (.int (nI (x + 1))) :: L) (st) h Q) : XW E M k u pc (x0 :: x1 :: x2 :: x3 :: x4 :: x5 :: x6 :: some (.int (nI x)) :: L) (st) h Q :=
  X_iinc_7 pc (nI (x + 1)) d (nI_1 x) hp kk
theorem X_iload_8 (pc : Nat) {x0 x1 x2 x3 x4 x5 x6 x7 : Option Value} {x : Int32} (d : decode (mC M) pc = .ok (.iload 8, 2)) (kk : XW E M k u (pc + 2) (x0 :: x1 :: x2 :: x3 :: x4 :: x5 :: x6 :: x7 :: some (.int x) :: L) (.int x :: st) h Q) : XW E M k u pc (x0 :: x1 :: x2 :: x3 :: x4 :: x5 :: x6 :: x7 :: some (.int x) :: L) (st) h Q := by
  intro p e R s m args below meth c H locs cells slots ls F hR hS hl hc hs
  exact lv_iload F.1 F.2.1 d (hl.2.2.2 8 _ rfl) (kk p e R s m args below meth c H locs cells slots ls F hR hS hl hc hs)
theorem X_istore_8 (pc : Nat) {x0 x1 x2 x3 x4 x5 x6 x7 : Option Value} {y : Option Value} {x : Int32} (d : decode (mC M) pc = .ok (.istore 8, 2)) (hp : xpv (x0 :: x1 :: x2 :: x3 :: x4 :: x5 :: x6 :: x7 :: y :: L) 8 = true) (kk : XW E M k u (pc + 2) (x0 :: x1 :: x2 :: x3 :: x4 :: x5 :: x6 :: x7 :: some (.int x) :: L) (st) h Q) : XW E M k u pc (x0 :: x1 :: x2 :: x3 :: x4 :: x5 :: x6 :: x7 :: y :: L) (.int x :: st) h Q := by
  intro p e R s m args below meth c H locs cells slots ls F hR hS hl hc hs
  exact lv_istore F.1 F.2.1 d hl.has (by have := hl.2.2.1; simp only [List.length_cons] at this; omega) rfl (fun ls1 hl1 => kk p e R s m args below meth c H locs cells slots ls1 F hR hS (hl.st1 hp hl1) hc hs)
theorem X_aload_8 (pc : Nat) {x0 x1 x2 x3 x4 x5 x6 x7 : Option Value} {x : Nat} (d : decode (mC M) pc = .ok (.aload 8, 2)) (kk : XW E M k u (pc + 2) (x0 :: x1 :: x2 :: x3 :: x4 :: x5 :: x6 :: x7 :: some (.ref x) :: L) (.ref x :: st) h Q) : XW E M k u pc (x0 :: x1 :: x2 :: x3 :: x4 :: x5 :: x6 :: x7 :: some (.ref x) :: L) (st) h Q := by
  intro p e R s m args below meth c H locs cells slots ls F hR hS hl hc hs
  exact lv_aload F.1 F.2.1 d (hl.2.2.2 8 _ rfl) (kk p e R s m args below meth c H locs cells slots ls F hR hS hl hc hs)
theorem X_astore_8 (pc : Nat) {x0 x1 x2 x3 x4 x5 x6 x7 : Option Value} {y : Option Value} {x : Nat} (d : decode (mC M) pc = .ok (.astore 8, 2)) (hp : xpv (x0 :: x1 :: x2 :: x3 :: x4 :: x5 :: x6 :: x7 :: y :: L) 8 = true) (kk : XW E M k u (pc + 2) (x0 :: x1 :: x2 :: x3 :: x4 :: x5 :: x6 :: x7 :: some (.ref x) :: L) (st) h Q) : XW E M k u pc (x0 :: x1 :: x2 :: x3 :: x4 :: x5 :: x6 :: x7 :: y :: L) (.ref x :: st) h Q := by
  intro p e R s m args below meth c H locs cells slots ls F hR hS hl hc hs
  exact lv_astore F.1 F.2.1 d hl.has (by have := hl.2.2.1; simp only [List.length_cons] at this; omega) rfl (fun ls1 hl1 => kk p e R s m args below meth c H locs cells slots ls1 F hR hS (hl.st1 hp hl1) hc hs)
theorem X_iinc_8 (pc : Nat) {x0 x1 x2 x3 x4 x5 x6 x7 : Option Value} {x : Int32} {n : Int} (v : Int32) (d : decode (mC M) pc = .ok (.iinc 8 n, 3)) (hv : x + Int32.ofInt n = v) (hp : xpv (x0 :: x1 :: x2 :: x3 :: x4 :: x5 :: x6 :: x7 :: some (.int x) :: L) 8 = true) (kk : XW E M k u (pc + 3) (x0 :: x1 :: x2 :: x3 :: x4 :: x5 :: x6 :: x7 :: some (.int v) :: L) (st) h Q) : XW E M k u pc (x0 :: x1 :: x2 :: x3 :: x4 :: x5 :: x6 :: x7 :: some (.int x) :: L) (st) h Q := by
  intro p e R s m args below meth c H locs cells slots ls F hR hS hl hc hs
  obtain ⟨k9, hk9⟩ := List.getElem?_of_mem ((xpl_mem (L := (x0 :: x1 :: x2 :: x3 :: x4 :: x5 :: x6 :: x7 :: some (.int x) :: L)) (i := 8) (v := .int x)).mpr rfl)
  exact lv_iinc F.1 F.2.1 d hl.has hk9 hv (by have := hl.2.2.1; simp only [List.length_cons] at this; omega) rfl (fun ls1 hl1 => kk p e R s m args below meth c H locs cells slots ls1 F hR hS (hl.st1 hp hl1) hc hs)
theorem X_iincN_8 (pc : Nat) {x0 x1 x2 x3 x4 x5 x6 x7 : Option Value} {x : Nat} (d : decode (mC M) pc = .ok (.iinc 8 1, 3)) (hp : xpv (x0 :: x1 :: x2 :: x3 :: x4 :: x5 :: x6 :: x7 :: some (.int (nI x)) :: L) 8 = true) (kk : XW E M k u (pc + 3) (x0 :: x1 :: x2 :: x3 :: x4 :: x5 :: x6 :: x7 :: some (.int (nI (x + 1))) :: L) (st) h Q) : XW E M k u pc (x0 :: x1 :: x2 :: x3 :: x4 :: x5 :: x6 :: x7 :: some (.int (nI x)) :: L) (st) h Q :=
  X_iinc_8 pc (nI (x + 1)) d (nI_1 x) hp kk
theorem X_iload_9 (pc : Nat) {x0 x1 x2 x3 x4 x5 x6 x7 x8 : Option Value} {x : Int32} (d : decode (mC M) pc = .ok (.iload 9, 2)) (kk : XW E M k u (pc + 2) (x0 :: x1 :: x2 :: x3 :: x4 :: x5 :: x6 :: x7 :: x8 :: some (.int x) :: L) (.int x :: st) h Q) : XW E M k u pc (x0 :: x1 :: x2 :: x3 :: x4 :: x5 :: x6 :: x7 :: x8 :: some (.int x) :: L) (st) h Q := by
  intro p e R s m args below meth c H locs cells slots ls F hR hS hl hc hs
  exact lv_iload F.1 F.2.1 d (hl.2.2.2 9 _ rfl) (kk p e R s m args below meth c H locs cells slots ls F hR hS hl hc hs)
theorem X_istore_9 (pc : Nat) {x0 x1 x2 x3 x4 x5 x6 x7 x8 : Option Value} {y : Option Value} {x : Int32} (d : decode (mC M) pc = .ok (.istore 9, 2)) (hp : xpv (x0 :: x1 :: x2 :: x3 :: x4 :: x5 :: x6 :: x7 :: x8 :: y :: L) 9 = true) (kk : XW E M k u (pc + 2) (x0 :: x1 :: x2 :: x3 :: x4 :: x5 :: x6 :: x7 :: x8 :: some (.int x) :: L) (st) h Q) : XW E M k u pc (x0 :: x1 :: x2 :: x3 :: x4 :: x5 :: x6 :: x7 :: x8 :: y :: L) (.int x :: st) h Q := by
  intro p e R s m args below meth c H locs cells slots ls F hR hS hl hc hs
  exact lv_istore F.1 F.2.1 d hl.has (by have := hl.2.2.1; simp only [List.length_cons] at this; omega) rfl (fun ls1 hl1 => kk p e R s m args below meth c H locs cells slots ls1 F hR hS (hl.st1 hp hl1) hc hs)
theorem X_aload_9 (pc : Nat) {x0 x1 x2 x3 x4 x5 x6 x7 x8 : Option Value} {x : Nat} (d : decode (mC M) pc = .ok (.aload 9, 2)) (kk : XW E M k u (pc + 2) (x0 :: x1 :: x2 :: x3 :: x4 :: x5 :: x6 :: x7 :: x8 :: some (.ref x) :: L) (.ref x :: st) h Q) : XW E M k u pc (x0 :: x1 :: x2 :: x3 :: x4 :: x5 :: x6 :: x7 :: x8 :: some (.ref x) :: L) (st) h Q := by
  intro p e R s m args below meth c H locs cells slots ls F hR hS hl hc hs
  exact lv_aload F.1 F.2.1 d (hl.2.2.2 9 _ rfl) (kk p e R s m args below meth c H locs cells slots ls F hR hS hl hc hs)
theorem X_astore_9 (pc : Nat) {x0 x1 x2 x3 x4 x5 x6 x7 x8 : Option Value} {y : Option Value} {x : Nat} (d : decode (mC M) pc = .ok (.astore 9, 2)) (hp : xpv (x0 :: x1 :: x2 :: x3 :: x4 :: x5 :: x6 :: x7 :: x8 :: y :: L) 9 = true) (kk : XW E M k u (pc + 2) (x0 :: x1 :: x2 :: x3 :: x4 :: x5 :: x6 :: x7 :: x8 :: some (.ref x) :: L) (st) h Q) : XW E M k u pc (x0 :: x1 :: x2 :: x3 :: x4 :: x5 :: x6 :: x7 :: x8 :: y :: L) (.ref x :: st) h Q := by
  intro p e R s m args below meth c H locs cells slots ls F hR hS hl hc hs
  exact lv_astore F.1 F.2.1 d hl.has (by have := hl.2.2.1; simp only [List.length_cons] at this; omega) rfl (fun ls1 hl1 => kk p e R s m args below meth c H locs cells slots ls1 F hR hS (hl.st1 hp hl1) hc hs)
theorem X_iinc_9 (pc : Nat) {x0 x1 x2 x3 x4 x5 x6 x7 x8 : Option Value} {x : Int32} {n : Int} (v : Int32) (d : decode (mC M) pc = .ok (.iinc 9 n, 3)) (hv : x + Int32.ofInt n = v) (hp : xpv (x0 :: x1 :: x2 :: x3 :: x4 :: x5 :: x6 :: x7 :: x8 :: some (.int x) :: L) 9 = true) (kk : XW E M k u (pc + 3) (x0 :: x1 :: x2 :: x3 :: x4 :: x5 :: x6 :: x7 :: x8 :: some (.int v) :: L) (st) h Q) : XW E M k u pc (x0 :: x1 :: x2 :: x3 :: x4 :: x5 :: x6 :: x7 :: x8 :: some (.int x) :: L) (st) h Q := by
  intro p e R s m args below meth c H locs cells slots ls F hR hS hl hc hs
  obtain ⟨k9, hk9⟩ := List.getElem?_of_mem ((xpl_mem (L := (x0 :: x1 :: x2 :: x3 :: x4 :: x5 :: x6 :: x7 :: x8 :: some (.int x) :: L)) (i := 9) (v := .int x)).mpr rfl)
  exact lv_iinc F.1 F.2.1 d hl.has hk9 hv (by have := hl.2.2.1; simp only [List.length_cons] at this; omega) rfl (fun ls1 hl1 => kk p e R s m args below meth c H locs cells slots ls1 F hR hS (hl.st1 hp hl1) hc hs)
theorem X_iincN_9 (pc : Nat) {x0 x1 x2 x3 x4 x5 x6 x7 x8 : Option Value} {x : Nat} (d : decode (mC M) pc = .ok (.iinc 9 1, 3)) (hp : xpv (x0 :: x1 :: x2 :: x3 :: x4 :: x5 :: x6 :: x7 :: x8 :: some (.int (nI x)) :: L) 9 = true) (kk : XW E M k u (pc + 3) (x0 :: x1 :: x2 :: x3 :: x4 :: x5 :: x6 :: x7 :: x8 :: some (.int (nI (x + 1))) :: L) (st) h Q) : XW E M k u pc (x0 :: x1 :: x2 :: x3 :: x4 :: x5 :: x6 :: x7 :: x8 :: some (.int (nI x)) :: L) (st) h Q :=
  X_iinc_9 pc (nI (x + 1)) d (nI_1 x) hp kk
theorem X_iload_10 (pc : Nat) {x0 x1 x2 x3 x4 x5 x6 x7 x8 x9 : Option Value} {x : Int32} (d : decode (mC M) pc = .ok (.iload 10, 2)) (kk : XW E M k u (pc + 2) (x0 :: x1 :: x2 :: x3 :: x4 :: x5 :: x6 :: x7 :: x8 :: x9 :: some (.int x) :: L) (.int x :: st) h Q) : XW E M k u pc (x0 :: x1 :: x2 :: x3 :: x4 :: x5 :: x6 :: x7 :: x8 :: x9 :: some (.int x) :: L) (st) h Q := by
  intro p e R s m args below meth c H locs cells slots ls F hR hS hl hc hs
  exact lv_iload F.1 F.2.1 d (hl.2.2.2 10 _ rfl) (kk p e R s m args below meth c H locs cells slots ls F hR hS hl hc hs)
theorem X_istore_10 (pc : Nat) {x0 x1 x2 x3 x4 x5 x6 x7 x8 x9 : Option Value} {y : Option Value} {x : Int32} (d : decode (mC M) pc = .ok (.istore 10, 2)) (hp : xpv (x0 :: x1 :: x2 :: x3 :: x4 :: x5 :: x6 :: x7 :: x8 :: x9 :: y :: L) 10 = true) (kk : XW E M k u (pc + 2) (x0 :: x1 :: x2 :: x3 :: x4 :: x5 :: x6 :: x7 :: x8 :: x9 :: some (.int x) :: L) (st) h Q) : XW E M k u pc (x0 :: x1 :: x2 :: x3 :: x4 :: x5 :: x6 :: x7 :: x8 :: x9 :: y :: L) (.int x :: st) h Q := by
  intro p e R s m args below meth c H locs cells slots ls F hR hS hl hc hs
  exact lv_istore F.1 F.2.1 d hl.has (by have := hl.2.2.1; simp only [List.length_cons] at this; omega) rfl (fun ls1 hl1 => kk p e R s m args below meth c H locs cells slots ls1 F hR hS (hl.st1 hp hl1) hc hs)
theorem X_aload_10 (pc : Nat) {x0 x1 x2 x3 x4 x5 x6 x7 x8 x9 : Option Value} {x : Nat} (d : decode (mC M) pc = .ok (.aload 10, 2)) (kk : XW E M k u (pc + 2) (x0 :: x1 :: x2 :: x3 :: x4 :: x5 :: x6 :: x7 :: x8 :: x9 :: some (.ref x) :: L) (.ref x :: st) h Q) : XW E M k u pc (x0 :: x1 :: x2 :: x3 :: x4 :: x5 :: x6 :: x7 :: x8 :: x9 :: some (.ref x) :: L) (st) h Q := by
  intro p e R s m args below meth c H locs cells slots ls F hR hS hl hc hs
  exact lv_aload F.1 F.2.1 d (hl.2.2.2 10 _ rfl) (kk p e R s m args below meth c H locs cells slots ls F hR hS hl hc hs)
theorem X_astore_10 (pc : Nat) {x0 x1 x2 x3 x4 x5 x6 x7 x8 x9 : Option Value} {y : Option Value} {x : Nat} (d : decode (mC M) pc = .ok (.astore 10, 2)) (hp : xpv (x0 :: x1 :: x2 :: x3 :: x4 :: x5 :: x6 :: x7 :: x8 :: x9 :: y :: L) 10 = true) (kk : XW E M k u (pc + 2) (x0 :: x1 :: x2 :: x3 :: x4 :: x5 :: x6 :: x7 :: x8 :: x9 :: some (.ref x) :: L) (st) h Q) : XW E M k u pc (x0 :: x1 :: x2 :: x3 :: x4 :: x5 :: x6 :: x7 :: x8 :: x9 :: y :: L) (.ref x :: st) h Q := by
  intro p e R s m args below meth c H locs cells slots ls F hR hS hl hc hs
  exact lv_astore F.1 F.2.1 d hl.has (by have := hl.2.2.1; simp only [List.length_cons] at this; omega) rfl (fun ls1 hl1 => kk p e R s m args below meth c H locs cells slots ls1 F hR hS (hl.st1 hp hl1) hc hs)
theorem X_iinc_10 (pc : Nat) {x0 x1 x2 x3 x4 x5 x6 x7 x8 x9 : Option Value} {x : Int32} {n : Int} (v : Int32) (d : decode (mC M) pc = .ok (.iinc 10 n, 3)) (hv : x + Int32.ofInt n = v) (hp : xpv (x0 :: x1 :: x2 :: x3 :: x4 :: x5 :: x6 :: x7 :: x8 :: x9 :: some (.int x) :: L) 10 = true) (kk : XW E M k u (pc + 3) (x0 :: x1 :: x2 :: x3 :: x4 :: x5 :: x6 :: x7 :: x8 :: x9 :: some (.int v) :: L) (st) h Q) : XW E M k u pc (x0 :: x1 :: x2 :: x3 :: x4 :: x5 :: x6 :: x7 :: x8 :: x9 :: some (.int x) :: L) (st) h Q := by
  intro p e R s m args below meth c H locs cells slots ls F hR hS hl hc hs
  obtain ⟨k9, hk9⟩ := List.getElem?_of_mem ((xpl_mem (L := (x0 :: x1 :: x2 :: x3 :: x4 :: x5 :: x6 :: x7 :: x8 :: x9 :: some (.int x) :: L)) (i := 10) (v := .int x)).mpr rfl)
  exact lv_iinc F.1 F.2.1 d hl.has hk9 hv (by have := hl.2.2.1; simp only [List.length_cons] at this; omega) rfl (fun ls1 hl1 => kk p e R s m args below meth c H locs cells slots ls1 F hR hS (hl.st1 hp hl1) hc hs)
theorem X_iincN_10 (pc : Nat) {x0 x1 x2 x3 x4 x5 x6 x7 x8 x9 : Option Value} {x : Nat} (d : decode (mC M) pc = .ok (.iinc 10 1, 3)) (hp : xpv (x0 :: x1 :: x2 :: x3 :: x4 :: x5 :: x6 :: x7 :: x8 :: x9 :: some (.int (nI x)) :: L) 10 = true) (kk : XW E M k u (pc + 3) (x0 :: x1 :: x2 :: x3 :: x4 :: x5 :: x6 :: x7 :: x8 :: x9 :: some (.int (nI (x + 1))) :: L) (st) h Q) : XW E M k u pc (x0 :: x1 :: x2 :: x3 :: x4 :: x5 :: x6 :: x7 :: x8 :: x9 :: some (.int (nI x)) :: L) (st) h Q :=
  X_iinc_10 pc (nI (x + 1)) d (nI_1 x) hp kk
theorem X_iload_11 (pc : Nat) {x0 x1 x2 x3 x4 x5 x6 x7 x8 x9 x10 : Option Value} {x : Int32} (d : decode (mC M) pc = .ok (.iload 11, 2)) (kk : XW E M k u (pc + 2) (x0 :: x1 :: x2 :: x3 :: x4 :: x5 :: x6 :: x7 :: x8 :: x9 :: x10 :: some (.int x) :: L) (.int x :: st) h Q) : XW E M k u pc (x0 :: x1 :: x2 :: x3 :: x4 :: x5 :: x6 :: x7 :: x8 :: x9 :: x10 :: some (.int x) :: L) (st) h Q := by
  intro p e R s m args below meth c H locs cells slots ls F hR hS hl hc hs
  exact lv_iload F.1 F.2.1 d (hl.2.2.2 11 _ rfl) (kk p e R s m args below meth c H locs cells slots ls F hR hS hl hc hs)
theorem X_istore_11 (pc : Nat) {x0 x1 x2 x3 x4 x5 x6 x7 x8 x9 x10 : Option Value} {y : Option Value} {x : Int32} (d : decode (mC M) pc = .ok (.istore 11, 2)) (hp : xpv (x0 :: x1 :: x2 :: x3 :: x4 :: x5 :: x6 :: x7 :: x8 :: x9 :: x10 :: y :: L) 11 = true) (kk : XW E M k u (pc + 2) (x0 :: x1 :: x2 :: x3 :: x4 :: x5 :: x6 :: x7 :: x8 :: x9 :: x10 :: some (.int x) :: L) (st) h Q) : XW E M k u pc (x0 :: x1 :: x2 :: x3 :: x4 :: x5 :: x6 :: x7 :: x8 :: x9 :: x10 :: y :: L) (.int x :: st) h Q := by
  intro p e R s m args below meth c H locs cells slots ls F hR hS hl hc hs
  exact lv_istore F.1 F.2.1 d hl.has (by have := hl.2.2.1; simp only [List.length_cons] at this; omega) rfl (fun ls1 hl1 => kk p e R s m args below meth c H locs cells slots ls1 F hR hS (hl.st1 hp hl1) hc hs)
theorem X_aload_11 (pc : Nat) {x0 x1 x2 x3 x4 x5 x6 x7 x8 x9 x10 : Option Value} {x : Nat} (d : decode (mC M) pc = .ok (.aload 11, 2)) (kk : XW E M k u (pc + 2) (x0 :: x1 :: x2 :: x3 :: x4 :: x5 :: x6 :: x7 :: x8 :: x9 :: x10 :: some (.ref x) :: L) (.ref x :: st) h Q) : XW E M k u pc (x0 :: x1 :: x2 :: x3 :: x4 :: x5 :: x6 :: x7 :: x8 :: x9 :: x10 :: some (.ref x) :: L) (st) h Q := by
  intro p e R s m args below meth c H locs cells slots ls F hR hS hl hc hs
  exact lv_aload F.1 F.2.1 d (hl.2.2.2 11 _ rfl) (kk p e R s m args below meth c H locs cells slots ls F hR hS hl hc hs)
theorem X_astore_11 (pc : Nat) {x0 x1 x2 x3 x4 x5 x6 x7 x8 x9 x10 : Option Value} {y : Option Value} {x : Nat} (d : decode (mC M) pc = .ok (.astore 11, 2)) (hp : xpv (x0 :: x1 :: x2 :: x3 :: x4 :: x5 :: x6 :: x7 :: x8 :: x9 :: x10 :: y :: L) 11 = true) (kk : XW E M k u (pc + 2) (x0 :: x1 :: x2 :: x3 :: x4 :: x5 :: x6 :: x7 :: x8 :: x9 :: x10 :: some (.ref x) :: L) (st) h Q) : XW E M k u pc (x0 :: x1 :: x2 :: x3 :: x4 :: x5 :: x6 :: x7 :: x8 :: x9 :: x10 :: y :: L) (.ref x :: st) h Q := by
  intro p e R s m args below meth c H locs cells slots ls F hR hS hl hc hs
  exact lv_astore F.1 F.2.1 d hl.has (by have := hl.2.2.1; simp only [List.length_cons] at this; omega) rfl (fun ls1 hl1 => kk p e R s m args below meth c H locs cells slots ls1 F hR hS (hl.st1 hp hl1) hc hs)
theorem X_iinc_11 (pc : Nat) {x0 x1 x2 x3 x4 x5 x6 x7 x8 x9 x10 : Option Value} {x : Int32} {n : Int} (v : Int32) (d : decode (mC M) pc = .ok (.iinc 11 n, 3)) (hv : x + Int32.ofInt n = v) (hp : xpv (x0 :: x1 :: x2 :: x3 :: x4 :: x5 :: x6 :: x7 :: x8 :: x9 :: x10 :: some (.int x) :: L) 11 = true) (kk : XW E M k u (pc + 3) (x0 :: x1 :: x2 :: x3 :: x4 :: x5 :: x6 :: x7 :: x8 :: x9 :: x10 :: some (.int v) :: L) (st) h Q) : XW E M k u pc (x0 :: x1 :: x2 :: x3 :: x4 :: x5 :: x6 :: x7 :: x8 :: x9 :: x10 :: some (.int x) :: L) (st) h Q := by
  intro p e R s m args below meth c H locs cells slots ls F hR hS hl hc hs
  obtain ⟨k9, hk9⟩ := List.getElem?_of_mem ((xpl_mem (L := (x0 :: x1 :: x2 :: x3 :: x4 :: x5 :: x6 :: x7 :: x8 :: x9 :: x10 :: some (.int x) :: L)) (i := 11) (v := .int x)).mpr rfl)
  exact lv_iinc F.1 F.2.1 d hl.has hk9 hv (by have := hl.2.2.1; simp only [List.length_cons] at this; omega) rfl (fun ls1 hl1 => kk p e R s m args below meth c H locs cells slots ls1 F hR hS (hl.st1 hp hl1) hc hs)
theorem X_iincN_11 (pc : Nat) {x0 x1 x2 x3 x4 x5 x6 x7 x8 x9 x10 : Option Value} {x : Nat} (d : decode (mC M) pc = .ok (.iinc 11 1, 3)) (hp : xpv (x0 :: x1 :: x2 :: x3 :: x4 :: x5 :: x6 :: x7 :: x8 :: x9 :: x10 :: some (.int (nI x)) :: L) 11 = true) (kk : XW E M k u (pc + 3) (x0 :: x1 :: x2 :: x3 :: x4 :: x5 :: x6 :: x7 :: x8 :: x9 :: x10 :: some (.int (nI (x + 1))) :: L) (st) h Q) : XW E M k u pc (x0 :: x1 :: x2 :: x3 :: x4 :: x5 :: x6 :: x7 :: x8 :: x9 :: x10 :: some (.int (nI x)) :: L) (st) h Q :=
  X_iinc_11 pc (nI (x + 1)) d (nI_1 x) hp kk
theorem X_iret (pc : Nat) {x : Int32} (d : decode (mC M) pc = .ok (.ireturn, 1)) {ty : FieldType} (hr : mR M = some ty) (hn : narrow ty (.int x) = .int x) (hq : Q (.inl (some (.int x)), h)) : XW E M k u pc L [.int x] h Q := by
  intro p e R s m args below meth c H locs cells slots ls F hR hS hl hc hs
  refine W.widen (k := R.cells) (n := R.slots) (by omega) (by omega) (vx_ret ?_)
  exact W.zret F.1 F.2.1 (F.2.2.1.trans hr) hn (fun t ht hW => ⟨⟨_, _, rfl, hq, by rw [ht]; exact hR⟩, hS.F ht⟩) hS.2.2 d F.2.2.2.1
theorem X_lret (pc : Nat) {x : Int64} (d : decode (mC M) pc = .ok (.lreturn, 1)) (hr : mR M = some .long) (hq : Q (.inl (some (.long x)), h)) : XW E M k u pc L [.long x] h Q := by
  intro p e R s m args below meth c H locs cells slots ls F hR hS hl hc hs
  refine W.widen (k := R.cells) (n := R.slots) (by omega) (by omega) (vx_ret ?_)
  exact W.lret F.1 F.2.1 (F.2.2.1.trans hr) (fun t ht hW => ⟨⟨_, _, rfl, hq, by rw [ht]; exact hR⟩, hS.F ht⟩) hS.2.2 d F.2.2.2.1
theorem X_ret (pc : Nat) (d : decode (mC M) pc = .ok (.return_, 1)) (hr : mR M = none) (hq : Q (.inl none, h)) : XW E M k u pc L [] h Q := by
  intro p e R s m args below meth c H locs cells slots ls F hR hS hl hc hs
  refine W.widen (k := R.cells) (n := R.slots) (by omega) (by omega) (vx_ret ?_)
  exact W.vret F.1 F.2.1 (F.2.2.1.trans hr) (fun t ht hW => ⟨⟨_, _, rfl, hq, by rw [ht]; exact hR⟩, hS.F ht⟩) hS.2.2 d F.2.2.2.1
theorem X_aret (pc : Nat) {a : Nat} (d : decode (mC M) pc = .ok (.areturn, 1)) {n : String} (hr : mR M = some (.object n)) (hq : Q (.inl (some (.ref a)), h)) : XW E M k u pc L [.ref a] h Q := by
  intro p e R s m args below meth c H locs cells slots ls F hR hS hl hc hs
  refine W.widen (k := R.cells) (n := R.slots) (by omega) (by omega) (vx_ret ?_)
  exact W.aret F.1 F.2.1 (F.2.2.1.trans hr) (Or.inl ⟨n, rfl⟩) (Or.inr ⟨a, rfl⟩) (fun t ht hW => ⟨⟨_, _, rfl, hq, by rw [ht]; exact hR⟩, hS.F ht⟩) hS.2.2 d F.2.2.2.1
end XRULES
