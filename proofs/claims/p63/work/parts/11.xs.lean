/-! A method read as a function of its arguments and the heap: nothing (stuck), a value and a heap, or an exception and a heap. One row an instruction says that the machine does the same. -/
set_option linter.unusedVariables false
abbrev XP (α : Type) : Type := Option ((α ⊕ Nat) × XH)
def xb {α β : Type} (m : XP α) (f : α → XH → XP β) : XP β := match m with
  | none => none
  | some (.inl a, h) => f a h
  | some (.inr c, h) => some (.inr c, h)
def xg {α : Type} (c : Prop) [Decidable c] (m : XP α) : XP α := if c then m else none
def xnn {α : Type} (o : Option Nat) (f : Nat → XP α) : XP α := match o with
  | none => none
  | some w => f w
def xv {α : Type} (a : α) (h : XH) : XP α := some (.inl a, h)
def xx {α : Type} (c : Nat) (h : XH) : XP α := some (.inr c, h)
def xlt {α β : Type} (v : β) (f : β → XP α) : XP α := f v
def xjn {α : Type} {δ : Type} (k : δ) (f : δ → XP α) : XP α := f k
def xlp {σ α : Type} (body : (σ → XH → XP α) → σ → XH → XP α) : Nat → σ → XH → XP α
  | 0 => fun _ _ => none
  | n + 1 => body (xlp body n)
def xal {α : Type} (h : XH) (g n : Nat) (f : Nat → XH → XP α) : XP α := f (xt h) (ya h g n)
def xcl {α : Type} (h : XH) (o : Nat) (f : Nat → XH → XP α) : XP α := f (xt h) (yc (ya h 11 (xn h o)) (xt h) (xi h o))
def xmg {α : Type} (h : XH) (n k : Nat) (f : Nat → XH → XP α) : XP α := f (xt h) (ygr h n k n)
def xfu : Nat := 10000
abbrev xin (i : Int32) (n : Nat) : Prop := 0 ≤ i ∧ i.toNatClampNeg < n
theorem xin_vp {i : Int32} {n : Nat} (h : xin i n) : vp_in i n := fun q => by
  rcases q with q | q
  · exact Int32.not_lt.mpr h.1 q
  · have := h.2; omega
def eI : Int32 → Option Value := fun v => some (.int v)
def eJ : Int64 → Option Value := fun v => some (.long v)
def eR : Nat → Option Value := fun v => some (.ref v)
def eU : Unit → Option Value := fun _ => none
def ek {α : Type} (r : α ⊕ Nat) : Nat := match r with
  | .inl _ => 0
  | .inr _ => 1
def es {α : Type} (r : α ⊕ Nat) : Nat := match r with
  | .inl _ => 0
  | .inr _ => 6
def xres {α : Type} (en : α → Option Value) (r : α ⊕ Nat) (h' : XH) : XO → Prop := fun o => match r with
  | .inl v => o = (.inl (en v), h')
  | .inr c => o = (.inr c, yt h' (xt h' + 1))
def XS (E : XG) (M : XM) {α : Type} (en : α → Option Value) (a b : Nat) (pc : Nat) (L : List (Option Value)) (st : List Value) (h : XH) (mm : XP α) : Prop :=
  ∀ r h', mm = some (r, h') → (xc h ≤ xc h' ∧ xu h ≤ xu h') ∧ XW E M (xc h' - xc h + ek r) (xu h' - xu h + es r) pc L st h (xres en r h')
def XN (E : XG) (M : XM) {α : Type} (en : α → Option Value) (a b : Nat) (As : List Value) (h : XH) (mm : XP α) : Prop :=
  ∀ r h', mm = some (r, h') → (xc h ≤ xc h' ∧ xu h ≤ xu h') ∧ XC E M (xc h' - xc h + ek r) (xu h' - xu h + es r) As h (xres en r h')
theorem xs1 {A B C : Prop} (f : B → C) (x : A ∧ B) : A ∧ C := ⟨x.1, f x.2⟩
/-- forget what some locals hold -/
def xdrop : List Nat → List (Option Value) → List (Option Value)
  | [], L => L
  | i :: is, L => xdrop is (L.set i none)
theorem xL_set {ls : Array Slot} {n : Nat} {L : List (Option Value)} (h : xL ls n L) (i : Nat) : xL ls n (L.set i none) := by
  refine ⟨h.1, h.2.1, by rw [List.length_set]; exact h.2.2.1, fun j v hj => h.2.2.2 j v ?_⟩
  rw [List.getElem?_set] at hj
  split at hj
  · split at hj <;> cases hj
  · exact hj
theorem xL_drop : ∀ (ks : List Nat) {ls : Array Slot} {n : Nat} {L : List (Option Value)}, xL ls n L → xL ls n (xdrop ks L)
  | [], _, _, _, h => h
  | k :: ks, _, _, _, h => xL_drop ks (xL_set h k)
/-- what chars are -/
abbrev xch (x : Int32) : Prop := narrow .char (.int x) = .int x
section XSR
variable {E : XG} {M : XM} {α : Type} {en : α → Option Value} {a b : Nat} {L : List (Option Value)} {st : List Value} {h : XH} {mm : XP α}
theorem S_drop {pc : Nat} (ks : List Nat) {L0 : List (Option Value)} (hL : xdrop ks L = L0) (kk : XS E M en a b pc L0 st h mm) : XS E M en a b pc L st h mm := by
  intro r h' e0
  refine xs1 (fun kk => ?_) (kk r h' e0)
  intro p e R s m args below meth c H locs cells slots ls F hR hS hl hc hs
  subst hL
  exact kk p e R s m args below meth c H locs cells slots ls F hR hS (xL_drop ks hl) hc hs
theorem S_any {a' b' pc : Nat} (kk : XS E M en a' b' pc L st h mm) : XS E M en a b pc L st h mm := kk
theorem xg_of {c : Prop} [Decidable c] {r : (α ⊕ Nat) × XH} (e : xg c mm = some r) : c ∧ mm = some r := by
  unfold xg at e
  by_cases hc : c
  · rw [if_pos hc] at e; exact ⟨hc, e⟩
  · rw [if_neg hc] at e; cases e
theorem xnn_of {o : Option Nat} {f : Nat → XP α} {r : (α ⊕ Nat) × XH} (e : xnn o f = some r) : ∃ w, o = some w ∧ f w = some r := by
  cases o with
  | none => cases e
  | some w => exact ⟨w, rfl, e⟩
theorem S_g {c : Prop} [Decidable c] {pc : Nat} (kk : c → XS E M en a b pc L st h mm) : XS E M en a b pc L st h (xg c mm) := fun r h' e => kk (xg_of e).1 r h' (xg_of e).2
theorem S_none {pc : Nat} : XS E M en a b pc L st h none := fun r h' e => by cases e
theorem S_let {β : Type} {v : β} {f : β → XP α} {pc : Nat} (kk : XS E M en a b pc L st h (f v)) : XS E M en a b pc L st h (xlt v f) := kk
theorem S_join {δ : Type} (P : δ → Prop) {k : δ} {f : δ → XP α} {pc : Nat} (hk : P k) (hf : ∀ j, P j → XS E M en a b pc L st h (f j)) : XS E M en a b pc L st h (xjn k f) := hf k hk
theorem S_loop {σ : Type} (Lf : σ → List (Option Value)) {body : (σ → XH → XP α) → σ → XH → XP α} {pc : Nat} (hb : ∀ again, (∀ s h, XS E M en a b pc (Lf s) [] h (again s h)) → ∀ s h, XS E M en a b pc (Lf s) [] h (body again s h)) : ∀ (n : Nat) (s : σ) (h : XH), XS E M en a b pc (Lf s) [] h (xlp body n s h)
  | 0, _, _ => fun r h' e => by cases e
  | n + 1, s, h => hb (xlp body n) (S_loop Lf hb n) s h
theorem S_iadd (pc : Nat) {x y : Int32} (d : decode (mC M) pc = .ok (.iadd, 1))  (kk : XS E M en a b (pc + 1) L (.int (x + y) :: st) h mm) : XS E M en a b pc L (.int y :: .int x :: st) h mm := fun r h' e => xs1 (X_iadd pc d) (kk r h' e)
theorem S_isub (pc : Nat) {x y : Int32} (d : decode (mC M) pc = .ok (.isub, 1))  (kk : XS E M en a b (pc + 1) L (.int (x - y) :: st) h mm) : XS E M en a b pc L (.int y :: .int x :: st) h mm := fun r h' e => xs1 (X_isub pc d) (kk r h' e)
theorem S_imul (pc : Nat) {x y : Int32} (d : decode (mC M) pc = .ok (.imul, 1))  (kk : XS E M en a b (pc + 1) L (.int (x * y) :: st) h mm) : XS E M en a b pc L (.int y :: .int x :: st) h mm := fun r h' e => xs1 (X_imul pc d) (kk r h' e)
theorem S_iand (pc : Nat) {x y : Int32} (d : decode (mC M) pc = .ok (.iand, 1))  (kk : XS E M en a b (pc + 1) L (.int (x &&& y) :: st) h mm) : XS E M en a b pc L (.int y :: .int x :: st) h mm := fun r h' e => xs1 (X_iand pc d) (kk r h' e)
theorem S_ior (pc : Nat) {x y : Int32} (d : decode (mC M) pc = .ok (.ior, 1))  (kk : XS E M en a b (pc + 1) L (.int (x ||| y) :: st) h mm) : XS E M en a b pc L (.int y :: .int x :: st) h mm := fun r h' e => xs1 (X_ior pc d) (kk r h' e)
theorem S_ixor (pc : Nat) {x y : Int32} (d : decode (mC M) pc = .ok (.ixor, 1))  (kk : XS E M en a b (pc + 1) L (.int (x ^^^ y) :: st) h mm) : XS E M en a b pc L (.int y :: .int x :: st) h mm := fun r h' e => xs1 (X_ixor pc d) (kk r h' e)
theorem S_ishl (pc : Nat) {x y : Int32} (d : decode (mC M) pc = .ok (.ishl, 1))  (kk : XS E M en a b (pc + 1) L (.int (x <<< (y &&& 31)) :: st) h mm) : XS E M en a b pc L (.int y :: .int x :: st) h mm := fun r h' e => xs1 (X_ishl pc d) (kk r h' e)
theorem S_ishr (pc : Nat) {x y : Int32} (d : decode (mC M) pc = .ok (.ishr, 1))  (kk : XS E M en a b (pc + 1) L (.int (x >>> (y &&& 31)) :: st) h mm) : XS E M en a b pc L (.int y :: .int x :: st) h mm := fun r h' e => xs1 (X_ishr pc d) (kk r h' e)
theorem S_idiv (pc : Nat) {x y : Int32} (d : decode (mC M) pc = .ok (.idiv, 1))  (kk : XS E M en a b (pc + 1) L (.int (x / y) :: st) h mm) : XS E M en a b pc L (.int y :: .int x :: st) h (xg (y ≠ 0) mm) := fun r h' e => xs1 (X_idiv pc d (xg_of e).1) (kk r h' (xg_of e).2)
theorem S_irem (pc : Nat) {x y : Int32} (d : decode (mC M) pc = .ok (.irem, 1))  (kk : XS E M en a b (pc + 1) L (.int (x - x / y * y) :: st) h mm) : XS E M en a b pc L (.int y :: .int x :: st) h (xg (y ≠ 0) mm) := fun r h' e => xs1 (X_irem pc d (xg_of e).1) (kk r h' (xg_of e).2)
theorem S_land (pc : Nat) {x y : Int64} (d : decode (mC M) pc = .ok (.land, 1))  (kk : XS E M en a b (pc + 1) L (.long (x &&& y) :: st) h mm) : XS E M en a b pc L (.long y :: .long x :: st) h mm := fun r h' e => xs1 (X_land pc d) (kk r h' e)
theorem S_lor (pc : Nat) {x y : Int64} (d : decode (mC M) pc = .ok (.lor, 1))  (kk : XS E M en a b (pc + 1) L (.long (x ||| y) :: st) h mm) : XS E M en a b pc L (.long y :: .long x :: st) h mm := fun r h' e => xs1 (X_lor pc d) (kk r h' e)
theorem S_lcmp (pc : Nat) {x y : Int64} (d : decode (mC M) pc = .ok (.lcmp, 1))  (kk : XS E M en a b (pc + 1) L (.int (lg_cmp x y) :: st) h mm) : XS E M en a b pc L (.long y :: .long x :: st) h mm := fun r h' e => xs1 (X_lcmp pc d) (kk r h' e)
theorem S_i2l (pc : Nat) {x : Int32} (d : decode (mC M) pc = .ok (.i2l, 1))  (kk : XS E M en a b (pc + 1) L (.long x.toInt64 :: st) h mm) : XS E M en a b pc L (.int x :: st) h mm := fun r h' e => xs1 (X_i2l pc d) (kk r h' e)
theorem S_l2i (pc : Nat) {x : Int64} (d : decode (mC M) pc = .ok (.l2i, 1))  (kk : XS E M en a b (pc + 1) L (.int x.toInt32 :: st) h mm) : XS E M en a b pc L (.long x :: st) h mm := fun r h' e => xs1 (X_l2i pc d) (kk r h' e)
theorem S_i2b (pc : Nat) {x : Int32} (d : decode (mC M) pc = .ok (.i2b, 1))  (kk : XS E M en a b (pc + 1) L (.int x.toInt8.toInt32 :: st) h mm) : XS E M en a b pc L (.int x :: st) h mm := fun r h' e => xs1 (X_i2b pc d) (kk r h' e)
theorem S_i2c (pc : Nat) {x : Int32} (d : decode (mC M) pc = .ok (.i2c, 1))  (kk : XS E M en a b (pc + 1) L (.int (x.toUInt32 % 65536).toInt32 :: st) h mm) : XS E M en a b pc L (.int x :: st) h mm := fun r h' e => xs1 (X_i2c pc d) (kk r h' e)
theorem S_lshl (pc : Nat) {x : Int64} {y : Int32} (d : decode (mC M) pc = .ok (.lshl, 1))  (kk : XS E M en a b (pc + 1) L (.long (x <<< (y.toInt64 &&& 63)) :: st) h mm) : XS E M en a b pc L (.int y :: .long x :: st) h mm := fun r h' e => xs1 (X_lshl pc d) (kk r h' e)
theorem S_lshr (pc : Nat) {x : Int64} {y : Int32} (d : decode (mC M) pc = .ok (.lshr, 1))  (kk : XS E M en a b (pc + 1) L (.long (x >>> (y.toInt64 &&& 63)) :: st) h mm) : XS E M en a b pc L (.int y :: .long x :: st) h mm := fun r h' e => xs1 (X_lshr pc d) (kk r h' e)
theorem S_lconst (pc : Nat) (n : Fin 2) (d : decode (mC M) pc = .ok (.lconst n, 1))  (kk : XS E M en a b (pc + 1) L (.long (Int64.ofNat (n : Nat)) :: st) h mm) : XS E M en a b pc L (st) h mm := fun r h' e => xs1 (X_lconst pc n d) (kk r h' e)
theorem S_dup (pc : Nat) {va : Value} (d : decode (mC M) pc = .ok (.dup, 1)) (hva : va.category = 1) (kk : XS E M en a b (pc + 1) L (va :: va :: st) h mm) : XS E M en a b pc L (va :: st) h mm := fun r h' e => xs1 (X_dup pc d hva) (kk r h' e)
theorem S_pop (pc : Nat) {va : Value} (d : decode (mC M) pc = .ok (.pop, 1)) (hva : va.category = 1) (kk : XS E M en a b (pc + 1) L (st) h mm) : XS E M en a b pc L (va :: st) h mm := fun r h' e => xs1 (X_pop pc d hva) (kk r h' e)
theorem S_dup2 (pc : Nat) {va vb : Value} (d : decode (mC M) pc = .ok (.dup2, 1)) (hva : va.category = 1) (hvb : vb.category = 1) (kk : XS E M en a b (pc + 1) L (va :: vb :: va :: vb :: st) h mm) : XS E M en a b pc L (va :: vb :: st) h mm := fun r h' e => xs1 (X_dup2 pc d hva hvb) (kk r h' e)
theorem S_ic (pc : Nat) {z : Int} (v : Int32) (d : decode (mC M) pc = .ok (.iconst z, 1)) (hv : Int32.ofInt z = v) (kk : XS E M en a b (pc + 1) L (.int v :: st) h mm) : XS E M en a b pc L (st) h mm := fun r h' e => xs1 (X_ic pc v d hv) (kk r h' e)
theorem S_bip (pc : Nat) {z : Int} (v : Int32) (d : decode (mC M) pc = .ok (.bipush z, 2)) (hv : (Int8.ofInt z).toInt32 = v) (kk : XS E M en a b (pc + 2) L (.int v :: st) h mm) : XS E M en a b pc L (st) h mm := fun r h' e => xs1 (X_bip pc v d hv) (kk r h' e)
theorem S_sip (pc : Nat) {z : Int} (v : Int32) (d : decode (mC M) pc = .ok (.sipush z, 3)) (hv : (Int16.ofInt z).toInt32 = v) (kk : XS E M en a b (pc + 3) L (.int v :: st) h mm) : XS E M en a b pc L (st) h mm := fun r h' e => xs1 (X_sip pc v d hv) (kk r h' e)
theorem S_goto (pc tgt : Nat) {off : Int} (d : decode (mC M) pc = .ok (.goto off, 3)) (ht : (pc : Int) + off = (tgt : Int)) (kk : XS E M en a b tgt L (st) h mm) : XS E M en a b pc L (st) h mm := fun r h' e => xs1 (X_goto pc tgt d ht) (kk r h' e)
theorem S_iload_0 (pc : Nat)  {x : Int32} (d : decode (mC M) pc = .ok (.iload_n 0, 1)) (kk : XS E M en a b (pc + 1) (some (.int x) :: L) (.int x :: st) h mm) : XS E M en a b pc (some (.int x) :: L) (st) h mm := fun r h' e => xs1 (X_iload_0 pc d) (kk r h' e)
theorem S_istore_0 (pc : Nat)  {y : Option Value} {x : Int32} (d : decode (mC M) pc = .ok (.istore_n 0, 1)) (hp : xpv (y :: L) 0 = true) (kk : XS E M en a b (pc + 1) (some (.int x) :: L) (st) h mm) : XS E M en a b pc (y :: L) (.int x :: st) h mm := fun r h' e => xs1 (X_istore_0 pc d hp) (kk r h' e)
theorem S_aload_0 (pc : Nat)  {x : Nat} (d : decode (mC M) pc = .ok (.aload_n 0, 1)) (kk : XS E M en a b (pc + 1) (some (.ref x) :: L) (.ref x :: st) h mm) : XS E M en a b pc (some (.ref x) :: L) (st) h mm := fun r h' e => xs1 (X_aload_0 pc d) (kk r h' e)
theorem S_astore_0 (pc : Nat)  {y : Option Value} {x : Nat} (d : decode (mC M) pc = .ok (.astore_n 0, 1)) (hp : xpv (y :: L) 0 = true) (kk : XS E M en a b (pc + 1) (some (.ref x) :: L) (st) h mm) : XS E M en a b pc (y :: L) (.ref x :: st) h mm := fun r h' e => xs1 (X_astore_0 pc d hp) (kk r h' e)
theorem S_lload_0 (pc : Nat)  {x : Int64} (d : decode (mC M) pc = .ok (.lload_n 0, 1)) (kk : XS E M en a b (pc + 1) (some (.long x) :: L) (.long x :: st) h mm) : XS E M en a b pc (some (.long x) :: L) (st) h mm := fun r h' e => xs1 (X_lload_0 pc d) (kk r h' e)
theorem S_lstore_0 (pc : Nat)  {y z : Option Value} {x : Int64} (d : decode (mC M) pc = .ok (.lstore_n 0, 1)) (hp : xpv (y :: z :: L) 0 = true) (kk : XS E M en a b (pc + 1) (some (.long x) :: none :: L) (st) h mm) : XS E M en a b pc (y :: z :: L) (.long x :: st) h mm := fun r h' e => xs1 (X_lstore_0 pc d hp) (kk r h' e)
theorem S_iinc_0 (pc : Nat)  {x : Int32} {n : Int} (v : Int32) (d : decode (mC M) pc = .ok (.iinc 0 n, 3)) (hv : x + Int32.ofInt n = v) (hp : xpv (some (.int x) :: L) 0 = true) (kk : XS E M en a b (pc + 3) (some (.int v) :: L) (st) h mm) : XS E M en a b pc (some (.int x) :: L) (st) h mm := fun r h' e => xs1 (X_iinc_0 pc v d hv hp) (kk r h' e)
theorem S_iload_1 (pc : Nat) {x0 : Option Value} {x : Int32} (d : decode (mC M) pc = .ok (.iload_n 1, 1)) (kk : XS E M en a b (pc + 1) (x0 :: some (.int x) :: L) (.int x :: st) h mm) : XS E M en a b pc (x0 :: some (.int x) :: L) (st) h mm := fun r h' e => xs1 (X_iload_1 pc d) (kk r h' e)
theorem S_istore_1 (pc : Nat) {x0 : Option Value} {y : Option Value} {x : Int32} (d : decode (mC M) pc = .ok (.istore_n 1, 1)) (hp : xpv (x0 :: y :: L) 1 = true) (kk : XS E M en a b (pc + 1) (x0 :: some (.int x) :: L) (st) h mm) : XS E M en a b pc (x0 :: y :: L) (.int x :: st) h mm := fun r h' e => xs1 (X_istore_1 pc d hp) (kk r h' e)
theorem S_aload_1 (pc : Nat) {x0 : Option Value} {x : Nat} (d : decode (mC M) pc = .ok (.aload_n 1, 1)) (kk : XS E M en a b (pc + 1) (x0 :: some (.ref x) :: L) (.ref x :: st) h mm) : XS E M en a b pc (x0 :: some (.ref x) :: L) (st) h mm := fun r h' e => xs1 (X_aload_1 pc d) (kk r h' e)
theorem S_astore_1 (pc : Nat) {x0 : Option Value} {y : Option Value} {x : Nat} (d : decode (mC M) pc = .ok (.astore_n 1, 1)) (hp : xpv (x0 :: y :: L) 1 = true) (kk : XS E M en a b (pc + 1) (x0 :: some (.ref x) :: L) (st) h mm) : XS E M en a b pc (x0 :: y :: L) (.ref x :: st) h mm := fun r h' e => xs1 (X_astore_1 pc d hp) (kk r h' e)
theorem S_lload_1 (pc : Nat) {x0 : Option Value} {x : Int64} (d : decode (mC M) pc = .ok (.lload_n 1, 1)) (kk : XS E M en a b (pc + 1) (x0 :: some (.long x) :: L) (.long x :: st) h mm) : XS E M en a b pc (x0 :: some (.long x) :: L) (st) h mm := fun r h' e => xs1 (X_lload_1 pc d) (kk r h' e)
theorem S_lstore_1 (pc : Nat) {x0 : Option Value} {y z : Option Value} {x : Int64} (d : decode (mC M) pc = .ok (.lstore_n 1, 1)) (hp : xpv (x0 :: y :: z :: L) 1 = true) (kk : XS E M en a b (pc + 1) (x0 :: some (.long x) :: none :: L) (st) h mm) : XS E M en a b pc (x0 :: y :: z :: L) (.long x :: st) h mm := fun r h' e => xs1 (X_lstore_1 pc d hp) (kk r h' e)
theorem S_iinc_1 (pc : Nat) {x0 : Option Value} {x : Int32} {n : Int} (v : Int32) (d : decode (mC M) pc = .ok (.iinc 1 n, 3)) (hv : x + Int32.ofInt n = v) (hp : xpv (x0 :: some (.int x) :: L) 1 = true) (kk : XS E M en a b (pc + 3) (x0 :: some (.int v) :: L) (st) h mm) : XS E M en a b pc (x0 :: some (.int x) :: L) (st) h mm := fun r h' e => xs1 (X_iinc_1 pc v d hv hp) (kk r h' e)
theorem S_iload_2 (pc : Nat) {x0 x1 : Option Value} {x : Int32} (d : decode (mC M) pc = .ok (.iload_n 2, 1)) (kk : XS E M en a b (pc + 1) (x0 :: x1 :: some (.int x) :: L) (.int x :: st) h mm) : XS E M en a b pc (x0 :: x1 :: some (.int x) :: L) (st) h mm := fun r h' e => xs1 (X_iload_2 pc d) (kk r h' e)
theorem S_istore_2 (pc : Nat) {x0 x1 : Option Value} {y : Option Value} {x : Int32} (d : decode (mC M) pc = .ok (.istore_n 2, 1)) (hp : xpv (x0 :: x1 :: y :: L) 2 = true) (kk : XS E M en a b (pc + 1) (x0 :: x1 :: some (.int x) :: L) (st) h mm) : XS E M en a b pc (x0 :: x1 :: y :: L) (.int x :: st) h mm := fun r h' e => xs1 (X_istore_2 pc d hp) (kk r h' e)
theorem S_aload_2 (pc : Nat) {x0 x1 : Option Value} {x : Nat} (d : decode (mC M) pc = .ok (.aload_n 2, 1)) (kk : XS E M en a b (pc + 1) (x0 :: x1 :: some (.ref x) :: L) (.ref x :: st) h mm) : XS E M en a b pc (x0 :: x1 :: some (.ref x) :: L) (st) h mm := fun r h' e => xs1 (X_aload_2 pc d) (kk r h' e)
theorem S_astore_2 (pc : Nat) {x0 x1 : Option Value} {y : Option Value} {x : Nat} (d : decode (mC M) pc = .ok (.astore_n 2, 1)) (hp : xpv (x0 :: x1 :: y :: L) 2 = true) (kk : XS E M en a b (pc + 1) (x0 :: x1 :: some (.ref x) :: L) (st) h mm) : XS E M en a b pc (x0 :: x1 :: y :: L) (.ref x :: st) h mm := fun r h' e => xs1 (X_astore_2 pc d hp) (kk r h' e)
theorem S_lload_2 (pc : Nat) {x0 x1 : Option Value} {x : Int64} (d : decode (mC M) pc = .ok (.lload_n 2, 1)) (kk : XS E M en a b (pc + 1) (x0 :: x1 :: some (.long x) :: L) (.long x :: st) h mm) : XS E M en a b pc (x0 :: x1 :: some (.long x) :: L) (st) h mm := fun r h' e => xs1 (X_lload_2 pc d) (kk r h' e)
theorem S_lstore_2 (pc : Nat) {x0 x1 : Option Value} {y z : Option Value} {x : Int64} (d : decode (mC M) pc = .ok (.lstore_n 2, 1)) (hp : xpv (x0 :: x1 :: y :: z :: L) 2 = true) (kk : XS E M en a b (pc + 1) (x0 :: x1 :: some (.long x) :: none :: L) (st) h mm) : XS E M en a b pc (x0 :: x1 :: y :: z :: L) (.long x :: st) h mm := fun r h' e => xs1 (X_lstore_2 pc d hp) (kk r h' e)
theorem S_iinc_2 (pc : Nat) {x0 x1 : Option Value} {x : Int32} {n : Int} (v : Int32) (d : decode (mC M) pc = .ok (.iinc 2 n, 3)) (hv : x + Int32.ofInt n = v) (hp : xpv (x0 :: x1 :: some (.int x) :: L) 2 = true) (kk : XS E M en a b (pc + 3) (x0 :: x1 :: some (.int v) :: L) (st) h mm) : XS E M en a b pc (x0 :: x1 :: some (.int x) :: L) (st) h mm := fun r h' e => xs1 (X_iinc_2 pc v d hv hp) (kk r h' e)
theorem S_iload_3 (pc : Nat) {x0 x1 x2 : Option Value} {x : Int32} (d : decode (mC M) pc = .ok (.iload_n 3, 1)) (kk : XS E M en a b (pc + 1) (x0 :: x1 :: x2 :: some (.int x) :: L) (.int x :: st) h mm) : XS E M en a b pc (x0 :: x1 :: x2 :: some (.int x) :: L) (st) h mm := fun r h' e => xs1 (X_iload_3 pc d) (kk r h' e)
theorem S_istore_3 (pc : Nat) {x0 x1 x2 : Option Value} {y : Option Value} {x : Int32} (d : decode (mC M) pc = .ok (.istore_n 3, 1)) (hp : xpv (x0 :: x1 :: x2 :: y :: L) 3 = true) (kk : XS E M en a b (pc + 1) (x0 :: x1 :: x2 :: some (.int x) :: L) (st) h mm) : XS E M en a b pc (x0 :: x1 :: x2 :: y :: L) (.int x :: st) h mm := fun r h' e => xs1 (X_istore_3 pc d hp) (kk r h' e)
theorem S_aload_3 (pc : Nat) {x0 x1 x2 : Option Value} {x : Nat} (d : decode (mC M) pc = .ok (.aload_n 3, 1)) (kk : XS E M en a b (pc + 1) (x0 :: x1 :: x2 :: some (.ref x) :: L) (.ref x :: st) h mm) : XS E M en a b pc (x0 :: x1 :: x2 :: some (.ref x) :: L) (st) h mm := fun r h' e => xs1 (X_aload_3 pc d) (kk r h' e)
theorem S_astore_3 (pc : Nat) {x0 x1 x2 : Option Value} {y : Option Value} {x : Nat} (d : decode (mC M) pc = .ok (.astore_n 3, 1)) (hp : xpv (x0 :: x1 :: x2 :: y :: L) 3 = true) (kk : XS E M en a b (pc + 1) (x0 :: x1 :: x2 :: some (.ref x) :: L) (st) h mm) : XS E M en a b pc (x0 :: x1 :: x2 :: y :: L) (.ref x :: st) h mm := fun r h' e => xs1 (X_astore_3 pc d hp) (kk r h' e)
theorem S_lload_3 (pc : Nat) {x0 x1 x2 : Option Value} {x : Int64} (d : decode (mC M) pc = .ok (.lload_n 3, 1)) (kk : XS E M en a b (pc + 1) (x0 :: x1 :: x2 :: some (.long x) :: L) (.long x :: st) h mm) : XS E M en a b pc (x0 :: x1 :: x2 :: some (.long x) :: L) (st) h mm := fun r h' e => xs1 (X_lload_3 pc d) (kk r h' e)
theorem S_lstore_3 (pc : Nat) {x0 x1 x2 : Option Value} {y z : Option Value} {x : Int64} (d : decode (mC M) pc = .ok (.lstore_n 3, 1)) (hp : xpv (x0 :: x1 :: x2 :: y :: z :: L) 3 = true) (kk : XS E M en a b (pc + 1) (x0 :: x1 :: x2 :: some (.long x) :: none :: L) (st) h mm) : XS E M en a b pc (x0 :: x1 :: x2 :: y :: z :: L) (.long x :: st) h mm := fun r h' e => xs1 (X_lstore_3 pc d hp) (kk r h' e)
theorem S_iinc_3 (pc : Nat) {x0 x1 x2 : Option Value} {x : Int32} {n : Int} (v : Int32) (d : decode (mC M) pc = .ok (.iinc 3 n, 3)) (hv : x + Int32.ofInt n = v) (hp : xpv (x0 :: x1 :: x2 :: some (.int x) :: L) 3 = true) (kk : XS E M en a b (pc + 3) (x0 :: x1 :: x2 :: some (.int v) :: L) (st) h mm) : XS E M en a b pc (x0 :: x1 :: x2 :: some (.int x) :: L) (st) h mm := fun r h' e => xs1 (X_iinc_3 pc v d hv hp) (kk r h' e)
theorem S_iload_4 (pc : Nat) {x0 x1 x2 x3 : Option Value} {x : Int32} (d : decode (mC M) pc = .ok (.iload 4, 2)) (kk : XS E M en a b (pc + 2) (x0 :: x1 :: x2 :: x3 :: some (.int x) :: L) (.int x :: st) h mm) : XS E M en a b pc (x0 :: x1 :: x2 :: x3 :: some (.int x) :: L) (st) h mm := fun r h' e => xs1 (X_iload_4 pc d) (kk r h' e)
theorem S_istore_4 (pc : Nat) {x0 x1 x2 x3 : Option Value} {y : Option Value} {x : Int32} (d : decode (mC M) pc = .ok (.istore 4, 2)) (hp : xpv (x0 :: x1 :: x2 :: x3 :: y :: L) 4 = true) (kk : XS E M en a b (pc + 2) (x0 :: x1 :: x2 :: x3 :: some (.int x) :: L) (st) h mm) : XS E M en a b pc (x0 :: x1 :: x2 :: x3 :: y :: L) (.int x :: st) h mm := fun r h' e => xs1 (X_istore_4 pc d hp) (kk r h' e)
theorem S_aload_4 (pc : Nat) {x0 x1 x2 x3 : Option Value} {x : Nat} (d : decode (mC M) pc = .ok (.aload 4, 2)) (kk : XS E M en a b (pc + 2) (x0 :: x1 :: x2 :: x3 :: some (.ref x) :: L) (.ref x :: st) h mm) : XS E M en a b pc (x0 :: x1 :: x2 :: x3 :: some (.ref x) :: L) (st) h mm := fun r h' e => xs1 (X_aload_4 pc d) (kk r h' e)
theorem S_astore_4 (pc : Nat) {x0 x1 x2 x3 : Option Value} {y : Option Value} {x : Nat} (d : decode (mC M) pc = .ok (.astore 4, 2)) (hp : xpv (x0 :: x1 :: x2 :: x3 :: y :: L) 4 = true) (kk : XS E M en a b (pc + 2) (x0 :: x1 :: x2 :: x3 :: some (.ref x) :: L) (st) h mm) : XS E M en a b pc (x0 :: x1 :: x2 :: x3 :: y :: L) (.ref x :: st) h mm := fun r h' e => xs1 (X_astore_4 pc d hp) (kk r h' e)
theorem S_lload_4 (pc : Nat) {x0 x1 x2 x3 : Option Value} {x : Int64} (d : decode (mC M) pc = .ok (.lload 4, 2)) (kk : XS E M en a b (pc + 2) (x0 :: x1 :: x2 :: x3 :: some (.long x) :: L) (.long x :: st) h mm) : XS E M en a b pc (x0 :: x1 :: x2 :: x3 :: some (.long x) :: L) (st) h mm := fun r h' e => xs1 (X_lload_4 pc d) (kk r h' e)
theorem S_lstore_4 (pc : Nat) {x0 x1 x2 x3 : Option Value} {y z : Option Value} {x : Int64} (d : decode (mC M) pc = .ok (.lstore 4, 2)) (hp : xpv (x0 :: x1 :: x2 :: x3 :: y :: z :: L) 4 = true) (kk : XS E M en a b (pc + 2) (x0 :: x1 :: x2 :: x3 :: some (.long x) :: none :: L) (st) h mm) : XS E M en a b pc (x0 :: x1 :: x2 :: x3 :: y :: z :: L) (.long x :: st) h mm := fun r h' e => xs1 (X_lstore_4 pc d hp) (kk r h' e)
theorem S_iinc_4 (pc : Nat) {x0 x1 x2 x3 : Option Value} {x : Int32} {n : Int} (v : Int32) (d : decode (mC M) pc = .ok (.iinc 4 n, 3)) (hv : x + Int32.ofInt n = v) (hp : xpv (x0 :: x1 :: x2 :: x3 :: some (.int x) :: L) 4 = true) (kk : XS E M en a b (pc + 3) (x0 :: x1 :: x2 :: x3 :: some (.int v) :: L) (st) h mm) : XS E M en a b pc (x0 :: x1 :: x2 :: x3 :: some (.int x) :: L) (st) h mm := fun r h' e => xs1 (X_iinc_4 pc v d hv hp) (kk r h' e)
theorem S_iload_5 (pc : Nat) {x0 x1 x2 x3 x4 : Option Value} {x : Int32} (d : decode (mC M) pc = .ok (.iload 5, 2)) (kk : XS E M en a b (pc + 2) (x0 :: x1 :: x2 :: x3 :: x4 :: some (.int x) :: L) (.int x :: st) h mm) : XS E M en a b pc (x0 :: x1 :: x2 :: x3 :: x4 :: some (.int x) :: L) (st) h mm := fun r h' e => xs1 (X_iload_5 pc d) (kk r h' e)
theorem S_istore_5 (pc : Nat) {x0 x1 x2 x3 x4 : Option Value} {y : Option Value} {x : Int32} (d : decode (mC M) pc = .ok (.istore 5, 2)) (hp : xpv (x0 :: x1 :: x2 :: x3 :: x4 :: y :: L) 5 = true) (kk : XS E M en a b (pc + 2) (x0 :: x1 :: x2 :: x3 :: x4 :: some (.int x) :: L) (st) h mm) : XS E M en a b pc (x0 :: x1 :: x2 :: x3 :: x4 :: y :: L) (.int x :: st) h mm := fun r h' e => xs1 (X_istore_5 pc d hp) (kk r h' e)
theorem S_aload_5 (pc : Nat) {x0 x1 x2 x3 x4 : Option Value} {x : Nat} (d : decode (mC M) pc = .ok (.aload 5, 2)) (kk : XS E M en a b (pc + 2) (x0 :: x1 :: x2 :: x3 :: x4 :: some (.ref x) :: L) (.ref x :: st) h mm) : XS E M en a b pc (x0 :: x1 :: x2 :: x3 :: x4 :: some (.ref x) :: L) (st) h mm := fun r h' e => xs1 (X_aload_5 pc d) (kk r h' e)
theorem S_astore_5 (pc : Nat) {x0 x1 x2 x3 x4 : Option Value} {y : Option Value} {x : Nat} (d : decode (mC M) pc = .ok (.astore 5, 2)) (hp : xpv (x0 :: x1 :: x2 :: x3 :: x4 :: y :: L) 5 = true) (kk : XS E M en a b (pc + 2) (x0 :: x1 :: x2 :: x3 :: x4 :: some (.ref x) :: L) (st) h mm) : XS E M en a b pc (x0 :: x1 :: x2 :: x3 :: x4 :: y :: L) (.ref x :: st) h mm := fun r h' e => xs1 (X_astore_5 pc d hp) (kk r h' e)
theorem S_lload_5 (pc : Nat) {x0 x1 x2 x3 x4 : Option Value} {x : Int64} (d : decode (mC M) pc = .ok (.lload 5, 2)) (kk : XS E M en a b (pc + 2) (x0 :: x1 :: x2 :: x3 :: x4 :: some (.long x) :: L) (.long x :: st) h mm) : XS E M en a b pc (x0 :: x1 :: x2 :: x3 :: x4 :: some (.long x) :: L) (st) h mm := fun r h' e => xs1 (X_lload_5 pc d) (kk r h' e)
theorem S_lstore_5 (pc : Nat) {x0 x1 x2 x3 x4 : Option Value} {y z : Option Value} {x : Int64} (d : decode (mC M) pc = .ok (.lstore 5, 2)) (hp : xpv (x0 :: x1 :: x2 :: x3 :: x4 :: y :: z :: L) 5 = true) (kk : XS E M en a b (pc + 2) (x0 :: x1 :: x2 :: x3 :: x4 :: some (.long x) :: none :: L) (st) h mm) : XS E M en a b pc (x0 :: x1 :: x2 :: x3 :: x4 :: y :: z :: L) (.long x :: st) h mm := fun r h' e => xs1 (X_lstore_5 pc d hp) (kk r h' e)
theorem S_iinc_5 (pc : Nat) {x0 x1 x2 x3 x4 : Option Value} {x : Int32} {n : Int} (v : Int32) (d : decode (mC M) pc = .ok (.iinc 5 n, 3)) (hv : x + Int32.ofInt n = v) (hp : xpv (x0 :: x1 :: x2 :: x3 :: x4 :: some (.int x) :: L) 5 = true) (kk : XS E M en a b (pc + 3) (x0 :: x1 :: x2 :: x3 :: x4 :: some (.int v) :: L) (st) h mm) : XS E M en a b pc (x0 :: x1 :: x2 :: x3 :: x4 :: some (.int x) :: L) (st) h mm := fun r h' e => xs1 (X_iinc_5 pc v d hv hp) (kk r h' e)
theorem S_iload_6 (pc : Nat) {x0 x1 x2 x3 x4 x5 : Option Value} {x : Int32} (d : decode (mC M) pc = .ok (.iload 6, 2)) (kk : XS E M en a b (pc + 2) (x0 :: x1 :: x2 :: x3 :: x4 :: x5 :: some (.int x) :: L) (.int x :: st) h mm) : XS E M en a b pc (x0 :: x1 :: x2 :: x3 :: x4 :: x5 :: some (.int x) :: L) (st) h mm := fun r h' e => xs1 (X_iload_6 pc d) (kk r h' e)
theorem S_istore_6 (pc : Nat) {x0 x1 x2 x3 x4 x5 : Option Value} {y : Option Value} {x : Int32} (d : decode (mC M) pc = .ok (.istore 6, 2)) (hp : xpv (x0 :: x1 :: x2 :: x3 :: x4 :: x5 :: y :: L) 6 = true) (kk : XS E M en a b (pc + 2) (x0 :: x1 :: x2 :: x3 :: x4 :: x5 :: some (.int x) :: L) (st) h mm) : XS E M en a b pc (x0 :: x1 :: x2 :: x3 :: x4 :: x5 :: y :: L) (.int x :: st) h mm := fun r h' e => xs1 (X_istore_6 pc d hp) (kk r h' e)
theorem S_aload_6 (pc : Nat) {x0 x1 x2 x3 x4 x5 : Option Value} {x : Nat} (d : decode (mC M) pc = .ok (.aload 6, 2)) (kk : XS E M en a b (pc + 2) (x0 :: x1 :: x2 :: x3 :: x4 :: x5 :: some (.ref x) :: L) (.ref x :: st) h mm) : XS E M en a b pc (x0 :: x1 :: x2 :: x3 :: x4 :: x5 :: some (.ref x) :: L) (st) h mm := fun r h' e => xs1 (X_aload_6 pc d) (kk r h' e)
theorem S_astore_6 (pc : Nat) {x0 x1 x2 x3 x4 x5 : Option Value} {y : Option Value} {x : Nat} (d : decode (mC M) pc = .ok (.astore 6, 2)) (hp : xpv (x0 :: x1 :: x2 :: x3 :: x4 :: x5 :: y :: L) 6 = true) (kk : XS E M en a b (pc + 2) (x0 :: x1 :: x2 :: x3 :: x4 :: x5 :: some (.ref x) :: L) (st) h mm) : XS E M en a b pc (x0 :: x1 :: x2 :: x3 :: x4 :: x5 :: y :: L) (.ref x :: st) h mm := fun r h' e => xs1 (X_astore_6 pc d hp) (kk r h' e)
theorem S_iinc_6 (pc : Nat) {x0 x1 x2 x3 x4 x5 : Option Value} {x : Int32} {n : Int} (v : Int32) (d : decode (mC M) pc = .ok (.iinc 6 n, 3)) (hv : x + Int32.ofInt n = v) (hp : xpv (x0 :: x1 :: x2 :: x3 :: x4 :: x5 :: some (.int x) :: L) 6 = true) (kk : XS E M en a b (pc + 3) (x0 :: x1 :: x2 :: x3 :: x4 :: x5 :: some (.int v) :: L) (st) h mm) : XS E M en a b pc (x0 :: x1 :: x2 :: x3 :: x4 :: x5 :: some (.int x) :: L) (st) h mm := fun r h' e => xs1 (X_iinc_6 pc v d hv hp) (kk r h' e)
theorem S_iload_7 (pc : Nat) {x0 x1 x2 x3 x4 x5 x6 : Option Value} {x : Int32} (d : decode (mC M) pc = .ok (.iload 7, 2)) (kk : XS E M en a b (pc + 2) (x0 :: x1 :: x2 :: x3 :: x4 :: x5 :: x6 :: some (.int x) :: L) (.int x :: st) h mm) : XS E M en a b pc (x0 :: x1 :: x2 :: x3 :: x4 :: x5 :: x6 :: some (.int x) :: L) (st) h mm := fun r h' e => xs1 (X_iload_7 pc d) (kk r h' e)
theorem S_istore_7 (pc : Nat) {x0 x1 x2 x3 x4 x5 x6 : Option Value} {y : Option Value} {x : Int32} (d : decode (mC M) pc = .ok (.istore 7, 2)) (hp : xpv (x0 :: x1 :: x2 :: x3 :: x4 :: x5 :: x6 :: y :: L) 7 = true) (kk : XS E M en a b (pc + 2) (x0 :: x1 :: x2 :: x3 :: x4 :: x5 :: x6 :: some (.int x) :: L) (st) h mm) : XS E M en a b pc (x0 :: x1 :: x2 :: x3 :: x4 :: x5 :: x6 :: y :: L) (.int x :: st) h mm := fun r h' e => xs1 (X_istore_7 pc d hp) (kk r h' e)
theorem S_aload_7 (pc : Nat) {x0 x1 x2 x3 x4 x5 x6 : Option Value} {x : Nat} (d : decode (mC M) pc = .ok (.aload 7, 2)) (kk : XS E M en a b (pc + 2) (x0 :: x1 :: x2 :: x3 :: x4 :: x5 :: x6 :: some (.ref x) :: L) (.ref x :: st) h mm) : XS E M en a b pc (x0 :: x1 :: x2 :: x3 :: x4 :: x5 :: x6 :: some (.ref x) :: L) (st) h mm := fun r h' e => xs1 (X_aload_7 pc d) (kk r h' e)
theorem S_astore_7 (pc : Nat) {x0 x1 x2 x3 x4 x5 x6 : Option Value} {y : Option Value} {x : Nat} (d : decode (mC M) pc = .ok (.astore 7, 2)) (hp : xpv (x0 :: x1 :: x2 :: x3 :: x4 :: x5 :: x6 :: y :: L) 7 = true) (kk : XS E M en a b (pc + 2) (x0 :: x1 :: x2 :: x3 :: x4 :: x5 :: x6 :: some (.ref x) :: L) (st) h mm) : XS E M en a b pc (x0 :: x1 :: x2 :: x3 :: x4 :: x5 :: x6 :: y :: L) (.ref x :: st) h mm := fun r h' e => xs1 (X_astore_7 pc d hp) (kk r h' e)
theorem S_iinc_7 (pc : Nat) {x0 x1 x2 x3 x4 x5 x6 : Option Value} {x : Int32} {n : Int} (v : Int32) (d : decode (mC M) pc = .ok (.iinc 7 n, 3)) (hv : x + Int32.ofInt n = v) (hp : xpv (x0 :: x1 :: x2 :: x3 :: x4 :: x5 :: x6 :: some (.int x) :: L) 7 = true) (kk : XS E M en a b (pc + 3) (x0 :: x1 :: x2 :: x3 :: x4 :: x5 :: x6 :: some (.int v) :: L) (st) h mm) : XS E M en a b pc (x0 :: x1 :: x2 :: x3 :: x4 :: x5 :: x6 :: some (.int x) :: L) (st) h mm := fun r h' e => xs1 (X_iinc_7 pc v d hv hp) (kk r h' e)
theorem S_iload_8 (pc : Nat) {x0 x1 x2 x3 x4 x5 x6 x7 : Option Value} {x : Int32} (d : decode (mC M) pc = .ok (.iload 8, 2)) (kk : XS E M en a b (pc + 2) (x0 :: x1 :: x2 :: x3 :: x4 :: x5 :: x6 :: x7 :: some (.int x) :: L) (.int x :: st) h mm) : XS E M en a b pc (x0 :: x1 :: x2 :: x3 :: x4 :: x5 :: x6 :: x7 :: some (.int x) :: L) (st) h mm := fun r h' e => xs1 (X_iload_8 pc d) (kk r h' e)
theorem S_istore_8 (pc : Nat) {x0 x1 x2 x3 x4 x5 x6 x7 : Option Value} {y : Option Value} {x : Int32} (d : decode (mC M) pc = .ok (.istore 8, 2)) (hp : xpv (x0 :: x1 :: x2 :: x3 :: x4 :: x5 :: x6 :: x7 :: y :: L) 8 = true) (kk : XS E M en a b (pc + 2) (x0 :: x1 :: x2 :: x3 :: x4 :: x5 :: x6 :: x7 :: some (.int x) :: L) (st) h mm) : XS E M en a b pc (x0 :: x1 :: x2 :: x3 :: x4 :: x5 :: x6 :: x7 :: y :: L) (.int x :: st) h mm := fun r h' e => xs1 (X_istore_8 pc d hp) (kk r h' e)
theorem S_aload_8 (pc : Nat) {x0 x1 x2 x3 x4 x5 x6 x7 : Option Value} {x : Nat} (d : decode (mC M) pc = .ok (.aload 8, 2)) (kk : XS E M en a b (pc + 2) (x0 :: x1 :: x2 :: x3 :: x4 :: x5 :: x6 :: x7 :: some (.ref x) :: L) (.ref x :: st) h mm) : XS E M en a b pc (x0 :: x1 :: x2 :: x3 :: x4 :: x5 :: x6 :: x7 :: some (.ref x) :: L) (st) h mm := fun r h' e => xs1 (X_aload_8 pc d) (kk r h' e)
theorem S_astore_8 (pc : Nat) {x0 x1 x2 x3 x4 x5 x6 x7 : Option Value} {y : Option Value} {x : Nat} (d : decode (mC M) pc = .ok (.astore 8, 2)) (hp : xpv (x0 :: x1 :: x2 :: x3 :: x4 :: x5 :: x6 :: x7 :: y :: L) 8 = true) (kk : XS E M en a b (pc + 2) (x0 :: x1 :: x2 :: x3 :: x4 :: x5 :: x6 :: x7 :: some (.ref x) :: L) (st) h mm) : XS E M en a b pc (x0 :: x1 :: x2 :: x3 :: x4 :: x5 :: x6 :: x7 :: y :: L) (.ref x :: st) h mm := fun r h' e => xs1 (X_astore_8 pc d hp) (kk r h' e)
theorem S_iinc_8 (pc : Nat) {x0 x1 x2 x3 x4 x5 x6 x7 : Option Value} {x : Int32} {n : Int} (v : Int32) (d : decode (mC M) pc = .ok (.iinc 8 n, 3)) (hv : x + Int32.ofInt n = v) (hp : xpv (x0 :: x1 :: x2 :: x3 :: x4 :: x5 :: x6 :: x7 :: some (.int x) :: L) 8 = true) (kk : XS E M en a b (pc + 3) (x0 :: x1 :: x2 :: x3 :: x4 :: x5 :: x6 :: x7 :: some (.int v) :: L) (st) h mm) : XS E M en a b pc (x0 :: x1 :: x2 :: x3 :: x4 :: x5 :: x6 :: x7 :: some (.int x) :: L) (st) h mm := fun r h' e => xs1 (X_iinc_8 pc v d hv hp) (kk r h' e)
theorem S_iload_9 (pc : Nat) {x0 x1 x2 x3 x4 x5 x6 x7 x8 : Option Value} {x : Int32} (d : decode (mC M) pc = .ok (.iload 9, 2)) (kk : XS E M en a b (pc + 2) (x0 :: x1 :: x2 :: x3 :: x4 :: x5 :: x6 :: x7 :: x8 :: some (.int x) :: L) (.int x :: st) h mm) : XS E M en a b pc (x0 :: x1 :: x2 :: x3 :: x4 :: x5 :: x6 :: x7 :: x8 :: some (.int x) :: L) (st) h mm := fun r h' e => xs1 (X_iload_9 pc d) (kk r h' e)
theorem S_istore_9 (pc : Nat) {x0 x1 x2 x3 x4 x5 x6 x7 x8 : Option Value} {y : Option Value} {x : Int32} (d : decode (mC M) pc = .ok (.istore 9, 2)) (hp : xpv (x0 :: x1 :: x2 :: x3 :: x4 :: x5 :: x6 :: x7 :: x8 :: y :: L) 9 = true) (kk : XS E M en a b (pc + 2) (x0 :: x1 :: x2 :: x3 :: x4 :: x5 :: x6 :: x7 :: x8 :: some (.int x) :: L) (st) h mm) : XS E M en a b pc (x0 :: x1 :: x2 :: x3 :: x4 :: x5 :: x6 :: x7 :: x8 :: y :: L) (.int x :: st) h mm := fun r h' e => xs1 (X_istore_9 pc d hp) (kk r h' e)
theorem S_aload_9 (pc : Nat) {x0 x1 x2 x3 x4 x5 x6 x7 x8 : Option Value} {x : Nat} (d : decode (mC M) pc = .ok (.aload 9, 2)) (kk : XS E M en a b (pc + 2) (x0 :: x1 :: x2 :: x3 :: x4 :: x5 :: x6 :: x7 :: x8 :: some (.ref x) :: L) (.ref x :: st) h mm) : XS E M en a b pc (x0 :: x1 :: x2 :: x3 :: x4 :: x5 :: x6 :: x7 :: x8 :: some (.ref x) :: L) (st) h mm := fun r h' e => xs1 (X_aload_9 pc d) (kk r h' e)
theorem S_astore_9 (pc : Nat) {x0 x1 x2 x3 x4 x5 x6 x7 x8 : Option Value} {y : Option Value} {x : Nat} (d : decode (mC M) pc = .ok (.astore 9, 2)) (hp : xpv (x0 :: x1 :: x2 :: x3 :: x4 :: x5 :: x6 :: x7 :: x8 :: y :: L) 9 = true) (kk : XS E M en a b (pc + 2) (x0 :: x1 :: x2 :: x3 :: x4 :: x5 :: x6 :: x7 :: x8 :: some (.ref x) :: L) (st) h mm) : XS E M en a b pc (x0 :: x1 :: x2 :: x3 :: x4 :: x5 :: x6 :: x7 :: x8 :: y :: L) (.ref x :: st) h mm := fun r h' e => xs1 (X_astore_9 pc d hp) (kk r h' e)
theorem S_iinc_9 (pc : Nat) {x0 x1 x2 x3 x4 x5 x6 x7 x8 : Option Value} {x : Int32} {n : Int} (v : Int32) (d : decode (mC M) pc = .ok (.iinc 9 n, 3)) (hv : x + Int32.ofInt n = v) (hp : xpv (x0 :: x1 :: x2 :: x3 :: x4 :: x5 :: x6 :: x7 :: x8 :: some (.int x) :: L) 9 = true) (kk : XS E M en a b (pc + 3) (x0 :: x1 :: x2 :: x3 :: x4 :: x5 :: x6 :: x7 :: x8 :: some (.int v) :: L) (st) h mm) : XS E M en a b pc (x0 :: x1 :: x2 :: x3 :: x4 :: x5 :: x6 :: x7 :: x8 :: some (.int x) :: L) (st) h mm := fun r h' e => xs1 (X_iinc_9 pc v d hv hp) (kk r h' e)
theorem S_iload_10 (pc : Nat) {x0 x1 x2 x3 x4 x5 x6 x7 x8 x9 : Option Value} {x : Int32} (d : decode (mC M) pc = .ok (.iload 10, 2)) (kk : XS E M en a b (pc + 2) (x0 :: x1 :: x2 :: x3 :: x4 :: x5 :: x6 :: x7 :: x8 :: x9 :: some (.int x) :: L) (.int x :: st) h mm) : XS E M en a b pc (x0 :: x1 :: x2 :: x3 :: x4 :: x5 :: x6 :: x7 :: x8 :: x9 :: some (.int x) :: L) (st) h mm := fun r h' e => xs1 (X_iload_10 pc d) (kk r h' e)
theorem S_istore_10 (pc : Nat) {x0 x1 x2 x3 x4 x5 x6 x7 x8 x9 : Option Value} {y : Option Value} {x : Int32} (d : decode (mC M) pc = .ok (.istore 10, 2)) (hp : xpv (x0 :: x1 :: x2 :: x3 :: x4 :: x5 :: x6 :: x7 :: x8 :: x9 :: y :: L) 10 = true) (kk : XS E M en a b (pc + 2) (x0 :: x1 :: x2 :: x3 :: x4 :: x5 :: x6 :: x7 :: x8 :: x9 :: some (.int x) :: L) (st) h mm) : XS E M en a b pc (x0 :: x1 :: x2 :: x3 :: x4 :: x5 :: x6 :: x7 :: x8 :: x9 :: y :: L) (.int x :: st) h mm := fun r h' e => xs1 (X_istore_10 pc d hp) (kk r h' e)
theorem S_aload_10 (pc : Nat) {x0 x1 x2 x3 x4 x5 x6 x7 x8 x9 : Option Value} {x : Nat} (d : decode (mC M) pc = .ok (.aload 10, 2)) (kk : XS E M en a b (pc + 2) (x0 :: x1 :: x2 :: x3 :: x4 :: x5 :: x6 :: x7 :: x8 :: x9 :: some (.ref x) :: L) (.ref x :: st) h mm) : XS E M en a b pc (x0 :: x1 :: x2 :: x3 :: x4 :: x5 :: x6 :: x7 :: x8 :: x9 :: some (.ref x) :: L) (st) h mm := fun r h' e => xs1 (X_aload_10 pc d) (kk r h' e)
theorem S_astore_10 (pc : Nat) {x0 x1 x2 x3 x4 x5 x6 x7 x8 x9 : Option Value} {y : Option Value} {x : Nat} (d : decode (mC M) pc = .ok (.astore 10, 2)) (hp : xpv (x0 :: x1 :: x2 :: x3 :: x4 :: x5 :: x6 :: x7 :: x8 :: x9 :: y :: L) 10 = true) (kk : XS E M en a b (pc + 2) (x0 :: x1 :: x2 :: x3 :: x4 :: x5 :: x6 :: x7 :: x8 :: x9 :: some (.ref x) :: L) (st) h mm) : XS E M en a b pc (x0 :: x1 :: x2 :: x3 :: x4 :: x5 :: x6 :: x7 :: x8 :: x9 :: y :: L) (.ref x :: st) h mm := fun r h' e => xs1 (X_astore_10 pc d hp) (kk r h' e)
theorem S_iinc_10 (pc : Nat) {x0 x1 x2 x3 x4 x5 x6 x7 x8 x9 : Option Value} {x : Int32} {n : Int} (v : Int32) (d : decode (mC M) pc = .ok (.iinc 10 n, 3)) (hv : x + Int32.ofInt n = v) (hp : xpv (x0 :: x1 :: x2 :: x3 :: x4 :: x5 :: x6 :: x7 :: x8 :: x9 :: some (.int x) :: L) 10 = true) (kk : XS E M en a b (pc + 3) (x0 :: x1 :: x2 :: x3 :: x4 :: x5 :: x6 :: x7 :: x8 :: x9 :: some (.int v) :: L) (st) h mm) : XS E M en a b pc (x0 :: x1 :: x2 :: x3 :: x4 :: x5 :: x6 :: x7 :: x8 :: x9 :: some (.int x) :: L) (st) h mm := fun r h' e => xs1 (X_iinc_10 pc v d hv hp) (kk r h' e)
theorem S_iload_11 (pc : Nat) {x0 x1 x2 x3 x4 x5 x6 x7 x8 x9 x10 : Option Value} {x : Int32} (d : decode (mC M) pc = .ok (.iload 11, 2)) (kk : XS E M en a b (pc + 2) (x0 :: x1 :: x2 :: x3 :: x4 :: x5 :: x6 :: x7 :: x8 :: x9 :: x10 :: some (.int x) :: L) (.int x :: st) h mm) : XS E M en a b pc (x0 :: x1 :: x2 :: x3 :: x4 :: x5 :: x6 :: x7 :: x8 :: x9 :: x10 :: some (.int x) :: L) (st) h mm := fun r h' e => xs1 (X_iload_11 pc d) (kk r h' e)
theorem S_istore_11 (pc : Nat) {x0 x1 x2 x3 x4 x5 x6 x7 x8 x9 x10 : Option Value} {y : Option Value} {x : Int32} (d : decode (mC M) pc = .ok (.istore 11, 2)) (hp : xpv (x0 :: x1 :: x2 :: x3 :: x4 :: x5 :: x6 :: x7 :: x8 :: x9 :: x10 :: y :: L) 11 = true) (kk : XS E M en a b (pc + 2) (x0 :: x1 :: x2 :: x3 :: x4 :: x5 :: x6 :: x7 :: x8 :: x9 :: x10 :: some (.int x) :: L) (st) h mm) : XS E M en a b pc (x0 :: x1 :: x2 :: x3 :: x4 :: x5 :: x6 :: x7 :: x8 :: x9 :: x10 :: y :: L) (.int x :: st) h mm := fun r h' e => xs1 (X_istore_11 pc d hp) (kk r h' e)
theorem S_aload_11 (pc : Nat) {x0 x1 x2 x3 x4 x5 x6 x7 x8 x9 x10 : Option Value} {x : Nat} (d : decode (mC M) pc = .ok (.aload 11, 2)) (kk : XS E M en a b (pc + 2) (x0 :: x1 :: x2 :: x3 :: x4 :: x5 :: x6 :: x7 :: x8 :: x9 :: x10 :: some (.ref x) :: L) (.ref x :: st) h mm) : XS E M en a b pc (x0 :: x1 :: x2 :: x3 :: x4 :: x5 :: x6 :: x7 :: x8 :: x9 :: x10 :: some (.ref x) :: L) (st) h mm := fun r h' e => xs1 (X_aload_11 pc d) (kk r h' e)
theorem S_astore_11 (pc : Nat) {x0 x1 x2 x3 x4 x5 x6 x7 x8 x9 x10 : Option Value} {y : Option Value} {x : Nat} (d : decode (mC M) pc = .ok (.astore 11, 2)) (hp : xpv (x0 :: x1 :: x2 :: x3 :: x4 :: x5 :: x6 :: x7 :: x8 :: x9 :: x10 :: y :: L) 11 = true) (kk : XS E M en a b (pc + 2) (x0 :: x1 :: x2 :: x3 :: x4 :: x5 :: x6 :: x7 :: x8 :: x9 :: x10 :: some (.ref x) :: L) (st) h mm) : XS E M en a b pc (x0 :: x1 :: x2 :: x3 :: x4 :: x5 :: x6 :: x7 :: x8 :: x9 :: x10 :: y :: L) (.ref x :: st) h mm := fun r h' e => xs1 (X_astore_11 pc d hp) (kk r h' e)
theorem S_iinc_11 (pc : Nat) {x0 x1 x2 x3 x4 x5 x6 x7 x8 x9 x10 : Option Value} {x : Int32} {n : Int} (v : Int32) (d : decode (mC M) pc = .ok (.iinc 11 n, 3)) (hv : x + Int32.ofInt n = v) (hp : xpv (x0 :: x1 :: x2 :: x3 :: x4 :: x5 :: x6 :: x7 :: x8 :: x9 :: x10 :: some (.int x) :: L) 11 = true) (kk : XS E M en a b (pc + 3) (x0 :: x1 :: x2 :: x3 :: x4 :: x5 :: x6 :: x7 :: x8 :: x9 :: x10 :: some (.int v) :: L) (st) h mm) : XS E M en a b pc (x0 :: x1 :: x2 :: x3 :: x4 :: x5 :: x6 :: x7 :: x8 :: x9 :: x10 :: some (.int x) :: L) (st) h mm := fun r h' e => xs1 (X_iinc_11 pc v d hv hp) (kk r h' e)
theorem S_icmpeq (pc tgt : Nat) {x y : Int32} {off : Int} {m1 m2 : XP α} (d : decode (mC M) pc = .ok (.if_icmp .eq off, 3)) (ht : (pc : Int) + off = (tgt : Int)) (kt : XS E M en a b tgt L st h m1) (kf : XS E M en a b (pc + 3) L st h m2) : XS E M en a b pc L (.int y :: .int x :: st) h (if x = y then m1 else m2) := fun r h' e => by
  by_cases q : x = y
  · rw [if_pos q] at e
    exact xs1 (fun z => X_icmpeq pc tgt d ht (fun _ => z) (fun n => absurd q n)) (kt r h' e)
  · rw [if_neg q] at e
    exact xs1 (fun z => X_icmpeq pc tgt d ht (fun n => absurd n q) (fun _ => z)) (kf r h' e)
theorem S_icmpeq_t (pc tgt : Nat) {x y : Int32} {off : Int} (d : decode (mC M) pc = .ok (.if_icmp .eq off, 3)) (ht : (pc : Int) + off = (tgt : Int)) (hc : x = y) (kt : XS E M en a b tgt L st h mm) : XS E M en a b pc L (.int y :: .int x :: st) h mm := fun r h' e => xs1 (fun z => X_icmpeq pc tgt d ht (fun _ => z) (fun n => absurd hc n)) (kt r h' e)
theorem S_icmpeq_f (pc tgt : Nat) {x y : Int32} {off : Int} (d : decode (mC M) pc = .ok (.if_icmp .eq off, 3)) (ht : (pc : Int) + off = (tgt : Int)) (hc : ¬ (x = y)) (kf : XS E M en a b (pc + 3) L st h mm) : XS E M en a b pc L (.int y :: .int x :: st) h mm := fun r h' e => xs1 (fun z => X_icmpeq pc tgt d ht (fun n => absurd n hc) (fun _ => z)) (kf r h' e)
theorem S_ifeq (pc tgt : Nat) {x : Int32} {off : Int} {m1 m2 : XP α} (d : decode (mC M) pc = .ok (.ifCond .eq off, 3)) (ht : (pc : Int) + off = (tgt : Int)) (kt : XS E M en a b tgt L st h m1) (kf : XS E M en a b (pc + 3) L st h m2) : XS E M en a b pc L (.int x :: st) h (if x = 0 then m1 else m2) := fun r h' e => by
  by_cases q : x = 0
  · rw [if_pos q] at e
    exact xs1 (fun z => X_ifeq pc tgt d ht (fun _ => z) (fun n => absurd q n)) (kt r h' e)
  · rw [if_neg q] at e
    exact xs1 (fun z => X_ifeq pc tgt d ht (fun n => absurd n q) (fun _ => z)) (kf r h' e)
theorem S_ifeq_t (pc tgt : Nat) {x : Int32} {off : Int} (d : decode (mC M) pc = .ok (.ifCond .eq off, 3)) (ht : (pc : Int) + off = (tgt : Int)) (hc : x = 0) (kt : XS E M en a b tgt L st h mm) : XS E M en a b pc L (.int x :: st) h mm := fun r h' e => xs1 (fun z => X_ifeq pc tgt d ht (fun _ => z) (fun n => absurd hc n)) (kt r h' e)
theorem S_ifeq_f (pc tgt : Nat) {x : Int32} {off : Int} (d : decode (mC M) pc = .ok (.ifCond .eq off, 3)) (ht : (pc : Int) + off = (tgt : Int)) (hc : ¬ (x = 0)) (kf : XS E M en a b (pc + 3) L st h mm) : XS E M en a b pc L (.int x :: st) h mm := fun r h' e => xs1 (fun z => X_ifeq pc tgt d ht (fun n => absurd n hc) (fun _ => z)) (kf r h' e)
theorem S_icmpne (pc tgt : Nat) {x y : Int32} {off : Int} {m1 m2 : XP α} (d : decode (mC M) pc = .ok (.if_icmp .ne off, 3)) (ht : (pc : Int) + off = (tgt : Int)) (kt : XS E M en a b tgt L st h m1) (kf : XS E M en a b (pc + 3) L st h m2) : XS E M en a b pc L (.int y :: .int x :: st) h (if x = y then m2 else m1) := fun r h' e => by
  by_cases q : x = y
  · rw [if_pos q] at e
    exact xs1 (fun z => X_icmpne pc tgt d ht (fun n => absurd q n) (fun _ => z)) (kf r h' e)
  · rw [if_neg q] at e
    exact xs1 (fun z => X_icmpne pc tgt d ht (fun _ => z) (fun n => absurd n q)) (kt r h' e)
theorem S_icmpne_t (pc tgt : Nat) {x y : Int32} {off : Int} (d : decode (mC M) pc = .ok (.if_icmp .ne off, 3)) (ht : (pc : Int) + off = (tgt : Int)) (hc : ¬ (x = y)) (kt : XS E M en a b tgt L st h mm) : XS E M en a b pc L (.int y :: .int x :: st) h mm := fun r h' e => xs1 (fun z => X_icmpne pc tgt d ht (fun _ => z) (fun n => absurd n hc)) (kt r h' e)
theorem S_icmpne_f (pc tgt : Nat) {x y : Int32} {off : Int} (d : decode (mC M) pc = .ok (.if_icmp .ne off, 3)) (ht : (pc : Int) + off = (tgt : Int)) (hc : x = y) (kf : XS E M en a b (pc + 3) L st h mm) : XS E M en a b pc L (.int y :: .int x :: st) h mm := fun r h' e => xs1 (fun z => X_icmpne pc tgt d ht (fun n => absurd hc n) (fun _ => z)) (kf r h' e)
theorem S_ifne (pc tgt : Nat) {x : Int32} {off : Int} {m1 m2 : XP α} (d : decode (mC M) pc = .ok (.ifCond .ne off, 3)) (ht : (pc : Int) + off = (tgt : Int)) (kt : XS E M en a b tgt L st h m1) (kf : XS E M en a b (pc + 3) L st h m2) : XS E M en a b pc L (.int x :: st) h (if x = 0 then m2 else m1) := fun r h' e => by
  by_cases q : x = 0
  · rw [if_pos q] at e
    exact xs1 (fun z => X_ifne pc tgt d ht (fun n => absurd q n) (fun _ => z)) (kf r h' e)
  · rw [if_neg q] at e
    exact xs1 (fun z => X_ifne pc tgt d ht (fun _ => z) (fun n => absurd n q)) (kt r h' e)
theorem S_ifne_t (pc tgt : Nat) {x : Int32} {off : Int} (d : decode (mC M) pc = .ok (.ifCond .ne off, 3)) (ht : (pc : Int) + off = (tgt : Int)) (hc : ¬ (x = 0)) (kt : XS E M en a b tgt L st h mm) : XS E M en a b pc L (.int x :: st) h mm := fun r h' e => xs1 (fun z => X_ifne pc tgt d ht (fun _ => z) (fun n => absurd n hc)) (kt r h' e)
theorem S_ifne_f (pc tgt : Nat) {x : Int32} {off : Int} (d : decode (mC M) pc = .ok (.ifCond .ne off, 3)) (ht : (pc : Int) + off = (tgt : Int)) (hc : x = 0) (kf : XS E M en a b (pc + 3) L st h mm) : XS E M en a b pc L (.int x :: st) h mm := fun r h' e => xs1 (fun z => X_ifne pc tgt d ht (fun n => absurd hc n) (fun _ => z)) (kf r h' e)
theorem S_icmplt (pc tgt : Nat) {x y : Int32} {off : Int} {m1 m2 : XP α} (d : decode (mC M) pc = .ok (.if_icmp .lt off, 3)) (ht : (pc : Int) + off = (tgt : Int)) (kt : XS E M en a b tgt L st h m1) (kf : XS E M en a b (pc + 3) L st h m2) : XS E M en a b pc L (.int y :: .int x :: st) h (if x < y then m1 else m2) := fun r h' e => by
  by_cases q : x < y
  · rw [if_pos q] at e
    exact xs1 (fun z => X_icmplt pc tgt d ht (fun _ => z) (fun n => absurd q n)) (kt r h' e)
  · rw [if_neg q] at e
    exact xs1 (fun z => X_icmplt pc tgt d ht (fun n => absurd n q) (fun _ => z)) (kf r h' e)
theorem S_icmplt_t (pc tgt : Nat) {x y : Int32} {off : Int} (d : decode (mC M) pc = .ok (.if_icmp .lt off, 3)) (ht : (pc : Int) + off = (tgt : Int)) (hc : x < y) (kt : XS E M en a b tgt L st h mm) : XS E M en a b pc L (.int y :: .int x :: st) h mm := fun r h' e => xs1 (fun z => X_icmplt pc tgt d ht (fun _ => z) (fun n => absurd hc n)) (kt r h' e)
theorem S_icmplt_f (pc tgt : Nat) {x y : Int32} {off : Int} (d : decode (mC M) pc = .ok (.if_icmp .lt off, 3)) (ht : (pc : Int) + off = (tgt : Int)) (hc : ¬ (x < y)) (kf : XS E M en a b (pc + 3) L st h mm) : XS E M en a b pc L (.int y :: .int x :: st) h mm := fun r h' e => xs1 (fun z => X_icmplt pc tgt d ht (fun n => absurd n hc) (fun _ => z)) (kf r h' e)
theorem S_iflt (pc tgt : Nat) {x : Int32} {off : Int} {m1 m2 : XP α} (d : decode (mC M) pc = .ok (.ifCond .lt off, 3)) (ht : (pc : Int) + off = (tgt : Int)) (kt : XS E M en a b tgt L st h m1) (kf : XS E M en a b (pc + 3) L st h m2) : XS E M en a b pc L (.int x :: st) h (if x < 0 then m1 else m2) := fun r h' e => by
  by_cases q : x < 0
  · rw [if_pos q] at e
    exact xs1 (fun z => X_iflt pc tgt d ht (fun _ => z) (fun n => absurd q n)) (kt r h' e)
  · rw [if_neg q] at e
    exact xs1 (fun z => X_iflt pc tgt d ht (fun n => absurd n q) (fun _ => z)) (kf r h' e)
theorem S_iflt_t (pc tgt : Nat) {x : Int32} {off : Int} (d : decode (mC M) pc = .ok (.ifCond .lt off, 3)) (ht : (pc : Int) + off = (tgt : Int)) (hc : x < 0) (kt : XS E M en a b tgt L st h mm) : XS E M en a b pc L (.int x :: st) h mm := fun r h' e => xs1 (fun z => X_iflt pc tgt d ht (fun _ => z) (fun n => absurd hc n)) (kt r h' e)
theorem S_iflt_f (pc tgt : Nat) {x : Int32} {off : Int} (d : decode (mC M) pc = .ok (.ifCond .lt off, 3)) (ht : (pc : Int) + off = (tgt : Int)) (hc : ¬ (x < 0)) (kf : XS E M en a b (pc + 3) L st h mm) : XS E M en a b pc L (.int x :: st) h mm := fun r h' e => xs1 (fun z => X_iflt pc tgt d ht (fun n => absurd n hc) (fun _ => z)) (kf r h' e)
theorem S_icmpge (pc tgt : Nat) {x y : Int32} {off : Int} {m1 m2 : XP α} (d : decode (mC M) pc = .ok (.if_icmp .ge off, 3)) (ht : (pc : Int) + off = (tgt : Int)) (kt : XS E M en a b tgt L st h m1) (kf : XS E M en a b (pc + 3) L st h m2) : XS E M en a b pc L (.int y :: .int x :: st) h (if y ≤ x then m1 else m2) := fun r h' e => by
  by_cases q : y ≤ x
  · rw [if_pos q] at e
    exact xs1 (fun z => X_icmpge pc tgt d ht (fun _ => z) (fun n => absurd q n)) (kt r h' e)
  · rw [if_neg q] at e
    exact xs1 (fun z => X_icmpge pc tgt d ht (fun n => absurd n q) (fun _ => z)) (kf r h' e)
theorem S_icmpge_t (pc tgt : Nat) {x y : Int32} {off : Int} (d : decode (mC M) pc = .ok (.if_icmp .ge off, 3)) (ht : (pc : Int) + off = (tgt : Int)) (hc : y ≤ x) (kt : XS E M en a b tgt L st h mm) : XS E M en a b pc L (.int y :: .int x :: st) h mm := fun r h' e => xs1 (fun z => X_icmpge pc tgt d ht (fun _ => z) (fun n => absurd hc n)) (kt r h' e)
theorem S_icmpge_f (pc tgt : Nat) {x y : Int32} {off : Int} (d : decode (mC M) pc = .ok (.if_icmp .ge off, 3)) (ht : (pc : Int) + off = (tgt : Int)) (hc : ¬ (y ≤ x)) (kf : XS E M en a b (pc + 3) L st h mm) : XS E M en a b pc L (.int y :: .int x :: st) h mm := fun r h' e => xs1 (fun z => X_icmpge pc tgt d ht (fun n => absurd n hc) (fun _ => z)) (kf r h' e)
theorem S_ifge (pc tgt : Nat) {x : Int32} {off : Int} {m1 m2 : XP α} (d : decode (mC M) pc = .ok (.ifCond .ge off, 3)) (ht : (pc : Int) + off = (tgt : Int)) (kt : XS E M en a b tgt L st h m1) (kf : XS E M en a b (pc + 3) L st h m2) : XS E M en a b pc L (.int x :: st) h (if 0 ≤ x then m1 else m2) := fun r h' e => by
  by_cases q : 0 ≤ x
  · rw [if_pos q] at e
    exact xs1 (fun z => X_ifge pc tgt d ht (fun _ => z) (fun n => absurd q n)) (kt r h' e)
  · rw [if_neg q] at e
    exact xs1 (fun z => X_ifge pc tgt d ht (fun n => absurd n q) (fun _ => z)) (kf r h' e)
theorem S_ifge_t (pc tgt : Nat) {x : Int32} {off : Int} (d : decode (mC M) pc = .ok (.ifCond .ge off, 3)) (ht : (pc : Int) + off = (tgt : Int)) (hc : 0 ≤ x) (kt : XS E M en a b tgt L st h mm) : XS E M en a b pc L (.int x :: st) h mm := fun r h' e => xs1 (fun z => X_ifge pc tgt d ht (fun _ => z) (fun n => absurd hc n)) (kt r h' e)
theorem S_ifge_f (pc tgt : Nat) {x : Int32} {off : Int} (d : decode (mC M) pc = .ok (.ifCond .ge off, 3)) (ht : (pc : Int) + off = (tgt : Int)) (hc : ¬ (0 ≤ x)) (kf : XS E M en a b (pc + 3) L st h mm) : XS E M en a b pc L (.int x :: st) h mm := fun r h' e => xs1 (fun z => X_ifge pc tgt d ht (fun n => absurd n hc) (fun _ => z)) (kf r h' e)
theorem S_icmpgt (pc tgt : Nat) {x y : Int32} {off : Int} {m1 m2 : XP α} (d : decode (mC M) pc = .ok (.if_icmp .gt off, 3)) (ht : (pc : Int) + off = (tgt : Int)) (kt : XS E M en a b tgt L st h m1) (kf : XS E M en a b (pc + 3) L st h m2) : XS E M en a b pc L (.int y :: .int x :: st) h (if y < x then m1 else m2) := fun r h' e => by
  by_cases q : y < x
  · rw [if_pos q] at e
    exact xs1 (fun z => X_icmpgt pc tgt d ht (fun _ => z) (fun n => absurd q n)) (kt r h' e)
  · rw [if_neg q] at e
    exact xs1 (fun z => X_icmpgt pc tgt d ht (fun n => absurd n q) (fun _ => z)) (kf r h' e)
theorem S_icmpgt_t (pc tgt : Nat) {x y : Int32} {off : Int} (d : decode (mC M) pc = .ok (.if_icmp .gt off, 3)) (ht : (pc : Int) + off = (tgt : Int)) (hc : y < x) (kt : XS E M en a b tgt L st h mm) : XS E M en a b pc L (.int y :: .int x :: st) h mm := fun r h' e => xs1 (fun z => X_icmpgt pc tgt d ht (fun _ => z) (fun n => absurd hc n)) (kt r h' e)
theorem S_icmpgt_f (pc tgt : Nat) {x y : Int32} {off : Int} (d : decode (mC M) pc = .ok (.if_icmp .gt off, 3)) (ht : (pc : Int) + off = (tgt : Int)) (hc : ¬ (y < x)) (kf : XS E M en a b (pc + 3) L st h mm) : XS E M en a b pc L (.int y :: .int x :: st) h mm := fun r h' e => xs1 (fun z => X_icmpgt pc tgt d ht (fun n => absurd n hc) (fun _ => z)) (kf r h' e)
theorem S_ifgt (pc tgt : Nat) {x : Int32} {off : Int} {m1 m2 : XP α} (d : decode (mC M) pc = .ok (.ifCond .gt off, 3)) (ht : (pc : Int) + off = (tgt : Int)) (kt : XS E M en a b tgt L st h m1) (kf : XS E M en a b (pc + 3) L st h m2) : XS E M en a b pc L (.int x :: st) h (if 0 < x then m1 else m2) := fun r h' e => by
  by_cases q : 0 < x
  · rw [if_pos q] at e
    exact xs1 (fun z => X_ifgt pc tgt d ht (fun _ => z) (fun n => absurd q n)) (kt r h' e)
  · rw [if_neg q] at e
    exact xs1 (fun z => X_ifgt pc tgt d ht (fun n => absurd n q) (fun _ => z)) (kf r h' e)
theorem S_ifgt_t (pc tgt : Nat) {x : Int32} {off : Int} (d : decode (mC M) pc = .ok (.ifCond .gt off, 3)) (ht : (pc : Int) + off = (tgt : Int)) (hc : 0 < x) (kt : XS E M en a b tgt L st h mm) : XS E M en a b pc L (.int x :: st) h mm := fun r h' e => xs1 (fun z => X_ifgt pc tgt d ht (fun _ => z) (fun n => absurd hc n)) (kt r h' e)
theorem S_ifgt_f (pc tgt : Nat) {x : Int32} {off : Int} (d : decode (mC M) pc = .ok (.ifCond .gt off, 3)) (ht : (pc : Int) + off = (tgt : Int)) (hc : ¬ (0 < x)) (kf : XS E M en a b (pc + 3) L st h mm) : XS E M en a b pc L (.int x :: st) h mm := fun r h' e => xs1 (fun z => X_ifgt pc tgt d ht (fun n => absurd n hc) (fun _ => z)) (kf r h' e)
theorem S_icmple (pc tgt : Nat) {x y : Int32} {off : Int} {m1 m2 : XP α} (d : decode (mC M) pc = .ok (.if_icmp .le off, 3)) (ht : (pc : Int) + off = (tgt : Int)) (kt : XS E M en a b tgt L st h m1) (kf : XS E M en a b (pc + 3) L st h m2) : XS E M en a b pc L (.int y :: .int x :: st) h (if x ≤ y then m1 else m2) := fun r h' e => by
  by_cases q : x ≤ y
  · rw [if_pos q] at e
    exact xs1 (fun z => X_icmple pc tgt d ht (fun _ => z) (fun n => absurd q n)) (kt r h' e)
  · rw [if_neg q] at e
    exact xs1 (fun z => X_icmple pc tgt d ht (fun n => absurd n q) (fun _ => z)) (kf r h' e)
theorem S_icmple_t (pc tgt : Nat) {x y : Int32} {off : Int} (d : decode (mC M) pc = .ok (.if_icmp .le off, 3)) (ht : (pc : Int) + off = (tgt : Int)) (hc : x ≤ y) (kt : XS E M en a b tgt L st h mm) : XS E M en a b pc L (.int y :: .int x :: st) h mm := fun r h' e => xs1 (fun z => X_icmple pc tgt d ht (fun _ => z) (fun n => absurd hc n)) (kt r h' e)
theorem S_icmple_f (pc tgt : Nat) {x y : Int32} {off : Int} (d : decode (mC M) pc = .ok (.if_icmp .le off, 3)) (ht : (pc : Int) + off = (tgt : Int)) (hc : ¬ (x ≤ y)) (kf : XS E M en a b (pc + 3) L st h mm) : XS E M en a b pc L (.int y :: .int x :: st) h mm := fun r h' e => xs1 (fun z => X_icmple pc tgt d ht (fun n => absurd n hc) (fun _ => z)) (kf r h' e)
theorem S_ifle (pc tgt : Nat) {x : Int32} {off : Int} {m1 m2 : XP α} (d : decode (mC M) pc = .ok (.ifCond .le off, 3)) (ht : (pc : Int) + off = (tgt : Int)) (kt : XS E M en a b tgt L st h m1) (kf : XS E M en a b (pc + 3) L st h m2) : XS E M en a b pc L (.int x :: st) h (if x ≤ 0 then m1 else m2) := fun r h' e => by
  by_cases q : x ≤ 0
  · rw [if_pos q] at e
    exact xs1 (fun z => X_ifle pc tgt d ht (fun _ => z) (fun n => absurd q n)) (kt r h' e)
  · rw [if_neg q] at e
    exact xs1 (fun z => X_ifle pc tgt d ht (fun n => absurd n q) (fun _ => z)) (kf r h' e)
theorem S_ifle_t (pc tgt : Nat) {x : Int32} {off : Int} (d : decode (mC M) pc = .ok (.ifCond .le off, 3)) (ht : (pc : Int) + off = (tgt : Int)) (hc : x ≤ 0) (kt : XS E M en a b tgt L st h mm) : XS E M en a b pc L (.int x :: st) h mm := fun r h' e => xs1 (fun z => X_ifle pc tgt d ht (fun _ => z) (fun n => absurd hc n)) (kt r h' e)
theorem S_ifle_f (pc tgt : Nat) {x : Int32} {off : Int} (d : decode (mC M) pc = .ok (.ifCond .le off, 3)) (ht : (pc : Int) + off = (tgt : Int)) (hc : ¬ (x ≤ 0)) (kf : XS E M en a b (pc + 3) L st h mm) : XS E M en a b pc L (.int x :: st) h mm := fun r h' e => xs1 (fun z => X_ifle pc tgt d ht (fun n => absurd n hc) (fun _ => z)) (kf r h' e)
/-- a switch: outside its table; an entry of it -/
theorem S_tsw (pc tgt : Nat) {x c : Int32} {dflt hi : Int} {offs : Array Int} {len : Nat} {m1 m2 : XP α} (d : decode (mC M) pc = .ok (.tableswitch dflt 0 hi offs, len)) (hc : c.toInt = hi) (ht : (pc : Int) + dflt = (tgt : Int)) (kd : XS E M en a b tgt L st h m1) (kk : XS E M en a b pc L (.int x :: st) h m2) : XS E M en a b pc L (.int x :: st) h (if x < 0 ∨ c < x then m1 else m2) := fun r h' e => by
  by_cases q : x < 0 ∨ c < x
  · rw [if_pos q] at e
    refine xs1 (fun z => ?_) (kd r h' e)
    intro p e R s m args below meth c9 H locs cells slots ls F hR hS hl hc9 hs
    exact lv_tableOut F.1 F.2.1 d (by
      rcases q with q | q
      · exact Or.inl (by simpa using Int32.lt_iff_toInt_lt.mp q)
      · exact Or.inr (by rw [← hc]; exact Int32.lt_iff_toInt_lt.mp q)) ht (z p e R s m args below meth c9 H locs cells slots ls F hR hS hl hc9 hs)
  · rw [if_neg q] at e
    exact kk r h' e
theorem S_ts (pc n tgt : Nat) {x c : Int32} {dflt hi off : Int} {offs : Array Int} {len : Nat} {m1 m2 : XP α} (d : decode (mC M) pc = .ok (.tableswitch dflt 0 hi offs, len)) (hc : c.toInt = (n : Int)) (hn : (n : Int) ≤ hi) (ho : offs[n]? = some off) (ht : (pc : Int) + off = (tgt : Int)) (kt : XS E M en a b tgt L st h m1) (kf : XS E M en a b pc L (.int x :: st) h m2) : XS E M en a b pc L (.int x :: st) h (if x = c then m1 else m2) := fun r h' e => by
  by_cases q : x = c
  · rw [if_pos q] at e
    subst q
    refine xs1 (fun z => ?_) (kt r h' e)
    intro p e R s m args below meth c9 H locs cells slots ls F hR hS hl hc9 hs
    exact lv_tableIn F.1 F.2.1 d (by omega) (by omega) (by rw [hc]; simpa using ho) ht (z p e R s m args below meth c9 H locs cells slots ls F hR hS hl hc9 hs)
  · rw [if_neg q] at e
    exact kf r h' e
theorem S_iret (pc : Nat) {x : Int32} {L : List (Option Value)} (d : decode (mC M) pc = .ok (.ireturn, 1)) (hr : mR M = some .int) : XS E M eI a b pc L [.int x] h (xv x h) := fun r h' e => by
  cases e
  exact ⟨⟨Nat.le_refl _, Nat.le_refl _⟩, X_iret pc d hr rfl rfl⟩
theorem S_zret (pc : Nat) {x : Int32} {L : List (Option Value)} (d : decode (mC M) pc = .ok (.ireturn, 1)) (hr : mR M = some .boolean) : XS E M eI a b pc L [.int x] h (xg (x = 0 ∨ x = 1) (xv x h)) := fun r h' e => by
  obtain ⟨hx, e⟩ := xg_of e
  cases e
  exact ⟨⟨Nat.le_refl _, Nat.le_refl _⟩, X_iret pc d hr (by rcases hx with rfl | rfl <;> rfl) rfl⟩
theorem S_lret (pc : Nat) {x : Int64} {L : List (Option Value)} (d : decode (mC M) pc = .ok (.lreturn, 1)) (hr : mR M = some .long) : XS E M eJ a b pc L [.long x] h (xv x h) := fun r h' e => by
  cases e
  exact ⟨⟨Nat.le_refl _, Nat.le_refl _⟩, X_lret pc d hr rfl⟩
theorem S_aret (pc : Nat) {x : Nat} {L : List (Option Value)} {n : String} (d : decode (mC M) pc = .ok (.areturn, 1)) (hr : mR M = some (.object n)) : XS E M eR a b pc L [.ref x] h (xv x h) := fun r h' e => by
  cases e
  exact ⟨⟨Nat.le_refl _, Nat.le_refl _⟩, X_aret pc d hr rfl⟩
theorem S_ret (pc : Nat) {L : List (Option Value)} (d : decode (mC M) pc = .ok (.return_, 1)) (hr : mR M = none) : XS E M eU a b pc L [] h (xv () h) := fun r h' e => by
  cases e
  exact ⟨⟨Nat.le_refl _, Nat.le_refl _⟩, X_ret pc d hr rfl⟩
-- memory
theorem S_getI (pc : Nat) {o idx ci kk : Nat} {own : String} (f : xfs own idx ci kk 0) (ho : own = (mY M).cls) (d : decode (mC M) pc = .ok (.getfield idx, 3)) (kq : XS E M en a b (pc + 3) L (.int (xi h o kk) :: st) h mm) : XS E M en a b pc L (.ref o :: st) h (xg (xk h o = ci + 1) mm) := fun r h' e => xs1 (X_getI pc f ho (xg_of e).1 d) (kq r h' (xg_of e).2)
theorem S_getJ (pc : Nat) {o idx ci kk : Nat} {own : String} (f : xfs own idx ci kk 1) (ho : own = (mY M).cls) (d : decode (mC M) pc = .ok (.getfield idx, 3)) (kq : XS E M en a b (pc + 3) L (.long (xj h o kk) :: st) h mm) : XS E M en a b pc L (.ref o :: st) h (xg (xk h o = ci + 1) mm) := fun r h' e => xs1 (X_getJ pc f ho (xg_of e).1 d) (kq r h' (xg_of e).2)
theorem S_getR (pc : Nat) {o idx ci kk : Nat} {own : String} {f9 : Nat → XP α} (f : xfs own idx ci kk 2) (ho : own = (mY M).cls) (d : decode (mC M) pc = .ok (.getfield idx, 3)) (kq : ∀ w, XS E M en a b (pc + 3) L (.ref w :: st) h (f9 w)) : XS E M en a b pc L (.ref o :: st) h (xg (xk h o = ci + 1) (xnn (xr h o kk) f9)) := fun r h' e => by
  obtain ⟨e1, e⟩ := xg_of e
  obtain ⟨w, e2, e⟩ := xnn_of e
  exact xs1 (X_getR pc f ho e1 e2 d) (kq w r h' e)
theorem S_putI (pc : Nat) {o idx ci kk : Nat} {own : String} {fin : Bool} {x : Int32} {f9 : XH → XP α} (f : xfr own idx ci kk 0 fin .int) (ho : own = (mY M).cls) (hi : fin = true → (mY M).name = "<init>") (d : decode (mC M) pc = .ok (.putfield idx, 3)) (kq : ∀ h1, XS E M en a b (pc + 3) L st h1 (f9 h1)) : XS E M en a b pc L (.int x :: .ref o :: st) h (xg (xk h o = ci + 1) (xlt (yi h o kk x) f9)) := fun r h' e => xs1 (X_putI pc f ho hi (xg_of e).1 d) (kq _ r h' (xg_of e).2)
theorem S_putZ (pc : Nat) {o idx ci kk : Nat} {own : String} {fin : Bool} {x : Int32} {f9 : XH → XP α} (f : xfr own idx ci kk 0 fin .boolean) (ho : own = (mY M).cls) (hi : fin = true → (mY M).name = "<init>") (d : decode (mC M) pc = .ok (.putfield idx, 3)) (kq : ∀ h1, XS E M en a b (pc + 3) L st h1 (f9 h1)) : XS E M en a b pc L (.int x :: .ref o :: st) h (xg (xk h o = ci + 1 ∧ (x = 0 ∨ x = 1)) (xlt (yi h o kk x) f9)) := fun r h' e => xs1 (X_putZ pc (xg_of e).1.2 f ho hi (xg_of e).1.1 d) (kq _ r h' (xg_of e).2)
theorem S_putJ (pc : Nat) {o idx ci kk : Nat} {own : String} {fin : Bool} {x : Int64} {f9 : XH → XP α} (f : xfr own idx ci kk 1 fin .long) (ho : own = (mY M).cls) (hi : fin = true → (mY M).name = "<init>") (d : decode (mC M) pc = .ok (.putfield idx, 3)) (kq : ∀ h1, XS E M en a b (pc + 3) L st h1 (f9 h1)) : XS E M en a b pc L (.long x :: .ref o :: st) h (xg (xk h o = ci + 1) (xlt (yj h o kk x) f9)) := fun r h' e => xs1 (X_putJ pc f ho hi (xg_of e).1 d) (kq _ r h' (xg_of e).2)
theorem S_putR (pc : Nat) {o x idx ci kk : Nat} {own : String} {fin : Bool} {ty : FieldType} {f9 : XH → XP α} (f : xfr own idx ci kk 2 fin ty) (hty : ty.isReference = true) (ho : own = (mY M).cls) (hi : fin = true → (mY M).name = "<init>") (d : decode (mC M) pc = .ok (.putfield idx, 3)) (kq : ∀ h1, XS E M en a b (pc + 3) L st h1 (f9 h1)) : XS E M en a b pc L (.ref x :: .ref o :: st) h (xg (xk h o = ci + 1) (xlt (yr h o kk (some x)) f9)) := fun r h' e => xs1 (X_putR pc f hty ho hi (xg_of e).1 d) (kq _ r h' (xg_of e).2)
theorem S_iald (pc : Nat) {o : Nat} {i : Int32} (d : decode (mC M) pc = .ok (.iaload, 1)) (kq : XS E M en a b (pc + 1) L (.int (xi h o i.toNatClampNeg) :: st) h mm) : XS E M en a b pc L (.int i :: .ref o :: st) h (xg (xk h o = 12 ∧ xin i (xn h o)) mm) := fun r h' e => xs1 (X_iald pc (xg_of e).1.1 (xin_vp (xg_of e).1.2) d) (kq r h' (xg_of e).2)
theorem S_bald (pc : Nat) {o : Nat} {i : Int32} (d : decode (mC M) pc = .ok (.baload, 1)) (kq : XS E M en a b (pc + 1) L (.int (xi h o i.toNatClampNeg) :: st) h mm) : XS E M en a b pc L (.int i :: .ref o :: st) h (xg (xk h o = 11 ∧ xin i (xn h o)) mm) := fun r h' e => xs1 (X_bald pc (xg_of e).1.1 (xin_vp (xg_of e).1.2) d) (kq r h' (xg_of e).2)
theorem S_lald (pc : Nat) {o : Nat} {i : Int32} (d : decode (mC M) pc = .ok (.laload, 1)) (kq : XS E M en a b (pc + 1) L (.long (xj h o i.toNatClampNeg) :: st) h mm) : XS E M en a b pc L (.int i :: .ref o :: st) h (xg (xk h o = 13 ∧ xin i (xn h o)) mm) := fun r h' e => xs1 (X_lald pc (xg_of e).1.1 (xin_vp (xg_of e).1.2) d) (kq r h' (xg_of e).2)
theorem S_aald (pc : Nat) {o : Nat} {i : Int32} {f9 : Nat → XP α} (g t0 : Nat) {ty : FieldType} (hg : xog g) (ht : (xtys E)[t0]? = some (eC E g, ty)) (hty : ty.isReference = true) (d : decode (mC M) pc = .ok (.aaload, 1)) (kq : ∀ w, XS E M en a b (pc + 1) L (.ref w :: st) h (f9 w)) : XS E M en a b pc L (.int i :: .ref o :: st) h (xg (xk h o = g ∧ xin i (xn h o)) (xnn (xr h o i.toNatClampNeg) f9)) := fun r h' e => by
  obtain ⟨e1, e⟩ := xg_of e
  obtain ⟨w, e2, e⟩ := xnn_of e
  exact xs1 (X_aald pc e1.1 hg ht hty (xin_vp e1.2) e2 d) (kq w r h' e)
theorem S_iast (pc : Nat) {o : Nat} {i x : Int32} {f9 : XH → XP α} (d : decode (mC M) pc = .ok (.iastore, 1)) (kq : ∀ h1, XS E M en a b (pc + 1) L st h1 (f9 h1)) : XS E M en a b pc L (.int x :: .int i :: .ref o :: st) h (xg (xk h o = 12 ∧ xin i (xn h o)) (xlt (yi h o i.toNatClampNeg x) f9)) := fun r h' e => xs1 (X_iast pc (xg_of e).1.1 (xin_vp (xg_of e).1.2) d) (kq _ r h' (xg_of e).2)
theorem S_bast (pc : Nat) {o : Nat} {i x : Int32} {f9 : XH → XP α} (d : decode (mC M) pc = .ok (.bastore, 1)) (kq : ∀ h1, XS E M en a b (pc + 1) L st h1 (f9 h1)) : XS E M en a b pc L (.int x :: .int i :: .ref o :: st) h (xg (xk h o = 11 ∧ xin i (xn h o)) (xlt (yi h o i.toNatClampNeg (vp_nar .byte x)) f9)) := fun r h' e => xs1 (X_bast pc (xg_of e).1.1 (xin_vp (xg_of e).1.2) d) (kq _ r h' (xg_of e).2)
theorem S_last (pc : Nat) {o : Nat} {i : Int32} {x : Int64} {f9 : XH → XP α} (d : decode (mC M) pc = .ok (.lastore, 1)) (kq : ∀ h1, XS E M en a b (pc + 1) L st h1 (f9 h1)) : XS E M en a b pc L (.long x :: .int i :: .ref o :: st) h (xg (xk h o = 13 ∧ xin i (xn h o)) (xlt (yj h o i.toNatClampNeg x) f9)) := fun r h' e => xs1 (X_last pc (xg_of e).1.1 (xin_vp (xg_of e).1.2) d) (kq _ r h' (xg_of e).2)
theorem S_aast (pc : Nat) {o v : Nat} {i : Int32} {f9 : XH → XP α} (g t0 ci : Nat) {r : vw_C} (hg : xog g) (ht : (xtys E)[t0]? = some (eC E g, .object r.1)) (hc : vwCl[ci]? = some r) (hci : xoc ci) (d : decode (mC M) pc = .ok (.aastore, 1)) (kq : ∀ h1, XS E M en a b (pc + 1) L st h1 (f9 h1)) : XS E M en a b pc L (.ref v :: .int i :: .ref o :: st) h (xg (xk h o = g ∧ xk h v = ci + 1 ∧ xin i (xn h o)) (xlt (yr h o i.toNatClampNeg (some v)) f9)) := fun r h' e => xs1 (X_aast pc (xg_of e).1.1 hg ht hc hci (xg_of e).1.2.1 (xin_vp (xg_of e).1.2.2) d) (kq _ r h' (xg_of e).2)
theorem S_alen (pc : Nat) {o : Nat} (g t0 : Nat) {ty : FieldType} (hg : (11 ≤ g ∧ g ≤ 20) ∨ g = 26) (ht : (xtys E)[t0]? = some (eC E g, ty)) (d : decode (mC M) pc = .ok (.arraylength, 1)) (kq : XS E M en a b (pc + 1) L (.int (Int32.ofNat (xn h o)) :: st) h mm) : XS E M en a b pc L (.ref o :: st) h (xg (xk h o = g) mm) := fun r h' e => xs1 (X_alen pc (xg_of e).1 hg ht d) (kq r h' (xg_of e).2)
/-- a cell made: what it costs -/
theorem xs_made {pc pc' g n N : Nat} {L' : List (Option Value)} {st' : List Value} {f9 : Nat → XH → XP α} (hy : yw g n = N) (hX : ∀ {k u : Nat} {Q : XO → Prop}, XW E M k u pc' L' (.ref (xt h) :: st') (ya h g n) Q → XW E M (k + 1) (u + N) pc L st h Q) (kq : ∀ w h1, XS E M en a b pc' L' (.ref w :: st') h1 (f9 w h1)) : XS E M en (a + 1) (b + N) pc L st h (xal h g n f9) := fun r h' e => by
  obtain ⟨⟨q1, q2⟩, q3⟩ := kq (xt h) (ya h g n) r h' e
  have e1 : xc (ya h g n) = xc h + 1 := rfl
  have e2 : xu (ya h g n) = xu h + N := by rw [xu_ya, hy]
  exact ⟨⟨by omega, by omega⟩, X_less (by omega) (by omega) (hX q3)⟩
theorem S_newF (pc : Nat) {idx ci N : Nat} {C own : String} {T : u_T} {tyc : Nat → FieldType} {f9 : Nat → XH → XP α} (ok : xok ci C T N tyc) (ho : own = (mY M).cls) (hcl : xIn (.classLink own idx C)) (hins : xIn (.instantiable C N)) (hini : xIn (.initialized C))
    (hd : ∀ h j t, (xft ci)[j]? = some t → defaultValue (tyc j) = xfv (ya h (ci + 1) 0) (xt h) j t) (d : decode (mC M) pc = .ok (.new idx, 3)) (kq : ∀ w h1, XS E M en a b (pc + 3) L (.ref w :: st) h1 (f9 w h1)) : XS E M en (a + 1) (b + N) pc L st h (xal h (ci + 1) 0 f9) :=
  xs_made (by unfold yw; rw [if_pos ok.2.2.2.2.1]; exact ok.2.2.2.2.2.symm) (X_newB pc ok ho hcl hins hini (hd h) d) kq
theorem S_new (pc : Nat) (a0 : Nat) {idx ci N : Nat} {C own : String} {T : u_T} {tyc : Nat → FieldType} {f9 : Nat → XH → XP α} (ok : xok ci C T N tyc) (ho : own = (mY M).cls) (hcl : xIn (.classLink own idx C)) (hins : xIn (.instantiable C N)) (hini : xIn (.initialized C))
    (hd : ∀ h j t, (xft ci)[j]? = some t → defaultValue (tyc j) = xfv (ya h (ci + 1) 0) (xt h) j t) (d : decode (mC M) pc = .ok (.new idx, 3)) (kq : ∀ w h1, XS E M en a b (pc + 3) L (.ref w :: st) h1 (f9 w h1)) : XS E M en (a + 1) (b + N) pc L st h (xg (xk h a0 ≠ 0) (xal h (ci + 1) 0 f9)) := fun r h' e =>
  S_newF pc ok ho hcl hins hini hd d kq r h' (xg_of e).2
/-- a row of n -/
theorem S_newG_int (pc : Nat) {n : Int32} {f9 : Nat → XH → XP α} (hw : xIn (.arrayClass (newarray.typeOf .int))) (d : decode (mC M) pc = .ok (.newarray .int, 2)) (kq : ∀ w h1, XS E M en a b (pc + 2) L (.ref w :: st) h1 (f9 w h1)) : XS E M en a b pc L (.int n :: st) h (xg (0 ≤ n ∧ n.toNatClampNeg ≤ 60000000) (xal h 12 n.toNatClampNeg f9)) :=
  S_g fun hc => S_any (xs_made (a := 0) (b := 0) rfl (X_newB_int pc n.toNatClampNeg (Int32.not_lt.mpr hc.1) rfl hc.2 hw d) (fun w h1 => S_any (kq w h1)))
theorem S_newF_int (pc : Nat) {n : Int32} {f9 : Nat → XH → XP α} (hw : xIn (.arrayClass (newarray.typeOf .int))) (d : decode (mC M) pc = .ok (.newarray .int, 2)) (kq : ∀ w h1, XS E M en a b (pc + 2) L (.ref w :: st) h1 (f9 w h1)) : XS E M en (a + 1) (b + n.toNatClampNeg) pc L (.int n :: st) h (xg (0 ≤ n ∧ n.toNatClampNeg ≤ 60000000) (xal h 12 n.toNatClampNeg f9)) :=
  S_g fun hc => xs_made rfl (X_newB_int pc n.toNatClampNeg (Int32.not_lt.mpr hc.1) rfl hc.2 hw d) kq
theorem S_new_int (pc : Nat) (a0 N : Nat) {n : Int32} {f9 : Nat → XH → XP α} (hn : ¬ n < 0) (hN : n.toNatClampNeg = N) (hb : N ≤ 60000000) (hw : xIn (.arrayClass (newarray.typeOf .int))) (d : decode (mC M) pc = .ok (.newarray .int, 2)) (kq : ∀ w h1, XS E M en a b (pc + 2) L (.ref w :: st) h1 (f9 w h1)) : XS E M en (a + 1) (b + N) pc L (.int n :: st) h (xg (xk h a0 ≠ 0) (xal h 12 N f9)) :=
  S_g fun _ => xs_made rfl (X_newB_int pc N hn hN hb hw d) kq
/-- a row of n -/
theorem S_newG_byte (pc : Nat) {n : Int32} {f9 : Nat → XH → XP α} (hw : xIn (.arrayClass (newarray.typeOf .byte))) (d : decode (mC M) pc = .ok (.newarray .byte, 2)) (kq : ∀ w h1, XS E M en a b (pc + 2) L (.ref w :: st) h1 (f9 w h1)) : XS E M en a b pc L (.int n :: st) h (xg (0 ≤ n ∧ n.toNatClampNeg ≤ 60000000) (xal h 11 n.toNatClampNeg f9)) :=
  S_g fun hc => S_any (xs_made (a := 0) (b := 0) rfl (X_newB_byte pc n.toNatClampNeg (Int32.not_lt.mpr hc.1) rfl hc.2 hw d) (fun w h1 => S_any (kq w h1)))
theorem S_newF_byte (pc : Nat) {n : Int32} {f9 : Nat → XH → XP α} (hw : xIn (.arrayClass (newarray.typeOf .byte))) (d : decode (mC M) pc = .ok (.newarray .byte, 2)) (kq : ∀ w h1, XS E M en a b (pc + 2) L (.ref w :: st) h1 (f9 w h1)) : XS E M en (a + 1) (b + n.toNatClampNeg) pc L (.int n :: st) h (xg (0 ≤ n ∧ n.toNatClampNeg ≤ 60000000) (xal h 11 n.toNatClampNeg f9)) :=
  S_g fun hc => xs_made rfl (X_newB_byte pc n.toNatClampNeg (Int32.not_lt.mpr hc.1) rfl hc.2 hw d) kq
theorem S_new_byte (pc : Nat) (a0 N : Nat) {n : Int32} {f9 : Nat → XH → XP α} (hn : ¬ n < 0) (hN : n.toNatClampNeg = N) (hb : N ≤ 60000000) (hw : xIn (.arrayClass (newarray.typeOf .byte))) (d : decode (mC M) pc = .ok (.newarray .byte, 2)) (kq : ∀ w h1, XS E M en a b (pc + 2) L (.ref w :: st) h1 (f9 w h1)) : XS E M en (a + 1) (b + N) pc L (.int n :: st) h (xg (xk h a0 ≠ 0) (xal h 11 N f9)) :=
  S_g fun _ => xs_made rfl (X_newB_byte pc N hn hN hb hw d) kq
/-- a row of n -/
theorem S_newG_long (pc : Nat) {n : Int32} {f9 : Nat → XH → XP α} (hw : xIn (.arrayClass (newarray.typeOf .long))) (d : decode (mC M) pc = .ok (.newarray .long, 2)) (kq : ∀ w h1, XS E M en a b (pc + 2) L (.ref w :: st) h1 (f9 w h1)) : XS E M en a b pc L (.int n :: st) h (xg (0 ≤ n ∧ n.toNatClampNeg ≤ 60000000) (xal h 13 n.toNatClampNeg f9)) :=
  S_g fun hc => S_any (xs_made (a := 0) (b := 0) rfl (X_newB_long pc n.toNatClampNeg (Int32.not_lt.mpr hc.1) rfl hc.2 hw d) (fun w h1 => S_any (kq w h1)))
theorem S_newF_long (pc : Nat) {n : Int32} {f9 : Nat → XH → XP α} (hw : xIn (.arrayClass (newarray.typeOf .long))) (d : decode (mC M) pc = .ok (.newarray .long, 2)) (kq : ∀ w h1, XS E M en a b (pc + 2) L (.ref w :: st) h1 (f9 w h1)) : XS E M en (a + 1) (b + n.toNatClampNeg) pc L (.int n :: st) h (xg (0 ≤ n ∧ n.toNatClampNeg ≤ 60000000) (xal h 13 n.toNatClampNeg f9)) :=
  S_g fun hc => xs_made rfl (X_newB_long pc n.toNatClampNeg (Int32.not_lt.mpr hc.1) rfl hc.2 hw d) kq
theorem S_new_long (pc : Nat) (a0 N : Nat) {n : Int32} {f9 : Nat → XH → XP α} (hn : ¬ n < 0) (hN : n.toNatClampNeg = N) (hb : N ≤ 60000000) (hw : xIn (.arrayClass (newarray.typeOf .long))) (d : decode (mC M) pc = .ok (.newarray .long, 2)) (kq : ∀ w h1, XS E M en a b (pc + 2) L (.ref w :: st) h1 (f9 w h1)) : XS E M en (a + 1) (b + N) pc L (.int n :: st) h (xg (xk h a0 ≠ 0) (xal h 13 N f9)) :=
  S_g fun _ => xs_made rfl (X_newB_long pc N hn hN hb hw d) kq
theorem S_newqF (pc N g t0 : Nat) {idx : Nat} {C own : String} {n : Int32} {f9 : Nat → XH → XP α} (hg : xog g) (ht : (xtys E)[t0]? = some (eC E g, .object C)) (hao : ∀ U, xE E U → va_AO C U) (ho : own = (mY M).cls) (hcl : xIn (.classLink own idx C)) (hn : ¬ n < 0) (hN : n.toNatClampNeg = N) (hb : N ≤ 60000000) (d : decode (mC M) pc = .ok (.anewarray idx, 3)) (kq : ∀ w h1, XS E M en a b (pc + 3) L (.ref w :: st) h1 (f9 w h1)) : XS E M en (a + 1) (b + N) pc L (.int n :: st) h (xal h g N f9) :=
  xs_made (by unfold yw; rw [if_neg (by rw [(xog_of hg).1]; decide)]) (X_newq pc 0 N g t0 hg ht hao ho hcl hn hN hb d) kq
theorem S_newq (pc : Nat) (a0 N g t0 : Nat) {idx : Nat} {C own : String} {n : Int32} {f9 : Nat → XH → XP α} (hg : xog g) (ht : (xtys E)[t0]? = some (eC E g, .object C)) (hao : ∀ U, xE E U → va_AO C U) (ho : own = (mY M).cls) (hcl : xIn (.classLink own idx C)) (hn : ¬ n < 0) (hN : n.toNatClampNeg = N) (hb : N ≤ 60000000) (d : decode (mC M) pc = .ok (.anewarray idx, 3)) (kq : ∀ w h1, XS E M en a b (pc + 3) L (.ref w :: st) h1 (f9 w h1)) : XS E M en (a + 1) (b + N) pc L (.int n :: st) h (xg (xk h a0 ≠ 0) (xal h g N f9)) :=
  S_g fun _ => S_newqF pc N g t0 hg ht hao ho hcl hn hN hb d kq
theorem S_newqA (pc N g t0 : Nat) {idx : Nat} {own : String} {t : FieldType} {n : Int32} {f9 : Nat → XH → XP α} (hg : xog g) (ht : (xtys E)[t0]? = some (eC E g, .array t)) (hao : ∀ U, xE E U → (Cond.arrayOver (.array t)).before #[] U = true) (ho : own = (mY M).cls) (hcl : xIn (.classLink own idx (FieldType.array t).toString)) (hn : ¬ n < 0) (hN : n.toNatClampNeg = N) (hb : N ≤ 60000000) (d : decode (mC M) pc = .ok (.anewarray idx, 3)) (kq : ∀ w h1, XS E M en a b (pc + 3) L (.ref w :: st) h1 (f9 w h1)) : XS E M en (a + 1) (b + N) pc L (.int n :: st) h (xal h g N f9) :=
  xs_made (by unfold yw; rw [if_neg (by rw [(xog_of hg).1]; decide)]) (X_newqA pc N g t0 hg ht hao ho hcl hn hN hb d) kq
theorem S_aastA18 (pc : Nat) {o v : Nat} {i : Int32} {f9 : XH → XP α} (d : decode (mC M) pc = .ok (.aastore, 1)) (kq : ∀ h1, XS E M en a b (pc + 1) L st h1 (f9 h1)) : XS E M en a b pc L (.ref v :: .int i :: .ref o :: st) h (xg (xk h o = 18 ∧ xk h v = 12 ∧ xin i (xn h o)) (xlt (yr h o i.toNatClampNeg (some v)) f9)) := fun r h' e => xs1 (X_aastA pc (xg_of e).1.1 (by decide) xrow18 (by rw [(xg_of e).1.2.1]; decide) (xen_int (xg_of e).1.2.1 (by decide)) (xin_vp (xg_of e).1.2.2) d) (kq _ r h' (xg_of e).2)
theorem S_aastA19 (pc : Nat) {o v : Nat} {i : Int32} {f9 : XH → XP α} (d : decode (mC M) pc = .ok (.aastore, 1)) (kq : ∀ h1, XS E M en a b (pc + 1) L st h1 (f9 h1)) : XS E M en a b pc L (.ref v :: .int i :: .ref o :: st) h (xg (xk h o = 19 ∧ xk h v = 18 ∧ xin i (xn h o)) (xlt (yr h o i.toNatClampNeg (some v)) f9)) := fun r h' e => xs1 (X_aastA pc (xg_of e).1.1 (by decide) xrow19 (by rw [(xg_of e).1.2.1]; decide) (xen_ref (xg_of e).1.2.1 (by decide)) (xin_vp (xg_of e).1.2.2) d) (kq _ r h' (xg_of e).2)
theorem S_getIN (pc : Nat) {o idx ci kk : Nat} {own : String} (f : xfn own idx ci kk 0) (ho : own = (mY M).cls) (d : decode (mC M) pc = .ok (.getfield idx, 3)) (kq : XS E M en a b (pc + 3) L (.int (xi h o kk) :: st) h mm) : XS E M en a b pc L (.ref o :: st) h (xg (xk h o = ci + 1) mm) := fun r h' e => xs1 (X_getIN pc f ho (xg_of e).1 d) (kq r h' (xg_of e).2)
theorem S_getRN (pc : Nat) {o idx ci kk : Nat} {own : String} {f9 : Nat → XP α} (f : xfn own idx ci kk 2) (ho : own = (mY M).cls) (d : decode (mC M) pc = .ok (.getfield idx, 3)) (kq : ∀ w, XS E M en a b (pc + 3) L (.ref w :: st) h (f9 w)) : XS E M en a b pc L (.ref o :: st) h (xg (xk h o = ci + 1) (xnn (xr h o kk) f9)) := fun r h' e => by
  obtain ⟨e1, e⟩ := xg_of e
  obtain ⟨w, e2, e⟩ := xnn_of e
  exact xs1 (X_getRN pc f ho e1 e2 d) (kq w r h' e)
theorem S_qlen (pc : Nat) {o : Nat} (d : decode (mC M) pc = .ok (.arraylength, 1)) (kq : XS E M en a b (pc + 1) L (.int (Int32.ofNat (xn h o)) :: st) h mm) : XS E M en a b pc L (.ref o :: st) h (xg (xk h o = 27) mm) := fun r h' e => xs1 (X_qlen pc (xg_of e).1 d) (kq r h' (xg_of e).2)
theorem S_qald (pc : Nat) {o : Nat} {i : Int32} (d : decode (mC M) pc = .ok (.iaload, 1)) (kq : XS E M en a b (pc + 1) L (.int (xi h o i.toNatClampNeg) :: st) h mm) : XS E M en a b pc L (.int i :: .ref o :: st) h (xg (xk h o = 27 ∧ xin i (xn h o)) mm) := fun r h' e => xs1 (X_qald pc (xg_of e).1.1 (xin_vp (xg_of e).1.2) d) (kq r h' (xg_of e).2)
theorem S_ineg (pc : Nat) {x : Int32} (d : decode (mC M) pc = .ok (.ineg, 1)) (kk : XS E M en a b (pc + 1) L (.int (-x) :: st) h mm) : XS E M en a b pc L (.int x :: st) h mm := fun r h' e => xs1 (X_ineg pc d) (kk r h' e)
theorem S_dup_x1 (pc : Nat) {va vb : Value} (d : decode (mC M) pc = .ok (.dup_x1, 1)) (hva : va.category = 1) (hvb : vb.category = 1) (kk : XS E M en a b (pc + 1) L (va :: vb :: va :: st) h mm) : XS E M en a b pc L (va :: vb :: st) h mm := fun r h' e => xs1 (X_dup_x1 pc d hva hvb) (kk r h' e)
theorem S_null (pc : Nat) (d : decode (mC M) pc = .ok (.aconst_null, 1)) (kk : XS E M en a b (pc + 1) L (.null :: st) h mm) : XS E M en a b pc L st h mm := fun r h' e => xs1 (X_null pc d) (kk r h' e)
theorem S_ifnn (pc tgt : Nat) {x : Nat} {off : Int} (d : decode (mC M) pc = .ok (.ifnonnull off, 3)) (ht : (pc : Int) + off = (tgt : Int)) (kt : XS E M en a b tgt L st h mm) : XS E M en a b pc L (.ref x :: st) h mm := fun r h' e => xs1 (X_ifnn pc tgt d ht) (kt r h' e)
theorem S_ldci (pc : Nat) {idx : Nat} {own : String} {v : Int32} (ho : own = (mY M).cls) (hw : xIn (.constant own idx v)) (d : decode (mC M) pc = .ok (.ldc idx, 2)) (kq : XS E M en a b (pc + 2) L (.int v :: st) h mm) : XS E M en a b pc L st h mm := fun r h' e => xs1 (X_ldci pc ho hw d) (kq r h' e)
theorem S_compact (pc : Nat) {idx : Nat} {own : String} (ho : own = (mY M).cls) (hw : xIn (.fieldLink own idx "java/lang/String" "COMPACT_STRINGS" "Z")) (d : decode (mC M) pc = .ok (.getstatic idx, 3)) (kq : XS E M en a b (pc + 3) L (.int 1 :: st) h mm) : XS E M en a b pc L st h mm := fun r h' e => xs1 (X_compact pc ho hw d) (kq r h' e)
theorem S_ones (pc : Nat) {idx : Nat} {own : String} (ho : own = (mY M).cls) (hw : xIn (.fieldLink own idx "java/lang/Integer" "DigitOnes" "[B")) (d : decode (mC M) pc = .ok (.getstatic idx, 3)) (kq : XS E M en a b (pc + 3) L (.ref (eV E nJS) :: st) h mm) : XS E M en a b pc L st h mm := fun r h' e => xs1 (X_ones pc ho hw d) (kq r h' e)
theorem S_oald (pc : Nat) {q : Int32} (d : decode (mC M) pc = .ok (.baload, 1)) (kq : XS E M en a b (pc + 1) L (.int (nI (48 + q.toNatClampNeg % 10)) :: st) h mm) : XS E M en a b pc L (.int q :: .ref (eV E nJS) :: st) h (xg (xin q 100) mm) := fun r h' e => xs1 (X_oald pc (xin_vp (xg_of e).1) d) (kq r h' (xg_of e).2)
theorem S_putB (pc : Nat) {o idx ci kk : Nat} {own : String} {fin : Bool} {x : Int32} {f9 : XH → XP α} (f : xfr own idx ci kk 0 fin .byte) (ho : own = (mY M).cls) (hi : fin = true → (mY M).name = "<init>") (d : decode (mC M) pc = .ok (.putfield idx, 3)) (kq : ∀ h1, XS E M en a b (pc + 3) L st h1 (f9 h1)) : XS E M en a b pc L (.int x :: .ref o :: st) h (xg (xk h o = ci + 1 ∧ x = 0) (xlt (yi h o kk x) f9)) := fun r h' e => xs1 (X_putB pc f ho hi (xg_of e).1.1 (xg_of e).1.2 d) (kq _ r h' (xg_of e).2)
theorem S_castB (pc : Nat) {o idx : Nat} {own : String} (ho : own = (mY M).cls) (hl0 : xIn (.classLink own idx "[B")) (d : decode (mC M) pc = .ok (.checkcast idx, 3)) (kq : XS E M en a b (pc + 3) L (.ref o :: st) h mm) : XS E M en a b pc L (.ref o :: st) h (xg (xk h o = 11) mm) := fun r h' e => xs1 (X_castB pc (xg_of e).1 ho hl0 d) (kq r h' (xg_of e).2)
/-- what bytes hold -/
abbrev xby (x : Int32) : Prop := fits .byte (.int x) = true
theorem S_clone (pc : Nat) {o idx : Nat} {own : String} {f9 : Nat → XH → XP α} (ho : own = (mY M).cls) (hl0 : xIn (.methodLink own idx ⟨"[B", "clone", "()Ljava/lang/Object;"⟩)) (hsm : xIn (.sameMethod "[B" "java/lang/Object" "clone" "()Ljava/lang/Object;")) (hnat : xIn (.native ⟨"java/lang/Object", "clone", "()Ljava/lang/Object;"⟩)) (hinst : xIn (.instanceMethod ⟨"java/lang/Object", "clone", "()Ljava/lang/Object;"⟩)) (hsel : xIn (.selects "[B" ⟨"[B", "clone", "()Ljava/lang/Object;"⟩ ⟨"java/lang/Object", "clone", "()Ljava/lang/Object;"⟩))
    (hf : 1 ≤ mF M) (hw : (st.map fun v => v.category).sum + 14 ≤ mW M) (d : decode (mC M) pc = .ok (.invokevirtual idx, 3)) (kq : ∀ w h1, XS E M en a b (pc + 3) L (.ref w :: st) h1 (f9 w h1)) : XS E M en a b pc L (.ref o :: st) h (xg (xk h o = 11 ∧ ∀ i, i < xn h o → xby (xi h o i)) (xcl h o f9)) := fun r h' e => by
  obtain ⟨⟨q1, q2⟩, q3⟩ := kq _ _ r h' (xg_of e).2
  have e1 : xc (yc (ya h 11 (xn h o)) (xt h) (xi h o)) = xc h + 1 := rfl
  have e2 : xu (yc (ya h 11 (xn h o)) (xt h) (xi h o)) = xu h + xn h o := rfl
  exact ⟨⟨by omega, by omega⟩, X_less (by omega) (by omega) (X_clone pc (xg_of e).1.1 ho hl0 hsm hnat hinst hsel (xg_of e).1.2 hf hw d q3)⟩
theorem S_bcopy (pc : Nat) {o q idx : Nat} {own : String} {sp dp n : Int32} {f9 : XH → XP α} (ho : own = (mY M).cls) (w1 : xIn (.methodLink own idx arraycopyName)) (w2 : xIn (.native arraycopyName)) (w3 : xIn (.static arraycopyName)) (w4 : xIn (.initialized "java/lang/System")) (hf : 1 ≤ mF M) (hw : (st.map fun v => v.category).sum + 30 ≤ mW M)
    (d : decode (mC M) pc = .ok (.invokestatic idx, 3)) (kq : ∀ h1, XS E M en a b (pc + 3) L st h1 (f9 h1)) : XS E M en a b pc L (.int n :: .int dp :: .ref q :: .int sp :: .ref o :: st) h (xg ((xk h o = 11 ∧ xk h q = 11) ∧ (0 ≤ sp ∧ 0 ≤ dp ∧ 0 ≤ n) ∧ sp.toNatClampNeg + n.toNatClampNeg ≤ xn h o ∧ dp.toNatClampNeg + n.toNatClampNeg ≤ xn h q ∧ ∀ i, i < n.toNatClampNeg → xby (xi h o (sp.toNatClampNeg + i))) (xlt (yc h q (va_cpy (xi h o) (xi h q) sp.toNatClampNeg dp.toNatClampNeg n.toNatClampNeg)) f9)) := fun r h' e => by
  obtain ⟨⟨e1, e2, e3, e4, e5⟩, e⟩ := xg_of e
  exact xs1 (X_bcopy pc ho w1 w2 w3 w4 hf hw e1.1 e1.2 (Int32.not_lt.mpr e2.1) (Int32.not_lt.mpr e2.2.1) (Int32.not_lt.mpr e2.2.2) e3 e4 e5 d) (kq _ r h' e)
theorem S_kcopy (pc : Nat) {i0 q idx : Nat} {own : String} {sp dp n : Int32} {f9 : XH → XP α} (ho : own = (mY M).cls) (w1 : xIn (.methodLink own idx arraycopyName)) (w2 : xIn (.native arraycopyName)) (w3 : xIn (.static arraycopyName)) (w4 : xIn (.initialized "java/lang/System")) (hf : 1 ≤ mF M) (hw : (st.map fun v => v.category).sum + 30 ≤ mW M)
    (d : decode (mC M) pc = .ok (.invokestatic idx, 3)) (kq : ∀ h1, XS E M en a b (pc + 3) L st h1 (f9 h1)) : XS E M en a b pc L (.int n :: .int dp :: .ref q :: .int sp :: .ref (eV E i0) :: st) h (xg ((i0 < nJS ∧ xk h q = 11) ∧ (0 ≤ sp ∧ 0 ≤ dp ∧ 0 ≤ n) ∧ sp.toNatClampNeg + n.toNatClampNeg ≤ lenJS.getD i0 0 ∧ dp.toNatClampNeg + n.toNatClampNeg ≤ xn h q ∧ ∀ i, i < n.toNatClampNeg → xby ((bytJS.getD i0 []).getD (sp.toNatClampNeg + i) 0)) (xlt (yc h q (va_cpy (fun j => (bytJS.getD i0 []).getD j 0) (xi h q) sp.toNatClampNeg dp.toNatClampNeg n.toNatClampNeg)) f9)) := fun r h' e => by
  obtain ⟨⟨e1, e2, e3, e4, e5⟩, e⟩ := xg_of e
  exact xs1 (X_kcopy pc ho w1 w2 w3 w4 hf hw e1.1 e1.2 (Int32.not_lt.mpr e2.1) (Int32.not_lt.mpr e2.2.1) (Int32.not_lt.mpr e2.2.2) e3 e4 e5 d) (kq _ r h' e)
theorem S_multiF (pc : Nat) {idx : Nat} {own : String} {n kk : Int32} {f9 : Nat → XH → XP α} (ho : own = (mY M).cls) (hcl : xIn (.classLink own idx "[[I")) (hai : xIn (.arrayClass .int)) (d : decode (mC M) pc = .ok (.multianewarray idx 2, 4)) (kq : ∀ w h1, XS E M en a b (pc + 4) L (.ref w :: st) h1 (f9 w h1)) : XS E M en a b pc L (.int kk :: .int n :: st) h (xg ((0 ≤ n ∧ 0 ≤ kk) ∧ n.toNatClampNeg ≤ 1000 ∧ kk.toNatClampNeg ≤ 1000) (xmg h n.toNatClampNeg kk.toNatClampNeg f9)) := fun r h' e => by
  obtain ⟨⟨⟨g1, g2⟩, g3, g4⟩, e⟩ := xg_of e
  obtain ⟨⟨q1, q2⟩, q3⟩ := kq (xt h) (ygr h n.toNatClampNeg kk.toNatClampNeg n.toNatClampNeg) r h' e
  obtain ⟨e1, e2⟩ := ygr_c h n.toNatClampNeg kk.toNatClampNeg n.toNatClampNeg
  exact ⟨⟨by omega, by omega⟩, X_less (by omega) (by omega) (X_multi pc 0 n.toNatClampNeg kk.toNatClampNeg ho hcl hai (Int32.not_lt.mpr g1) (Int32.not_lt.mpr g2) rfl rfl g3 g4 d q3)⟩
theorem S_multi (pc a0 N K : Nat) {idx : Nat} {own : String} {n kk : Int32} {f9 : Nat → XH → XP α} (ho : own = (mY M).cls) (hcl : xIn (.classLink own idx "[[I")) (hai : xIn (.arrayClass .int)) (hn : ¬ n < 0) (hk : ¬ kk < 0) (hN : n.toNatClampNeg = N) (hK : kk.toNatClampNeg = K) (bN : N ≤ 1000) (bK : K ≤ 1000) (d : decode (mC M) pc = .ok (.multianewarray idx 2, 4)) (kq : ∀ w h1, XS E M en a b (pc + 4) L (.ref w :: st) h1 (f9 w h1)) : XS E M en (a + 1 + N) (b + N + N * K) pc L (.int kk :: .int n :: st) h (xg (xk h a0 ≠ 0) (xmg h N K f9)) := fun r h' e => by
  obtain ⟨⟨q1, q2⟩, q3⟩ := kq (xt h) (ygr h N K N) r h' (xg_of e).2
  obtain ⟨e1, e2⟩ := ygr_c h N K N
  exact ⟨⟨by omega, by omega⟩, X_less (by omega) (by omega) (X_multi pc 0 N K ho hcl hai hn hk hN hK bN bK d q3)⟩
/-- a row handed back -/
theorem S_areta (pc : Nat) {x : Nat} {L : List (Option Value)} {t : FieldType} (d : decode (mC M) pc = .ok (.areturn, 1)) (hr : mR M = some (.array t)) : XS E M eR a b pc L [.ref x] h (xv x h) := fun r h' e => by
  cases e
  exact ⟨⟨Nat.le_refl _, Nat.le_refl _⟩, X_areta pc d hr rfl⟩
/-- a byte 0, a char -/
theorem S_bret (pc : Nat) {x : Int32} {L : List (Option Value)} (d : decode (mC M) pc = .ok (.ireturn, 1)) (hr : mR M = some .byte) : XS E M eI a b pc L [.int x] h (xg (x = 0) (xv x h)) := fun r h' e => by
  obtain ⟨hx, e⟩ := xg_of e
  cases e
  exact ⟨⟨Nat.le_refl _, Nat.le_refl _⟩, X_iret pc d hr (by rw [hx]; rfl) rfl⟩
theorem S_cret (pc : Nat) {x : Int32} {L : List (Option Value)} (d : decode (mC M) pc = .ok (.ireturn, 1)) (hr : mR M = some .char) : XS E M eI a b pc L [.int x] h (xg (xch x) (xv x h)) := fun r h' e => by
  obtain ⟨hx, e⟩ := xg_of e
  cases e
  exact ⟨⟨Nat.le_refl _, Nat.le_refl _⟩, X_iret pc d hr hx rfl⟩
theorem S_objinit (pc : Nat) {o idx : Nat} {own : String} (ho : own = (mY M).cls) (hl0 : xIn (.methodLink own idx Lib.objectInit)) (hi0 : xIn (.instanceMethod Lib.objectInit)) (hc0 : xIn (.code Lib.objectInit ⟨#[0xb1]⟩ 1 none)) (hf : 1 ≤ mF M) (hw : 22 ≤ mW M) (hst : (st.map fun v => v.category).sum ≤ 10) (d : decode (mC M) pc = .ok (.invokespecial idx, 3)) (kq : XS E M en a b (pc + 3) L st h mm) : XS E M en a b pc L (.ref o :: st) h mm := fun r h' e => xs1 (X_objinit pc ho hl0 hi0 hc0 hf hw hst d) (kq r h' e)
theorem S_ldc2 (pc : Nat) {idx : Nat} {own : String} {v : Int64} (ho : own = (mY M).cls) (hw : xIn (.constantLong own idx v)) (d : decode (mC M) pc = .ok (.ldc2_w idx, 3)) (kq : XS E M en a b (pc + 3) L (.long v :: st) h mm) : XS E M en a b pc L st h mm := fun r h' e => xs1 (X_ldc2 pc ho hw d) (kq r h' e)
theorem S_ldcw (pc : Nat) {idx : Nat} {own : String} {v : Int32} (ho : own = (mY M).cls) (hw : xIn (.constant own idx v)) (d : decode (mC M) pc = .ok (.ldc_w idx, 3)) (kq : XS E M en a b (pc + 3) L (.int v :: st) h mm) : XS E M en a b pc L st h mm := fun r h' e => xs1 (X_ldcw pc ho hw d) (kq r h' e)
theorem S_ldcS (pc i : Nat) {idx : Nat} (hi : i < nJS) (ho : ownJS i = (mY M).cls) (hx : idxJS i = idx) (d : decode (mC M) pc = .ok (.ldc idx, 2)) (kq : XS E M en a b (pc + 2) L (.ref (eK E i) :: st) h mm) : XS E M en a b pc L st h mm := fun r h' e => xs1 (X_ldcS pc i hi ho hx d) (kq r h' e)
theorem S_copy (pc : Nat) {o q idx : Nat} {own : String} {sp dp n : Int32} {f9 : XH → XP α} (ho : own = (mY M).cls) (w1 : xIn (.methodLink own idx arraycopyName)) (w2 : xIn (.native arraycopyName)) (w3 : xIn (.static arraycopyName)) (w4 : xIn (.initialized "java/lang/System")) (hf : 1 ≤ mF M) (hw : (st.map fun v => v.category).sum + 30 ≤ mW M)
    (d : decode (mC M) pc = .ok (.invokestatic idx, 3)) (kq : ∀ h1, XS E M en a b (pc + 3) L st h1 (f9 h1)) : XS E M en a b pc L (.int n :: .int dp :: .ref q :: .int sp :: .ref o :: st) h (xg ((xk h o = 12 ∧ xk h q = 12) ∧ (0 ≤ sp ∧ 0 ≤ dp ∧ 0 ≤ n) ∧ sp.toNatClampNeg + n.toNatClampNeg ≤ xn h o ∧ dp.toNatClampNeg + n.toNatClampNeg ≤ xn h q) (xlt (yc h q (va_cpy (xi h o) (xi h q) sp.toNatClampNeg dp.toNatClampNeg n.toNatClampNeg)) f9)) := fun r h' e => by
  obtain ⟨⟨e1, e2, e3, e4⟩, e⟩ := xg_of e
  exact xs1 (X_copy pc ho w1 w2 w3 w4 hf hw e1.1 e1.2 (Int32.not_lt.mpr e2.1) (Int32.not_lt.mpr e2.2.1) (Int32.not_lt.mpr e2.2.2) e3 e4 d) (kq _ r h' e)
theorem xb_of {β : Type} {m1 : XP β} {f : β → XH → XP α} {r : α ⊕ Nat} {h' : XH} (e : xb m1 f = some (r, h')) : (∃ v h1, m1 = some (.inl v, h1) ∧ f v h1 = some (r, h')) ∨ (∃ ec, m1 = some (.inr ec, h') ∧ r = .inr ec) := by
  unfold xb at e
  split at e
  · cases e
  · exact Or.inl ⟨_, _, rfl, e⟩
  · cases e; exact Or.inr ⟨_, rfl, rfl⟩
/-- behind every kind of call -/
theorem S_call {β : Type} {en' : β → Option Value} {a' b' pc : Nat} {M' : XM} {As st0 st1 : List Value} {m1 : XP β} {f9 : β → XH → XP α} (hH : mH M = [])
    (rule : ∀ (k' u' k u : Nat) (Q' Q : XO → Prop), XC E M' k' u' As h Q' → (∀ ec h1, Q' (.inr ec, h1) → XT E M k u pc L h1 ec Q) → (∀ v h1, Q' (.inl v, h1) → XW E M k u (pc + 3) L (v.toList ++ st1) h1 Q) → XW E M (k' + k) (u' + u) pc L st0 h Q)
    (hC : XN E M' en' a' b' As h m1) (kq : ∀ v h1, XS E M en a b (pc + 3) L ((en' v).toList ++ st1) h1 (f9 v h1)) : XS E M en (a' + a) (b' + b) pc L st0 h (xb m1 f9) := by
  intro r h' e
  rcases xb_of e with ⟨v, h1, e1, e2⟩ | ⟨ec, e1, rfl⟩
  · obtain ⟨⟨c1, c2⟩, hc⟩ := hC _ _ e1
    obtain ⟨⟨d1, d2⟩, hd⟩ := kq v h1 r h' e2
    simp only [ek, es, Nat.add_zero] at hc
    refine ⟨⟨by omega, by omega⟩, X_less ?_ ?_ (rule (xc h1 - xc h) (xu h1 - xu h) (xc h' - xc h1 + ek r) (xu h' - xu h1 + es r) _ (xres en r h') hc (fun ec h2 q => by cases q) (fun v2 h2 q => by cases q; exact hd))⟩ <;> omega
  · obtain ⟨⟨c1, c2⟩, hc⟩ := hC _ _ e1
    simp only [ek, es] at hc
    exact ⟨⟨c1, c2⟩, X_less (Nat.le_refl _) (Nat.le_refl _) (rule (xc h' - xc h + 1) (xu h' - xu h + 6) 0 0 _ (xres en (.inr ec) h') hc (fun ec2 h2 q => by
      cases q
      exact XT_out hH rfl) (fun v2 h2 q => by cases q))⟩
theorem S_callS {β : Type} {en' : β → Option Value} {a' b' : Nat} (pc : Nat) {M' : XM} {n idx : Nat} {own : String} {As st0 : List Value} {m1 : XP β} {f9 : β → XH → XP α} (hH : mH M = []) (cal : xcal M' n) (hst : xIn (.static (mY M'))) (hl : xIn (.methodLink own idx (mY M'))) (ho : own = (mY M).cls) (hr : xroom M M' = true) (hw : Nat.ble (xcat st) 8 = true) (hn : As.length = n) (he : st0 = As.reverse ++ st) (d : decode (mC M) pc = .ok (.invokestatic idx, 3))
    (hC : XN E M' en' a' b' As h m1) (kq : ∀ v h1, XS E M en a b (pc + 3) L ((en' v).toList ++ st) h1 (f9 v h1)) : XS E M en (a' + a) (b' + b) pc L st0 h (xb m1 f9) := S_call hH (fun k' u' k u Q' Q c x y => X_callS pc cal hst hl ho hr hw hn he d c x y) hC kq
theorem S_callSN {β : Type} {en' : β → Option Value} {a' b' : Nat} (pc : Nat) {M' : XM} {n idx : Nat} {own host : String} {As st0 : List Value} {m1 : XP β} {f9 : β → XH → XP α} (hH : mH M = []) (cal : xcal M' n) (hst : xIn (.static (mY M'))) (hl : (own, idx, mY M', host) ∈ xNest) (ho : own = (mY M).cls) (hr : xroom M M' = true) (hw : Nat.ble (xcat st) 8 = true) (hn : As.length = n) (he : st0 = As.reverse ++ st) (d : decode (mC M) pc = .ok (.invokestatic idx, 3))
    (hC : XN E M' en' a' b' As h m1) (kq : ∀ v h1, XS E M en a b (pc + 3) L ((en' v).toList ++ st) h1 (f9 v h1)) : XS E M en (a' + a) (b' + b) pc L st0 h (xb m1 f9) := S_call hH (fun k' u' k u Q' Q c x y => X_callSN pc cal hst hl ho hr hw hn he d c x y) hC kq
theorem S_callI {β : Type} {en' : β → Option Value} {a' b' : Nat} (pc : Nat) {M' : XM} {n idx o : Nat} {own : String} {As st0 : List Value} {m1 : XP β} {f9 : β → XH → XP α} (hH : mH M = []) (cal : xcal M' n) (hret : mR M' = none) (hnm : (mY M').name = "<init>") (him : xIn (.instanceMethod (mY M'))) (hl : xIn (.methodLink own idx (mY M'))) (ho : own = (mY M).cls) (hr : xroom M M' = true) (hw : Nat.ble (xcat st) 8 = true) (hn : As.length = n) (he : st0 = As.reverse ++ .ref o :: st) (d : decode (mC M) pc = .ok (.invokespecial idx, 3))
    (hC : XN E M' en' a' b' (.ref o :: As) h m1) (kq : ∀ v h1, XS E M en a b (pc + 3) L ((en' v).toList ++ st) h1 (f9 v h1)) : XS E M en (a' + a) (b' + b) pc L st0 h (xb m1 f9) := S_call hH (fun k' u' k u Q' Q c x y => X_callI pc cal hret hnm him hl ho hr hw hn he d c x y) hC kq
theorem S_callIN {β : Type} {en' : β → Option Value} {a' b' : Nat} (pc : Nat) {M' : XM} {n idx o : Nat} {own host : String} {As st0 : List Value} {m1 : XP β} {f9 : β → XH → XP α} (hH : mH M = []) (cal : xcal M' n) (hret : mR M' = none) (hnm : (mY M').name = "<init>") (him : xIn (.instanceMethod (mY M'))) (hl : (own, idx, mY M', host) ∈ xNest) (ho : own = (mY M).cls) (hr : xroom M M' = true) (hw : Nat.ble (xcat st) 8 = true) (hn : As.length = n) (he : st0 = As.reverse ++ .ref o :: st) (d : decode (mC M) pc = .ok (.invokespecial idx, 3))
    (hC : XN E M' en' a' b' (.ref o :: As) h m1) (kq : ∀ v h1, XS E M en a b (pc + 3) L ((en' v).toList ++ st) h1 (f9 v h1)) : XS E M en (a' + a) (b' + b) pc L st0 h (xb m1 f9) := S_call hH (fun k' u' k u Q' Q c x y => X_callIN pc cal hret hnm him hl ho hr hw hn he d c x y) hC kq
/-- a StringBuilder receives, the method is AbstractStringBuilder's -/
theorem S_callU {β : Type} {en' : β → Option Value} {a' b' : Nat} (pc : Nat) {M0 M' : XM} {n idx o : Nat} {own : String} {As st0 : List Value} {m1 : XP β} {f9 : β → XH → XP α} (hH : mH M = []) (cal0 : xcal M0 n) (cal : xcal M' n) (him0 : xIn (.instanceMethod (mY M0))) (him : xIn (.instanceMethod (mY M'))) (hsm : xIn (.sameMethod (mY M0).cls (mY M0).cls (mY M0).name (mY M0).desc)) (hse : ∀ U, xE E U → (Cond.selects RJ4 (mY M0) (mY M')).before #[] U = true) (hl : xIn (.methodLink own idx (mY M0))) (ho : own = (mY M).cls) (hr : xroom M M' = true) (hw : Nat.ble (xcat st) 8 = true) (hn : As.length = n) (he : st0 = As.reverse ++ .ref o :: st) (d : decode (mC M) pc = .ok (.invokevirtual idx, 3))
    (hC : XN E M' en' a' b' (.ref o :: As) h m1) (kq : ∀ v h1, XS E M en a b (pc + 3) L ((en' v).toList ++ st) h1 (f9 v h1)) : XS E M en (a' + a) (b' + b) pc L st0 h (xg (xk h o = 24) (xb m1 f9)) :=
  S_g fun hk => S_call hH (fun k' u' k u Q' Q c x y => X_callU pc cal0 cal him0 him hsm hse hl ho hr hw hn he hk d c x y) hC kq
theorem S_callSU {β : Type} {en' : β → Option Value} {a' b' : Nat} (pc : Nat) {M' : XM} {n idx o : Nat} {As st0 : List Value} {m1 : XP β} {f9 : β → XH → XP α} (hH : mH M = []) (cal : xcal M' n) (hnm : (mY M').name ≠ "<init>") (him : xIn (.instanceMethod (mY M'))) (hsm : xIn (.sameMethod (mY M').cls (mY M').cls (mY M').name (mY M').desc)) (hsu : xIn (.superclass RJ4 (mY M').cls)) (hl : xIn (.methodLink RJ4 idx (mY M'))) (ho : RJ4 = (mY M).cls) (hr : xroom M M' = true) (hw : Nat.ble (xcat st) 8 = true) (hn : As.length = n) (he : st0 = As.reverse ++ .ref o :: st) (d : decode (mC M) pc = .ok (.invokespecial idx, 3))
    (hC : XN E M' en' a' b' (.ref o :: As) h m1) (kq : ∀ v h1, XS E M en a b (pc + 3) L ((en' v).toList ++ st) h1 (f9 v h1)) : XS E M en (a' + a) (b' + b) pc L st0 h (xg (xk h o = 24) (xb m1 f9)) :=
  S_g fun hk => S_call hH (fun k' u' k u Q' Q c x y => X_callSU pc cal hnm him hsm hsu hl ho hr hw hn he hk d c x y) hC kq
/-- the receiver's class is looked at -/
theorem S_callV {β : Type} {en' : β → Option Value} {a' b' : Nat} (pc : Nat) {M' : XM} {n idx o ci : Nat} {own : String} {r : vw_C} {As st0 : List Value} {m1 : XP β} {f9 : β → XH → XP α} (hH : mH M = []) (cal : xcal M' n) (him : xIn (.instanceMethod (mY M'))) (hse : xIn (.selects (mY M').cls (mY M') (mY M'))) (hl : xIn (.methodLink own idx (mY M'))) (ho : own = (mY M).cls) (hr : xroom M M' = true) (hw : Nat.ble (xcat st) 8 = true) (hn : As.length = n) (he : st0 = As.reverse ++ .ref o :: st) (hci : xoc ci) (hcl : vwCl[ci]? = some r) (hrc : r.1 = (mY M').cls) (d : decode (mC M) pc = .ok (.invokevirtual idx, 3))
    (hC : XN E M' en' a' b' (.ref o :: As) h m1) (kq : ∀ v h1, XS E M en a b (pc + 3) L ((en' v).toList ++ st) h1 (f9 v h1)) : XS E M en (a' + a) (b' + b) pc L st0 h (xg (xk h o = ci + 1) (xb m1 f9)) :=
  S_g fun hk => S_call hH (fun k' u' k u Q' Q c x y => X_callV pc cal him hse hl ho hr hw hn he hk hci hcl hrc d c x y) hC kq
theorem S_callVS {β : Type} {en' : β → Option Value} {a' b' : Nat} (pc i : Nat) {M' : XM} {n idx : Nat} {own : String} {As st0 : List Value} {m1 : XP β} {f9 : β → XH → XP α} (hH : mH M = []) (hi : i < nJS) (cal : xcal M' n) (hcs : (mY M').cls = "java/lang/String") (him : xIn (.instanceMethod (mY M'))) (hse : xIn (.selects (mY M').cls (mY M') (mY M'))) (hl : xIn (.methodLink own idx (mY M'))) (ho : own = (mY M).cls) (hr : xroom M M' = true) (hw : Nat.ble (xcat st) 8 = true) (hn : As.length = n) (he : st0 = As.reverse ++ .ref (eK E i) :: st) (d : decode (mC M) pc = .ok (.invokevirtual idx, 3))
    (hC : XN E M' en' a' b' (.ref (eK E i) :: As) h m1) (kq : ∀ v h1, XS E M en a b (pc + 3) L ((en' v).toList ++ st) h1 (f9 v h1)) : XS E M en (a' + a) (b' + b) pc L st0 h (xb m1 f9) := S_call hH (fun k' u' k u Q' Q c x y => X_callVS pc i hi cal hcs him hse hl ho hr hw hn he d c x y) hC kq
theorem S_throw (pc i ec : Nat) {own : String} {ik is ic : Nat} (hx : xthw own (xnm ec) ik is ic) (ho : own = (mY M).cls) (hi : i < nJS) (ho2 : ownJS i = own) (his : idxJS i = is) (hH : mH M = []) (hf : 6 ≤ mF M) (hw : Nat.ble (xcat st + 82) (mW M) = true) (hfit : Bundle.fit (xnm ec) = true)
    (hgood : ∀ w ∈ Cond.classLink own ik (xnm ec) :: Cond.initialized (xnm ec) :: vx_atS own ic (xnm ec) ["java/lang/RuntimeException", "java/lang/Exception"], vx_ot w = true)
    (d0 : decode (mC M) pc = .ok (.new ik, 3)) (d3 : decode (mC M) (pc + 3) = .ok (.dup, 1)) (d4 : decode (mC M) (pc + 4) = .ok (.ldc_w is, 3)) (d7 : decode (mC M) (pc + 7) = .ok (.invokespecial ic, 3)) (d10 : decode (mC M) (pc + 10) = .ok (.athrow, 1)) : XS E M en a b pc L st h (xx ec h) := fun r h' e => by
  cases e
  exact ⟨⟨Nat.le_refl _, Nat.le_refl _⟩, X_less (by simp [ek]) (by simp [es]) (X_throw (k := 0) (u := 0) pc i ec hx ho hi ho2 his hH hf hw hfit hgood d0 d3 d4 d7 d10 rfl)⟩
theorem S_enter {As : List Value} (hpl : plainName (mY M).cls = true) (hH : mH M = []) {L : List (Option Value)} (hL : xloc As ++ List.replicate (mL M - (xloc As).length) none = L) (hn : L.length = mL M) (kk : XS E M en a b 0 L [] h mm) : XN E M en a b As h mm := fun r h' e => xs1 (X_enter hpl hH hL hn) (kk r h' e)
end XSR
