/-! The whole state (Z), the class's object and the reference that hold it. -/
set_option linter.unusedVariables false
/-- an end of a method that may throw -/
def xq {α : Type} (m : XP α) (Q : α ⊕ Nat → XH → Prop) : Prop := ∃ r h', m = some (r, h') ∧ Q r h'
theorem xq_v {α : Type} {Q : α ⊕ Nat → XH → Prop} {v : α} {h : XH} (q : Q (.inl v) h) : xq (xv v h) Q := ⟨_, _, rfl, q⟩
theorem xq_x {α : Type} {Q : α ⊕ Nat → XH → Prop} {c : Nat} {h : XH} (q : Q (.inr c) h) : xq (xx c h : XP α) Q := ⟨_, _, rfl, q⟩
theorem xq_o {α : Type} {m : XP α} {Q : α ⊕ Nat → XH → Prop} {P : α → XH → Prop} (hm : xo m P) (hq : ∀ v h, P v h → Q (.inl v) h) : xq m Q := by
  obtain ⟨v, h, e, q⟩ := hm
  exact ⟨_, _, e, hq v h q⟩
theorem xq_b {α β : Type} {m : XP α} {f : α → XH → XP β} {P : α → XH → Prop} {R : β ⊕ Nat → XH → Prop} (hm : xo m P) (hf : ∀ v h, P v h → xq (f v h) R) : xq (xb m f) R := by
  obtain ⟨v, h, e, q⟩ := hm
  rw [e]
  exact hf v h q
theorem xq_eb {α β : Type} {m : XP α} {f : α → XH → XP β} {R : β ⊕ Nat → XH → Prop} {v : α} {h : XH} (e : m = xv v h) (hf : xq (f v h) R) : xq (xb m f) R := by rw [e]; exact hf
theorem xq_ex {α β : Type} {m : XP α} {f : α → XH → XP β} {R : β ⊕ Nat → XH → Prop} {c : Nat} {h : XH} (e : m = xx c h) (hf : R (.inr c) h) : xq (xb m f) R := by rw [e]; exact ⟨_, _, rfl, hf⟩
theorem xq_g {α : Type} {c : Prop} [Decidable c] {m : XP α} {Q : α ⊕ Nat → XH → Prop} (hc : c) (hm : xq m Q) : xq (xg c m) Q := by rw [xg_t hc]; exact hm
theorem xq_n {α : Type} {o : Option Nat} {w : Nat} {f : Nat → XP α} {Q : α ⊕ Nat → XH → Prop} (e : o = some w) (hm : xq (f w) Q) : xq (xnn o f) Q := by rw [xnn_e e]; exact hm
theorem xq_lt {α β : Type} {v : β} {f : β → XP α} {Q : α ⊕ Nat → XH → Prop} (hm : xq (f v) Q) : xq (xlt v f) Q := hm
theorem xq_jn {α δ : Type} {k : δ} {f : δ → XP α} {Q : α ⊕ Nat → XH → Prop} (hm : xq (f k) Q) : xq (xjn k f) Q := hm
theorem xq_t {α : Type} {c : Prop} [Decidable c] {a b : XP α} {Q : α ⊕ Nat → XH → Prop} (hc : c) (hm : xq a Q) : xq (if c then a else b) Q := by rw [if_pos hc]; exact hm
theorem xq_f {α : Type} {c : Prop} [Decidable c] {a b : XP α} {Q : α ⊕ Nat → XH → Prop} (hc : ¬ c) (hm : xq b Q) : xq (if c then a else b) Q := by rw [if_neg hc]; exact hm
/-- loaded; S; T; how many changes can be undone and the states, the oldest first; the slots; the buffer; error and place; the text -/
abbrev ZD : Type := Bool × SD × ST × (Nat × (Nat → ST)) × (Nat → Option ST) × (Nat × (Nat → Nat)) × (Int32 × Int32) × (Nat × (Nat → Nat))
def zld (Z : ZD) : Bool := Z.1
def zS (Z : ZD) : SD := Z.2.1
def zT (Z : ZD) : ST := Z.2.2.1
def zun (Z : ZD) : Nat := Z.2.2.2.1.1
def zu (Z : ZD) : Nat → ST := Z.2.2.2.1.2
def zk (Z : ZD) : Nat → Option ST := Z.2.2.2.2.1
def zfl (Z : ZD) : Nat := Z.2.2.2.2.2.1.1
def zbf (Z : ZD) : Nat → Nat := Z.2.2.2.2.2.1.2
def zer (Z : ZD) : Int32 := Z.2.2.2.2.2.2.1.1
def zea (Z : ZD) : Int32 := Z.2.2.2.2.2.2.1.2
def ztl (Z : ZD) : Nat := Z.2.2.2.2.2.2.2.1
def ztx (Z : ZD) : Nat → Nat := Z.2.2.2.2.2.2.2.2
/-- how many names of a sort -/
def scn (S : SD) (s : Nat) : Nat := if s = 0 then sng S else if s = 1 then snm S else sna S
def WNm (S : SD) : Prop := ∀ s k, s < 3 → k < scn S s → (1 ≤ (snn S s k).length ∧ (snn S s k).length ≤ 10) ∧ ∀ c ∈ snn S s k, 97 ≤ c ∧ c ≤ 122
def pkN (l : List Nat) : Nat := l.foldl (fun a c => a * 32 + (c - 96)) 0
/-- what the state keeps to -/
def WZ (Z : ZD) : Prop := (zld Z = false → zun Z = 0) ∧ WNm (zS Z) ∧ (zun Z ≤ 8 ∧ ∀ i, i < zun Z → WT (zS Z) (zu Z i)) ∧ (∀ i T, i < 2 → zk Z i = some T → WT (zS Z) T) ∧ (zfl Z ≤ 900 ∧ ∀ i, i < zfl Z → zbf Z i < 256) ∧ ztl Z ≤ 71 ∧ ∀ i, i < ztl Z → ztx Z i < 128
def NC (h : XH) (w : Nat) (S : SD) : Prop := ∀ s k, s < 3 → k < scn S s → xj h (w + 2 + 3 * s) k = Int64.ofNat (pkN (snn S s k)) ∧ xi h (w + 3 + 3 * s) k = nI (snn S s k).length
def NM (h : XH) (Y : Nat) (S : SD) : Prop := ∀ s k i, s < 3 → k < scn S s → i < 10 → xi h (Y + 7) (10 * (6 * s + k) + i) = nI ((snn S s k).getD i 0)
/-- a byte of the class -/
def sb (b : Nat) : Int32 := (nI b).toInt8.toInt32
/-- how the class's object lies -/
def XL (h : XH) (X : Nat) : Prop := xk h X = 9 ∧ (xr h X 0 = some (X + 1) ∧ xk h (X + 1) = 11 ∧ xn h (X + 1) = 900) ∧ (xr h X 7 = some (X + 210) ∧ xk h (X + 210) = 18 ∧ xn h (X + 210) = 8) ∧ (∀ i, i < 8 → xr h (X + 210) i = some (X + 211 + i) ∧ xk h (X + 211 + i) = 12 ∧ xn h (X + 211 + i) = 569) ∧ (xr h X 10 = some (X + 219) ∧ xk h (X + 219) = 18 ∧ xn h (X + 219) = 2) ∧ (∀ i, i < 2 → xr h (X + 219) i = some (X + 220 + i) ∧ xk h (X + 220 + i) = 12 ∧ xn h (X + 220 + i) = 569) ∧ xr h X 12 = some (X + 222) ∧ xk h (X + 222) = 11 ∧ xn h (X + 222) = 71
/-- the world and the spare one -/
def XWs (h : XH) (X w s : Nat) : Prop := xr h X 5 = some w ∧ xr h X 6 = some s ∧ ((w = X + 2 ∧ s = X + 106) ∨ (w = X + 106 ∧ s = X + 2)) ∧ WL h s ∧ WN h s
def XU (h : XH) (X f : Nat) (Z : ZD) : Prop := (f < 8 ∧ xi h X 8 = nI f ∧ xi h X 9 = nI (zun Z)) ∧ ∀ i, i < zun Z → CR h (X + 211 + (f + i) % 8) (zS Z) (zu Z i)
def XK (h : XH) (X : Nat) (Z : ZD) : Prop := ∀ i, i < 2 → mb (xi h X 11) i = (zk Z i).isSome ∧ ∀ T, zk Z i = some T → CR h (X + 220 + i) (zS Z) T
def XB (h : XH) (X : Nat) (Z : ZD) : Prop := xi h X 1 = nI (zfl Z) ∧ ∀ i, i < zfl Z → xi h (X + 1) i = sb (zbf Z i)
def XTx (h : XH) (X : Nat) (Z : ZD) : Prop := xi h X 13 = nI (ztl Z) ∧ ∀ i, i < ztl Z → xi h (X + 222) i = nI (ztx Z i)
/-- the class's object at X holds Z -/
def XI (h : XH) (X w s f : Nat) (Z : ZD) : Prop := (XL h X ∧ XWs h X w s) ∧ (CI h w (zS Z) (zT Z) ∧ NC h w (zS Z)) ∧ XB h X Z ∧ (xi h X 2 = zer Z ∧ xi h X 3 = zea Z ∧ xi h X 4 = bI (zld Z)) ∧ XU h X f Z ∧ XK h X Z ∧ XTx h X Z
abbrev rXP (X a : Nat) : Prop := rPW (X + 2) a ∨ rPW (X + 106) a
section OBJ
variable {E : XG} {h h' : XH} {X Y O w s f : Nat} {Z : ZD} {B : Nat → Prop}
theorem XL_iw (x : XL h X) (i : iw B h h') : XL h' X := by obtain ⟨g, rfl, -⟩ := i; exact x
theorem NC_iw {S : SD} (W : WS S) (x : NC h w S) (i : iw B h h') (hB : ∀ a, w ≤ a → a < w + 13 → ¬ B a) : NC h' w S := fun s k hs hk => by
  obtain ⟨q1, q2⟩ := x s k hs hk
  exact ⟨by rw [i.j]; exact q1, by rw [i.i _ (hB _ (by omega) (by omega))]; exact q2⟩
/-- ints written outside the class's own rows, or in its pairs -/
theorem XI_iw (x : XI h X w s f Z) (i : iw B h h') (hB : ∀ a, B a → a < X ∨ X + 223 ≤ a ∨ rXP X a) : XI h' X w s f Z := by
  obtain ⟨⟨x1, x2, x3, x4, x5, x6⟩, ⟨x7, x8⟩, ⟨x9, x10⟩, ⟨x11, x12, x13⟩, ⟨⟨x14, x15, x16⟩, x17⟩, x18, x19, x20⟩ := x
  have nb : ∀ a, (a = X ∨ a = X + 1 ∨ (X + 2 ≤ a ∧ a < X + 34) ∨ (X + 106 ≤ a ∧ a < X + 138) ∨ (X + 210 ≤ a ∧ a < X + 223)) → ¬ B a := fun a q1 q => by
    have := hB a q
    unfold rXP rPW at this
    omega
  have hBw : ∀ a, B a → a < w ∨ w + 104 ≤ a ∨ rPW w a := fun a q => by
    rcases hB a q with z | z | z | z
    · omega
    · omega
    · rcases x4 with ⟨e1, e2⟩ | ⟨e1, e2⟩
      · right; right; rw [e1]; exact z
      · unfold rPW at z; omega
    · rcases x4 with ⟨e1, e2⟩ | ⟨e1, e2⟩
      · unfold rPW at z; omega
      · right; right; rw [e1]; exact z
  refine ⟨⟨XL_iw x1 i, by rw [i.r]; exact x2, by rw [i.r]; exact x3, x4, WL_iw x5 i, fun g hg => ?_, fun m hm => ?_⟩, ⟨x7.iw i hBw, NC_iw x7.1.1 x8 i (fun a q1 q2 => nb a (by omega))⟩, ⟨?_, fun j hj => ?_⟩, ⟨?_, ?_, ?_⟩, ⟨⟨x14, ?_, ?_⟩, fun j hj => CR_iw (x17 j hj) i (nb _ (by omega))⟩, fun j hj => ⟨?_, fun T hT => CR_iw ((x18 j hj).2 T hT) i (nb _ (by omega))⟩, ?_, fun j hj => ?_⟩
  · rw [i.i _ (nb _ (by omega))]; exact x6.1 g hg
  · rw [i.i _ (fun q => ?_)]
    · exact x6.2 m hm
    · have := hB _ q
      unfold rXP rPW at this
      omega
  · rw [i.i _ (nb _ (by omega))]; exact x9
  · rw [i.i _ (nb _ (by omega))]; exact x10 j hj
  · rw [i.i _ (nb _ (by omega))]; exact x11
  · rw [i.i _ (nb _ (by omega))]; exact x12
  · rw [i.i _ (nb _ (by omega))]; exact x13
  · rw [i.i _ (nb _ (by omega))]; exact x15
  · rw [i.i _ (nb _ (by omega))]; exact x16
  · rw [i.i _ (nb _ (by omega))]; exact (x18 j hj).1
  · rw [i.i _ (nb _ (by omega))]; exact x19
  · rw [i.i _ (nb _ (by omega))]; exact x20 j hj
theorem XI_yt (x : XI h X w s f Z) (t : Nat) : XI (yt h t) X w s f Z := x
theorem XI.ws (x : XI h X w s f Z) : (w = X + 2 ∨ w = X + 106) := by
  obtain ⟨⟨x1, x2, x3, x4, x5, x6⟩, -⟩ := x
  omega
end OBJ
