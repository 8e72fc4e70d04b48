/-! The reference reads: what is told so far; groups. -/
set_option linter.unusedVariables false
/-- where a line that tells something new writes, names apart -/
def cY (Y : Nat) (S : SD) : Nat → Nat → Prop := fun a j => oY Y a j ∨ (sng S < 6 ∧ ((a = Y + 13 ∧ j = sng S) ∨ (a = Y + 14 ∧ 64 * sng S ≤ j ∧ j < 64 * sng S + 64))) ∨ (snm S < 6 ∧ (((a = Y + 15 ∨ a = Y + 16 ∨ a = Y + 20) ∧ j = snm S) ∨ (a = Y + 12 ∧ ((8 * snm S ≤ j ∧ j < 8 * snm S + 8) ∨ (48 + 64 * snm S ≤ j ∧ j < 48 + 64 * snm S + 64))))) ∨ (sna S < 8 ∧ (((a = Y + 17 ∨ a = Y + 18) ∧ j = sna S) ∨ (a = Y + 12 ∧ ((432 + 8 * sna S ≤ j ∧ j < 432 + 8 * sna S + 8) ∨ (496 + 8 * sna S ≤ j ∧ j < 496 + 8 * sna S + 8)))))
def yAll (Y : Nat) : Nat → Nat → Prop := fun a j => (a = Y ∧ 21 ≤ j ∧ j ≤ 26) ∨ (a = Y ∧ 35 ≤ j ∧ j ≤ 37) ∨ (Y + 12 ≤ a ∧ a ≤ Y + 20)
def lY (Y g0 : Nat) : Nat → Nat → Prop := fun a j => (a = Y + 13 ∧ j = g0) ∨ (a = Y + 14 ∧ 64 * g0 ≤ j ∧ j < 64 * g0 + 64)
def SGr (h : XH) (Y g0 : Nat) (g : GR) : Prop := xi h (Y + 13) g0 = nI g.1 ∧ ∀ a b, a < g.1 → b < g.1 → xi h (Y + 14) (64 * g0 + (8 * a + b)) = nI (g.2.1 a b)
theorem xo_lte {α β : Type} {v x : β} {f : β → XP α} {Q : α → XH → Prop} (e : v = x) (hm : xo (f x) Q) : xo (xlt v f) Q := by rw [e]; exact hm
section RGR
variable {E : XG} {h h' h1 h2 : XH} {Y i g0 : Nat} {B : BF} {t : TK} {er : ER} {S : SD} {T : ST} {D : Nat → Int32} {A : Nat → Nat → Prop}
theorem fw_ya (w : fW (cY Y S) noR h h') : fW (yAll Y) noR h h' := w.wide (fun a j q => by unfold cY oY at q; unfold yAll; omega) (fun a j q => q)
theorem fw_yn {s : Nat} (hs : s < 3) (w : fW (nY Y S s) noR h h') : fW (yAll Y) noR h h' := w.wide (fun a j q => by unfold nY oY at q; unfold yAll; omega) (fun a j q => q)
theorem fw_oc (w : fW (oY Y) noR h h') : fW (cY Y S) noR h h' := w.wide (fun a j q => Or.inl q) (fun a j q => q)
theorem RNn_c {s : Nat} {w : List Nat} : StA (cY Y S) (fun h => RNn h Y S s w) := fun h h' v c i hi => (v.i (fun q => by unfold cY oY at q; omega)).trans (c i hi)
theorem StA_o {Q : XH → Prop} (q : StA (cY Y S) Q) : StA (oY Y) Q := fun h h' w c => q h h' (fw_oc w) c
def GQr (Y g0 : Nat) (g : GR) (h h' : XH) : Prop := fW (lY Y g0) noR h h' ∧ SGr h' Y g0 g
def ofI (p1 p2 : Int32) : Int32 := if p1 = 0 then p1 + p2 else if p2 = 0 then p1 + p2 else if p1 = p2 then 4 else if p2 = xrem p1 3 + 1 then (6 - p1) - p2 else ((6 - p1) - p2) + 4
theorem ofI_e : ∀ a, a < 8 → ∀ b, b < 8 → xrem ((ofI (xrem (nI a) 4) (xrem (nI b) 4) + ((nI a / 4) * 4)) + ((nI b / 4) * 4)) 8 = nI (gQua.2.1 a b) := by decide +kernel
theorem div_nIg : ∀ n, n < 9 → 0 < n → ∀ a, a < 9 → nI a / nI n = nI (a / n) := by decide +kernel
theorem fw_lc (hg : sng S < 6) (w : fW (lY Y (sng S)) noR h h') : fW (cY Y S) noR h h' := w.wide (fun a j q => Or.inr (Or.inl ⟨hg, q⟩)) (fun a j q => q)
end RGR
