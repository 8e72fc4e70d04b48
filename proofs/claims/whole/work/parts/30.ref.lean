/-! The reference: where its rows lie, groups and modules in it. -/
set_option linter.unusedVariables false
def yT : List (Nat × Nat × Nat × Nat) := [(5, 1, 12, 6), (6, 2, 12, 384), (7, 3, 12, 6), (8, 4, 12, 6), (9, 5, 12, 8), (10, 6, 12, 8), (11, 7, 12, 200), (12, 8, 12, 563), (13, 9, 12, 5630), (15, 10, 14, 2), (16, 11, 12, 900), (27, 12, 12, 563), (28, 13, 12, 6), (29, 14, 12, 384), (30, 15, 12, 6), (31, 16, 12, 6), (32, 17, 12, 8), (33, 18, 12, 8), (34, 19, 12, 200), (38, 20, 12, 6), (39, 21, 12, 8), (40, 22, 12, 8), (41, 23, 12, 8), (42, 24, 12, 100)]
/-- the reference at Y and its rows -/
def YL (h : XH) (Y : Nat) : Prop := xk h Y = 10 ∧ ∀ q ∈ yT, xr h Y q.1 = some (Y + q.2.1) ∧ xk h (Y + q.2.1) = q.2.2.1 ∧ xn h (Y + q.2.1) = q.2.2.2
theorem YL.r1 {h : XH} {Y : Nat} (y : YL h Y) : xr h Y 5 = some (Y + 1) := (y.2 (5, 1, 12, 6) (by decide)).1
theorem YL.k1 {h : XH} {Y : Nat} (y : YL h Y) : xk h (Y + 1) = 12 := (y.2 (5, 1, 12, 6) (by decide)).2.1
theorem YL.n1 {h : XH} {Y : Nat} (y : YL h Y) : xn h (Y + 1) = 6 := (y.2 (5, 1, 12, 6) (by decide)).2.2
theorem YL.r2 {h : XH} {Y : Nat} (y : YL h Y) : xr h Y 6 = some (Y + 2) := (y.2 (6, 2, 12, 384) (by decide)).1
theorem YL.k2 {h : XH} {Y : Nat} (y : YL h Y) : xk h (Y + 2) = 12 := (y.2 (6, 2, 12, 384) (by decide)).2.1
theorem YL.n2 {h : XH} {Y : Nat} (y : YL h Y) : xn h (Y + 2) = 384 := (y.2 (6, 2, 12, 384) (by decide)).2.2
theorem YL.r3 {h : XH} {Y : Nat} (y : YL h Y) : xr h Y 7 = some (Y + 3) := (y.2 (7, 3, 12, 6) (by decide)).1
theorem YL.k3 {h : XH} {Y : Nat} (y : YL h Y) : xk h (Y + 3) = 12 := (y.2 (7, 3, 12, 6) (by decide)).2.1
theorem YL.n3 {h : XH} {Y : Nat} (y : YL h Y) : xn h (Y + 3) = 6 := (y.2 (7, 3, 12, 6) (by decide)).2.2
theorem YL.r4 {h : XH} {Y : Nat} (y : YL h Y) : xr h Y 8 = some (Y + 4) := (y.2 (8, 4, 12, 6) (by decide)).1
theorem YL.k4 {h : XH} {Y : Nat} (y : YL h Y) : xk h (Y + 4) = 12 := (y.2 (8, 4, 12, 6) (by decide)).2.1
theorem YL.n4 {h : XH} {Y : Nat} (y : YL h Y) : xn h (Y + 4) = 6 := (y.2 (8, 4, 12, 6) (by decide)).2.2
theorem YL.r5 {h : XH} {Y : Nat} (y : YL h Y) : xr h Y 9 = some (Y + 5) := (y.2 (9, 5, 12, 8) (by decide)).1
theorem YL.k5 {h : XH} {Y : Nat} (y : YL h Y) : xk h (Y + 5) = 12 := (y.2 (9, 5, 12, 8) (by decide)).2.1
theorem YL.n5 {h : XH} {Y : Nat} (y : YL h Y) : xn h (Y + 5) = 8 := (y.2 (9, 5, 12, 8) (by decide)).2.2
theorem YL.r6 {h : XH} {Y : Nat} (y : YL h Y) : xr h Y 10 = some (Y + 6) := (y.2 (10, 6, 12, 8) (by decide)).1
theorem YL.k6 {h : XH} {Y : Nat} (y : YL h Y) : xk h (Y + 6) = 12 := (y.2 (10, 6, 12, 8) (by decide)).2.1
theorem YL.n6 {h : XH} {Y : Nat} (y : YL h Y) : xn h (Y + 6) = 8 := (y.2 (10, 6, 12, 8) (by decide)).2.2
theorem YL.r7 {h : XH} {Y : Nat} (y : YL h Y) : xr h Y 11 = some (Y + 7) := (y.2 (11, 7, 12, 200) (by decide)).1
theorem YL.k7 {h : XH} {Y : Nat} (y : YL h Y) : xk h (Y + 7) = 12 := (y.2 (11, 7, 12, 200) (by decide)).2.1
theorem YL.n7 {h : XH} {Y : Nat} (y : YL h Y) : xn h (Y + 7) = 200 := (y.2 (11, 7, 12, 200) (by decide)).2.2
theorem YL.r8 {h : XH} {Y : Nat} (y : YL h Y) : xr h Y 12 = some (Y + 8) := (y.2 (12, 8, 12, 563) (by decide)).1
theorem YL.k8 {h : XH} {Y : Nat} (y : YL h Y) : xk h (Y + 8) = 12 := (y.2 (12, 8, 12, 563) (by decide)).2.1
theorem YL.n8 {h : XH} {Y : Nat} (y : YL h Y) : xn h (Y + 8) = 563 := (y.2 (12, 8, 12, 563) (by decide)).2.2
theorem YL.r9 {h : XH} {Y : Nat} (y : YL h Y) : xr h Y 13 = some (Y + 9) := (y.2 (13, 9, 12, 5630) (by decide)).1
theorem YL.k9 {h : XH} {Y : Nat} (y : YL h Y) : xk h (Y + 9) = 12 := (y.2 (13, 9, 12, 5630) (by decide)).2.1
theorem YL.n9 {h : XH} {Y : Nat} (y : YL h Y) : xn h (Y + 9) = 5630 := (y.2 (13, 9, 12, 5630) (by decide)).2.2
theorem YL.r10 {h : XH} {Y : Nat} (y : YL h Y) : xr h Y 15 = some (Y + 10) := (y.2 (15, 10, 14, 2) (by decide)).1
theorem YL.k10 {h : XH} {Y : Nat} (y : YL h Y) : xk h (Y + 10) = 14 := (y.2 (15, 10, 14, 2) (by decide)).2.1
theorem YL.n10 {h : XH} {Y : Nat} (y : YL h Y) : xn h (Y + 10) = 2 := (y.2 (15, 10, 14, 2) (by decide)).2.2
theorem YL.r11 {h : XH} {Y : Nat} (y : YL h Y) : xr h Y 16 = some (Y + 11) := (y.2 (16, 11, 12, 900) (by decide)).1
theorem YL.k11 {h : XH} {Y : Nat} (y : YL h Y) : xk h (Y + 11) = 12 := (y.2 (16, 11, 12, 900) (by decide)).2.1
theorem YL.n11 {h : XH} {Y : Nat} (y : YL h Y) : xn h (Y + 11) = 900 := (y.2 (16, 11, 12, 900) (by decide)).2.2
theorem YL.r12 {h : XH} {Y : Nat} (y : YL h Y) : xr h Y 27 = some (Y + 12) := (y.2 (27, 12, 12, 563) (by decide)).1
theorem YL.k12 {h : XH} {Y : Nat} (y : YL h Y) : xk h (Y + 12) = 12 := (y.2 (27, 12, 12, 563) (by decide)).2.1
theorem YL.n12 {h : XH} {Y : Nat} (y : YL h Y) : xn h (Y + 12) = 563 := (y.2 (27, 12, 12, 563) (by decide)).2.2
theorem YL.r13 {h : XH} {Y : Nat} (y : YL h Y) : xr h Y 28 = some (Y + 13) := (y.2 (28, 13, 12, 6) (by decide)).1
theorem YL.k13 {h : XH} {Y : Nat} (y : YL h Y) : xk h (Y + 13) = 12 := (y.2 (28, 13, 12, 6) (by decide)).2.1
theorem YL.n13 {h : XH} {Y : Nat} (y : YL h Y) : xn h (Y + 13) = 6 := (y.2 (28, 13, 12, 6) (by decide)).2.2
theorem YL.r14 {h : XH} {Y : Nat} (y : YL h Y) : xr h Y 29 = some (Y + 14) := (y.2 (29, 14, 12, 384) (by decide)).1
theorem YL.k14 {h : XH} {Y : Nat} (y : YL h Y) : xk h (Y + 14) = 12 := (y.2 (29, 14, 12, 384) (by decide)).2.1
theorem YL.n14 {h : XH} {Y : Nat} (y : YL h Y) : xn h (Y + 14) = 384 := (y.2 (29, 14, 12, 384) (by decide)).2.2
theorem YL.r15 {h : XH} {Y : Nat} (y : YL h Y) : xr h Y 30 = some (Y + 15) := (y.2 (30, 15, 12, 6) (by decide)).1
theorem YL.k15 {h : XH} {Y : Nat} (y : YL h Y) : xk h (Y + 15) = 12 := (y.2 (30, 15, 12, 6) (by decide)).2.1
theorem YL.n15 {h : XH} {Y : Nat} (y : YL h Y) : xn h (Y + 15) = 6 := (y.2 (30, 15, 12, 6) (by decide)).2.2
theorem YL.r16 {h : XH} {Y : Nat} (y : YL h Y) : xr h Y 31 = some (Y + 16) := (y.2 (31, 16, 12, 6) (by decide)).1
theorem YL.k16 {h : XH} {Y : Nat} (y : YL h Y) : xk h (Y + 16) = 12 := (y.2 (31, 16, 12, 6) (by decide)).2.1
theorem YL.n16 {h : XH} {Y : Nat} (y : YL h Y) : xn h (Y + 16) = 6 := (y.2 (31, 16, 12, 6) (by decide)).2.2
theorem YL.r17 {h : XH} {Y : Nat} (y : YL h Y) : xr h Y 32 = some (Y + 17) := (y.2 (32, 17, 12, 8) (by decide)).1
theorem YL.k17 {h : XH} {Y : Nat} (y : YL h Y) : xk h (Y + 17) = 12 := (y.2 (32, 17, 12, 8) (by decide)).2.1
theorem YL.n17 {h : XH} {Y : Nat} (y : YL h Y) : xn h (Y + 17) = 8 := (y.2 (32, 17, 12, 8) (by decide)).2.2
theorem YL.r18 {h : XH} {Y : Nat} (y : YL h Y) : xr h Y 33 = some (Y + 18) := (y.2 (33, 18, 12, 8) (by decide)).1
theorem YL.k18 {h : XH} {Y : Nat} (y : YL h Y) : xk h (Y + 18) = 12 := (y.2 (33, 18, 12, 8) (by decide)).2.1
theorem YL.n18 {h : XH} {Y : Nat} (y : YL h Y) : xn h (Y + 18) = 8 := (y.2 (33, 18, 12, 8) (by decide)).2.2
theorem YL.r19 {h : XH} {Y : Nat} (y : YL h Y) : xr h Y 34 = some (Y + 19) := (y.2 (34, 19, 12, 200) (by decide)).1
theorem YL.k19 {h : XH} {Y : Nat} (y : YL h Y) : xk h (Y + 19) = 12 := (y.2 (34, 19, 12, 200) (by decide)).2.1
theorem YL.n19 {h : XH} {Y : Nat} (y : YL h Y) : xn h (Y + 19) = 200 := (y.2 (34, 19, 12, 200) (by decide)).2.2
theorem YL.r20 {h : XH} {Y : Nat} (y : YL h Y) : xr h Y 38 = some (Y + 20) := (y.2 (38, 20, 12, 6) (by decide)).1
theorem YL.k20 {h : XH} {Y : Nat} (y : YL h Y) : xk h (Y + 20) = 12 := (y.2 (38, 20, 12, 6) (by decide)).2.1
theorem YL.n20 {h : XH} {Y : Nat} (y : YL h Y) : xn h (Y + 20) = 6 := (y.2 (38, 20, 12, 6) (by decide)).2.2
theorem YL.r21 {h : XH} {Y : Nat} (y : YL h Y) : xr h Y 39 = some (Y + 21) := (y.2 (39, 21, 12, 8) (by decide)).1
theorem YL.k21 {h : XH} {Y : Nat} (y : YL h Y) : xk h (Y + 21) = 12 := (y.2 (39, 21, 12, 8) (by decide)).2.1
theorem YL.n21 {h : XH} {Y : Nat} (y : YL h Y) : xn h (Y + 21) = 8 := (y.2 (39, 21, 12, 8) (by decide)).2.2
theorem YL.r22 {h : XH} {Y : Nat} (y : YL h Y) : xr h Y 40 = some (Y + 22) := (y.2 (40, 22, 12, 8) (by decide)).1
theorem YL.k22 {h : XH} {Y : Nat} (y : YL h Y) : xk h (Y + 22) = 12 := (y.2 (40, 22, 12, 8) (by decide)).2.1
theorem YL.n22 {h : XH} {Y : Nat} (y : YL h Y) : xn h (Y + 22) = 8 := (y.2 (40, 22, 12, 8) (by decide)).2.2
theorem YL.r23 {h : XH} {Y : Nat} (y : YL h Y) : xr h Y 41 = some (Y + 23) := (y.2 (41, 23, 12, 8) (by decide)).1
theorem YL.k23 {h : XH} {Y : Nat} (y : YL h Y) : xk h (Y + 23) = 12 := (y.2 (41, 23, 12, 8) (by decide)).2.1
theorem YL.n23 {h : XH} {Y : Nat} (y : YL h Y) : xn h (Y + 23) = 8 := (y.2 (41, 23, 12, 8) (by decide)).2.2
theorem YL.r24 {h : XH} {Y : Nat} (y : YL h Y) : xr h Y 42 = some (Y + 24) := (y.2 (42, 24, 12, 100) (by decide)).1
theorem YL.k24 {h : XH} {Y : Nat} (y : YL h Y) : xk h (Y + 24) = 12 := (y.2 (42, 24, 12, 100) (by decide)).2.1
theorem YL.n24 {h : XH} {Y : Nat} (y : YL h Y) : xn h (Y + 24) = 100 := (y.2 (42, 24, 12, 100) (by decide)).2.2
theorem YL.g1 {h : XH} {Y : Nat} (y : YL h Y) {j : Nat} (hj : j < 6) : xk h (Y + 1) = 12 ∧ xin (nI j) (xn h (Y + 1)) := ⟨y.k1, by rw [y.n1]; exact xin_nI hj (by omega)⟩
theorem YL.g2 {h : XH} {Y : Nat} (y : YL h Y) {j : Nat} (hj : j < 384) : xk h (Y + 2) = 12 ∧ xin (nI j) (xn h (Y + 2)) := ⟨y.k2, by rw [y.n2]; exact xin_nI hj (by omega)⟩
theorem YL.g3 {h : XH} {Y : Nat} (y : YL h Y) {j : Nat} (hj : j < 6) : xk h (Y + 3) = 12 ∧ xin (nI j) (xn h (Y + 3)) := ⟨y.k3, by rw [y.n3]; exact xin_nI hj (by omega)⟩
theorem YL.g4 {h : XH} {Y : Nat} (y : YL h Y) {j : Nat} (hj : j < 6) : xk h (Y + 4) = 12 ∧ xin (nI j) (xn h (Y + 4)) := ⟨y.k4, by rw [y.n4]; exact xin_nI hj (by omega)⟩
theorem YL.g5 {h : XH} {Y : Nat} (y : YL h Y) {j : Nat} (hj : j < 8) : xk h (Y + 5) = 12 ∧ xin (nI j) (xn h (Y + 5)) := ⟨y.k5, by rw [y.n5]; exact xin_nI hj (by omega)⟩
theorem YL.g6 {h : XH} {Y : Nat} (y : YL h Y) {j : Nat} (hj : j < 8) : xk h (Y + 6) = 12 ∧ xin (nI j) (xn h (Y + 6)) := ⟨y.k6, by rw [y.n6]; exact xin_nI hj (by omega)⟩
theorem YL.g7 {h : XH} {Y : Nat} (y : YL h Y) {j : Nat} (hj : j < 200) : xk h (Y + 7) = 12 ∧ xin (nI j) (xn h (Y + 7)) := ⟨y.k7, by rw [y.n7]; exact xin_nI hj (by omega)⟩
theorem YL.g8 {h : XH} {Y : Nat} (y : YL h Y) {j : Nat} (hj : j < 563) : xk h (Y + 8) = 12 ∧ xin (nI j) (xn h (Y + 8)) := ⟨y.k8, by rw [y.n8]; exact xin_nI hj (by omega)⟩
theorem YL.g9 {h : XH} {Y : Nat} (y : YL h Y) {j : Nat} (hj : j < 5630) : xk h (Y + 9) = 12 ∧ xin (nI j) (xn h (Y + 9)) := ⟨y.k9, by rw [y.n9]; exact xin_nI hj (by omega)⟩
theorem YL.g10 {h : XH} {Y : Nat} (y : YL h Y) {j : Nat} (hj : j < 2) : xk h (Y + 10) = 14 ∧ xin (nI j) (xn h (Y + 10)) := ⟨y.k10, by rw [y.n10]; exact xin_nI hj (by omega)⟩
theorem YL.g11 {h : XH} {Y : Nat} (y : YL h Y) {j : Nat} (hj : j < 900) : xk h (Y + 11) = 12 ∧ xin (nI j) (xn h (Y + 11)) := ⟨y.k11, by rw [y.n11]; exact xin_nI hj (by omega)⟩
theorem YL.g12 {h : XH} {Y : Nat} (y : YL h Y) {j : Nat} (hj : j < 563) : xk h (Y + 12) = 12 ∧ xin (nI j) (xn h (Y + 12)) := ⟨y.k12, by rw [y.n12]; exact xin_nI hj (by omega)⟩
theorem YL.g13 {h : XH} {Y : Nat} (y : YL h Y) {j : Nat} (hj : j < 6) : xk h (Y + 13) = 12 ∧ xin (nI j) (xn h (Y + 13)) := ⟨y.k13, by rw [y.n13]; exact xin_nI hj (by omega)⟩
theorem YL.g14 {h : XH} {Y : Nat} (y : YL h Y) {j : Nat} (hj : j < 384) : xk h (Y + 14) = 12 ∧ xin (nI j) (xn h (Y + 14)) := ⟨y.k14, by rw [y.n14]; exact xin_nI hj (by omega)⟩
theorem YL.g15 {h : XH} {Y : Nat} (y : YL h Y) {j : Nat} (hj : j < 6) : xk h (Y + 15) = 12 ∧ xin (nI j) (xn h (Y + 15)) := ⟨y.k15, by rw [y.n15]; exact xin_nI hj (by omega)⟩
theorem YL.g16 {h : XH} {Y : Nat} (y : YL h Y) {j : Nat} (hj : j < 6) : xk h (Y + 16) = 12 ∧ xin (nI j) (xn h (Y + 16)) := ⟨y.k16, by rw [y.n16]; exact xin_nI hj (by omega)⟩
theorem YL.g17 {h : XH} {Y : Nat} (y : YL h Y) {j : Nat} (hj : j < 8) : xk h (Y + 17) = 12 ∧ xin (nI j) (xn h (Y + 17)) := ⟨y.k17, by rw [y.n17]; exact xin_nI hj (by omega)⟩
theorem YL.g18 {h : XH} {Y : Nat} (y : YL h Y) {j : Nat} (hj : j < 8) : xk h (Y + 18) = 12 ∧ xin (nI j) (xn h (Y + 18)) := ⟨y.k18, by rw [y.n18]; exact xin_nI hj (by omega)⟩
theorem YL.g19 {h : XH} {Y : Nat} (y : YL h Y) {j : Nat} (hj : j < 200) : xk h (Y + 19) = 12 ∧ xin (nI j) (xn h (Y + 19)) := ⟨y.k19, by rw [y.n19]; exact xin_nI hj (by omega)⟩
theorem YL.g20 {h : XH} {Y : Nat} (y : YL h Y) {j : Nat} (hj : j < 6) : xk h (Y + 20) = 12 ∧ xin (nI j) (xn h (Y + 20)) := ⟨y.k20, by rw [y.n20]; exact xin_nI hj (by omega)⟩
theorem YL.g21 {h : XH} {Y : Nat} (y : YL h Y) {j : Nat} (hj : j < 8) : xk h (Y + 21) = 12 ∧ xin (nI j) (xn h (Y + 21)) := ⟨y.k21, by rw [y.n21]; exact xin_nI hj (by omega)⟩
theorem YL.g22 {h : XH} {Y : Nat} (y : YL h Y) {j : Nat} (hj : j < 8) : xk h (Y + 22) = 12 ∧ xin (nI j) (xn h (Y + 22)) := ⟨y.k22, by rw [y.n22]; exact xin_nI hj (by omega)⟩
theorem YL.g23 {h : XH} {Y : Nat} (y : YL h Y) {j : Nat} (hj : j < 8) : xk h (Y + 23) = 12 ∧ xin (nI j) (xn h (Y + 23)) := ⟨y.k23, by rw [y.n23]; exact xin_nI hj (by omega)⟩
theorem YL.g24 {h : XH} {Y : Nat} (y : YL h Y) {j : Nat} (hj : j < 100) : xk h (Y + 24) = 12 ∧ xin (nI j) (xn h (Y + 24)) := ⟨y.k24, by rw [y.n24]; exact xin_nI hj (by omega)⟩
theorem YL.iw {h h' : XH} {Y : Nat} {B : Nat → Prop} (y : YL h Y) (w : iw B h h') : YL h' Y := by obtain ⟨f, rfl, -⟩ := w; exact y
/-- group g of the reference -/
def YG (h : XH) (Y g n : Nat) (t : Nat → Nat → Nat) : Prop := g < 6 ∧ xi h (Y + 1) g = nI n ∧ 0 < n ∧ n ≤ 8 ∧ ∀ a b, a < n → b < n → xi h (Y + 2) (64 * g + 8 * a + b) = nI (t a b) ∧ t a b < n
/-- module m of the reference is d -/
def YM (h : XH) (Y m u l : Nat) (d : MD) : Prop := (YL h Y ∧ m < 6) ∧ (xi h (Y + 3) m = nI u ∧ xi h (Y + 4) m = nI l) ∧ (YG h Y u (dnu d) (dtu d) ∧ YG h Y l (dnl d) (dtl d)) ∧ (∀ a, a < dnu d → xi h (Y + 8) (8 * m + a) = nI (dbd d a) ∧ dbd d a < dnl d) ∧ ∀ g a, g < dnl d → a < dnu d → xi h (Y + 8) (48 + 64 * m + 8 * g + a) = nI (dac d g a) ∧ dac d g a < dnu d
theorem li48 : (48 : Int32) = nI 48 := rfl
theorem li24 : (24 : Int32) = nI 24 := rfl
theorem li432 : (432 : Int32) = nI 432 := rfl
theorem li496 : (496 : Int32) = nI 496 := rfl
theorem li560 : (560 : Int32) = nI 560 := rfl
theorem li563 : (563 : Int32) = nI 563 := rfl
theorem li3941 : (3941 : Int32) = nI 3941 := rfl
theorem nI_00 : (0 : Int32) = nI 0 := rfl
theorem nI_o (a : Nat) : nI a + (0 : Int32) = nI a := or_1e _
theorem o_nI (x : Int32) : (0 : Int32) + x = x := by
  apply Int32.toBitVec_inj.mp
  simp
section YGS
variable {E : XG} {h : XH} {Y g n : Nat} {t : Nat → Nat → Nat} {v : Nat → Nat}
theorem FX9_of_v (y : YL h Y) (G : YG h Y g n t) {a b : Nat} (ha : a < n) (hb : b < n) : FX9_of E Y (nI g) (nI a) (nI b) h = xv (nI (t a b)) h := by
  obtain ⟨g1, g2, g3, g4, g5⟩ := G
  obtain ⟨e1, e2⟩ := g5 a b ha hb
  unfold FX9_of
  simp (disch := omega) only [↓xg, ↓reduceIte, ↓xjn_d, ↓xlt_d, eq_self, and_self, and_true, true_and, not_true, not_false_iff, ne_eq, true_or, or_true, or_false, false_or, nI_s, nI_leP, nI_eqP, y.1, ↓xnn_e (y.r2), y.k2, y.n2, li64, li8, nI_m, nI_a, xin_t, xz_nI, e1]
theorem FX9_inverseOf_v (y : YL h Y) (G : YG h Y g n t) (ga : GA n t v) {a : Nat} (ha : a < n) : FX9_inverseOf E Y (nI g) (nI a) h = xv (nI (v a)) h := by
  have q := ga.iv ha
  have h8 := G.2.2.2.1
  unfold FX9_inverseOf
  refine xlp_all (fun i => nI i) (fun _ => h) (v a) (by omega) (fun i hi ag => ?_) (fun ag => ?_)
  · have q1 := ga.cl ha (show i < n by omega)
    have q2 : ¬ t a i = 0 := fun e => by have := ga.vu ha (show i < n by omega) e; omega
    simp (disch := omega) only [↓xg, ↓reduceIte, ↓xjn_d, ↓xlt_d, eq_self, and_self, and_true, true_and, not_true, not_false_iff, ne_eq, true_or, or_true, or_false, false_or, nI_s, nI_leP, nI_eqP, y.1, ↓xb_eq (FX9_of_v y G ha (show i < n by omega)), nI_eq0, q2]
  · simp (disch := omega) only [↓xg, ↓reduceIte, ↓xjn_d, ↓xlt_d, eq_self, and_self, and_true, true_and, not_true, not_false_iff, ne_eq, true_or, or_true, or_false, false_or, nI_s, nI_leP, nI_eqP, y.1, ↓xb_eq (FX9_of_v y G ha q), ga.ir ha, nI_0]
theorem FX9_conjugateOf_v (y : YL h Y) (G : YG h Y g n t) (ga : GA n t v) {c a : Nat} (hc : c < n) (ha : a < n) : FX9_conjugateOf E Y (nI g) (nI c) (nI a) h = xv (nI (t (t c a) (v c))) h := by
  unfold FX9_conjugateOf
  simp (disch := omega) only [↓xg, ↓reduceIte, ↓xjn_d, ↓xlt_d, eq_self, and_self, and_true, true_and, not_true, not_false_iff, ne_eq, true_or, or_true, or_false, false_or, nI_s, nI_leP, nI_eqP, y.1, ↓xb_eq (FX9_of_v y G hc ha), ↓xb_eq (FX9_inverseOf_v y G ga hc), ↓xb_eq (FX9_of_v y G (ga.cl hc ha) (ga.iv hc))]
theorem FX9_orderIn_v (y : YL h Y) (G : YG h Y g n t) (ga : GA n t v) {a : Nat} (ha : a < n) : FX9_orderIn E Y (nI g) (nI a) h = xv (nI (odS t a)) h := by
  have hp := pw_lt (t := t) ga.1 ha
  have h8 := G.2.2.2.1
  obtain ⟨z1, z2⟩ := od_first ga h8 ha
  have hm := fi_le 7 (fun i => pw t a i == 0)
  unfold FX9_orderIn odS
  refine xlp_all (fun i => (nI (i + 1), nI (pw t a i))) (fun _ => h) (fi 7 (fun i => pw t a i == 0)) (by omega) (fun i hi ag => ?_) (fun ag => ?_)
  · have h2 := z2 i hi
    have h4 := hp i
    simp (disch := omega) only [↓xg, ↓reduceIte, ↓xjn_d, ↓xlt_d, eq_self, and_self, and_true, true_and, not_true, not_false_iff, ne_eq, true_or, or_true, or_false, false_or, nI_s, nI_leP, nI_eqP, nI_eq0, h2, y.1, ↓xb_eq (FX9_of_v y G (hp i) ha)]
    rfl
  · simp (disch := omega) only [↓xg, ↓reduceIte, ↓xjn_d, ↓xlt_d, eq_self, and_self, and_true, true_and, not_true, not_false_iff, ne_eq, true_or, or_true, or_false, false_or, nI_s, nI_leP, nI_eqP, z1, nI_0]
theorem FX9_centreOf_v (y : YL h Y) (G : YG h Y g n t) : FX9_centreOf E Y (nI g) h = xv (cenS n t) h := by
  obtain ⟨g1, g2, g3, g4, g5⟩ := id G
  unfold FX9_centreOf
  refine xlp_all (fun i => (orI (fun a => if anyB n (fun b => t a b ≠ t b a) then 0 else sh a) i, nI i)) (fun _ => h) n (by omega) (fun i hi ag => ?_) (fun ag => ?_)
  · have hc : ¬ n ≤ i := by omega
    simp (disch := omega) only [↓xg, ↓reduceIte, ↓xjn_d, ↓xlt_d, eq_self, and_self, and_true, true_and, not_true, not_false_iff, ne_eq, true_or, or_true, or_false, false_or, nI_s, nI_leP, nI_eqP, y.1, ↓xnn_e (y.r1), y.k1, y.n1, xin_t, xz_nI, g2, hc]
    refine (xlp_all (fun b => ((if anyB b (fun b => t i b ≠ t b i) then 0 else 1), nI b)) (fun _ => h) n (R := ag (orI (fun a => if anyB n (fun b => t a b ≠ t b a) then 0 else sh a) (i + 1), nI (i + 1)) h) (by omega) (fun b hb ag' => ?_) (fun ag' => ?_))
    · have hc2 : ¬ n ≤ b := by omega
      have q1 := (g5 i b hi hb).2
      have q2 := (g5 b i hb hi).2
      rw [anyB_s]
      cases anyB b (fun b => t i b ≠ t b i)
      · simp (disch := omega) only [↓xg, ↓reduceIte, ↓xjn_d, ↓xlt_d, eq_self, and_self, and_true, true_and, not_true, not_false_iff, ne_eq, true_or, or_true, or_false, false_or, nI_s, nI_leP, nI_eqP, y.1, ↓xnn_e (y.r1), y.k1, y.n1, xin_t, xz_nI, g2, hc2, i1_0, Bool.false_eq_true, ↓xb_eq (FX9_of_v y G hi hb), ↓xb_eq (FX9_of_v y G hb hi)]
        by_cases e : t i b = t b i <;> simp [e]
      · simp (disch := omega) only [↓xg, ↓reduceIte, ↓xjn_d, ↓xlt_d, eq_self, and_self, and_true, true_and, not_true, not_false_iff, ne_eq, true_or, or_true, or_false, false_or, nI_s, nI_leP, nI_eqP, y.1, ↓xnn_e (y.r1), y.k1, y.n1, xin_t, xz_nI, g2, hc2]
        simp
    · rw [orI_s]
      cases anyB n (fun b => t i b ≠ t b i)
      · simp (disch := omega) only [↓xg, ↓reduceIte, ↓xjn_d, ↓xlt_d, eq_self, and_self, and_true, true_and, not_true, not_false_iff, ne_eq, true_or, or_true, or_false, false_or, nI_s, nI_leP, nI_eqP, y.1, ↓xnn_e (y.r1), y.k1, y.n1, xin_t, xz_nI, g2, Int32.le_refl, Bool.false_eq_true, i1_0, sh_d, xlt_d]
      · simp (disch := omega) only [↓xg, ↓reduceIte, ↓xjn_d, ↓xlt_d, eq_self, and_self, and_true, true_and, not_true, not_false_iff, ne_eq, true_or, or_true, or_false, false_or, nI_s, nI_leP, nI_eqP, y.1, ↓xnn_e (y.r1), y.k1, y.n1, xin_t, xz_nI, g2, Int32.le_refl, xlt_d]
  · simp (disch := omega) only [↓xg, ↓reduceIte, ↓xjn_d, ↓xlt_d, eq_self, and_self, and_true, true_and, not_true, not_false_iff, ne_eq, true_or, or_true, or_false, false_or, nI_s, nI_leP, nI_eqP, y.1, ↓xnn_e (y.r1), y.k1, y.n1, xin_t, xz_nI, g2, Int32.le_refl]
    rfl
end YGS
section YMS
variable {E : XG} {h : XH} {Y m u l : Nat} {d : MD}
theorem YM.y (M : YM h Y m u l d) : YL h Y := M.1.1
theorem YM.wu (M : YM h Y m u l d) : (0 < dnu d ∧ dnu d ≤ 8 ∧ 0 < dnl d ∧ dnl d ≤ 8) := ⟨M.2.2.1.1.2.2.1, M.2.2.1.1.2.2.2.1, M.2.2.1.2.2.2.1, M.2.2.1.2.2.2.2.1⟩
theorem FX9_boundaryOf_v (M : YM h Y m u l d) {a : Nat} (ha : a < dnu d) : FX9_boundaryOf E Y (nI m) (nI a) h = xv (nI (dbd d a)) h := by
  have y := M.y
  have h6 := M.1.2
  have w := M.wu
  have e := (M.2.2.2.1 a ha).1
  unfold FX9_boundaryOf
  simp (disch := omega) only [↓xg, ↓reduceIte, ↓xjn_d, ↓xlt_d, eq_self, and_self, and_true, true_and, not_true, not_false_iff, ne_eq, true_or, or_true, or_false, false_or, nI_s, nI_leP, nI_eqP, y.1, ↓xnn_e (y.r8), y.k8, y.n8, li8, nI_m, o_nI, nI_a, xin_t, xz_nI, e]
theorem FX9_on_v (M : YM h Y m u l d) {g a : Nat} (hg : g < dnl d) (ha : a < dnu d) : FX9_on E Y (nI m) (nI g) (nI a) h = xv (nI (dac d g a)) h := by
  have y := M.y
  have h6 := M.1.2
  have w := M.wu
  have e := (M.2.2.2.2 g a hg ha).1
  unfold FX9_on
  simp (disch := omega) only [↓xg, ↓reduceIte, ↓xjn_d, ↓xlt_d, eq_self, and_self, and_true, true_and, not_true, not_false_iff, ne_eq, true_or, or_true, or_false, false_or, nI_s, nI_leP, nI_eqP, y.1, ↓xnn_e (y.r8), y.k8, y.n8, li8, li48, li64, nI_m, nI_a, xin_t, xz_nI, e]
theorem FX9_up_v (M : YM h Y m u l d) {a b : Nat} (ha : a < dnu d) (hb : b < dnu d) : FX9_up E Y (nI m) (nI a) (nI b) h = xv (nI (dtu d a b)) h := by
  have y := M.y
  have h6 := M.1.2
  unfold FX9_up
  simp (disch := omega) only [↓xg, ↓reduceIte, ↓xjn_d, ↓xlt_d, eq_self, and_self, and_true, true_and, not_true, not_false_iff, ne_eq, true_or, or_true, or_false, false_or, nI_s, nI_leP, nI_eqP, y.1, ↓xnn_e (y.r3), y.k3, y.n3, xin_t, xz_nI, M.2.1.1, ↓xb_eq (FX9_of_v y M.2.2.1.1 ha hb)]
theorem FX9_down_v (M : YM h Y m u l d) {a b : Nat} (ha : a < dnl d) (hb : b < dnl d) : FX9_down E Y (nI m) (nI a) (nI b) h = xv (nI (dtl d a b)) h := by
  have y := M.y
  have h6 := M.1.2
  unfold FX9_down
  simp (disch := omega) only [↓xg, ↓reduceIte, ↓xjn_d, ↓xlt_d, eq_self, and_self, and_true, true_and, not_true, not_false_iff, ne_eq, true_or, or_true, or_false, false_or, nI_s, nI_leP, nI_eqP, y.1, ↓xnn_e (y.r4), y.k4, y.n4, xin_t, xz_nI, M.2.1.2, ↓xb_eq (FX9_of_v y M.2.2.1.2 ha hb)]
theorem FX9_uppers_v (M : YM h Y m u l d) : FX9_uppers E Y (nI m) h = xv (nI (dnu d)) h := by
  have y := M.y
  have h6 := M.1.2
  have hu := M.2.2.1.1.1
  unfold FX9_uppers
  simp (disch := omega) only [↓xg, ↓reduceIte, ↓xjn_d, ↓xlt_d, eq_self, and_self, and_true, true_and, not_true, not_false_iff, ne_eq, true_or, or_true, or_false, false_or, nI_s, nI_leP, nI_eqP, y.1, ↓xnn_e (y.r1), ↓xnn_e (y.r3), y.k1, y.k3, y.n1, y.n3, xin_t, xz_nI, M.2.1.1, M.2.2.1.1.2.1]
theorem FX9_lowers_v (M : YM h Y m u l d) : FX9_lowers E Y (nI m) h = xv (nI (dnl d)) h := by
  have y := M.y
  have h6 := M.1.2
  have hl := M.2.2.1.2.1
  unfold FX9_lowers
  simp (disch := omega) only [↓xg, ↓reduceIte, ↓xjn_d, ↓xlt_d, eq_self, and_self, and_true, true_and, not_true, not_false_iff, ne_eq, true_or, or_true, or_false, false_or, nI_s, nI_leP, nI_eqP, y.1, ↓xnn_e (y.r1), ↓xnn_e (y.r4), y.k1, y.k4, y.n1, y.n4, xin_t, xz_nI, M.2.1.2, M.2.2.1.2.2.1]
theorem YM.wd (M : YM h Y m u l d) (gd : GD d) : Wd d := ⟨M.wu, fun a b ha hb => (M.2.2.1.1.2.2.2.2 a b ha hb).2, gd.1.2.1, fun a b ha hb => (M.2.2.1.2.2.2.2.2 a b ha hb).2, gd.2.2.1, fun a ha => (M.2.2.2.1 a ha).2, fun g a hg ha => (M.2.2.2.2 g a hg ha).2⟩
end YMS
