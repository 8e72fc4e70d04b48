/-! Changes, the class: states kept, one change begun. -/
set_option linter.unusedVariables false
/-- another T, other states kept -/
def zset (Z : ZD) (T : ST) (n : Nat) (u : Nat → ST) (k : Nat → Option ST) : ZD := (zld Z, zS Z, T, (n, u), k, (zfl Z, zbf Z), (zer Z, zea Z), (ztl Z, ztx Z))
/-- the oldest state forgotten -/
def zdr (Z : ZD) : ZD := zset Z (zT Z) (zun Z - 1) (fun i => zu Z (i + 1)) (zk Z)
/-- this state kept, one change more -/
def zpu (Z : ZD) : ZD := zset Z (T1 (zT Z)) (zun Z + 1) (fun i => if i = zun Z then zT Z else zu Z i) (zk Z)
def zch (Z : ZD) : ZD := if zun Z = 8 then zpu (zdr Z) else zpu Z
def zsT (Z : ZD) (T : ST) : ZD := zset Z T (zun Z) (zu Z) (zk Z)
theorem zch_T (Z : ZD) : zT (zch Z) = T1 (zT Z) := by unfold zch; split <;> rfl
theorem zch_S (Z : ZD) : zS (zch Z) = zS Z := by unfold zch; split <;> rfl
theorem zch_ld (Z : ZD) : zld (zch Z) = zld Z := by unfold zch; split <;> rfl
theorem zset_wz {Z : ZD} {T : ST} {n : Nat} {u : Nat → ST} {k : Nat → Option ST} (z : WZ Z) (hl : zld Z = false → n = 0) (hn : n ≤ 8) (hu : ∀ i, i < n → WT (zS Z) (u i)) (hk : ∀ i T, i < 2 → k i = some T → WT (zS Z) T) : WZ (zset Z T n u k) := ⟨hl, z.2.1, ⟨hn, hu⟩, hk, z.2.2.2.2⟩
theorem zpu_wz {Z : ZD} (z : WZ Z) (hl : zld Z = true) (hT : WT (zS Z) (zT Z)) (hn : zun Z < 8) : WZ (zpu Z) := zset_wz z (fun e => by rw [hl] at e; cases e) (by omega) (fun i hi => by
  split
  · exact hT
  · exact z.2.2.1.2 i (by omega)) z.2.2.2.1
theorem zch_wz {Z : ZD} (z : WZ Z) (hl : zld Z = true) (hT : WT (zS Z) (zT Z)) : WZ (zch Z) := by
  have z8 := z.2.2.1.1
  unfold zch
  split
  · rename_i e
    exact zpu_wz (Z := zdr Z) (zset_wz z (fun e => by rw [hl] at e; cases e) (by omega) (fun i hi => z.2.2.1.2 (i + 1) (by omega)) z.2.2.2.1) hl hT (show zun Z - 1 < 8 by omega)
  · exact zpu_wz z hl hT (by omega)
theorem zsT_wz {Z : ZD} (z : WZ Z) (T : ST) : WZ (zsT Z T) := zset_wz z z.1 z.2.2.1.1 z.2.2.1.2 z.2.2.2.1
theorem fmod_v {E : XG} {h : XH} : ∀ a, a < 16 → FJ9_floorMod_7cf53 E (nI a) 8 h = xv (nI (a % 8)) h := by
  intro a ha
  have h1 : ∀ a, a < 16 → xrem (nI a) 8 = nI (a % 8) := by decide +kernel
  have h2 : ∀ a, a < 16 → (0 : Int32) ≤ (nI a ^^^ 8) := by decide +kernel
  unfold FJ9_floorMod_7cf53
  rw [xg_t (by decide), xlt_d, xjn_d, if_pos (h2 a ha), h1 a ha]
section CHC
variable {E : XG} {h : XH} {X w s f : Nat} {Z : ZD}
theorem FX8_undoPlace_v (k0 : xk h X = 9) (e8 : xi h X 8 = nI f) (hf : f < 8) {k : Nat} (hk : k ≤ 8) : FX8_undoPlace E X (nI k) h = xv (nI ((f + k) % 8)) h := by
  unfold FX8_undoPlace
  (try dsimp only); (rw [xg_t (k0), e8, nI_a, xb_eq (fmod_v (E := E) (h := h) (f + k) (by omega))])
theorem XI_set {h' : XH} {B : Nat → Prop} {T' : ST} {n' f' : Nat} {u' : Nat → ST} {k' : Nat → Option ST} (x : XI h X w s f Z) (i : iw B h h') (hB : ∀ a, B a → a = X ∨ rTS w a ∨ (X + 211 ≤ a ∧ a < X + 222)) (hk : ∀ k, k ≠ 8 → k ≠ 9 → k ≠ 11 → xi h' X k = xi h X k) (ci : CI h' w (zS Z) T') (u : XU h' X f' (zset Z T' n' u' k')) (k : XK h' X (zset Z T' n' u' k')) : XI h' X w s f' (zset Z T' n' u' k') := by
  have ws := x.ws
  obtain ⟨⟨x1, x2, x3, x4, x5, x6⟩, ⟨x7, x8⟩, ⟨x9, x10⟩, ⟨x11, x12, x13⟩, -, -, x19, x20⟩ := x
  have nb : ∀ a, (a = X + 1 ∨ (s ≤ a ∧ a < s + 104) ∨ (w ≤ a ∧ a < w + 13) ∨ a = X + 222) → ¬ B a := fun a q1 q => by
    have := hB a q
    unfold rTS at this
    omega
  refine ⟨⟨XL_iw x1 i, by rw [i.r]; exact x2, by rw [i.r]; exact x3, x4, WL_iw x5 i, fun g hg => ?_, fun m hm => ?_⟩, ⟨ci, NC_iw x7.1.1 x8 i (fun a q1 q2 => nb a (by omega))⟩, ⟨?_, fun j hj => ?_⟩, ⟨?_, ?_, ?_⟩, u, k, ?_, fun j hj => ?_⟩
  · rw [i.i _ (nb _ (by omega))]; exact x6.1 g hg
  · rw [i.i _ (nb _ (by omega))]; exact x6.2 m hm
  · rw [hk _ (by decide) (by decide) (by decide)]; exact x9
  · rw [i.i _ (nb _ (by omega))]; exact x10 j hj
  · rw [hk _ (by decide) (by decide) (by decide)]; exact x11
  · rw [hk _ (by decide) (by decide) (by decide)]; exact x12
  · rw [hk _ (by decide) (by decide) (by decide)]; exact x13
  · rw [hk _ (by decide) (by decide) (by decide)]; exact x19
  · rw [i.i _ (nb _ (by omega))]; exact x20 j hj
theorem XU_iw {h' : XH} {B : Nat → Prop} (x : XU h X f Z) (i : iw B h h') (hB : ∀ a, X + 211 ≤ a → a < X + 219 → ¬ B a) (h8 : xi h' X 8 = xi h X 8) (h9 : xi h' X 9 = xi h X 9) : XU h' X f Z := ⟨⟨x.1.1, h8.trans x.1.2.1, h9.trans x.1.2.2⟩, fun j hj => CR_iw (x.2 j hj) i (hB _ (by omega) (by omega))⟩
theorem XK_iw {h' : XH} {B : Nat → Prop} (x : XK h X Z) (i : iw B h h') (hB : ∀ a, X + 220 ≤ a → a < X + 222 → ¬ B a) (h1 : xi h' X 11 = xi h X 11) : XK h' X Z := fun j hj => ⟨by rw [h1]; exact (x j hj).1, fun T hT => CR_iw ((x j hj).2 T hT) i (hB _ (by omega) (by omega))⟩
/-- only T has changed -/
theorem XI_T {h' : XH} {B : Nat → Prop} {T' : ST} (x : XI h X w s f Z) (i : iw B h h') (hB : ∀ a, B a → rTS w a) (ci : CI h' w (zS Z) T') : XI h' X w s f (zsT Z T') := by
  have ws := x.ws
  have nb : ∀ a, a < X + 2 ∨ X + 210 ≤ a → ¬ B a := fun a q1 q => by
    have := hB a q
    unfold rTS at this
    omega
  exact XI_set x i (fun a q => Or.inr (Or.inl (hB a q))) (fun k _ _ _ => i.i _ (nb _ (by omega))) ci (XU_iw (Z := Z) x.2.2.2.2.1 i (fun a q1 q2 => nb a (by omega)) (i.i _ (nb _ (by omega))) (i.i _ (nb _ (by omega)))) (XK_iw (Z := Z) x.2.2.2.2.2.1 i (fun a q1 q2 => nb a (by omega)) (i.i _ (nb _ (by omega))))
theorem XI_dr (x : XI h X w s f Z) (hn : 0 < zun Z) : XI (yi (yi h X 8 (nI ((f + 1) % 8))) X 9 (nI (zun Z - 1))) X w s ((f + 1) % 8) (zdr Z) := by
  have ws := x.ws
  have i : iw (fun a => a = X) h (yi (yi h X 8 (nI ((f + 1) % 8))) X 9 (nI (zun Z - 1))) := (iw_yi (A := fun a => a = X) _ _ _ _ rfl).yi _ _ _ rfl
  have hk : ∀ k, k ≠ 8 → k ≠ 9 → xi (yi (yi h X 8 (nI ((f + 1) % 8))) X 9 (nI (zun Z - 1))) X k = xi h X k := fun k k1 k2 => by rw [xi_yi2 _ _ (Or.inr k2), xi_yi2 _ _ (Or.inr k1)]
  refine XI_set x i (fun a q => Or.inl q) (fun k k1 k2 _ => hk k k1 k2) (x.ci.iw i (fun a q => by omega)) ⟨⟨by omega, ?_, xi_yi1 _ _ _ _⟩, fun j hj => ?_⟩ (XK_iw (Z := Z) x.2.2.2.2.2.1 i (fun a q1 q2 => by omega) (hk _ (by decide) (by decide)))
  · rw [xi_yi2 _ _ (Or.inr (by decide)), xi_yi1]
  · have hj : j < zun Z - 1 := hj
    have := CR_iw (x.2.2.2.2.1.2 (j + 1) (by omega)) i (by omega)
    rw [show (f + 1) % 8 + j = ((f + 1) % 8 + j) by rfl, show ((f + 1) % 8 + j) % 8 = (f + (j + 1)) % 8 by omega]
    exact this
theorem begin2_o (x : XI h X w s f Z) (hn : zun Z < 8) : xo (xg (xk h X = 9) <| xnn (xr h X 5) fun w2 => xg (xk h X = 9) <| xnn (xr h X 7) fun w3 => xg (xk h X = 9) <| xg (xk h X = 9) <| xb (FX8_undoPlace E X (xi h X 9) h) fun v4 h5 => xg (xk h5 w3 = 18 ∧ xin v4 (xn h5 w3)) <| xnn (xr h5 w3 (v4 : Int32).toNatClampNeg) fun w6 => xg (xk h5 w2 = 8) <| xb (FX7_giveState E w2 w6 h5) fun _ h7 => xg (xk h7 X = 9) <| xg (xk h7 X = 9) <| xlt (yi h7 X 9 ((xi h7 X 9) + 1)) fun h8 => xg (xk h8 X = 9) <| xnn (xr h8 X 5) fun w9 => xg (xk h8 w9 = 8) <| xb (FX7_addToAccount E w9 0 h8) fun _ h10 => xv () h10) (fun _ h' => iw (rXa X) h h' ∧ ∃ f', XI h' X w s f' (zpu Z)) := by
  have ws := x.ws
  obtain ⟨⟨hf, u8, u9⟩, u10⟩ := x.2.2.2.2.1
  have k0 := x.k
  have r7 := x.1.1.2.2.1
  have rr := x.1.1.2.2.2.1 ((f + zun Z) % 8) (by omega)
  rw [u9]
  refine xo_g k0 (xo_n x.w5 (xo_g k0 (xo_n r7.1 (xo_g k0 (xo_g k0 (xo_eb (FX8_undoPlace_v k0 u8 hf (by omega)) (xo_g ⟨r7.2.1, by rw [r7.2.2]; exact xin_nI (by omega) (by omega)⟩ ?_)))))))
  rw [xz_nI (by omega)]
  refine xo_n rr.1 (xo_g x.wl.1 (xo_b (FX7_giveState_o x.ci rr.2.1 rr.2.2 (by omega)) (fun _ h7 q7 => ?_)))
  obtain ⟨i7, c7⟩ := q7
  have x7 : xi h7 X 9 = nI (zun Z) := by rw [i7.i _ (by omega)]; exact u9
  have k7 : xk h7 X = 9 := by rw [i7.k]; exact k0
  refine xo_g k7 (xo_g k7 (xo_lt ?_))
  rw [x7, nI_s]
  have i8 : iw (fun a => a = X ∨ a = X + 211 + (f + zun Z) % 8) h (yi h7 X 9 (nI (zun Z + 1))) := i7.trans (iw_yi (A := fun a => a = X) _ _ _ _ rfl) (fun a q => Or.inr q) (fun a q => Or.inl q)
  have e8 : ∀ k, k ≠ 9 → xi (yi h7 X 9 (nI (zun Z + 1))) X k = xi h X k := fun k k1 => by rw [xi_yi2 _ _ (Or.inr k1), i7.i _ (by omega)]
  have c8 : CR (yi h7 X 9 (nI (zun Z + 1))) (X + 211 + (f + zun Z) % 8) (zS Z) (zT Z) := CR_iw c7 (iw_yi (A := fun a => a = X) _ _ _ _ rfl) (by omega)
  have M8 := (x.ci.iw i8 (fun a q => by omega)).x
  have e9 : xi (yi h7 X 9 (nI (zun Z + 1))) X 9 = nI (zun Z + 1) := xi_yi1 _ _ _ _
  generalize yi h7 X 9 (nI (zun Z + 1)) = h8 at i8 e8 c8 M8 e9 ⊢
  have a8 := FX7_addToAccount_o (E := E) M8 (k := 0) (by omega)
  have M9 := CIx_acc M8 (k := 0) (by omega) (tcc (zT Z) 0 + 1)
  refine xo_g (by rw [i8.k]; exact k0) (xo_n (by rw [i8.r]; exact x.w5) (xo_g M8.2.1.1.1.1 (xo_eb a8 (xo_v ⟨?_, f, ?_⟩))))
  · exact (i8.wide (fun a q => by unfold rXa; omega)).yi _ _ _ (by unfold rXa; omega)
  · have i9 : iw (fun a => a = X ∨ a = X + 211 + (f + zun Z) % 8 ∨ a = w + 13) h (yi h8 (w + 13) 0 (tcc (zT Z) 0 + 1)) := i8.trans (iw_yi (A := fun a => a = w + 13) _ _ _ _ rfl) (fun a q => by omega) (fun a q => by omega)
    have j9 : iw (fun a => a = w + 13) h8 (yi h8 (w + 13) 0 (tcc (zT Z) 0 + 1)) := iw_yi _ _ _ _ rfl
    refine XI_set x i9 (fun a q => ?_) (fun k k1 k2 k3 => ?_) (M9.ci (fun m hm => rfl)) ⟨⟨hf, ?_, ?_⟩, fun j hj => ?_⟩ ?_
    · unfold rTS
      omega
    · rw [j9.i _ (by omega)]; exact e8 k k2
    · rw [j9.i _ (by omega), e8 _ (by decide)]; exact u8
    · rw [j9.i _ (by omega)]; exact e9
    · have hj : j < zun Z + 1 := hj
      show CR _ _ (zS Z) (if j = zun Z then zT Z else zu Z j)
      by_cases e : j = zun Z
      · rw [if_pos e, e]
        exact CR_iw c8 j9 (by omega)
      · rw [if_neg e]
        exact CR_iw (u10 j (by omega)) i9 (by omega)
    · exact XK_iw (Z := Z) x.2.2.2.2.2.1 i9 (fun a q1 q2 => by omega) (by rw [j9.i _ (by omega), e8 _ (by decide)])
theorem FX8_beginChange_o (x : XI h X w s f Z) (z8 : zun Z ≤ 8) : xo (FX8_beginChange E X h) (fun _ h' => iw (rXa X) h h' ∧ ∃ f', XI h' X w s f' (zch Z)) := by
  have k0 := x.k
  obtain ⟨⟨hf, u8, u9⟩, u10⟩ := x.2.2.2.2.1
  unfold FX8_beginChange
  refine xo_g k0 (xo_jn ?_)
  by_cases c : zun Z = 8
  · have u9' := u9
    rw [c] at u9'
    refine xo_t (by rw [u9', show (8 : Int32) = nI 8 from rfl]) (xo_g k0 (xo_eb (FX8_undoPlace_v (k := 1) k0 u8 hf (by omega)) (xo_g k0 (xo_lt (xo_g k0 (xo_g k0 (xo_lt ?_)))))))
    rw [xi_yi2 h (b := X) (j := 9) (a := X) (k := 8) _ (Or.inr (by decide)), u9, nI_p _ (by omega) (by omega)]
    have xd := XI_dr x (by omega)
    refine xo_w (begin2_o xd (show zun Z - 1 < 8 by omega)) (fun v h' q => ?_)
    unfold zch
    rw [if_pos c]
    exact ⟨((iw_yi (A := rXa X) _ _ _ _ (by unfold rXa; omega)).yi _ _ _ (by unfold rXa; omega)).trans q.1 (fun _ q => q) (fun _ q => q), q.2⟩
  · refine xo_f (by rw [u9, show (8 : Int32) = nI 8 from rfl, nI_eqP (by omega) (by omega)]; exact c) ?_
    refine xo_w (begin2_o x (by omega)) (fun v h' q => ?_)
    unfold zch
    rw [if_neg c]
    exact q
end CHC
