/-! The class: undone, saved, restored. -/
set_option linter.unusedVariables false
theorem lawS_in {S : SD} (T : ST) (h : snm S ≤ 6) : inB 8 (lawS S T) := inB_orI (fun i hi => inB_ite (inB_sh (by omega) (by omega)) (inB_0 _))
def zsv (Z : ZD) (p : Nat) : ZD := zset Z (zT Z) (zun Z) (zu Z) (fun i => if i = p then some (zT Z) else zk Z i)
def zud (Z : ZD) : ZD := zset Z (zu Z (zun Z - 1)) (zun Z - 1) (zu Z) (zk Z)
def zre (Z : ZD) (T : ST) : ZD := zset Z T 0 (zu Z) (zk Z)
theorem zud_wz {Z : ZD} (z : WZ Z) : WZ (zud Z) := zset_wz z (fun e => by rw [z.1 e]) (by have := z.2.2.1.1; omega) (fun i hi => z.2.2.1.2 i (by omega)) z.2.2.2.1
theorem zre_wz {Z : ZD} (z : WZ Z) (T : ST) : WZ (zre Z T) := zset_wz z (fun _ => rfl) (by omega) (fun i hi => absurd hi (Nat.not_lt_zero _)) z.2.2.2.1
theorem zsv_wz {Z : ZD} (z : WZ Z) (hT : WT (zS Z) (zT Z)) (p : Nat) : WZ (zsv Z p) := zset_wz z z.1 z.2.2.1.1 z.2.2.1.2 (fun i T hi e => by
  by_cases c : i = p
  · rw [if_pos c] at e
    cases e
    exact hT
  · rw [if_neg c] at e
    exact z.2.2.2.1 i T hi e)
section CHE
variable {E : XG} {h : XH} {X w s f : Nat} {Z : ZD}
theorem C_undo (x : XI h X w s f Z) (z : WZ Z) (hn : 0 < zun Z) : xo (FX8_undo E X h) (fun r h' => r = nI (zun Z - 1) ∧ iw (rXa X) h h' ∧ ∃ w s f, XI h' X w s f (zud Z)) := by
  have ws := x.ws
  obtain ⟨⟨hf, u8, u9⟩, u10⟩ := x.2.2.2.2.1
  have k0 := x.k
  have r7 := x.1.1.2.2.1
  have z8 := z.2.2.1.1
  have rr := x.1.1.2.2.2.1 ((f + (zun Z - 1)) % 8) (by omega)
  unfold FX8_undo
  refine xo_g k0 ?_
  rw [u9]
  refine xo_t (by rw [show (0 : Int32) = nI 0 from rfl, nI_ltP (by omega) (by omega)]; exact hn) (xo_g k0 (xo_g k0 (xo_lt ?_)))
  rw [nI_p _ (by omega) hn]
  have i1 : iw (fun a => a = X) h (yi h X 9 (nI (zun Z - 1))) := iw_yi _ _ _ _ rfl
  have e9 : xi (yi h X 9 (nI (zun Z - 1))) X 9 = nI (zun Z - 1) := xi_yi1 _ _ _ _
  have e8 : ∀ k, k ≠ 9 → xi (yi h X 9 (nI (zun Z - 1))) X k = xi h X k := fun k hk => xi_yi2 _ _ (Or.inr hk)
  have M1 := x.ci.iw i1 (fun a q => by omega)
  have c1 := CR_iw (u10 (zun Z - 1) (by omega)) i1 (by omega)
  generalize yi h X 9 (nI (zun Z - 1)) = h1 at i1 e9 e8 M1 c1 ⊢
  have k1 : xk h1 X = 9 := by rw [i1.k]; exact k0
  refine xo_g k1 (xo_n (by rw [i1.r]; exact x.w5) (xo_g k1 (xo_n (by rw [i1.r]; exact r7.1) (xo_g k1 (xo_g k1 ?_)))))
  rw [e9]
  refine xo_eb (FX8_undoPlace_v k1 (by rw [e8 _ (by decide)]; exact u8) hf (by omega)) (xo_g ⟨by rw [i1.k]; exact r7.2.1, by rw [i1.n, r7.2.2]; exact xin_nI (by omega) (by omega)⟩ ?_)
  rw [xz_nI (by omega)]
  refine xo_n (by rw [i1.r]; exact rr.1) (xo_g M1.wl.1 (xo_b (FX7_takeState_o M1 (z.2.2.1.2 _ (by omega)) c1 (by rw [i1.k]; exact rr.2.1) (by rw [i1.n]; exact rr.2.2) (by omega)) (fun _ h2 q2 => ?_)))
  obtain ⟨i2, M2⟩ := q2
  have f2 : ∀ k, xi h2 X k = xi h1 X k := fun k => i2.i _ (by unfold rTS; omega)
  have i3 : iw (fun a => a = X ∨ rTS w a) h h2 := i1.trans i2 (fun a q => Or.inl q) (fun a q => Or.inr q)
  refine xo_g (by rw [i2.k]; exact k1) (xo_v ⟨by rw [f2]; exact e9, i3.wide (fun a q => by unfold rTS at q; unfold rXa; omega), w, s, f, ?_⟩)
  refine XI_set x i3 (fun a q => q.elim Or.inl (fun q => Or.inr (Or.inl q))) (fun k k1 k2 k3 => (f2 k).trans (e8 k k2)) M2 ⟨⟨hf, ?_, ?_⟩, fun j hj => ?_⟩ ?_
  · rw [f2, e8 _ (by decide)]; exact u8
  · rw [f2]; exact e9
  · have hj : j < zun Z - 1 := hj
    exact CR_iw (u10 j (by omega)) i3 (by unfold rTS; omega)
  · exact XK_iw (Z := Z) x.2.2.2.2.2.1 i3 (fun a q1 q2 => by unfold rTS; omega) (by rw [f2, e8 _ (by decide)])
theorem C_save (x : XI h X w s f Z) (z : WZ Z) (hl : zld Z = true) {p : Nat} (hp : p < 2) : xo (FX8_save E X (nI p) h) (fun r h' => r = nI (cnt (lawS (zS Z) (zT Z)) 8) ∧ iw (rXa X) h h' ∧ ∃ w s f, XI h' X w s f (zsv Z p)) := by
  have ws := x.ws
  obtain ⟨⟨hf, u8, u9⟩, u10⟩ := x.2.2.2.2.1
  have k0 := x.k
  have r10 := x.1.1.2.2.2.2.1
  have rr := x.1.1.2.2.2.2.2.1 p hp
  have h6 := x.ci.1.1.1.2.1
  unfold FX8_save
  refine xo_g k0 (xo_eb (FX8_demandText_v x hl) (xo_jn (xo_jn (xo_f (by rw [nI_lt0 (by omega)]; exact id) (xo_f (by rw [show (2 : Int32) = nI 2 from rfl, nI_leP (by omega) (by omega)]; omega) (xo_eb (show FX8_demandThere E 1 h = xv () h from rfl) (xo_g k0 (xo_n x.w5 (xo_g k0 (xo_n r10.1 (xo_g ⟨r10.2.1, by rw [r10.2.2]; exact xin_nI (by omega) (by omega)⟩ ?_)))))))))))
  rw [xz_nI (by omega)]
  refine xo_n rr.1 (xo_g x.wl.1 (xo_b (FX7_giveState_o x.ci rr.2.1 rr.2.2 (by omega)) (fun _ h1 q1 => ?_)))
  obtain ⟨i1, c1⟩ := q1
  have k1 : xk h1 X = 9 := by rw [i1.k]; exact k0
  have f1 : ∀ k, xi h1 X k = xi h X k := fun k => i1.i _ (by omega)
  refine xo_g k1 (xo_g k1 (xo_lt ?_))
  rw [f1]
  have j2 : iw (fun a => a = X) h1 (yi h1 X 11 (xi h X 11 ||| 1 <<< (nI p &&& 31))) := iw_yi _ _ _ _ rfl
  have e11 : xi (yi h1 X 11 (xi h X 11 ||| 1 <<< (nI p &&& 31))) X 11 = xi h X 11 ||| sh p := xi_yi1 _ _ _ _
  have e8 : ∀ k, k ≠ 11 → xi (yi h1 X 11 (xi h X 11 ||| 1 <<< (nI p &&& 31))) X k = xi h X k := fun k hk => (xi_yi2 _ _ (Or.inr hk)).trans (f1 k)
  generalize yi h1 X 11 (xi h X 11 ||| 1 <<< (nI p &&& 31)) = h2 at j2 e11 e8 ⊢
  have i2 : iw (fun a => a = X + 220 + p ∨ a = X) h h2 := i1.trans j2 (fun a q => Or.inl q) (fun a q => Or.inr q)
  have M2 := x.ci.iw i2 (fun a q => by omega)
  refine xo_g (by rw [i2.k]; exact k0) (xo_n (by rw [i2.r]; exact x.w5) (xo_g M2.wl.1 (xo_eb (FX7_lawfulModules_v M2) (xo_eb (FJ6_bitCount_v (lawS_in _ h6)) (xo_v ⟨rfl, i2.wide (fun a q => by unfold rXa; omega), w, s, f, ?_⟩)))))
  refine XI_set x i2 (fun a q => by omega) (fun k k1 k2 k3 => e8 k k3) M2 (XU_iw (Z := Z) x.2.2.2.2.1 i2 (fun a q1 q2 => by omega) (e8 _ (by decide)) (e8 _ (by decide))) (fun i hi => ?_)
  rw [e11, mb_or, mb_sh (by omega)]
  show _ = (if i = p then some (zT Z) else zk Z i).isSome ∧ ∀ T, (if i = p then some (zT Z) else zk Z i) = some T → _
  by_cases c : i = p
  · rw [if_pos c]
    refine ⟨by rw [c, decide_eq_true rfl, Bool.or_true]; rfl, fun T e => ?_⟩
    cases e
    rw [c]
    exact CR_iw c1 j2 (by omega)
  · rw [if_neg c]
    have q := x.2.2.2.2.2.1 i hi
    refine ⟨by rw [decide_eq_false c, Bool.or_false]; exact q.1, fun T e => CR_iw (q.2 T e) i2 (by omega)⟩
theorem C_restore_0 (x : XI h X w s f Z) {p : Nat} (hp : p < 2) (hk : zk Z p = none) : FX8_restore E X (nI p) h = xx 0 h := by
  have k0 := x.k
  have q := (x.2.2.2.2.2.1 p hp).1
  rw [hk] at q
  unfold FX8_restore
  rw [xjn_d, xjn_d, if_neg (show ¬ nI p < 0 by rw [nI_lt0 (by omega)]; exact id), if_neg (show ¬ (2 : Int32) ≤ nI p by rw [show (2 : Int32) = nI 2 from rfl, nI_leP (by omega) (by omega)]; omega)]
  show xb (FX8_demandThere E 1 h) _ = _
  rw [show FX8_demandThere E 1 h = xv () h from rfl, xb_v, xg_t k0, FX8_isIn_v _ (by omega), xb_v, q]
  rfl
theorem C_restore (x : XI h X w s f Z) (z : WZ Z) {p : Nat} (hp : p < 2) {T : ST} (hk : zk Z p = some T) : xo (FX8_restore E X (nI p) h) (fun r h' => r = nI (cnt (lawS (zS Z) T) 8) ∧ iw (rXa X) h h' ∧ ∃ w s f, XI h' X w s f (zre Z T)) := by
  have ws := x.ws
  have k0 := x.k
  have r10 := x.1.1.2.2.2.2.1
  have rr := x.1.1.2.2.2.2.2.1 p hp
  have h6 := x.ci.1.1.1.2.1
  have q := x.2.2.2.2.2.1 p hp
  unfold FX8_restore
  refine xo_jn (xo_jn (xo_f (by rw [nI_lt0 (by omega)]; exact id) (xo_f (by rw [show (2 : Int32) = nI 2 from rfl, nI_leP (by omega) (by omega)]; omega) (xo_eb (show FX8_demandThere E 1 h = xv () h from rfl) (xo_g k0 (xo_eb (FX8_isIn_v _ (by omega)) ?_))))))
  rw [q.1, hk]
  refine xo_f (show ¬ bI true = (0 : Int32) by decide) (xo_g k0 (xo_n x.w5 (xo_g k0 (xo_n r10.1 (xo_g ⟨r10.2.1, by rw [r10.2.2]; exact xin_nI (by omega) (by omega)⟩ ?_)))))
  rw [xz_nI (by omega)]
  refine xo_n rr.1 (xo_g x.wl.1 (xo_b (FX7_takeState_o x.ci (z.2.2.2.1 p T hp hk) (q.2 T hk) rr.2.1 rr.2.2 (by omega)) (fun _ h1 q1 => ?_)))
  obtain ⟨i1, M1⟩ := q1
  have k1 : xk h1 X = 9 := by rw [i1.k]; exact k0
  have f1 : ∀ k, xi h1 X k = xi h X k := fun k => i1.i _ (by unfold rTS; omega)
  have eF : FX8_forgetChanges E X h1 = xv () (yi (yi h1 X 8 0) X 9 0) := by
    unfold FX8_forgetChanges
    rw [xg_t k1, xlt_d, xg_t (show xk (yi h1 X 8 0) X = 9 from k1), xlt_d]
  refine xo_g k1 (xo_eb eF ?_)
  have j2 : iw (fun a => a = X) h1 (yi (yi h1 X 8 0) X 9 0) := (iw_yi (A := fun a => a = X) _ _ _ _ rfl).yi _ _ _ rfl
  have e9 : xi (yi (yi h1 X 8 0) X 9 0) X 9 = 0 := xi_yi1 _ _ _ _
  have e8 : xi (yi (yi h1 X 8 0) X 9 0) X 8 = 0 := (xi_yi2 _ _ (Or.inr (by decide))).trans (xi_yi1 _ _ _ _)
  have ek : ∀ k, k ≠ 8 → k ≠ 9 → xi (yi (yi h1 X 8 0) X 9 0) X k = xi h X k := fun k q1 q2 => (xi_yi2 _ _ (Or.inr q2)).trans ((xi_yi2 _ _ (Or.inr q1)).trans (f1 k))
  generalize yi (yi h1 X 8 0) X 9 0 = h2 at j2 e9 e8 ek ⊢
  have i2 : iw (fun a => rTS w a ∨ a = X) h h2 := i1.trans j2 (fun a q => Or.inl q) (fun a q => Or.inr q)
  have M2 := M1.iw j2 (fun a q => by omega)
  refine xo_g (by rw [i2.k]; exact k0) (xo_n (by rw [i2.r]; exact x.w5) (xo_g M2.wl.1 (xo_eb (FX7_lawfulModules_v M2) (xo_eb (FJ6_bitCount_v (lawS_in _ h6)) (xo_v ⟨rfl, i2.wide (fun a q => by unfold rTS at q; unfold rXa; omega), w, s, 0, ?_⟩)))))
  refine XI_set x i2 (fun a q => q.elim (fun q => Or.inr (Or.inl q)) Or.inl) (fun k k1 k2 k3 => ek k k1 k2) M2 ⟨⟨by omega, e8, e9⟩, fun i hi => absurd hi (Nat.not_lt_zero _)⟩ (XK_iw (Z := Z) x.2.2.2.2.2.1 i2 (fun a q1 q2 => by unfold rTS; omega) (ek _ (by decide) (by decide)))
end CHE
