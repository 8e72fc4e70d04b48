/-! The law's text told: the class holds what the World holds. -/
set_option linter.unusedVariables false
section TL2
variable {E : XG} {h h' : XH} {X s V c n : Nat} {gb bm ab : Nat → Nat} {l : List Nat} {S : SD} {T T' : ST} {D : Nat → Int32}
theorem WT_te (W : WT S T) (te : TE S T T') : WT S T' := by
  obtain ⟨w1, w2, w3, w4⟩ := W
  obtain ⟨t1, t2, t3, t4, t5⟩ := te
  exact ⟨fun m a hm ha => by rw [← t1 m a hm ha]; exact w1 m a hm ha, fun m g a hm hg ha => by rw [← t2 m g a hm hg ha]; exact w2 m g a hm hg ha, fun a x ha hx => by rw [← t3 a x ha hx]; exact w3 a x ha hx, fun a x ha hx => by rw [← t4 a x ha hx]; exact w4 a x ha hx⟩
theorem lW_te (w : lW h c gb bm ab S T) (te : TE S T T') : lW h c gb bm ab S T' := by
  have w' := WT_te w.wt te
  obtain ⟨t1, t2, t3, t4, t5⟩ := te
  refine ⟨w.1, w.2.1, fun m hm => ⟨(w.2.2.1 m hm).1, (w.2.2.1 m hm).2.1, lM_eq (w.md hm) ⟨rfl, rfl, rfl, rfl, rfl, rfl⟩ (fun a ha => (t1 m a hm ha).symm) (fun g a hg ha => (t2 m g a hm hg ha).symm)⟩, fun a ha => ⟨(w.2.2.2.1 a ha).1, ?_⟩, fun k hk => (w.ac hk).trans (t5 k), w.ws, w'⟩
  obtain ⟨q1, ⟨q2, q3⟩, q4, q5⟩ := w.ar ha
  exact ⟨q1, ⟨q2, fun x hx => (q3 x hx).trans (congrArg nI (t3 a x ha hx))⟩, q4, fun x hx => (q5 x hx).trans (congrArg nI (t4 a x ha hx))⟩
theorem WNm_N (W : WS S) (N : NM3 S) : WNm S := by
  obtain ⟨⟨w1, w2, w3⟩, -⟩ := W
  obtain ⟨n1, n2, n3⟩ := N
  have two : ∀ x k, 97 ≤ x → x ≤ 122 → k < 8 → (1 ≤ [x, 97 + k].length ∧ [x, 97 + k].length ≤ 10) ∧ ∀ c ∈ [x, 97 + k], 97 ≤ c ∧ c ≤ 122 := fun x k hx hx2 hk => by
    refine ⟨⟨by show 1 ≤ 2; omega, by show 2 ≤ 10; omega⟩, fun c hc => ?_⟩
    simp only [List.mem_cons, List.not_mem_nil, or_false] at hc
    omega
  intro s k hs hk
  have s3 : s = 0 ∨ s = 1 ∨ s = 2 := by omega
  rcases s3 with rfl | rfl | rfl
  · have hk : k < sng S := hk
    rw [n1 k hk]
    exact two 103 k (by omega) (by omega) (by omega)
  · have hk : k < snm S := hk
    rw [n2 k hk]
    exact two 109 k (by omega) (by omega) (by omega)
  · have hk : k < sna S := hk
    rw [n3 k hk]
    exact two 97 k (by omega) (by omega) (by omega)
theorem tell_o (x : FBuf h X l 0) (tX : X + 223 ≤ xt h) (q : SR h s V l) (hl : l.length ≤ 850) (hs : X + 223 ≤ s) (hV : X + 223 ≤ V) (ts : s < xt h) (tV : V < xt h) (r : RD l n S T D) (hn : n ≤ 900) (W : WS S) (N : NM3 S) : xo (FL_tell E X s h) (fun v h' => v = nI (snm S) ∧ (∃ T', TE S T T' ∧ XQ h' X S T') ∧ (xi h' X 2 = 0 ∧ xi h' X 3 = -1) ∧ (∀ a, a < X → smC a h h') ∧ CU 47 236 h h') := by
  unfold FL_tell
  refine xo_b (feeds_o (E := E) x tX q (by omega) (Or.inr hs) (Or.inr hV) ts tV) (fun v1 h2 y => ?_)
  obtain ⟨rfl, ⟨n', hn', w, s', f, Z, x2, z2, ez, bz⟩, q2, g2⟩ := y
  refine xo_jk1 (R := fun v h' => v = nI (snm S) ∧ (∃ T', TE S T T' ∧ XQ h' X S T') ∧ (xi h' X 2 = 0 ∧ xi h' X 3 = -1) ∧ (∀ a, a < X → smC a h h') ∧ CU 47 236 h h') (fun v3 h4 y => xo_v y) (fun j K => ?_)
  refine xo_f (by decide) (xo_g q2.1.1 (xo_eb (len_T q2 (by omega)) (xo_g x2.k ?_)))
  have ld := C_load (E := E) x2 z2 (Nat.le_trans tX g2.t) (n := l.length) (by omega)
  obtain ⟨e0, T', te, e1, e2⟩ := RD_end r hn (zBF Z l.length) ⟨by show 0 + l.length ≤ l.length; omega, fun i hi => by
    show zbf Z (0 + i) = _
    rw [Nat.zero_add, bz i (by omega)]
    unfold flL
    rw [if_pos hi]⟩ rfl
  have ld2 : ∃ r h8, FX8_load E X (nI l.length) h2 = some (r, h8) ∧ (LF X s' h2 h8 ∧ LZ h2 h8) ∧ r = .inl (nI (snm S)) ∧ ∃ w s f, XI h8 X w s f (zLd Z S T') := by
    rw [e0, e1, e2] at ld
    exact ld
  obtain ⟨r8, h8, el, ⟨lf, lz⟩, rfl, w8, s8, f8, x8⟩ := ld2
  have sX := x2.1.2.2.2.1
  refine xo_eb (v := nI (snm S)) (h := h8) el (K _ _ ⟨rfl, ⟨T', te, w8, s8, f8, _, x8, zLd_wz z2 (WNm_N W N) T', rfl, rfl, rfl, Nat.le_trans (Nat.le_trans tX g2.t) lf.1⟩, ⟨x8.2.2.2.1.1, x8.2.2.2.1.2.1⟩, fun a ha => smC_t (g2.s (by omega) (by unfold rXa; omega)) (lf.2 a (by have := g2.t; omega) (by omega) (by omega)), ?_⟩)
  have c8 : CU 2 11 h2 h8 := ⟨lf.1, by rw [lz.1.1]; exact Nat.le_refl _, by rw [lz.1.2]; exact Nat.le_refl _⟩
  exact ((CU_gr g2).trans c8).more (by omega) (by omega)
end TL2
