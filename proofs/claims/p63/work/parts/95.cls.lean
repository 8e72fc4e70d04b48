/-! Classes, found one element after the other. -/
set_option linter.unusedVariables false
section CLS
variable {d : MD}
theorem clF_mono {i : Nat} : ∀ j, (clF d i).1 ≤ (clF d (i + j)).1 ∧ ∀ a, a < (clF d i).1 → (clF d (i + j)).2.2 a = (clF d i).2.2 a
  | 0 => ⟨Nat.le_refl _, fun _ _ => rfl⟩
  | j + 1 => by
    obtain ⟨h1, h2⟩ := clF_mono (i := i) j
    rw [← Nat.add_assoc, clF_s]
    split
    · refine ⟨Nat.le_trans h1 (Nat.le_succ _), fun a ha => ?_⟩
      show (if a = (clF d (i + j)).1 then i + j else (clF d (i + j)).2.2 a) = _
      rw [if_neg (by omega)]
      exact h2 a ha
    · exact ⟨h1, h2⟩
theorem LW.new (l : LW d) {g : Nat} (hg : g < dnl d) (e : (clF d g).2.1 g = -1) : (∀ f, f < g → cst d f g = false) ∧ nmS d g = (clF d g).1 ∧ (clF d (g + 1)).1 = (clF d g).1 + 1 ∧ lsS d (nmS d g) = g ∧ nmS d g < ccN d := by
  obtain ⟨p1, p2, p3, p4, p5⟩ := clP_all l g (by omega)
  have h8 := l.l8
  have hle := clF_le d g
  have s1 : (clF d (g + 1)).1 = (clF d g).1 + 1 := by rw [clF_s, if_pos e]
  have s2 : (clF d (g + 1)).2.2 (clF d g).1 = g := by rw [clF_s, if_pos e]; exact if_pos rfl
  obtain ⟨m1, m2⟩ := clF_mono (d := d) (i := g + 1) (dnl d - (g + 1))
  rw [show g + 1 + (dnl d - (g + 1)) = dnl d by omega] at m1 m2
  have hc : (clF d g).1 < ccN d := by unfold ccN; omega
  have hl : lsS d (clF d g).1 = g := by unfold lsS; rw [m2 _ (by omega), s2]
  have hn : nmS d g = (clF d g).1 := l.nm_of hc hg (by rw [hl]; exact l.c1 hg)
  refine ⟨fun f hf => ?_, hn, s1, by rw [hn]; exact hl, by rw [hn]; exact hc⟩
  cases hb : cst d f g
  · rfl
  · exfalso
    rcases p1 f (by omega) with q | ⟨a, a1, a2, a3⟩
    · exact p4 f hf q
    · have := p3 a a1
      have q2 := p2 a g a1 hg (l.c3 (by omega) a3 hb)
      rw [e] at q2
      exact nI_ng1 (by omega) q2.symm
theorem LW.old (l : LW d) {g : Nat} (hg : g < dnl d) (e : ¬ (clF d g).2.1 g = -1) : (∃ f, f < g ∧ cst d f g = true) ∧ nmS d g < (clF d g).1 ∧ (clF d (g + 1)).1 = (clF d g).1 := by
  obtain ⟨p1, p2, p3, p4, p5⟩ := clP_all l g (by omega)
  have s1 : (clF d (g + 1)).1 = (clF d g).1 := by rw [clF_s, if_neg e]
  obtain ⟨m1, m2⟩ := clF_mono (d := d) (i := g) (dnl d - g)
  rw [show g + (dnl d - g) = dnl d by omega] at m1 m2
  rcases p1 g hg with q | ⟨a, a1, a2, a3⟩
  · exact absurd q e
  · have hn : nmS d g = a := l.nm_of (by unfold ccN; omega) hg (by unfold lsS; rw [m2 a a1]; exact a3)
    exact ⟨⟨_, p3 a a1, a3⟩, by rw [hn]; exact a1, s1⟩
/-- the number that stood when class a was found -/
theorem LW.at_ls (l : LW d) : ∀ i, i ≤ dnl d → ∀ a, a < (clF d i).1 → (clF d ((clF d i).2.2 a)).1 = a ∧ (clF d ((clF d i).2.2 a)).2.1 ((clF d i).2.2 a) = -1 ∧ (clF d i).2.2 a < i
  | 0, _, a, ha => absurd ha (Nat.not_lt_zero _)
  | i + 1, hi, a, ha => by
    have ih := LW.at_ls l i (by omega)
    by_cases e : (clF d i).2.1 i = -1
    · rw [clF_s, if_pos e] at ha ⊢
      have ha : a < (clF d i).1 + 1 := ha
      show (clF d (if a = (clF d i).1 then i else (clF d i).2.2 a)).1 = a ∧ (clF d (if a = (clF d i).1 then i else (clF d i).2.2 a)).2.1 (if a = (clF d i).1 then i else (clF d i).2.2 a) = -1 ∧ (if a = (clF d i).1 then i else (clF d i).2.2 a) < i + 1
      by_cases ea : a = (clF d i).1
      · rw [if_pos ea]; exact ⟨ea.symm, e, Nat.lt_succ_self _⟩
      · rw [if_neg ea]
        obtain ⟨q1, q2, q3⟩ := ih a (by omega)
        exact ⟨q1, q2, by omega⟩
    · rw [clF_s, if_neg e] at ha ⊢
      obtain ⟨q1, q2, q3⟩ := ih a ha
      exact ⟨q1, q2, by omega⟩
/-- the least of a class -/
theorem LW.least (l : LW d) {a : Nat} (ha : a < ccN d) : nmS d (lsS d a) = a ∧ lsS d a < dnl d ∧ ∀ g, g < lsS d a → ¬ nmS d g = a := by
  obtain ⟨q1, q2, q3⟩ := LW.at_ls l (dnl d) (Nat.le_refl _) a ha
  refine ⟨l.nm_ls ha, q3, fun g hg e => ?_⟩
  have q3' : lsS d a < dnl d := q3
  have hgl : g < dnl d := by omega
  have key : nmS d g < (clF d (lsS d a)).1 := by
    have m := (clF_mono (d := d) (i := g + 1) (lsS d a - (g + 1))).1
    rw [show g + 1 + (lsS d a - (g + 1)) = lsS d a by omega] at m
    by_cases eg : (clF d g).2.1 g = -1
    · obtain ⟨-, n1, n2, -⟩ := l.new hgl eg; omega
    · obtain ⟨-, n1, n2⟩ := l.old hgl eg; omega
  rw [show (clF d (lsS d a)).1 = a from q1] at key
  omega
/-- powers of the least of a class -/
theorem LW.pw_ls (l : LW d) {a : Nat} (ha : a < ccN d) : ∀ i, pw (dtl d) (lsS d a) i < dnl d ∧ nmS d (pw (dtl d) (lsS d a) i) = pw (cpS d) a i
  | 0 => ⟨l.ls ha, l.nm_ls ha⟩
  | i + 1 => by
    obtain ⟨h1, h2⟩ := LW.pw_ls l ha i
    have hla := l.ls ha
    obtain ⟨-, n1, n2⟩ := l.nm h1
    refine ⟨l.gl.cl h1 hla, ?_⟩
    show nmS d (dtl d (pw (dtl d) (lsS d a) i) (lsS d a)) = cpS d (pw (cpS d) a i) a
    rw [← h2]
    unfold cpS
    refine (l.nm_eq (l.gl.cl h1 hla) (l.gl.cl (l.ls n1) hla)).mpr (l.c2 (l.gl.cl (l.ls n1) hla) (l.c4 (l.ls n1) hla n2))
/-- f and g are in one class: what the law asks -/
theorem LW.img (l : LW d) {f g : Nat} (hf : f < dnl d) (hg : g < dnl d) : mb (imgS d) (dtl d (dvl d f) g) = cst d f g := by
  have l8 := l.l8
  have e : ∀ a, a < dnu d → ((dbd d a = dtl d (dvl d f) g) ↔ dtl d f (dbd d a) = g) := fun a ha => by
    have hb := l.bl ha
    constructor
    · intro q
      rw [q, ← l.gl.as hf (l.gl.iv hf) hg, l.gl.ir hf, l.gl.ol hg]
    · intro q
      rw [← q, ← l.gl.as (l.gl.iv hf) hf hb, l.gl.il hf, l.gl.ol hb]
  unfold imgS
  rw [mb_orI]
  unfold cst
  refine anyB_congr (fun a ha => ?_)
  have hb := l.bl ha
  rw [mb_sh (by omega)]
  by_cases q : dtl d (dvl d f) g = dbd d a
  · rw [decide_eq_true q, (e a ha).mp q.symm]; simp
  · rw [decide_eq_false q]
    have : ¬ dtl d f (dbd d a) = g := fun z => q ((e a ha).mpr z).symm
    simp [this]
theorem cd_8 (l : LW d) {a : Nat} (ha : a < ccN d) : 1 ≤ cdS d a ∧ cdS d a ≤ 8 := by
  have := fi_le 7 (fun i => pw (cpS d) a i == 0)
  unfold cdS
  omega
theorem od_8 (t : Nat → Nat → Nat) (a : Nat) : 1 ≤ odS t a ∧ odS t a ≤ 8 := by
  have := fi_le 7 (fun i => pw t a i == 0)
  unfold odS
  omega
/-- a flag that a loop sets -/
theorem flg {h : XH} {R : XP Int32} (P : Nat → Bool) (n : Nat) (x y : Int32) {body : (Int32 × Int32 → XH → XP Int32) → Int32 × Int32 → XH → XP Int32} (hn : n < 9000) (hs : ∀ i, i < n → ∀ ag (s1 : Int32), body ag (s1, nI i) h = ag (if P i then y else s1, nI (i + 1)) h) (he : ∀ ag, body ag (if anyB n P then y else x, nI n) h = R) : xlp body xfu (x, 0) h = R := by
  refine xlp_all (fun i => (if anyB i P then y else x, nI i)) (fun _ => h) n hn (fun i hi ag => ?_) he
  rw [hs i hi, anyB_s]
  cases anyB i P <;> cases P i <;> rfl
theorem xlp1 {σ α : Type} (body : (σ → XH → XP α) → σ → XH → XP α) (s : σ) (h : XH) : xlp body xfu s h = body (xlp body 9999) s h := rfl
end CLS
