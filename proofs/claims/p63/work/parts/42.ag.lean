/-! Class and reference answer alike: groups, modules. -/
set_option linter.unusedVariables false
def cmS (e : Nat) : Nat := e + 1
def cmL (e : Nat) : Nat := e
def cmN (e : Nat) : Nat := if e = 0 then 1 else 2
def cmR (e : Nat) : Nat := if e = 1 then 1 else 2
/-- the code of an exception by the order in which the law's wrapper catches; 0: not caught -/
def cmT : List Nat → Nat → Nat
  | [], _ => 0
  | a :: l, e => if e = a then 1 else if cmT l e = 0 then 0 else cmT l e + 1
section AG
variable {E : XG} {h : XH} {X Y O : Nat} {Z : ZD} {cm : Nat → Nat} {FC FM : XH → XP Int32}
theorem XI.rp {w s f : Nat} (x : XI h X w s f Z) {a : Nat} (q : rPW w a) : rXP X a := by
  rcases x.ws with e | e
  · left; rw [← e]; exact q
  · right; rw [← e]; exact q
theorem iw_th {h h2 : XH} {B : Nat → Prop} {a b : Int32} (w : iw B (yi h Y 0 a) h2) (hY : ¬ B Y) : iw B (yi h Y 0 b) (yi h2 Y 0 b) := by
  obtain ⟨g, rfl, hg⟩ := w
  refine ⟨fun c j => if c = Y ∧ j = 0 then b else g c j, rfl, fun c j hc => ?_⟩
  show (if c = Y ∧ j = 0 then b else g c j) = _
  by_cases e : c = Y ∧ j = 0
  · rw [if_pos e, xi_yi, if_pos e]
  · rw [if_neg e, hg c j hc, xi_yi, xi_yi, if_neg e, if_neg e]
theorem dT0b {β : Type} (h : XH) (f : Unit → XH → XP β) : xb (FX8_demandThere E 0 h) f = xx 1 h := rfl
theorem dT1b {β : Type} (h : XH) (f : Unit → XH → XP β) : xb (FX8_demandThere E 1 h) f = f () h := rfl
theorem dF0b {β : Type} (h : XH) (f : Unit → XH → XP β) : xb (FX8_demandFit E 0 h) f = xx 2 h := rfl
theorem dF1b {β : Type} (h : XH) (f : Unit → XH → XP β) : xb (FX8_demandFit E 1 h) f = f () h := rfl
theorem has_t {h : XH} {A n : Nat} {t : Nat → Nat → Nat} (hL : GL h A) (hT : GT h A n t) {a : Nat} (ha : a < n) : FX2_has E A (nI a) h = xv 1 h := by
  have := hT.2.2.1
  rw [FX2_has_v hL hT, inr_nI (by omega) ha]; rfl
theorem has_f {h : XH} {A n : Nat} {t : Nat → Nat → Nat} (hL : GL h A) (hT : GT h A n t) {q : Int32} (hq : inr q n = false) : FX2_has E A q h = xv 0 h := by
  rw [FX2_has_v hL hT, hq]; rfl
theorem cc_eq {n : Nat} {t : Nat → Nat → Nat} {v : Nat → Nat} (s : Int32) (m : Nat) : fld (fun c x => x ||| sh (t (t c m) (v c))) s n = s ||| cjS n t v m := by
  unfold cjS
  rw [← orF_e]
  induction n with
  | zero => rfl
  | succ n ih => rw [fld_s, ih, orF_s]
theorem or_sub {a b : Int32} (h : sub b a) : a ||| b = a := by
  refine sub_antisymm (fun k hk => ?_) sub_or
  rw [mb_or, Bool.or_eq_true] at hk
  rcases hk with q | q
  · exact q
  · exact h k q
/-- conjugates of conjugates -/
theorem cj_sub {n : Nat} {t : Nat → Nat → Nat} {v : Nat → Nat} (G : GA n t v) (hn : n ≤ 8) {a b : Nat} (ha : a < n) (h : mb (cjS n t v b) a = true) (hb : b < n) : sub (cjS n t v a) (cjS n t v b) := by
  intro k hk
  obtain ⟨c, hc, rfl⟩ := (cj_mb G.1 G.2.1 hn hb a).mp h
  obtain ⟨e, he, rfl⟩ := (cj_mb G.1 G.2.1 hn ha k).mp hk
  refine (cj_mb G.1 G.2.1 hn hb _).mpr ⟨t e c, G.cl he hc, ?_⟩
  have q1 := G.cl hc hb
  have q2 := G.iv hc
  have q3 := G.iv he
  have e1 : v (t e c) = t (v c) (v e) := by
    refine (G.vu (G.cl he hc) (G.cl q2 q3) ?_).symm
    rw [G.as he hc (G.cl q2 q3), ← G.as hc q2 q3, G.ir hc, G.ol q3, G.ir he]
  rw [e1, G.as he hc hb, ← G.as (G.cl he q1) q2 q3, G.as he q1 q2]
/-- the classes seen hold with an element its conjugates -/
theorem cc_inv {n : Nat} {t : Nat → Nat → Nat} {v : Nat → Nat} (G : GA n t v) (hn : n ≤ 8) : ∀ i, i ≤ n → ∀ a, a < n → mb (ccS n t v i).1 a = true → sub (cjS n t v a) (ccS n t v i).1 := by
  intro i
  induction i with
  | zero => intro _ a ha h; rw [show (ccS n t v 0).1 = 0 from rfl, mb_0] at h; cases h
  | succ i ih =>
    intro hi a ha h
    have e : ccS n t v (i + 1) = if mb (ccS n t v i).1 i then ccS n t v i else ((ccS n t v i).1 ||| cjS n t v i, (ccS n t v i).2 + 1) := rfl
    rw [e] at h ⊢
    by_cases hm : mb (ccS n t v i).1 i = true
    · rw [if_pos hm] at h ⊢
      exact ih (by omega) a ha h
    · rw [if_neg hm] at h ⊢
      have h : mb ((ccS n t v i).1 ||| cjS n t v i) a = true := h
      rw [mb_or, Bool.or_eq_true] at h
      rcases h with q | q
      · exact sub_trans (ih (by omega) a ha q) sub_or
      · exact sub_trans (cj_sub G hn ha q (by omega)) (fun k hk => by rw [mb_or, hk, Bool.or_true])
end AG
