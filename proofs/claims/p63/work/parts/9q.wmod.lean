/-! The World made: a module. -/
set_option linter.unusedVariables false
section WMD
variable {E : XG} {h h' h0 : XH} {c d s n k : Nat} {gb bm ab : Nat → Nat} {S : SD} {T : ST}
theorem WT_m {u lo : Nat} {f : Nat → Nat} {e : Nat → Nat → Nat} {T2 : ST} (W : WS S) (wt : WT S T) (a0 : sna S = 0) (at' : AT S T u lo f e T2) (hf : ∀ a, a < sgn S u → f a < sgn S lo) (he : ∀ y a, y < sgn S lo → a < sgn S u → e y a < sgn S u) : WT (mS S u lo) T2 := by
  obtain ⟨t1, t2, t3, t4⟩ := at'
  refine ⟨fun m a hm ha => ?_, fun m g a hm hg ha => ?_, fun a x ha hx => ?_, fun a x ha hx => ?_⟩
  · have hm : m < snm S + 1 := hm
    rw [mS_nu] at ha
    rw [mS_nl]
    by_cases q : m = snm S
    · rw [if_pos q] at ha ⊢
      rw [q, t1]; exact hf a ha
    · rw [if_neg q] at ha ⊢
      rw [(t3 m q).1]; exact wt.1 m a (by omega) ha
  · have hm : m < snm S + 1 := hm
    rw [mS_nu] at ha ⊢
    rw [mS_nl] at hg
    by_cases q : m = snm S
    · rw [if_pos q] at ha hg ⊢
      rw [q, t2 g a hg ha]; exact he g a hg ha
    · rw [if_neg q] at ha hg ⊢
      rw [(t3 m q).2]; exact wt.2.1 m g a (by omega) hg ha
  · have ha : a < sna S := ha
    omega
  · have ha : a < sna S := ha
    omega
/-- the Module put -/
theorem WC_addm {M z u lo nl2 cc uu : Nat} {f : Nat → Nat} {e : Nat → Nat → Nat} {T2 : ST} {D2 : Nat → Int32} {l2 : List Nat} (H : MH h0 c d s M z (gb u) (gb lo) (sgn S u) (sgn S lo) gb bm ab S T) (m : MS h0 c d s n M z (gb u) (gb lo) h k (dSt (dN S u lo) f e) cc uu l2) (hi : xi h M 0 = nI u ∧ xi h M 1 = nI lo) (a0 : sna S = 0) (m6 : snm S < 6) (hu : u < sng S) (hl : lo < sng S) (rd : RD l2 nl2 (mS S u lo) T2 D2) (at' : AT S T u lo f e T2) (N : NM3 S) : WC (yi (yr h (c + 4) (snm S) (some M)) c 6 (nI (snm S + 1))) c gb (fun m => if m = snm S then M else bm m) ab (mS S u lo) T2 d s n k l2 nl2 D2 := by
  obtain ⟨w, r0, sk⟩ := MS_w H m
  have W := w.ws
  have lm := m.2.2.2
  have dr := m.2.2.1
  obtain ⟨A, sb, hA⟩ := m.1
  have t := m.2.1.t
  obtain ⟨⟨w0, o⟩, -, ⟨h1, h2⟩, ⟨h3, h4⟩, h5, h6⟩ := H
  have o4 := o.2.2.2
  obtain ⟨b1, b2, b3, b4, b5, b6, b7⟩ := lm.w
  have wt : WT (mS S u lo) T2 := WT_m W w.wt a0 at' b6 b7
  have q := lM_eq (d' := mdS (mS S u lo) T2 (snm S)) lm ⟨by show sgn S (smu (mS S u lo) (snm S)) = sgn S u; rw [mS_n.1], by show sgt S (smu (mS S u lo) (snm S)) = sgt S u; rw [mS_n.1], by show sgv S (smu (mS S u lo) (snm S)) = sgv S u; rw [mS_n.1], by show sgn S (sml (mS S u lo) (snm S)) = sgn S lo; rw [mS_n.2], by show sgt S (sml (mS S u lo) (snm S)) = sgt S lo; rw [mS_n.2], by show sgv S (sml (mS S u lo) (snm S)) = sgv S lo; rw [mS_n.2]⟩ (fun a _ => at'.1 a) (fun g a hg ha => at'.2.1 g a hg ha)
  have sm : ∀ a, ¬ a = c → ¬ a = c + 4 → smC a h (yi (yr h (c + 4) (snm S) (some M)) c 6 (nI (snm S + 1))) := fun a a1 a2 => smC_t (smC_yr a2) (smC_yi a1)
  have kc := w.k
  have k4 := w.k4.1
  have kA := sb.ka
  have tcc' : tcc T2 = tcc T := congrArg (fun z => z.2.2) at'.2.2.2
  refine ⟨lW_addm w o a0 m6 hu hl ⟨at'.2.2.1, tcc'⟩ q hi (by omega) wt, ⟨DR_sm dr (sm d (by omega) (by omega)) (sm s (by omega) (by omega)), h1, h2⟩, ⟨?_, A, SB_sm sb (sm _ (by omega) (by omega)) (sm A (fun z => by rw [z] at kA; omega) (fun z => by rw [z] at kA; omega)) (Nat.le_refl _), hA⟩, rd, NM3_m N⟩
  rw [xr_yi, xr_yr2 _ _ (Or.inl (by omega))]
  exact r0
end WMD
