/-! The World made: its modules. -/
set_option linter.unusedVariables false
section WMO
variable {E : XG} {h h' h0 : XH} {c d s n k : Nat} {gb mb ab : Nat → Nat} {S : SD} {T : ST}
/-- a Module as it is made -/
def dN (S : SD) (u lo : Nat) : MD := (sgn S u, sgt S u, sgv S u, sgn S lo, sgt S lo, sgv S lo, fun _ => 0, fun _ a => a)
/-- the boundaries of a module are drawn, written, told -/
theorem wbd_o {M z u lo k6 : Nat} {v14 : Int32} {l1 : List Nat} (H : MH h0 c d s M z (gb u) (gb lo) (sgn S u) (sgn S lo) gb mb ab S T) (hu : u < sng S) (hl : lo < sng S) (ms : MS h0 c d s n M z (gb u) (gb lo) h k6 (dN S u lo) 6 (6 * 1840) l1) (hk : k6 + 16 < 1000000) (ll : l1.length ≤ 800) (hv : v14 = 0 ∨ (v14 = 1 ∧ u = lo)) {α : Type} {Q : α → XH → Prop} {K : XH → XP α} (hK : ∀ h29 f k', (∀ a, a < sgn S u → f a < sgn S lo) → MS h0 c d s n M z (gb u) (gb lo) h29 k' (dSt (dN S u lo) f (fun _ a => a)) 22 (22 * 1840) (dgT f l1 (sgn S u)) → k' ≤ k6 + 16 → xo (K h29) Q) :
    xo (xlp (fun again131 (s131 : Int32) h29 => xg (xk h29 M = 22) <| xnn (xr h29 M 5) fun w30 => xg (xk h29 w30 = 12) <| if ((Int32.ofNat (xn h29 w30)) : Int32) ≤ s131 then (K h29) else (xg (xk h29 M = 22) <| xnn (xr h29 M 5) fun w70 => xjn (fun (v71 : Int32) (h72 : XH) => xg (xk h72 w70 = 12 ∧ xin s131 (xn h72 w70)) <| xlt (yi h72 w70 (s131 : Int32).toNatClampNeg v71) fun h73 => xg (xk h73 c = 23) <| xnn (xr h73 c 0) fun w74 => xg (xk h73 w74 = 24) <| xb (FJ4_append_cf468 E w74 32 h73) fun v75 h76 => xg (xk h76 M = 22) <| xnn (xr h76 M 5) fun w77 => xg (xk h76 w77 = 12 ∧ xin s131 (xn h76 w77)) <| xg (xk h76 v75 = 24) <| xb (FJ4_append_bf812 E v75 (xi h76 w77 (s131 : Int32).toNatClampNeg) h76) fun v78 h79 => again131 (s131 + 1) h79) fun (j187 : Int32 → XH → XP α) => if (v14 : Int32) = 0 then (xg (xk h29 d = 21) <| xb (FX10_next E d 0 19 h29) fun v80 h81 => if (v80 : Int32) = 0 then (xg (xk h81 c = 23) <| xnn (xr h81 c 1) fun w82 => xg (xk h81 w82 = 19 ∧ xin (nI lo) (xn h81 w82)) <| xnn (xr h81 w82 (nI lo : Int32).toNatClampNeg) fun w83 => xg (xk h81 w83 = 18) <| xg (xk h81 d = 21) <| xb (FX10_next E d 0 ((Int32.ofNat (xn h81 w83)) - 1) h81) fun v84 h85 => j187 v84 h85) else (j187 0 h81)) else (j187 s131 h29))) xfu 0 h) Q := by
  have W := H.1.1.ws
  have u8 := (W.2.1 u hu).1
  have l8 := (W.2.1 lo hl).1
  refine xlp_inv (Po := fun m => xo m Q) (fun i st h' => st = nI i ∧ ∃ f k', (∀ x, x < i → f x < sgn S lo) ∧ MS h0 c d s n M z (gb u) (gb lo) h' k' (dSt (dN S u lo) (fun x => if x < i then f x else 0) (fun _ a => a)) (6 + 2 * i) ((6 + 2 * i) * 1840) (dgT f l1 i) ∧ k' ≤ k6 + 2 * i) (sgn S u) (by omega) (fun i st h29 ag hi J again => ?_) ⟨rfl, fun _ => 0, k6, fun x hx => absurd hx (Nat.not_lt_zero _), ⟨ms.1, ms.2.1, ms.2.2.1, lM_eq ms.2.2.2 ⟨rfl, rfl, rfl, rfl, rfl, rfl⟩ (fun a _ => by
    show (if a < 0 then (0 : Nat) else 0) = 0
    split <;> rfl) (fun _ _ _ _ => rfl)⟩, Nat.le_refl _⟩
  obtain ⟨rfl, f, k', hf, m29, hk'⟩ := J
  have M29 := m29.2.2.2
  refine xo_g M29.k (xo_n M29.r5 (xo_g M29.kb ?_))
  by_cases e : i = sgn S u
  · refine xo_t (by rw [M29.nb, e]; exact Int32.le_refl _) (hK h29 f k' (fun a ha => hf a (by omega)) ?_ (by omega))
    have q : MS h0 c d s n M z (gb u) (gb lo) h29 k' (dSt (dN S u lo) f (fun _ a => a)) (6 + 2 * i) ((6 + 2 * i) * 1840) (dgT f l1 i) := ⟨m29.1, m29.2.1, m29.2.2.1, lM_eq M29 ⟨rfl, rfl, rfl, rfl, rfl, rfl⟩ (fun a ha => (if_pos (by rw [e]; exact ha)).symm) (fun _ _ _ _ => rfl)⟩
    rw [e] at q
    exact q.more (by omega) (by omega)
  · have hlt : i < sgn S u := by omega
    refine xo_f (by rw [M29.nb]; exact nI_ge (show i < sgn S u from hlt) (by show sgn S u < 2 ^ 31; omega)) (xo_g M29.k (xo_n M29.r5 ?_))
    refine xo_jk1 (R := fun v h72 => ∃ b k2, v = nI b ∧ b < sgn S lo ∧ MS h0 c d s n M z (gb u) (gb lo) h72 k2 (dSt (dN S u lo) (fun x => if x < i then f x else 0) (fun _ a => a)) (6 + 2 * i) ((6 + 2 * i) * 1840) (dgT f l1 i) ∧ k2 ≤ k6 + 2 * (i + 1)) (fun v71 h72 z => ?_) (fun j K' => ?_)
    · obtain ⟨b, k2, rfl, hb, m72, hk2⟩ := z
      have M72 := m72.2.2.2
      refine xo_g (M72.bg hlt) (xo_wat (by omega) (fun h73 e73 => ?_))
      have m73 := MS_bd H m72 hlt hb
      rw [← e73] at m73
      obtain ⟨w73, r73, s73⟩ := MS_w H m73
      refine xo_g w73.k (xo_n r73 (xo_g s73 (xo_b (app_char (MS_p m73) (x := 32) (by omega) (by rw [dgT_len]; omega)) (fun v75 h76 y => ?_))))
      obtain ⟨rfl, p76⟩ := y
      have m76 := MS_a H m73 p76
      have M76 := m76.2.2.2
      refine xo_g M76.k (xo_n M76.r5 (xo_g (M76.bg hlt) (xo_g (MS_w H m76).2.2 ?_)))
      rw [show xi h76 (M + 1) (nI i).toNatClampNeg = nI b from (M76.bv hlt).trans (congrArg nI (if_pos rfl))]
      refine xo_b (app_int (MS_p m76) (v := b) (by omega) (by rw [List.length_append, dgT_len]; simp only [List.length_singleton]; omega)) (fun v78 h79 y => ?_)
      obtain ⟨-, p79⟩ := y
      have m79 := MS_a H m76 p79
      rw [nI_s]
      refine again hlt _ _ ⟨rfl, fun x => if x = i then b else f x, k2, fun x hx => ?_, ?_, hk2⟩
      · dsimp only
        by_cases ex : x = i
        · rw [if_pos ex]; exact hb
        · rw [if_neg ex]; exact hf x (by omega)
      · have et : dgT (fun x => if x = i then b else f x) l1 (i + 1) = (dgT f l1 i ++ [32]) ++ [48 + b] := by
          show (dgT (fun x => if x = i then b else f x) l1 i ++ [32]) ++ [48 + (if i = i then b else f i)] = _
          rw [if_pos rfl, dgT_congr i (fun j hj => (if_neg (by omega) : (if j = i then b else f j) = f j))]
        rw [et]
        have q : MS h0 c d s n M z (gb u) (gb lo) h79 k2 (dSt (dN S u lo) (fun x => if x < i + 1 then (if x = i then b else f x) else 0) (fun _ a => a)) _ _ ((dgT f l1 i ++ [32]) ++ [48 + b]) := ⟨m79.1, m79.2.1, m79.2.2.1, lM_eq m79.2.2.2 ⟨rfl, rfl, rfl, rfl, rfl, rfl⟩ (fun a _ => ?_) (fun _ _ _ _ => rfl)⟩
        · exact q.more (by omega) (by omega)
        · show (if a < i + 1 then (if a = i then b else f a) else 0) = if a = i then b else if a < i then f a else 0
          by_cases ea : a = i
          · rw [if_pos (by omega), if_pos ea, if_pos ea]
          · rw [if_neg ea, if_neg ea]
            by_cases eb : a < i
            · rw [if_pos (by omega), if_pos eb]
            · rw [if_neg (by omega), if_neg eb]
    · rcases hv with hv | ⟨hv, hul⟩
      · refine xo_t hv (xo_g m29.2.2.1.1.1 (xo_b (next_k (E := E) m29.2.2.1 (by omega) (lo := 0) (hi := 19) rfl rfl (by omega) (by omega)) (fun v80 h81 y => ?_)))
        obtain ⟨⟨r, rfl, -, hr⟩, e81⟩ := y
        have m81 := MS_d H m29
        rw [← e81] at m81
        by_cases r0 : r = 0
        · obtain ⟨w81, -⟩ := MS_w H m81
          refine xo_t (by rw [r0]; rfl) (xo_g w81.k (xo_n w81.r1 ?_))
          rw [lgrow w81 hl]
          have tb := w81.tb hl
          refine xo_g tb.1.1.1 (xo_g m81.2.2.1.1.1 (xo_b (next_k (E := E) m81.2.2.1 (by omega) (lo := 0) (hi := sgn S lo - 1) rfl (by rw [tb.1.1.2]; exact nI_sub (b := 1) l8.1) (by omega) (by omega)) (fun v84 h85 y => ?_)))
          obtain ⟨⟨b, rfl, -, hb⟩, e85⟩ := y
          have m85 := MS_d H m81
          rw [← e85] at m85
          exact K' _ _ ⟨b, _, rfl, by omega, m85, by omega⟩
        · exact xo_f (by rw [nI_eq0 (by omega)]; exact r0) (K' _ _ ⟨0, _, rfl, l8.1, m81, by omega⟩)
      · exact xo_f (by rw [hv]; decide) (K' _ _ ⟨i, k', rfl, by rw [← hul]; exact hlt, m29, by omega⟩)
end WMO
