/-! The World made: an Arrow's upper row. -/
set_option linter.unusedVariables false
section WTO
variable {E : XG} {h h' h0 : XH} {c d s n A f o k : Nat} {gb mb ab : Nat → Nat} {S : SD} {T : ST}
/-- the upper row -/
theorem wtop_o {a : Nat} {v18 : Int32} {l1 : List Nat} (H : AH h0 c d s A gb mb ab S T) (hf : f < snm S) (ho : o < snm S) (ms : AX h0 c d s n A f o (nuS S f) (nlS2 S f) h k (fun _ => 0) (fun _ => 0) a (a * 1840) l1) (ll : l1.length ≤ 860) {α : Type} {Q : α → XH → Prop} {K : XH → XP α} (hK : ∀ h29 q, (∀ x, x < nuS S f → q x < nuS S o) → AX h0 c d s n A f o (nuS S f) (nlS2 S f) h29 k q (fun _ => 0) (a + 16) ((a + 16) * 1840) (dgT q l1 (nuS S f)) → xo (K h29) Q) :
    xo (xlp (fun again142 (s142 : Int32) h33 => xg (xk h33 A = 10) <| xnn (xr h33 A 2) fun w34 => xg (xk h33 w34 = 12) <| if ((Int32.ofNat (xn h33 w34)) : Int32) ≤ s142 then (K h33) else (xg (xk h33 A = 10) <| xnn (xr h33 A 2) fun w52 => xjn (fun (v53 : Int32) (h54 : XH) => xg (xk h54 w52 = 12 ∧ xin s142 (xn h54 w52)) <| xlt (yi h54 w52 (s142 : Int32).toNatClampNeg v53) fun h55 => xg (xk h55 c = 23) <| xnn (xr h55 c 0) fun w56 => xg (xk h55 w56 = 24) <| xb (FJ4_append_cf468 E w56 32 h55) fun v57 h58 => xg (xk h58 A = 10) <| xnn (xr h58 A 2) fun w59 => xg (xk h58 w59 = 12 ∧ xin s142 (xn h58 w59)) <| xg (xk h58 v57 = 24) <| xb (FJ4_append_bf812 E v57 (xi h58 w59 (s142 : Int32).toNatClampNeg) h58) fun v60 h61 => again142 (s142 + 1) h61) fun (j182 : Int32 → XH → XP α) => xjn (fun  (h62 : XH) => j182 0 h62) fun (j181 : XH → XP α) => if (v18 : Int32) = 0 then (j181 h33) else (xg (xk h33 (mb o) = 22) <| xnn (xr h33 (mb o) 5) fun w63 => xg (xk h33 w63 = 12) <| if ((Int32.ofNat (xn h33 w63)) : Int32) ≤ s142 then (j181 h33) else (j182 s142 h33)))) xfu 0 h) Q := by
  have W := H.1.1.ws
  obtain ⟨u8, l8⟩ := nu_8 W hf
  obtain ⟨v8, k8⟩ := nu_8 W ho
  have o0 : 0 < nuS S o := (W.2.1 _ (W.2.2.1 o ho).1).1.1
  refine xlp_inv (Po := fun m => xo m Q) (fun i st h' => st = nI i ∧ ∃ q : Nat → Nat, (∀ x, x < i → q x < nuS S o) ∧ AX h0 c d s n A f o (nuS S f) (nlS2 S f) h' k (fun x => if x < i then q x else 0) (fun _ => 0) (a + 2 * i) ((a + 2 * i) * 1840) (dgT q l1 i)) (nuS S f) (by omega) (fun i st h29 ag hi J again => ?_) ⟨rfl, fun _ => 0, fun x hx => absurd hx (Nat.not_lt_zero _), ⟨ms.1, ms.2.1, ms.2.2.1, lA_eq ms.2.2.2 (fun x _ => by
    show (if x < 0 then (0 : Nat) else 0) = 0
    split <;> rfl) (fun _ _ => rfl)⟩⟩
  obtain ⟨rfl, q, hq, m29⟩ := J
  have M29 := m29.2.2.2
  refine xo_g M29.1.1 (xo_n M29.1.2.2.1 (xo_g M29.2.1.1.1 ?_))
  by_cases e : i = nuS S f
  · refine xo_t (by rw [M29.2.1.1.2, e]; exact Int32.le_refl _) (hK h29 q (fun a ha => hq a (by omega)) ?_)
    have r : AX h0 c d s n A f o (nuS S f) (nlS2 S f) h29 k q (fun _ => 0) (a + 2 * i) ((a + 2 * i) * 1840) (dgT q l1 i) := ⟨m29.1, m29.2.1, m29.2.2.1, lA_eq M29 (fun x hx => (if_pos (by rw [e]; exact hx)).symm) (fun _ _ => rfl)⟩
    rw [e] at r
    exact r.more (by omega) (by omega)
  · have hlt : i < nuS S f := by omega
    refine xo_f (by rw [M29.2.1.1.2]; exact nI_ge hlt (by omega)) (xo_g M29.1.1 (xo_n M29.1.2.2.1 ?_))
    refine xo_jk1 (R := fun v h72 => ∃ b, v = nI b ∧ b < nuS S o ∧ h72 = h29) (fun v71 h72 z => ?_) (fun j K' => ?_)
    · obtain ⟨b, rfl, hb, rfl⟩ := z
      refine xo_g ⟨M29.2.1.1.1, by rw [M29.2.1.1.2]; exact xin_nI hlt (by omega)⟩ (xo_wat (by omega) (fun h73 e73 => ?_))
      have m73 := AX_t H m29 (x := i) (v := b)
      rw [← e73] at m73
      obtain ⟨w73, r73, s73⟩ := AX_w H m73
      refine xo_g w73.k (xo_n r73 (xo_g s73 (xo_b (app_char (AX_p m73) (x := 32) (by omega) (by rw [dgT_len]; omega)) (fun v75 h76 y => ?_))))
      obtain ⟨rfl, p76⟩ := y
      have m76 := AX_a H m73 p76
      have M76 := m76.2.2.2
      refine xo_g M76.1.1 (xo_n M76.1.2.2.1 (xo_g ⟨M76.2.1.1.1, by rw [M76.2.1.1.2]; exact xin_nI hlt (by omega)⟩ (xo_g (AX_w H m76).2.2 ?_)))
      rw [show xi h76 (A + 1) (nI i).toNatClampNeg = nI b by rw [xz_nI (by omega)]; exact (M76.2.1.2 i hlt).trans (congrArg nI (if_pos rfl))]
      refine xo_b (app_int (AX_p m76) (v := b) (by omega) (by rw [List.length_append, dgT_len]; simp only [List.length_singleton]; omega)) (fun v78 h79 y => ?_)
      obtain ⟨-, p79⟩ := y
      have m79 := AX_a H m76 p79
      rw [nI_s]
      refine again hlt _ _ ⟨rfl, fun x => if x = i then b else q x, fun x hx => ?_, ?_⟩
      · dsimp only
        by_cases ex : x = i
        · rw [if_pos ex]; exact hb
        · rw [if_neg ex]; exact hq x (by omega)
      · have et : dgT (fun x => if x = i then b else q x) l1 (i + 1) = (dgT q l1 i ++ [32]) ++ [48 + b] := by
          show (dgT (fun x => if x = i then b else q x) l1 i ++ [32]) ++ [48 + (if i = i then b else q i)] = _
          rw [if_pos rfl, dgT_congr i (fun j hj => (if_neg (by omega) : (if j = i then b else q j) = q j))]
        rw [et]
        have r : AX h0 c d s n A f o (nuS S f) (nlS2 S f) h79 k (fun x => if x < i + 1 then (if x = i then b else q x) else 0) (fun _ => 0) _ _ ((dgT q l1 i ++ [32]) ++ [48 + b]) := ⟨m79.1, m79.2.1, m79.2.2.1, lA_eq m79.2.2.2 (fun x _ => ?_) (fun _ _ => rfl)⟩
        · exact r.more (by omega) (by omega)
        · show (if x < i + 1 then (if x = i then b else q x) else 0) = if x = i then b else if x < i then q x else 0
          by_cases ea : x = i
          · rw [if_pos (by omega), if_pos ea, if_pos ea]
          · rw [if_neg ea, if_neg ea]
            by_cases eb : x < i
            · rw [if_pos (by omega), if_pos eb]
            · rw [if_neg (by omega), if_neg eb]
    · have w29 := (AX_w H m29).1
      have mo := (w29.2.2.1 o ho).2.2
      refine xo_jn ?_
      by_cases v0 : v18 = 0
      · exact xo_t v0 (K' _ _ ⟨0, rfl, o0, rfl⟩)
      · refine xo_f v0 (xo_g mo.k (xo_n mo.r5 (xo_g mo.kb ?_)))
        rw [mo.nb]
        by_cases g : nuS S o ≤ i
        · exact xo_t (by show nI (nuS S o) ≤ nI i; rw [nI_leP (by omega) (by omega)]; exact g) (K' _ _ ⟨0, rfl, o0, rfl⟩)
        · exact xo_f (by show ¬ nI (nuS S o) ≤ nI i; rw [nI_leP (by omega) (by omega)]; exact g) (K' _ _ ⟨i, rfl, by omega, rfl⟩)
end WTO
