/-! What is appended. -/
set_option linter.unusedVariables false
section AG
variable {E : XG} {h : XH} {X Y O w s f : Nat} {Z : ZD}
/-- another buffer -/
def zbu (Z : ZD) (n : Nat) (bf : Nat → Nat) : ZD := (zld Z, zS Z, zT Z, (zun Z, zu Z), zk Z, (n, bf), (zer Z, zea Z), (ztl Z, ztx Z))
def byN (v : Int32) (r : Nat) : Nat := ((v >>> (nI (24 - 8 * r) &&& 31)) &&& 255).toNatClampNeg
theorem and255 (x : Int32) : ∃ k, k < 256 ∧ x &&& 255 = nI k := by
  have e := pk_and x (m := 255) 8 (by decide)
  exact ⟨_, Nat.mod_lt _ (by decide), e⟩
theorem byN_e (v : Int32) (r : Nat) : (v >>> (nI (24 - 8 * r) &&& 31)) &&& 255 = nI (byN v r) ∧ byN v r < 256 := by
  obtain ⟨k, hk, e⟩ := and255 (v >>> (nI (24 - 8 * r) &&& 31))
  unfold byN
  rw [e, xz_nI (by omega)]
  exact ⟨rfl, hk⟩
theorem low8 (x : Int32) : (x &&& 255).toInt8 = x.toInt8 := by
  apply Int8.toBitVec_inj.mp
  rw [Int32.toBitVec_toInt8, Int32.toBitVec_toInt8]
  apply BitVec.eq_of_getLsbD_eq
  intro i hi
  rw [BitVec.getLsbD_signExtend, BitVec.getLsbD_signExtend]
  have e : (x &&& 255).toBitVec = x.toBitVec &&& 255#32 := rfl
  have h8 : ∀ i, i < 8 → (255#32).getLsbD i = true := by decide
  rw [if_pos (by omega), if_pos (by omega), e, BitVec.getLsbD_and, h8 i hi, Bool.and_true]
theorem byN_b (v : Int32) (r : Nat) : vp_nar .byte (Int8.toInt32 (Int32.toInt8 (v >>> (nI (24 - 8 * r) &&& 31)))) = sb (byN v r) := by
  rw [pk_vb, ← low8, (byN_e v r).1]
  rfl
theorem XI_buf {h' : XH} {n : Nat} {bf : Nat → Nat} (x : XI h X w s f Z) (i : iw (fun a => a = X ∨ a = X + 1) h h') (hk : ∀ k, k ≠ 1 → xi h' X k = xi h X k) (h1 : xi h' X 1 = nI n) (h2 : ∀ i, i < n → xi h' (X + 1) i = sb (bf i)) : XI h' X w s f (zbu Z n bf) := by
  have ws := x.ws
  obtain ⟨⟨x1, x2, x3, x4, x5, x6⟩, ⟨x7, x8⟩, ⟨x9, x10⟩, ⟨x11, x12, x13⟩, ⟨⟨x14, x15, x16⟩, x17⟩, x18, x19, x20⟩ := x
  refine ⟨⟨XL_iw x1 i, by rw [i.r]; exact x2, by rw [i.r]; exact x3, x4, WL_iw x5 i, fun g hg => ?_, fun m hm => ?_⟩, ⟨x7.iw i (fun a q => by omega), NC_iw x7.1.1 x8 i (fun a q1 q2 => by omega)⟩, ⟨h1, h2⟩, ⟨?_, ?_, ?_⟩, ⟨⟨x14, ?_, ?_⟩, fun j hj => CR_iw (x17 j hj) i (by omega)⟩, fun j hj => ⟨?_, fun T hT => CR_iw ((x18 j hj).2 T hT) i (by omega)⟩, ?_, fun j hj => ?_⟩
  · rw [i.i _ (by omega)]; exact x6.1 g hg
  · rw [i.i _ (by omega)]; exact x6.2 m hm
  · rw [hk _ (by decide)]; exact x11
  · rw [hk _ (by decide)]; exact x12
  · rw [hk _ (by decide)]; exact x13
  · rw [hk _ (by decide)]; exact x15
  · rw [hk _ (by decide)]; exact x16
  · rw [hk _ (by decide)]; exact (x18 j hj).1
  · rw [hk _ (by decide)]; exact x19
  · rw [i.i _ (by omega)]; exact x20 j hj
theorem YI_buf {h' : XH} {n : Nat} {bf : Nat → Nat} (y : YI h Y Z) (i : iw (fun a => a = Y ∨ a = Y + 11) h h') (hk : ∀ k, k ≠ 17 → xi h' Y k = xi h Y k) (h1 : xi h' Y 17 = nI n) (h2 : ∀ i, i < n → xi h' (Y + 11) i = nI (bf i)) : YI h' Y (zbu Z n bf) := by
  obtain ⟨⟨⟨y0, ⟨c1, c2, c3⟩, y1, y1'⟩, y2⟩, ⟨y3, y4, y5⟩, ⟨y6, y7⟩, y8, ⟨y9, y10⟩, y11, y12⟩ := y
  refine ⟨⟨⟨y0, ⟨?_, ?_, ?_⟩, y1.iw i (fun a q => by omega), y1'.iw i (by omega)⟩, fun s k j hs hk hj => ?_⟩, ⟨?_, ?_, ?_⟩, ⟨?_, fun j hj => (y7 j hj).iw i (by omega)⟩, fun j hj => ⟨?_, fun T hT => ((y8 j hj).2 T hT).iw i (by omega)⟩, ⟨h1, h2⟩, ?_, fun j hj => ?_⟩
  · rw [hk _ (by decide)]; exact c1
  · rw [hk _ (by decide)]; exact c2
  · rw [hk _ (by decide)]; exact c3
  · rw [i.i _ (by omega)]; exact y2 s k j hs hk hj
  · rw [hk _ (by decide)]; exact y3
  · rw [hk _ (by decide)]; exact y4
  · rw [hk _ (by decide)]; exact y5
  · rw [hk _ (by decide)]; exact y6
  · rw [i.i _ (by omega)]; exact (y8 j hj).1
  · rw [hk _ (by decide)]; exact y11
  · rw [i.i _ (by omega)]; exact y12 j hj
theorem push_o {n : Nat} {bf : Nat → Nat} (x : XI h X w s f (zbu Z n bf)) : XI (yi (yi h (X + 1) n (sb (bf n))) X 1 (nI (n + 1))) X w s f (zbu Z (n + 1) bf) := by
  refine XI_buf (Z := zbu Z n bf) x ((iw_yi (A := fun a => a = X ∨ a = X + 1) _ _ _ _ (Or.inr rfl)).yi _ _ _ (Or.inl rfl)) (fun k hk => ?_) (xi_yi1 _ _ _ _) (fun i hi => ?_)
  · rw [xi_yi2 _ _ (Or.inr hk), xi_yi2 _ _ (Or.inl (by omega))]
  · rw [xi_yi2 _ _ (Or.inl (by omega))]
    by_cases q : i = n
    · subst q; exact xi_yi1 _ _ _ _
    · rw [xi_yi2 _ _ (Or.inr q)]; exact x.2.2.1.2 i (show i < n by omega)
/-- the buffer with five words more -/
def bfE (bf : Nat → Nat) (n : Nat) (ws : Nat → Int32) (i : Nat) : Nat := if i < n then bf i else byN (ws ((i - n) / 4)) ((i - n) % 4)
theorem appendWord_o {n : Nat} {bf : Nat → Nat} (x : XI h X w s f (zbu Z n bf)) (hn : n + 4 ≤ 900) (v : Int32) (hb : ∀ r, r < 4 → bf (n + r) = byN v r) : xo (FX8_appendWord E X v h) (fun _ h' => iw (rXa X) h h' ∧ XI h' X w s f (zbu Z (n + 4) bf)) := by
  unfold FX8_appendWord
  refine xlp_inv (Po := fun m => xo m _) (fun i s' h' => s' = (if i = 4 then -8 else nI (24 - 8 * i)) ∧ iw (rXa X) h h' ∧ XI h' X w s f (zbu Z (n + i) bf)) 4 (by omega) (fun i s' h1 ag hi I again => ?_) ⟨rfl, iw.refl _ _, x⟩
  obtain ⟨rfl, i1, x1⟩ := I
  refine xo_jn ?_
  by_cases e : i = 4
  · subst e
    exact xo_t (by decide) (xo_v ⟨i1, x1⟩)
  · have hlt : i < 4 := by omega
    obtain ⟨r0, k1, n1⟩ := x1.1.1.2.1
    have t1 : xi h1 X 1 = nI (n + i) := x1.2.2.1.1
    rw [if_neg e]
    refine xo_f (by rw [nI_lt0 (by omega)]; exact id) (xo_g x1.k (xo_g x1.k (xo_n r0 (xo_g k1 ?_))))
    rw [n1, t1]
    refine xo_f (by rw [ofNat_nI, nI_leP (by omega) (by omega)]; omega) (xo_g x1.k (xo_n r0 (xo_g x1.k (xo_g ⟨k1, by rw [n1]; exact xin_nI (by omega) (by omega)⟩ (xo_lt (xo_g x1.k (xo_g x1.k (xo_lt ?_))))))))
    rw [xz_nI (by omega), xi_yi2 h1 (b := X) (j := 1) (a := X + 1) (k := n + i) _ (Or.inl (by omega)), t1, byN_b, nI_s, ← hb i hlt]
    have e8 : ∀ i, i < 4 → nI (24 - 8 * i) + (-8) = (if i + 1 = 4 then -8 else nI (24 - 8 * (i + 1))) := by decide
    rw [e8 i hlt]
    refine again hlt _ _ ⟨rfl, (i1.yi _ _ _ (by unfold rXa; omega)).yi _ _ _ (by unfold rXa; omega), ?_⟩
    exact push_o x1
theorem ag_append (j : JJ h X Y O Z) (p0 p1 p2 p3 p4 : Int32) : AGz X Y cmS h Z (FX8_append E X p0 p1 p2 p3 p4) (FX9_append E Y p0 p1 p2 p3 p4) := by
  have jj := j
  obtain ⟨z, -, -, ⟨w, s, f, x⟩, y⟩ := j
  have z900 := z.2.2.2.2.1.1
  have e20 : nI (zfl Z) + 20 = nI (zfl Z + 20) := by rw [show (20 : Int32) = nI 20 from rfl, nI_a]
  have l900 : (900 : Int32) = nI 900 := rfl
  by_cases hf : zfl Z + 20 ≤ 900
  · let ws : Nat → Int32 := fun k => if k = 0 then p0 else if k = 1 then p1 else if k = 2 then p2 else if k = 3 then p3 else p4
    refine AGz_v (nI (zfl Z + 20)) (zbu Z (zfl Z + 20) (bfE (zbf Z) (zfl Z) ws)) ⟨z.1, z.2.1, z.2.2.1, z.2.2.2.1, ⟨hf, fun i hi => ?_⟩, z.2.2.2.2.2⟩ ?_ (fun h' y => ?_)
    · show bfE (zbf Z) (zfl Z) ws i < 256
      unfold bfE
      split
      · exact z.2.2.2.2.1.2 i (by assumption)
      · exact (byN_e _ _).2
    · have x0 : XI h X w s f (zbu Z (zfl Z) (bfE (zbf Z) (zfl Z) ws)) := by
        refine XI_buf x (iw.refl _ h) (fun _ _ => rfl) x.2.2.1.1 (fun i hi => ?_)
        rw [x.2.2.1.2 i hi]
        unfold bfE
        rw [if_pos hi]
      have hb : ∀ k r, k < 5 → r < 4 → bfE (zbf Z) (zfl Z) ws (zfl Z + 4 * k + r) = byN (ws k) r := fun k r hk hr => by
        unfold bfE
        rw [if_neg (by omega), show (zfl Z + 4 * k + r - zfl Z) / 4 = k by omega, show (zfl Z + 4 * k + r - zfl Z) % 4 = r by omega]
      have f1 : xi h X 1 = nI (zfl Z) := x.2.2.1.1
      unfold FX8_append
      refine xo_g x.k ?_
      rw [f1, e20]
      refine xo_t (by rw [l900, nI_leP (by omega) (by omega)]; exact hf) ?_
      refine xo_g x.k (xo_b (appendWord_o x0 (by omega) p0 (fun r hr => hb 0 r (by omega) hr)) (fun _ h1 q1 => ?_))
      refine xo_g q1.2.k (xo_b (appendWord_o q1.2 (by omega) p1 (fun r hr => hb 1 r (by omega) hr)) (fun _ h2 q2 => ?_))
      refine xo_g q2.2.k (xo_b (appendWord_o q2.2 (by omega) p2 (fun r hr => hb 2 r (by omega) hr)) (fun _ h3 q3 => ?_))
      refine xo_g q3.2.k (xo_b (appendWord_o q3.2 (by omega) p3 (fun r hr => hb 3 r (by omega) hr)) (fun _ h4 q4 => ?_))
      refine xo_g q4.2.k (xo_b (appendWord_o q4.2 (by omega) p4 (fun r hr => hb 4 r (by omega) hr)) (fun _ h5 q5 => ?_))
      refine xo_g q5.2.k (xo_v ⟨q5.2.2.2.1.1, ?_, w, s, f, q5.2⟩)
      exact (((q1.1.trans q2.1 (fun _ q => q) (fun _ q => q)).trans q3.1 (fun _ q => q) (fun _ q => q)).trans q4.1 (fun _ q => q) (fun _ q => q)).trans q5.1 (fun _ q => q) (fun _ q => q)
    · have y0 := y.t 0
      have yl := y0.l
      have f1 : xi (yi h' Y 0 0) Y 17 = nI (zfl Z) := y0.2.2.2.2.1.1
      unfold FX9_append
      refine xo_g y.l.1 (xo_lt (xo_g yl.1 ?_))
      rw [f1, e20]
      refine xo_t (by rw [l900, nI_leP (by omega) (by omega)]; exact hf) ?_
      refine xlp_inv (Po := fun m => xo m _) (fun i s' h2 => s' = nI i ∧ iw (fun a => a = Y + 11) (yi h' Y 0 0) h2 ∧ ∀ k, k < zfl Z + i → xi h2 (Y + 11) k = nI (bfE (zbf Z) (zfl Z) ws k)) 20 (by omega) (fun i s' h2 ag hi I again => ?_) ⟨rfl, iw.refl _ _, fun k hk => ?_⟩
      · obtain ⟨rfl, i2, r2⟩ := I
        have y2 := yl.iw i2
        have f2 : xi h2 Y 17 = nI (zfl Z) := by rw [i2.i _ (by omega)]; exact f1
        by_cases e : i = 20
        · subst e
          have w2 : iw (rYa Y) h' (yi h2 Y 17 (nI (zfl Z + 20))) := ((iw_yi (A := rYa Y) h' Y 0 0 (by unfold rYa; omega)).trans i2 (fun _ q => q) (fun a q => by unfold rYa; omega)).yi _ _ _ (by unfold rYa; omega)
          refine xo_t (by decide) (xo_g y2.1 (xo_g y2.1 (xo_lt ?_)))
          rw [f2, e20]
          refine xo_g y2.1 (xo_v ⟨xi_yi1 _ _ _ _, w2, ?_, ?_⟩)
          · rw [xi_yi2 _ _ (Or.inr (by decide)), i2.i _ (by omega), xi_yi1]
          · refine YI_buf y0 (i2.trans (iw_yi (A := fun a => a = Y) h2 Y 17 _ rfl) (fun a q => Or.inr q) (fun a q => Or.inl q)) (fun k hk => ?_) (xi_yi1 _ _ _ _) (fun k hk => ?_)
            · rw [xi_yi2 _ _ (Or.inr hk), i2.i _ (by omega)]
            · rw [xi_yi2 _ _ (Or.inl (by omega))]; exact r2 k hk
        · have hlt : i < 20 := by omega
          have hcore : ∀ v, v = ws (i / 4) → xo ((fun (v4 : Int32) (h5 : XH) => xg (xk h5 Y = 10) <| xnn (xr h5 Y 16) fun w6 => xg (xk h5 Y = 10) <| xg ((4 : Int32) ≠ 0) <| xg (xk h5 w6 = 12 ∧ xin ((xi h5 Y 17) + nI i) (xn h5 w6)) <| xlt (yi h5 w6 (((xi h5 Y 17) + nI i) : Int32).toNatClampNeg ((v4 >>> ((24 - (8 * (xrem (nI i) 4))) &&& 31)) &&& 255)) fun h7 => ag (nI i + 1) h7) v h2) (fun b h2 => b = nI (zfl Z + 20) ∧ iw (rYa Y) h' h2 ∧ xi h2 Y 0 = 0 ∧ YI h2 Y (zbu Z (zfl Z + 20) (bfE (zbf Z) (zfl Z) ws))) := fun v hv => by
            have e1 : (24 : Int32) - 8 * xrem (nI i) 4 = nI (24 - 8 * (i % 4)) := by
              rw [li4, rem_nI (by omega) (by omega) (by omega), li8, nI_m, li24, pk_sub (by omega)]
            show xo (xg (xk h2 Y = 10) <| _) _
            refine xo_g y2.1 (xo_n y2.r11 (xo_g y2.1 (xo_g (by decide) ?_)))
            rw [f2, nI_a, e1, (byN_e v (i % 4)).1]
            refine xo_g (y2.g11 (by omega)) (xo_lt ?_)
            rw [xz_nI (by omega), nI_s]
            refine again hlt _ _ ⟨rfl, i2.yi _ _ _ rfl, fun k hk => ?_⟩
            by_cases q : k = zfl Z + i
            · subst q
              rw [xi_yi1, hv]
              unfold bfE
              rw [if_neg (by omega), show zfl Z + i - zfl Z = i by omega]
            · rw [xi_yi2 _ _ (Or.inr q)]; exact r2 k (by omega)
          refine xo_f (by rw [show (20 : Int32) = nI 20 from rfl, nI_leP (by omega) (by omega)]; omega) (xo_jn ?_)
          have d4 : ∀ c, c < 100 → ((nI c ≤ nI i) ↔ c ≤ i) := fun c hc => by rw [nI_leP (by omega) (by omega)]
          by_cases c4 : 4 ≤ i
          · refine xo_t ((d4 4 (by omega)).mpr c4) ?_
            by_cases c8 : 8 ≤ i
            · refine xo_t ((d4 8 (by omega)).mpr c8) ?_
              by_cases c12 : 12 ≤ i
              · refine xo_t ((d4 12 (by omega)).mpr c12) ?_
                by_cases c16 : 16 ≤ i
                · refine xo_t ((d4 16 (by omega)).mpr c16) (hcore p4 ?_)
                  show p4 = if i / 4 = 0 then p0 else if i / 4 = 1 then p1 else if i / 4 = 2 then p2 else if i / 4 = 3 then p3 else p4
                  rw [if_neg (by omega), if_neg (by omega), if_neg (by omega), if_neg (by omega)]
                · refine xo_f (fun q => c16 ((d4 16 (by omega)).mp q)) (hcore p3 ?_)
                  show p3 = if i / 4 = 0 then p0 else if i / 4 = 1 then p1 else if i / 4 = 2 then p2 else if i / 4 = 3 then p3 else p4
                  rw [if_neg (by omega), if_neg (by omega), if_neg (by omega), if_pos (by omega)]
              · refine xo_f (fun q => c12 ((d4 12 (by omega)).mp q)) (hcore p2 ?_)
                show p2 = if i / 4 = 0 then p0 else if i / 4 = 1 then p1 else if i / 4 = 2 then p2 else if i / 4 = 3 then p3 else p4
                rw [if_neg (by omega), if_neg (by omega), if_pos (by omega)]
            · refine xo_f (fun q => c8 ((d4 8 (by omega)).mp q)) (hcore p1 ?_)
              show p1 = if i / 4 = 0 then p0 else if i / 4 = 1 then p1 else if i / 4 = 2 then p2 else if i / 4 = 3 then p3 else p4
              rw [if_neg (by omega), if_pos (by omega)]
          · refine xo_f (fun q => c4 ((d4 4 (by omega)).mp q)) (hcore p0 ?_)
            show p0 = if i / 4 = 0 then p0 else if i / 4 = 1 then p1 else if i / 4 = 2 then p2 else if i / 4 = 3 then p3 else p4
            rw [if_pos (by omega)]
      · have := y0.2.2.2.2.1.2 k (show k < zfl Z by omega)
        rw [this]
        unfold bfE
        rw [if_pos (show k < zfl Z by omega)]
  · refine AGz_x jj (AG_v (-1) ?_ (fun h' y => ?_))
    · have f1 : xi h X 1 = nI (zfl Z) := x.2.2.1.1
      unfold FX8_append
      rw [xg_t x.k, f1, e20, if_neg (by rw [l900, nI_leP (by omega) (by omega)]; exact hf)]
    · have y0 := y.t 0
      have f1 : xi (yi h' Y 0 0) Y 17 = nI (zfl Z) := y0.2.2.2.2.1.1
      unfold FX9_append
      rw [xg_t y.l.1, xlt_d, xg_t y0.l.1, f1, e20, if_neg (by rw [l900, nI_leP (by omega) (by omega)]; exact hf)]
end AG
