/-! What is appended. -/
set_option linter.unusedVariables false
section AG
variable {E : XG} {h : XH} {X Y O w s f : Nat} {Z : ZD}
/-- another buffer -/
def zbu (Z : ZD) (n : Nat) (bf : Nat → Nat) : ZD := (zld Z, zS Z, zT Z, (zun Z, zu Z), zk Z, (n, bf), (zer Z, zea Z), (ztl Z, ztx Z))
def byN (v : Int32) (r : Nat) : Nat := ((v >>> (nI (24 - 8 * r) &&& 31)) &&& 255).toNatClampNeg
theorem and255 (x : Int32) : ∃ k, k < 256 ∧ x &&& 255 = nI k := by
  have e := pk_and x (m := 255) 8 (by decide)
  exact ⟨_, Nat.mod_lt _ (by decide), e⟩
theorem byN_e (v : Int32) (r : Nat) : (v >>> (nI (24 - 8 * r) &&& 31)) &&& 255 = nI (byN v r) ∧ byN v r < 256 := by
  obtain ⟨k, hk, e⟩ := and255 (v >>> (nI (24 - 8 * r) &&& 31))
  unfold byN
  rw [e, xz_nI (by omega)]
  exact ⟨rfl, hk⟩
theorem low8 (x : Int32) : (x &&& 255).toInt8 = x.toInt8 := by
  apply Int8.toBitVec_inj.mp
  rw [Int32.toBitVec_toInt8, Int32.toBitVec_toInt8]
  apply BitVec.eq_of_getLsbD_eq
  intro i hi
  rw [BitVec.getLsbD_signExtend, BitVec.getLsbD_signExtend]
  have e : (x &&& 255).toBitVec = x.toBitVec &&& 255#32 := rfl
  have h8 : ∀ i, i < 8 → (255#32).getLsbD i = true := by decide
  rw [if_pos (by omega), if_pos (by omega), e, BitVec.getLsbD_and, h8 i hi, Bool.and_true]
theorem byN_b (v : Int32) (r : Nat) : vp_nar .byte (Int8.toInt32 (Int32.toInt8 (v >>> (nI (24 - 8 * r) &&& 31)))) = sb (byN v r) := by
  rw [pk_vb, ← low8, (byN_e v r).1]
  rfl
theorem XI_buf {h' : XH} {n : Nat} {bf : Nat → Nat} (x : XI h X w s f Z) (i : iw (fun a => a = X ∨ a = X + 1) h h') (hk : ∀ k, k ≠ 1 → xi h' X k = xi h X k) (h1 : xi h' X 1 = nI n) (h2 : ∀ i, i < n → xi h' (X + 1) i = sb (bf i)) : XI h' X w s f (zbu Z n bf) := by
  have ws := x.ws
  obtain ⟨⟨x1, x2, x3, x4, x5, x6⟩, ⟨x7, x8⟩, ⟨x9, x10⟩, ⟨x11, x12, x13⟩, ⟨⟨x14, x15, x16⟩, x17⟩, x18, x19, x20⟩ := x
  refine ⟨⟨XL_iw x1 i, by rw [i.r]; exact x2, by rw [i.r]; exact x3, x4, WL_iw x5 i, fun g hg => ?_, fun m hm => ?_⟩, ⟨x7.iw i (fun a q => by omega), NC_iw x7.1.1 x8 i (fun a q1 q2 => by omega)⟩, ⟨h1, h2⟩, ⟨?_, ?_, ?_⟩, ⟨⟨x14, ?_, ?_⟩, fun j hj => CR_iw (x17 j hj) i (by omega)⟩, fun j hj => ⟨?_, fun T hT => CR_iw ((x18 j hj).2 T hT) i (by omega)⟩, ?_, fun j hj => ?_⟩
  · rw [i.i _ (by omega)]; exact x6.1 g hg
  · rw [i.i _ (by omega)]; exact x6.2 m hm
  · rw [hk _ (by decide)]; exact x11
  · rw [hk _ (by decide)]; exact x12
  · rw [hk _ (by decide)]; exact x13
  · rw [hk _ (by decide)]; exact x15
  · rw [hk _ (by decide)]; exact x16
  · rw [hk _ (by decide)]; exact (x18 j hj).1
  · rw [hk _ (by decide)]; exact x19
  · rw [i.i _ (by omega)]; exact x20 j hj
theorem push_o {n : Nat} {bf : Nat → Nat} (x : XI h X w s f (zbu Z n bf)) : XI (yi (yi h (X + 1) n (sb (bf n))) X 1 (nI (n + 1))) X w s f (zbu Z (n + 1) bf) := by
  refine XI_buf (Z := zbu Z n bf) x ((iw_yi (A := fun a => a = X ∨ a = X + 1) _ _ _ _ (Or.inr rfl)).yi _ _ _ (Or.inl rfl)) (fun k hk => ?_) (xi_yi1 _ _ _ _) (fun i hi => ?_)
  · rw [xi_yi2 _ _ (Or.inr hk), xi_yi2 _ _ (Or.inl (by omega))]
  · rw [xi_yi2 _ _ (Or.inl (by omega))]
    by_cases q : i = n
    · subst q; exact xi_yi1 _ _ _ _
    · rw [xi_yi2 _ _ (Or.inr q)]; exact x.2.2.1.2 i (show i < n by omega)
/-- the buffer with five words more -/
def bfE (bf : Nat → Nat) (n : Nat) (ws : Nat → Int32) (i : Nat) : Nat := if i < n then bf i else byN (ws ((i - n) / 4)) ((i - n) % 4)
theorem appendWord_o {n : Nat} {bf : Nat → Nat} (x : XI h X w s f (zbu Z n bf)) (hn : n + 4 ≤ 900) (v : Int32) (hb : ∀ r, r < 4 → bf (n + r) = byN v r) : xo (FX8_appendWord E X v h) (fun _ h' => iw (rXa X) h h' ∧ XI h' X w s f (zbu Z (n + 4) bf)) := by
  unfold FX8_appendWord
  refine xlp_inv (Po := fun m => xo m _) (fun i s' h' => s' = (if i = 4 then -8 else nI (24 - 8 * i)) ∧ iw (rXa X) h h' ∧ XI h' X w s f (zbu Z (n + i) bf)) 4 (by omega) (fun i s' h1 ag hi I again => ?_) ⟨rfl, iw.refl _ _, x⟩
  obtain ⟨rfl, i1, x1⟩ := I
  refine xo_jn ?_
  by_cases e : i = 4
  · subst e
    exact xo_t (by decide) (xo_v ⟨i1, x1⟩)
  · have hlt : i < 4 := by omega
    obtain ⟨r0, k1, n1⟩ := x1.1.1.2.1
    have t1 : xi h1 X 1 = nI (n + i) := x1.2.2.1.1
    rw [if_neg e]
    refine xo_f (by rw [nI_lt0 (by omega)]; exact id) (xo_g x1.k (xo_g x1.k (xo_n r0 (xo_g k1 ?_))))
    rw [n1, t1]
    refine xo_f (by rw [ofNat_nI, nI_leP (by omega) (by omega)]; omega) (xo_g x1.k (xo_n r0 (xo_g x1.k (xo_g ⟨k1, by rw [n1]; exact xin_nI (by omega) (by omega)⟩ (xo_lt (xo_g x1.k (xo_g x1.k (xo_lt ?_))))))))
    rw [xz_nI (by omega), xi_yi2 h1 (b := X) (j := 1) (a := X + 1) (k := n + i) _ (Or.inl (by omega)), t1, byN_b, nI_s, ← hb i hlt]
    have e8 : ∀ i, i < 4 → nI (24 - 8 * i) + (-8) = (if i + 1 = 4 then -8 else nI (24 - 8 * (i + 1))) := by decide
    rw [e8 i hlt]
    refine again hlt _ _ ⟨rfl, (i1.yi _ _ _ (by unfold rXa; omega)).yi _ _ _ (by unfold rXa; omega), ?_⟩
    exact push_o x1
end AG
