/-! The reference's load. -/
set_option linter.unusedVariables false
/-- the state behind a load: refused, done -/
def zEr (Z : ZD) (c p : Nat) : ZD := (zld Z, zS Z, zT Z, (zun Z, zu Z), zk Z, (0, zbf Z), (nI c, nI p), (ztl Z, ztx Z))
def zLd (Z : ZD) (S : SD) (T : ST) : ZD := (true, S, T, (0, fun _ => T0), (fun _ => none), (0, zbf Z), (0, -1), (ztl Z, ztx Z))
theorem zEr_wz {Z : ZD} (z : WZ Z) (c p : Nat) : WZ (zEr Z c p) := ⟨z.1, z.2.1, z.2.2.1, z.2.2.2.1, ⟨by show 0 ≤ 900; omega, fun i hi => absurd hi (Nat.not_lt_zero _)⟩, z.2.2.2.2.2⟩
theorem zLd_wz {Z : ZD} (z : WZ Z) {S : SD} (nm : WNm S) (T : ST) : WZ (zLd Z S T) := ⟨fun q => (by cases q), nm, ⟨by show 0 ≤ 8; omega, fun i hi => absurd hi (Nat.not_lt_zero _)⟩, fun i T' hi q => (by cases q), ⟨by show 0 ≤ 900; omega, fun i hi => absurd hi (Nat.not_lt_zero _)⟩, z.2.2.2.2.2⟩
/-- the bytes that a load reads -/
def zBF (Z : ZD) (n : Nat) : BF := (zbf Z, n)
theorem nLoop_wa {B : BF} : ∀ (f : Nat) {A : PA}, WA B A → eLoop B f A = none → WA B (nLoop B f A)
  | 0, A, w, _ => w
  | f + 1, A, w, e => by
    by_cases k : tkK (paK A) = 3
    · rw [eLoop_s k] at e
      rw [nLoop_s k]
      obtain ⟨e1, e2⟩ := eo_none e
      exact nLoop_wa f (nLine_wa (aNx_wa w) e1) e2
    · rw [nLoop_e k]; exact w
theorem tkE_wa {B : BF} (e : eText B = none) : WA B (tkE B) := nLoop_wa 900 (A00_wa B) (eo_none (eo_none e).2).1
theorem eLoop_ok {B : BF} : ∀ (f : Nat) {A : PA}, WA B A → eOK B (eLoop B f A)
  | 0, A, w => eOK_n B
  | f + 1, A, w => by
    by_cases k : tkK (paK A) = 3
    · rw [eLoop_s k]
      cases e : eLine B (aNx B A) with
      | some er => rw [eo_s, ← e]; exact eLine_ok (aNx_wa w).1
      | none => rw [eo_n]; exact eLoop_ok f (nLine_wa (aNx_wa w) e)
    · rw [eLoop_e k]; exact eOK_n B
theorem eText_ok (B : BF) : eOK B (eText B) := by
  unfold eText
  refine eOK_eo (eOK_ck (by omega) (by omega) (tkF_wk (Nat.zero_le _))) ?_
  cases e : eLoop B 900 (A00 B) with
  | some er => rw [eo_s, ← e]; exact eLoop_ok 900 (A00_wa B)
  | none => rw [eo_n]; exact eOK_ck (by omega) (by omega) (nLoop_wa 900 (A00_wa B) e).1
section LDR
variable {E : XG} {h h' h1 h2 : XH} {Y i p n : Nat} {Z : ZD}
end LDR
