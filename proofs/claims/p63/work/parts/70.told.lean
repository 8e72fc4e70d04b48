/-! A text, purely: tokens, checks, lines. -/
set_option linter.unusedVariables false
/-- the bytes and how many -/
abbrev BF : Type := (Nat → Nat) × Nat
/-- behind the run of bytes from lo to hi that begins at i -/
def rnE (B : BF) (lo hi i : Nat) : Nat := i + fi (B.2 - i) (fun j => !(decide (lo ≤ B.1 (i + j)) && decide (B.1 (i + j) ≤ hi)))
theorem rnE_ge (B : BF) (lo hi i : Nat) : i ≤ rnE B lo hi i := Nat.le_add_right _ _
theorem rnE_le {B : BF} {lo hi i : Nat} (h : i ≤ B.2) : rnE B lo hi i ≤ B.2 := by
  have := fi_le (B.2 - i) (fun j => !(decide (lo ≤ B.1 (i + j)) && decide (B.1 (i + j) ≤ hi)))
  unfold rnE
  omega
theorem rnE_in {B : BF} {lo hi i j : Nat} (h1 : i ≤ j) (h2 : j < rnE B lo hi i) : lo ≤ B.1 j ∧ B.1 j ≤ hi := by
  unfold rnE at h2
  have q := fi_not (m := B.2 - i) (P := fun j => !(decide (lo ≤ B.1 (i + j)) && decide (B.1 (i + j) ≤ hi))) (i := j - i) (by omega)
  rw [show i + (j - i) = j by omega] at q
  simpa using q
theorem rnE_end {B : BF} {lo hi i : Nat} (h : rnE B lo hi i < B.2) : ¬ (lo ≤ B.1 (rnE B lo hi i) ∧ B.1 (rnE B lo hi i) ≤ hi) := by
  have q := fi_yes (m := B.2 - i) (P := fun j => !(decide (lo ≤ B.1 (i + j)) && decide (B.1 (i + j) ≤ hi))) (by unfold rnE at h; omega)
  have q : (!(decide (lo ≤ B.1 (rnE B lo hi i)) && decide (B.1 (rnE B lo hi i) ≤ hi))) = true := q
  intro z
  simp [z.1, z.2] at q
theorem rnE_pos {B : BF} {lo hi i : Nat} (h : i < B.2) (h1 : lo ≤ B.1 i) (h2 : B.1 i ≤ hi) : i < rnE B lo hi i := by
  have a := rnE_ge B lo hi i
  rcases Nat.lt_or_ge i (rnE B lo hi i) with q | q
  · exact q
  · exfalso
    have e : rnE B lo hi i = i := by omega
    exact rnE_end (B := B) (lo := lo) (hi := hi) (i := i) (by omega) (by rw [e]; exact ⟨h1, h2⟩)
/-- start, end, kind (0 end, 1 word, 2 number, 3 sign, 4 none of these) -/
abbrev TK : Type := Nat × Nat × Nat
def tkA (t : TK) : Nat := t.1
def tkB (t : TK) : Nat := t.2.1
def tkK (t : TK) : Nat := t.2.2
def tkG (B : BF) (s : Nat) : TK := if B.2 ≤ s then (s, s, 0) else if 97 ≤ B.1 s ∧ B.1 s ≤ 122 then (s, rnE B 97 122 s, if rnE B 97 122 s ≤ s + 10 then 1 else 4) else if 48 ≤ B.1 s ∧ B.1 s ≤ 57 then (s, rnE B 48 57 s, if rnE B 48 57 s ≤ s + 2 then 2 else 4) else (s, s + 1, if B.1 s = 59 then 3 else 4)
def tkF (B : BF) (p : Nat) : TK := tkG B (rnE B 32 32 p)
/-- what a token keeps to -/
def WK (B : BF) (t : TK) : Prop := (tkA t ≤ tkB t ∧ tkB t ≤ B.2) ∧ (tkK t = 1 → (tkA t < tkB t ∧ tkB t ≤ tkA t + 10) ∧ ∀ i, tkA t ≤ i → i < tkB t → 97 ≤ B.1 i ∧ B.1 i ≤ 122) ∧ (tkK t = 2 → (tkA t < tkB t ∧ tkB t ≤ tkA t + 2) ∧ ∀ i, tkA t ≤ i → i < tkB t → 48 ≤ B.1 i ∧ B.1 i ≤ 57) ∧ (tkK t = 3 → tkA t < tkB t) ∧ tkK t ≤ 4
theorem tkG_wk {B : BF} {s : Nat} (h : s ≤ B.2) : WK B (tkG B s) := by
  unfold tkG
  by_cases c1 : B.2 ≤ s
  · rw [if_pos c1]
    exact ⟨⟨Nat.le_refl _, h⟩, fun q => absurd (show (0 : Nat) = 1 from q) (by decide), fun q => absurd (show (0 : Nat) = 2 from q) (by decide), fun q => absurd (show (0 : Nat) = 3 from q) (by decide), Nat.zero_le _⟩
  rw [if_neg c1]
  by_cases c2 : 97 ≤ B.1 s ∧ B.1 s ≤ 122
  · rw [if_pos c2]
    have p := rnE_pos (B := B) (i := s) (by omega) c2.1 c2.2
    refine ⟨⟨Nat.le_of_lt p, rnE_le h⟩, fun q => ⟨⟨p, ?_⟩, fun i h1 h2 => rnE_in h1 h2⟩, fun q => ?_, fun q => ?_, ?_⟩
    · have q : (if rnE B 97 122 s ≤ s + 10 then 1 else 4) = 1 := q
      show rnE B 97 122 s ≤ s + 10
      split at q
      · assumption
      · cases q
    · have q : (if rnE B 97 122 s ≤ s + 10 then 1 else 4) = 2 := q
      split at q <;> cases q
    · have q : (if rnE B 97 122 s ≤ s + 10 then 1 else 4) = 3 := q
      split at q <;> cases q
    · show (if rnE B 97 122 s ≤ s + 10 then 1 else 4) ≤ 4
      split <;> omega
  rw [if_neg c2]
  by_cases c3 : 48 ≤ B.1 s ∧ B.1 s ≤ 57
  · rw [if_pos c3]
    have p := rnE_pos (B := B) (i := s) (by omega) c3.1 c3.2
    refine ⟨⟨Nat.le_of_lt p, rnE_le h⟩, fun q => ?_, fun q => ⟨⟨p, ?_⟩, fun i h1 h2 => rnE_in h1 h2⟩, fun q => ?_, ?_⟩
    · have q : (if rnE B 48 57 s ≤ s + 2 then 2 else 4) = 1 := q
      split at q <;> cases q
    · have q : (if rnE B 48 57 s ≤ s + 2 then 2 else 4) = 2 := q
      show rnE B 48 57 s ≤ s + 2
      split at q
      · assumption
      · cases q
    · have q : (if rnE B 48 57 s ≤ s + 2 then 2 else 4) = 3 := q
      split at q <;> cases q
    · show (if rnE B 48 57 s ≤ s + 2 then 2 else 4) ≤ 4
      split <;> omega
  rw [if_neg c3]
  refine ⟨⟨Nat.le_succ _, show s + 1 ≤ B.2 by omega⟩, fun q => ?_, fun q => ?_, fun q => Nat.lt_succ_self s, ?_⟩
  · have q : (if B.1 s = 59 then 3 else 4) = 1 := q
    split at q <;> cases q
  · have q : (if B.1 s = 59 then 3 else 4) = 2 := q
    split at q <;> cases q
  · show (if B.1 s = 59 then 3 else 4) ≤ 4
    split <;> omega
theorem tkF_wk {B : BF} {p : Nat} (h : p ≤ B.2) : WK B (tkF B p) := tkG_wk (rnE_le h)
theorem tkG_a (B : BF) (s : Nat) : tkA (tkG B s) = s := by
  unfold tkG
  split
  · rfl
  · split
    · rfl
    · split <;> rfl
theorem tkF_ge (B : BF) (p : Nat) : p ≤ tkA (tkF B p) := by
  unfold tkF
  rw [tkG_a]
  exact rnE_ge _ _ _ _
def nx (B : BF) (t : TK) : TK := tkF B (tkB t)
def nxn (B : BF) (t : TK) : Nat → TK
  | 0 => t
  | i + 1 => nx B (nxn B t i)
theorem nx_wk {B : BF} {t : TK} (w : WK B t) : WK B (nx B t) := tkF_wk w.1.2
theorem nxn_wk {B : BF} {t : TK} (w : WK B t) (i : Nat) : WK B (nxn B t i) := by
  induction i with
  | zero => exact w
  | succ i ih => exact nx_wk ih
theorem nx_up {B : BF} {t : TK} (w : WK B t) : tkA t ≤ tkA (nx B t) := Nat.le_trans w.1.1 (tkF_ge _ _)
theorem nx_up3 {B : BF} {t : TK} (w : WK B t) (h : tkK t = 3) : tkA t < tkA (nx B t) := Nat.lt_of_lt_of_le (w.2.2.2.1 h) (tkF_ge _ _)
theorem nxn_up {B : BF} {t : TK} (w : WK B t) (i : Nat) : tkA t ≤ tkA (nxn B t i) := by
  induction i with
  | zero => exact Nat.le_refl _
  | succ i ih => exact Nat.le_trans ih (nx_up (nxn_wk w i))
/-- the word of a token, its number -/
def wdT (B : BF) (t : TK) : List Nat := (List.range (tkB t - tkA t)).map (fun i => B.1 (tkA t + i))
theorem wdT_len (B : BF) (t : TK) : (wdT B t).length = tkB t - tkA t := by simp [wdT]
theorem wdT_get (B : BF) (t : TK) (i : Nat) : (wdT B t).getD i 0 = if tkA t + i < tkB t then B.1 (tkA t + i) else 0 := by
  by_cases c : tkA t + i < tkB t
  · rw [if_pos c, gD_lt (by rw [wdT_len]; omega)]
    simp [wdT]
  · rw [if_neg c, gD_ge (by rw [wdT_len]; omega)]
theorem wdT_ok {B : BF} {t : TK} (w : WK B t) (k : tkK t = 1) : (1 ≤ (wdT B t).length ∧ (wdT B t).length ≤ 10) ∧ ∀ c ∈ wdT B t, 97 ≤ c ∧ c ≤ 122 := by
  obtain ⟨⟨a, b⟩, q⟩ := w.2.1 k
  rw [wdT_len]
  refine ⟨by omega, fun c hc => ?_⟩
  unfold wdT at hc
  obtain ⟨i, hi, rfl⟩ := List.mem_map.mp hc
  rw [List.mem_range] at hi
  exact q _ (by omega) (by omega)
def vlT (B : BF) (t : TK) : Nat := if tkB t = tkA t + 1 then B.1 (tkA t) - 48 else 10 * (B.1 (tkA t) - 48) + (B.1 (tkA t + 1) - 48)
theorem vlT_lt {B : BF} {t : TK} (w : WK B t) (k : tkK t = 2) : vlT B t < 100 := by
  obtain ⟨⟨a, b⟩, q⟩ := w.2.2.1 k
  have q1 := q (tkA t) (Nat.le_refl _) a
  unfold vlT
  split
  · omega
  · have q2 := q (tkA t + 1) (by omega) (by omega)
    omega
theorem names_eq {l m : List Nat} (hl : l.length ≤ 10) (hm : m.length ≤ 10) (h1 : ∀ c ∈ l, 97 ≤ c ∧ c ≤ 122) (h2 : ∀ c ∈ m, 97 ≤ c ∧ c ≤ 122) : l = m ↔ ∀ i, i < 10 → l.getD i 0 = m.getD i 0 := by
  refine ⟨fun e i _ => by rw [e], fun h => ?_⟩
  have key : ∀ {l m : List Nat}, l.length ≤ 10 → (∀ c ∈ m, 97 ≤ c ∧ c ≤ 122) → (∀ i, i < 10 → l.getD i 0 = m.getD i 0) → m.length ≤ 10 → m.length ≤ l.length := fun {l m} hl h2 h hm => by
    rcases Nat.lt_or_ge l.length m.length with q | q
    · exfalso
      have e := h l.length (by omega)
      rw [gD_ge (Nat.le_refl _)] at e
      have := h2 _ (gD_mem q)
      omega
    · exact q
  have e : l.length = m.length := Nat.le_antisymm (key hm h1 (fun i hi => (h i hi).symm) hl) (key hl h2 h hm)
  refine List.ext_getElem e (fun i q1 q2 => ?_)
  have := h i (by omega)
  rw [gD_lt q1, gD_lt q2] at this
  exact this
theorem pkN_0 {l : List Nat} (h : ∀ c ∈ l, 97 ≤ c ∧ c ≤ 122) (e : pkN l = 0) : l = [] := by
  revert h e
  refine list_snoc (P := fun l => (∀ c ∈ l, 97 ≤ c ∧ c ≤ 122) → pkN l = 0 → l = []) (fun _ _ => rfl) (fun l c ih h e => ?_) l
  rw [pkN_app] at e
  have := h c (List.mem_append_right _ (List.mem_singleton.mpr rfl))
  omega
theorem pkN_inj {l : List Nat} : ∀ m : List Nat, (∀ c ∈ l, 97 ≤ c ∧ c ≤ 122) → (∀ c ∈ m, 97 ≤ c ∧ c ≤ 122) → pkN l = pkN m → l = m := by
  refine list_snoc (P := fun l => ∀ m : List Nat, (∀ c ∈ l, 97 ≤ c ∧ c ≤ 122) → (∀ c ∈ m, 97 ≤ c ∧ c ≤ 122) → pkN l = pkN m → l = m) (fun m _ h e => (pkN_0 h e.symm).symm) (fun l c ih m h1 h2 e => ?_) l
  revert h2 e
  refine list_snoc (P := fun m => (∀ c ∈ m, 97 ≤ c ∧ c ≤ 122) → pkN (l ++ [c]) = pkN m → l ++ [c] = m) (fun _ e => pkN_0 h1 e) (fun m d _ h2 e => ?_) m
  rw [pkN_app, pkN_app] at e
  have a := h1 c (List.mem_append_right _ (List.mem_singleton.mpr rfl))
  have b := h2 d (List.mem_append_right _ (List.mem_singleton.mpr rfl))
  have e1 : pkN l = pkN m := by omega
  have e2 : c = d := by omega
  rw [ih m (fun x hx => h1 x (List.mem_append_left _ hx)) (fun x hx => h2 x (List.mem_append_left _ hx)) e1, e2]
def wJS (i : Nat) : List Nat := (bytJS.getD i []).map (fun x => x.toNatClampNeg)
def isW (B : BF) (t : TK) (i : Nat) : Bool := decide (tkK t = 1 ∧ wdT B t = wJS i)
/-- an error: its code and its place -/
abbrev ER : Type := Option (Nat × Nat)
def eo (a b : ER) : ER := match a with
  | some e => some e
  | none => b
def ck (c : Bool) (code : Nat) (t : TK) : ER := if c then some (code, tkA t) else none
theorem eo_n (b : ER) : eo none b = b := rfl
theorem eo_s (e : Nat × Nat) (b : ER) : eo (some e) b = some e := rfl
theorem eo_as (a b c : ER) : eo (eo a b) c = eo a (eo b c) := by cases a <;> rfl
theorem eo_nn (a : ER) : eo a none = a := by cases a <;> rfl
theorem eo_none {a b : ER} (h : eo a b = none) : a = none ∧ b = none := by
  cases a with
  | none => exact ⟨rfl, h⟩
  | some e => cases h
theorem ck_none {c : Bool} {code : Nat} {t : TK} (h : ck c code t = none) : c = false := by
  cases c
  · rfl
  · cases h
/-- a code from 1 to 4 -/
def eOK (B : BF) (e : ER) : Prop := ∀ c p, e = some (c, p) → (1 ≤ c ∧ c ≤ 4) ∧ p ≤ B.2
theorem eOK_n (B : BF) : eOK B none := fun c p q => by cases q
theorem eOK_eo {B : BF} {a b : ER} (ha : eOK B a) (hb : eOK B b) : eOK B (eo a b) := by
  cases a with
  | none => exact hb
  | some e => exact ha
theorem eOK_ck {B : BF} {c : Bool} {code : Nat} {t : TK} (h1 : 1 ≤ code) (h2 : code ≤ 4) (w : WK B t) : eOK B (ck c code t) := fun c' p q => by
  cases c
  · cases q
  · cases q; exact ⟨⟨h1, h2⟩, Nat.le_trans w.1.1 w.1.2⟩
def nmI (S : SD) (s : Nat) (w : List Nat) : Nat := fi (scn S s) (fun k => decide (snn S s k = w))
def eNm (B : BF) (S : SD) (s : Nat) (t : TK) : ER := eo (ck (decide (tkK t ≠ 1)) 1 t) (ck (decide (nmI S s (wdT B t) < scn S s)) 3 t)
def eKn (B : BF) (S : SD) (s : Nat) (t : TK) : ER := eo (ck (decide (tkK t ≠ 1)) 1 t) (ck (decide (scn S s ≤ nmI S s (wdT B t))) 3 t)
def eNu (B : BF) (lo hi : Nat) (t : TK) : ER := eo (ck (decide (tkK t ≠ 2)) 1 t) (ck (decide (¬ (lo ≤ vlT B t ∧ vlT B t ≤ hi))) 2 t)
def eEl (B : BF) (hi : Nat) (t : TK) : Nat → ER
  | 0 => none
  | i + 1 => eo (eEl B hi t i) (eNu B 0 hi (nxn B t i))
theorem eNm_0 {B : BF} {S : SD} {s : Nat} {t : TK} (h : eNm B S s t = none) : tkK t = 1 ∧ nmI S s (wdT B t) = scn S s := by
  obtain ⟨a, b⟩ := eo_none h
  have a := of_decide_eq_false (ck_none a)
  have b := of_decide_eq_false (ck_none b)
  have := fi_le (scn S s) (fun k => decide (snn S s k = wdT B t))
  unfold nmI at *
  exact ⟨Decidable.not_not.mp a, by omega⟩
theorem eKn_0 {B : BF} {S : SD} {s : Nat} {t : TK} (h : eKn B S s t = none) : tkK t = 1 ∧ nmI S s (wdT B t) < scn S s := by
  obtain ⟨a, b⟩ := eo_none h
  have a := of_decide_eq_false (ck_none a)
  have b := of_decide_eq_false (ck_none b)
  exact ⟨Decidable.not_not.mp a, by omega⟩
theorem eNu_0 {B : BF} {lo hi : Nat} {t : TK} (h : eNu B lo hi t = none) : tkK t = 2 ∧ lo ≤ vlT B t ∧ vlT B t ≤ hi := by
  obtain ⟨a, b⟩ := eo_none h
  exact ⟨Decidable.not_not.mp (of_decide_eq_false (ck_none a)), Decidable.not_not.mp (of_decide_eq_false (ck_none b))⟩
theorem eEl_0 {B : BF} {hi : Nat} {t : TK} {n : Nat} (h : eEl B hi t n = none) : ∀ i, i < n → tkK (nxn B t i) = 2 ∧ vlT B (nxn B t i) ≤ hi := by
  induction n with
  | zero => intro i hi; omega
  | succ n ih =>
    obtain ⟨a, b⟩ := eo_none h
    intro i hi
    by_cases e : i = n
    · subst e; exact ⟨(eNu_0 b).1, (eNu_0 b).2.2⟩
    · exact ih a i (by omega)
theorem eOK_Nm {B : BF} {S : SD} {s : Nat} {t : TK} (w : WK B t) : eOK B (eNm B S s t) := eOK_eo (eOK_ck (by omega) (by omega) w) (eOK_ck (by omega) (by omega) w)
theorem eOK_Kn {B : BF} {S : SD} {s : Nat} {t : TK} (w : WK B t) : eOK B (eKn B S s t) := eOK_eo (eOK_ck (by omega) (by omega) w) (eOK_ck (by omega) (by omega) w)
theorem eOK_Nu {B : BF} {lo hi : Nat} {t : TK} (w : WK B t) : eOK B (eNu B lo hi t) := eOK_eo (eOK_ck (by omega) (by omega) w) (eOK_ck (by omega) (by omega) w)
theorem eOK_El {B : BF} {hi : Nat} {t : TK} (w : WK B t) (n : Nat) : eOK B (eEl B hi t n) := by
  induction n with
  | zero => exact eOK_n B
  | succ n ih => exact eOK_eo ih (eOK_Nu (nxn_wk w n))
/-- groups: how many elements, products, inverses -/
abbrev GR : Type := Nat × (Nat → Nat → Nat) × (Nat → Nat)
def gCyc (n : Nat) : GR := (n, (fun a b => (a + b) % n), fun a => (n - a) % n)
def gDih (n : Nat) : GR := (2 * n, (fun x y => if x < n then (if y < n then (x + y) % n else n + (x + (y - n)) % n) else (if y < n then n + (x - y) % n else (x - (y - n)) % n)), fun x => if x < n then (n - x) % n else x)
def quU (a b : Nat) : Nat := if a = 0 ∨ b = 0 then a + b else if a = b then 4 else if b = a % 3 + 1 then 6 - a - b else 6 - a - b + 4
def gQua : GR := (8, (fun a b => (quU (a % 4) (b % 4) + a / 4 * 4 + b / 4 * 4) % 8), fun a => if a % 4 = 0 then a else (a + 4) % 8)
def gPro (S : SD) (a b : Nat) : GR := (sgn S a * sgn S b, (fun x y => sgt S a (x / sgn S b) (y / sgn S b) * sgn S b + sgt S b (x % sgn S b) (y % sgn S b)), fun x => sgv S a (x / sgn S b) * sgn S b + sgv S b (x % sgn S b))
/-- a group's kind, at its word -/
def eGk (B : BF) (S : SD) (t : TK) : ER := if isW B t 3 then eNu B 1 8 (nx B t) else if isW B t 4 then eNu B 3 4 (nx B t) else if isW B t 5 then none else if isW B t 6 then eo (eKn B S 0 (nx B t)) (eo (eKn B S 0 (nx B (nx B t))) (ck (decide (8 < sgn S (nmI S 0 (wdT B (nx B t))) * sgn S (nmI S 0 (wdT B (nx B (nx B t)))))) 4 (nx B (nx B t)))) else some (1, tkA t)
def gGk (B : BF) (S : SD) (t : TK) : GR := if isW B t 3 then gCyc (vlT B (nx B t)) else if isW B t 4 then gDih (vlT B (nx B t)) else if isW B t 5 then gQua else gPro S (nmI S 0 (wdT B (nx B t))) (nmI S 0 (wdT B (nx B (nx B t))))
def tGk (B : BF) (t : TK) : TK := if isW B t 3 then nx B (nx B t) else if isW B t 4 then nx B (nx B t) else if isW B t 5 then nx B t else nx B (nx B (nx B t))
/-- a name noted behind the last one; a group, a module, an arrow more -/
def sNm (S : SD) (s : Nat) (w : List Nat) : SD := (S.1, S.2.1, S.2.2.1, S.2.2.2.1, fun s' k => if s' = s ∧ k = scn S s then w else snn S s' k)
def sAg (S : SD) (g : GR) : SD := ((sng S + 1, snm S, sna S), (fun k => if k = sng S then g else S.2.1 k), S.2.2)
def sAm (S : SD) (u l : Nat) : SD := ((sng S, snm S + 1, sna S), S.2.1, (fun k => if k = snm S then (u, l) else S.2.2.1 k), S.2.2.2)
def sAa (S : SD) (f o : Nat) : SD := ((sng S, snm S, sna S + 1), S.2.1, S.2.2.1, (fun k => if k = sna S then (f, o) else S.2.2.2.1 k), S.2.2.2.2)
/-- where reading stands: the token; what is told; elements whose acts are told -/
abbrev PA : Type := TK × SD × ST × (Nat → Int32)
def paK (A : PA) : TK := A.1
def paZ (A : PA) : SD := A.2.1
def paT (A : PA) : ST := A.2.2.1
def paD (A : PA) : Nat → Int32 := A.2.2.2
def eGl (B : BF) (S : SD) (t : TK) : ER := eo (ck (decide (sng S = 6)) 4 t) (eo (eNm B S 0 (nx B t)) (eGk B S (nx B (nx B t))))
def nGl (B : BF) (S : SD) (T : ST) (D : Nat → Int32) (t : TK) : PA := (tGk B (nx B (nx B t)), sAg (sNm S 0 (wdT B (nx B t))) (gGk B S (nx B (nx B t))), T, D)
def tEl (B : BF) (t : TK) (i : Nat) : Nat := vlT B (nxn B t i)
/-- a module's line at t: its name, two groups, boundaries -/
def eMl (B : BF) (S : SD) (t : TK) : ER := eo (ck (decide (snm S = 6)) 4 t) (eo (eNm B S 1 (nx B t)) (eo (eKn B S 0 (nxn B t 2)) (eo (eKn B S 0 (nxn B t 3)) (eEl B (sgn S (nmI S 0 (wdT B (nxn B t 3))) - 1) (nxn B t 4) (sgn S (nmI S 0 (wdT B (nxn B t 2))))))))
def nMl (B : BF) (S : SD) (T : ST) (D : Nat → Int32) (t : TK) : PA := (nxn B (nxn B t 4) (sgn S (nmI S 0 (wdT B (nxn B t 2)))), sAm (sNm S 1 (wdT B (nx B t))) (nmI S 0 (wdT B (nxn B t 2))) (nmI S 0 (wdT B (nxn B t 3))), ((fun m a => if m = snm S then tEl B (nxn B t 4) a else tbd T m a), (fun m g a => if m = snm S then a else tac T m g a), T.2.2), fun m => if m = snm S then 0 else D m)
/-- an act line: its module, the element, where others go -/
def mAl (B : BF) (S : SD) (t : TK) : Nat := nmI S 1 (wdT B (nx B t))
def eAl (B : BF) (S : SD) (D : Nat → Int32) (t : TK) : ER := eo (eKn B S 1 (nx B t)) (eo (eNu B 0 (nlS2 S (mAl B S t) - 1) (nxn B t 2)) (eo (ck (mb (D (mAl B S t)) (vlT B (nxn B t 2))) 3 (nxn B t 2)) (eEl B (nuS S (mAl B S t) - 1) (nxn B t 3) (nuS S (mAl B S t)))))
def nAl (B : BF) (S : SD) (T : ST) (D : Nat → Int32) (t : TK) : PA := (nxn B (nxn B t 3) (nuS S (mAl B S t)), S, (tbd T, (fun m g a => if m = mAl B S t ∧ g = vlT B (nxn B t 2) then tEl B (nxn B t 3) a else tac T m g a), T.2.2), fun m => if m = mAl B S t then D m ||| sh (vlT B (nxn B t 2)) else D m)
/-- an arrow's line: its name, two modules, tops, bottoms -/
def fRl (B : BF) (S : SD) (t : TK) : Nat := nmI S 1 (wdT B (nxn B t 2))
def oRl (B : BF) (S : SD) (t : TK) : Nat := nmI S 1 (wdT B (nxn B t 3))
def eRl (B : BF) (S : SD) (t : TK) : ER := eo (ck (decide (sna S = 8)) 4 t) (eo (eNm B S 2 (nx B t)) (eo (eKn B S 1 (nxn B t 2)) (eo (eKn B S 1 (nxn B t 3)) (eo (eEl B (nuS S (oRl B S t) - 1) (nxn B t 4) (nuS S (fRl B S t))) (eEl B (nlS2 S (oRl B S t) - 1) (nxn B (nxn B t 4) (nuS S (fRl B S t))) (nlS2 S (fRl B S t)))))))
def nRl (B : BF) (S : SD) (T : ST) (D : Nat → Int32) (t : TK) : PA := (nxn B (nxn B (nxn B t 4) (nuS S (fRl B S t))) (nlS2 S (fRl B S t)), sAa (sNm S 2 (wdT B (nx B t))) (fRl B S t) (oRl B S t), (tbd T, tac T, (fun a x => if a = sna S then tEl B (nxn B t 4) x else ttp T a x), (fun a x => if a = sna S then tEl B (nxn B (nxn B t 4) (nuS S (fRl B S t))) x else tbt T a x), tcc T), D)
/-- a line; lines; a text -/
def eLine (B : BF) (A : PA) : ER := if isW B (paK A) 2 then eGl B (paZ A) (paK A) else if isW B (paK A) 7 then eMl B (paZ A) (paK A) else if isW B (paK A) 8 then eAl B (paZ A) (paD A) (paK A) else if isW B (paK A) 9 then eRl B (paZ A) (paK A) else some (1, tkA (paK A))
def nLine (B : BF) (A : PA) : PA := if isW B (paK A) 2 then nGl B (paZ A) (paT A) (paD A) (paK A) else if isW B (paK A) 7 then nMl B (paZ A) (paT A) (paD A) (paK A) else if isW B (paK A) 8 then nAl B (paZ A) (paT A) (paD A) (paK A) else nRl B (paZ A) (paT A) (paD A) (paK A)
def aNx (B : BF) (A : PA) : PA := (nx B A.1, A.2)
def eLoop (B : BF) : Nat → PA → ER
  | 0, _ => none
  | f + 1, A => if tkK (paK A) = 3 then eo (eLine B (aNx B A)) (eLoop B f (nLine B (aNx B A))) else none
def nLoop (B : BF) : Nat → PA → PA
  | 0, A => A
  | f + 1, A => if tkK (paK A) = 3 then nLoop B f (nLine B (aNx B A)) else A
def A00 (B : BF) : PA := (nx B (tkF B 0), S0, T0, fun _ => 0)
def eText (B : BF) : ER := eo (ck (!isW B (tkF B 0) 1) 1 (tkF B 0)) (eo (eLoop B 900 (A00 B)) (ck (decide (tkK (paK (nLoop B 900 (A00 B))) ≠ 0)) 1 (paK (nLoop B 900 (A00 B)))))
