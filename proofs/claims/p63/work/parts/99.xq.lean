/-! What the class answers, by S and T alone. -/
set_option linter.unusedVariables false
section XQS
variable {E : XG} {h h' : XH} {X : Nat} {S : SD} {T : ST}
theorem XQ.k (q : XQ h X S T) : xk h X = 9 := by obtain ⟨_, _, _, _, x, -⟩ := q; exact x.k
theorem XQ.t (q : XQ h X S T) : X + 223 ≤ xt h := by obtain ⟨_, _, _, _, _, _, _, _, _, t⟩ := q; exact t
theorem q8_size (xq9 : XQ h X S T) {g : Nat} (hk : g < sng S) : FX8_size E X (nI g) h = xv (nI (sgn S g)) h := by
  obtain ⟨w9, s9, f9, Z, x, z, hl, e1, e2, -⟩ := xq9
  subst e1; subst e2
  exact c8_size x hl hk
theorem q8_centre (xq9 : XQ h X S T) {g : Nat} (hk : g < sng S) : FX8_centre E X (nI g) h = xv (cenS (sgn S g) (sgt S g)) h := by
  obtain ⟨w9, s9, f9, Z, x, z, hl, e1, e2, -⟩ := xq9
  subst e1; subst e2
  exact c8_centre x hl hk
theorem q8_inverse (xq9 : XQ h X S T) {g : Nat} (hk : g < sng S) {a : Nat} (ha : a < sgn S g) : FX8_inverse E X (nI g) (nI a) h = xv (nI (sgv S g a)) h := by
  obtain ⟨w9, s9, f9, Z, x, z, hl, e1, e2, -⟩ := xq9
  subst e1; subst e2
  exact c8_inverse x hl hk ha
theorem q8_orderOf (xq9 : XQ h X S T) {g : Nat} (hk : g < sng S) {a : Nat} (ha : a < sgn S g) : FX8_orderOf E X (nI g) (nI a) h = xv (nI (odS (sgt S g) a)) h := by
  obtain ⟨w9, s9, f9, Z, x, z, hl, e1, e2, -⟩ := xq9
  subst e1; subst e2
  exact c8_orderOf x hl hk ha
theorem q8_times (xq9 : XQ h X S T) {g : Nat} (hk : g < sng S) {a b : Nat} (ha : a < sgn S g) (hb : b < sgn S g) : FX8_times E X (nI g) (nI a) (nI b) h = xv (nI (sgt S g a b)) h := by
  obtain ⟨w9, s9, f9, Z, x, z, hl, e1, e2, -⟩ := xq9
  subst e1; subst e2
  exact c8_times x hl hk ha hb
theorem q8_times1 (xq9 : XQ h X S T) {g : Nat} (hk : g < sng S) {q : Int32} (hq : inr q (sgn S g) = false) (r : Int32) : FX8_times E X (nI g) q r h = xx 1 h := by
  obtain ⟨w9, s9, f9, Z, x, z, hl, e1, e2, -⟩ := xq9
  subst e1; subst e2
  exact c8_times1 x hl hk hq r
theorem q8_kernel (xq9 : XQ h X S T) {m : Nat} (hk : m < snm S) : FX8_kernel E X (nI m) h = xv (kerS (mdS S T m)) h := by
  obtain ⟨w9, s9, f9, Z, x, z, hl, e1, e2, -⟩ := xq9
  subst e1; subst e2
  exact c8_kernel x hl hk
theorem q8_image (xq9 : XQ h X S T) {m : Nat} (hk : m < snm S) : FX8_image E X (nI m) h = xv (imgS (mdS S T m)) h := by
  obtain ⟨w9, s9, f9, Z, x, z, hl, e1, e2, -⟩ := xq9
  subst e1; subst e2
  exact c8_image x hl hk
theorem q8_why (xq9 : XQ h X S T) {m : Nat} (hk : m < snm S) : FX8_why E X (nI m) h = xv (nI (whS S T m)) h := by
  obtain ⟨w9, s9, f9, Z, x, z, hl, e1, e2, -⟩ := xq9
  subst e1; subst e2
  exact c8_why x hl hk
theorem q8_why1 (xq9 : XQ h X S T) {p : Int32} (hp : inr p (snm S) = false) : FX8_why E X p h = xx 1 h := by
  obtain ⟨w9, s9, f9, Z, x, z, hl, e1, e2, -⟩ := xq9
  subst e1; subst e2
  exact c8_why1 x hl hp
theorem q8_groupOf0 (xq9 : XQ h X S T) {m : Nat} (hk : m < snm S) : FX8_groupOf E X (nI m) 0 h = xv (nI (smu S m)) h := by
  obtain ⟨w9, s9, f9, Z, x, z, hl, e1, e2, -⟩ := xq9
  subst e1; subst e2
  exact c8_groupOf0 x hl hk
theorem q8_groupOf1 (xq9 : XQ h X S T) {m : Nat} (hk : m < snm S) : FX8_groupOf E X (nI m) 1 h = xv (nI (sml S m)) h := by
  obtain ⟨w9, s9, f9, Z, x, z, hl, e1, e2, -⟩ := xq9
  subst e1; subst e2
  exact c8_groupOf1 x hl hk
theorem q8_fixed (xq9 : XQ h X S T) {m : Nat} (hk : m < snm S) {a : Nat} (ha : a < nuS S m) : FX8_fixed E X (nI m) (nI a) h = xv (fixS (mdS S T m) a) h := by
  obtain ⟨w9, s9, f9, Z, x, z, hl, e1, e2, -⟩ := xq9
  subst e1; subst e2
  exact c8_fixed x hl hk ha
theorem q8_orbit (xq9 : XQ h X S T) {m : Nat} (hk : m < snm S) {a : Nat} (ha : a < nuS S m) : FX8_orbit E X (nI m) (nI a) h = xv (orbS (mdS S T m) a) h := by
  obtain ⟨w9, s9, f9, Z, x, z, hl, e1, e2, -⟩ := xq9
  subst e1; subst e2
  exact c8_orbit x hl hk ha
theorem q8_isCentral (xq9 : XQ h X S T) {m : Nat} (hk : m < snm S) : FX8_isCentral E X (nI m) h = xv (if (kerS (mdS S T m) &&& (cenS (nuS S m) (sgt S (smu S m)) ^^^ (-1))) = 0 then 1 else 0) h := by
  obtain ⟨w9, s9, f9, Z, x, z, hl, e1, e2, -⟩ := xq9
  subst e1; subst e2
  exact c8_isCentral x hl hk
theorem q8_boundary (xq9 : XQ h X S T) {m : Nat} (hk : m < snm S) {a : Nat} (ha : a < nuS S m) : FX8_boundary E X (nI m) (nI a) h = xv (nI (tbd T m a)) h := by
  obtain ⟨w9, s9, f9, Z, x, z, hl, e1, e2, -⟩ := xq9
  subst e1; subst e2
  exact c8_boundary x hl hk ha
theorem q8_act (xq9 : XQ h X S T) {m : Nat} (hk : m < snm S) {g a : Nat} (hg : g < nlS2 S m) (ha : a < nuS S m) : FX8_act E X (nI m) (nI g) (nI a) h = xv (nI (tac T m g a)) h := by
  obtain ⟨w9, s9, f9, Z, x, z, hl, e1, e2, -⟩ := xq9
  subst e1; subst e2
  exact c8_act x hl hk hg ha
theorem q8_top (xq9 : XQ h X S T) {a : Nat} (hk : a < sna S) {b : Nat} (hb : b < nuS S (saf S a)) : FX8_top E X (nI a) (nI b) h = xv (nI (ttp T a b)) h := by
  obtain ⟨w9, s9, f9, Z, x, z, hl, e1, e2, -⟩ := xq9
  subst e1; subst e2
  exact c8_top x hl hk hb
theorem q8_bottom (xq9 : XQ h X S T) {a : Nat} (hk : a < sna S) {b : Nat} (hb : b < nlS2 S (saf S a)) : FX8_bottom E X (nI a) (nI b) h = xv (nI (tbt T a b)) h := by
  obtain ⟨w9, s9, f9, Z, x, z, hl, e1, e2, -⟩ := xq9
  subst e1; subst e2
  exact c8_bottom x hl hk hb
theorem q8_arrowWhy1 (xq9 : XQ h X S T) {p : Int32} (hp : inr p (sna S) = false) : FX8_arrowWhy E X p h = xx 1 h := by
  obtain ⟨w9, s9, f9, Z, x, z, hl, e1, e2, -⟩ := xq9
  subst e1; subst e2
  exact c8_arrowWhy1 x hl hp
theorem q8_account (xq9 : XQ h X S T) {k : Nat} (hk : k < 3) : FX8_account E X (nI k) h = xv (tcc T k) h := by
  obtain ⟨w9, s9, f9, Z, x, z, hl, e1, e2, -⟩ := xq9
  subst e1; subst e2
  exact c8_account x hl hk
theorem q8_account3 (xq9 : XQ h X S T) : FX8_account E X 3 h = xx 2 h := by
  obtain ⟨w9, s9, f9, Z, x, z, hl, e1, e2, -⟩ := xq9
  subst e1; subst e2
  exact c8_account3 x hl
theorem q8_count (xq9 : XQ h X S T) {k : Nat} (hk : k < 3) : FX8_count E X (nI k) h = xv (nI (scn S k)) h := by
  obtain ⟨w9, s9, f9, Z, x, z, hl, e1, e2, -⟩ := xq9
  subst e1; subst e2
  exact c8_count x hl hk
theorem q8_count3 (xq9 : XQ h X S T) : FX8_count E X 3 h = xx 2 h := by
  obtain ⟨w9, s9, f9, Z, x, z, hl, e1, e2, -⟩ := xq9
  subst e1; subst e2
  exact c8_count3 x hl
theorem q8_lawful (xq9 : XQ h X S T) : FX8_lawful E X h = xv (lawS S T) h := by
  obtain ⟨w9, s9, f9, Z, x, z, hl, e1, e2, -⟩ := xq9
  subst e1; subst e2
  exact c8_lawful x hl
theorem q8_letter (xq9 : XQ h X S T) {t k i : Nat} (ht : t < 3) (hk : k < scn S t) (hi : i < (snn S t k).length) : FX8_letter E X (nI t) (nI k) (nI i) h = xv (nI ((snn S t k).getD i 0)) h := by
  obtain ⟨w9, s9, f9, Z, x, z, hl, e1, e2, -⟩ := xq9
  subst e1; subst e2
  exact c8_letter x hl z ht hk hi
theorem q8_letter1 (xq9 : XQ h X S T) {t k : Nat} (ht : t < 3) (hk : k < scn S t) {i : Nat} (hi : (snn S t k).length ≤ i) (hi2 : i < 100) : FX8_letter E X (nI t) (nI k) (nI i) h = xx 1 h := by
  obtain ⟨w9, s9, f9, Z, x, z, hl, e1, e2, -⟩ := xq9
  subst e1; subst e2
  exact c8_letter1 x hl z ht hk hi hi2
theorem q8_letter2 (xq9 : XQ h X S T) {t : Nat} (ht : t < 3) {q : Int32} (hq : inr q (scn S t) = false) (i : Int32) : FX8_letter E X (nI t) q i h = xx 1 h := by
  obtain ⟨w9, s9, f9, Z, x, z, hl, e1, e2, -⟩ := xq9
  subst e1; subst e2
  exact c8_letter2 x hl ht hq i
theorem q8_letter3 (xq9 : XQ h X S T) (q i : Int32) : FX8_letter E X 3 q i h = xx 2 h := by
  obtain ⟨w9, s9, f9, Z, x, z, hl, e1, e2, -⟩ := xq9
  subst e1; subst e2
  exact c8_letter3 x hl q i
theorem q8_generated3 (xq9 : XQ h X S T) {g : Nat} (hk : g < sng S) {q : Int32} (hq : setS q (sgn S g) = false) : FX8_generated E X (nI g) q h = xx 2 h := by
  obtain ⟨w9, s9, f9, Z, x, z, hl, e1, e2, -⟩ := xq9
  subst e1; subst e2
  exact c8_generated3 x hl hk hq
theorem q8_classes (xq9 : XQ h X S T) {m : Nat} (hk : m < snm S) (hw : whS S T m = 0) : xo (FX8_classes E X (nI m) h) (fun v h1 => v = nI (ccN (mdS S T m)) ∧ iw (rXP X) h h1) := by
  obtain ⟨w9, s9, f9, Z, x, z, hl, e1, e2, -⟩ := xq9
  subst e1; subst e2
  exact c8_classes x hl hk hw
theorem q8_firstAlike (xq9 : XQ h X S T) {m : Nat} (hk : m < snm S) (hw : whS S T m = 0) : xo (FX8_firstAlike E X (nI m) h) (fun v h1 => v = nI (flS S T m) ∧ iw (rXP X) h h1) := by
  obtain ⟨w9, s9, f9, Z, x, z, hl, e1, e2, -⟩ := xq9
  subst e1; subst e2
  exact c8_firstAlike x hl hk hw
theorem q8_classOf (xq9 : XQ h X S T) {m : Nat} (hk : m < snm S) (hw : whS S T m = 0) {g : Nat} (hg : g < nlS2 S m) : xo (FX8_classOf E X (nI m) (nI g) h) (fun v h1 => v = nI (nmS (mdS S T m) g) ∧ iw (rXP X) h h1) := by
  obtain ⟨w9, s9, f9, Z, x, z, hl, e1, e2, -⟩ := xq9
  subst e1; subst e2
  exact c8_classOf x hl hk hw hg
theorem q8_classOf1 (xq9 : XQ h X S T) {m : Nat} (hk : m < snm S) {q : Int32} (hq : inr q (nlS2 S m) = false) : FX8_classOf E X (nI m) q h = xx 1 h := by
  obtain ⟨w9, s9, f9, Z, x, z, hl, e1, e2, -⟩ := xq9
  subst e1; subst e2
  exact c8_classOf1 x hl hk hq
theorem q8_classTimes (xq9 : XQ h X S T) {m : Nat} (hk : m < snm S) (hw : whS S T m = 0) {a b : Nat} (ha : a < ccN (mdS S T m)) (hb : b < ccN (mdS S T m)) : xo (FX8_classTimes E X (nI m) (nI a) (nI b) h) (fun v h1 => v = nI (cpS (mdS S T m) a b) ∧ iw (rXP X) h h1) := by
  obtain ⟨w9, s9, f9, Z, x, z, hl, e1, e2, -⟩ := xq9
  subst e1; subst e2
  exact c8_classTimes x hl hk hw ha hb
theorem q8_classTimes3 (xq9 : XQ h X S T) {m : Nat} (hk : m < snm S) (hw : whS S T m = 0) {q : Int32} (hq : inr q (ccN (mdS S T m)) = false) (r : Int32) : xq (FX8_classTimes E X (nI m) q r h) (fun r h1 => r = .inr 2 ∧ iw (rXP X) h h1) := by
  obtain ⟨w9, s9, f9, Z, x, z, hl, e1, e2, -⟩ := xq9
  subst e1; subst e2
  exact c8_classTimes3 x hl hk hw hq r
theorem q8_classAct3 (xq9 : XQ h X S T) {m : Nat} (hk : m < snm S) (hw : whS S T m = 0) {a b : Nat} (ha : a < ccN (mdS S T m)) (hb : b < nuS S m) (hz : ¬ tbd T m b = 0) : xq (FX8_classAct E X (nI m) (nI a) (nI b) h) (fun r h1 => r = .inr 2 ∧ iw (rXP X) h h1) := by
  obtain ⟨w9, s9, f9, Z, x, z, hl, e1, e2, -⟩ := xq9
  subst e1; subst e2
  exact c8_classAct3 x hl hk hw ha hb hz
theorem q8_classAct (xq9 : XQ h X S T) {m : Nat} (hk : m < snm S) (hw : whS S T m = 0) {a b : Nat} (ha : a < ccN (mdS S T m)) (hb : b < nuS S m) (c3 : tbd T m b = 0) : xo (FX8_classAct E X (nI m) (nI a) (nI b) h) (fun v h1 => v = nI (tac T m (lsS (mdS S T m) a) b) ∧ iw (rXP X) h h1) := by
  obtain ⟨w9, s9, f9, Z, x, z, hl, e1, e2, -⟩ := xq9
  subst e1; subst e2
  exact c8_classAct x hl hk hw ha hb c3
theorem q8_profile0 (xq9 : XQ h X S T) {m : Nat} (hk : m < snm S) (hw : whS S T m = 0) {k : Nat} (k1 : 1 ≤ k) (k8 : k ≤ 8) : xo (FX8_profile E X (nI m) 0 (nI k) h) (fun v h1 => v = koS (mdS S T m) k ∧ iw (rXP X) h h1) := by
  obtain ⟨w9, s9, f9, Z, x, z, hl, e1, e2, -⟩ := xq9
  subst e1; subst e2
  exact c8_profile0 x hl hk hw k1 k8
theorem q8_profile1 (xq9 : XQ h X S T) {m : Nat} (hk : m < snm S) (hw : whS S T m = 0) {k : Nat} (k1 : 1 ≤ k) (k8 : k ≤ 8) : xo (FX8_profile E X (nI m) 1 (nI k) h) (fun v h1 => v = coS (mdS S T m) k ∧ iw (rXP X) h h1) := by
  obtain ⟨w9, s9, f9, Z, x, z, hl, e1, e2, -⟩ := xq9
  subst e1; subst e2
  exact c8_profile1 x hl hk hw k1 k8
theorem q8_profile3 (xq9 : XQ h X S T) {m : Nat} (hk : m < snm S) (hw : whS S T m = 0) (q : Int32) : FX8_profile E X (nI m) q 9 h = xx 2 h := by
  obtain ⟨w9, s9, f9, Z, x, z, hl, e1, e2, -⟩ := xq9
  subst e1; subst e2
  exact c8_profile3 x hl hk hw q
theorem q8_classes2 (xq9 : XQ h X S T) {m : Nat} (hk : m < snm S) (hw : ¬ whS S T m = 0) : FX8_classes E X (nI m) h = xx 2 h := by
  obtain ⟨w9, s9, f9, Z, x, z, hl, e1, e2, -⟩ := xq9
  subst e1; subst e2
  exact c8_classes2 x hl hk hw
theorem q8_profile2 (xq9 : XQ h X S T) {m : Nat} (hk : m < snm S) (hw : ¬ whS S T m = 0) (q r : Int32) : FX8_profile E X (nI m) q r h = xx 2 h := by
  obtain ⟨w9, s9, f9, Z, x, z, hl, e1, e2, -⟩ := xq9
  subst e1; subst e2
  exact c8_profile2 x hl hk hw q r
theorem q8_largeTimes2 (xq9 : XQ h X S T) {m : Nat} (hk : m < snm S) (hw : ¬ whS S T m = 0) (q r : Int32) : FX8_largeTimes E X (nI m) q r h = xx 2 h := by
  obtain ⟨w9, s9, f9, Z, x, z, hl, e1, e2, -⟩ := xq9
  subst e1; subst e2
  exact c8_largeTimes2 x hl hk hw q r
theorem q8_firstAlike2 (xq9 : XQ h X S T) {m : Nat} (hk : m < snm S) (hw : ¬ whS S T m = 0) : FX8_firstAlike E X (nI m) h = xx 2 h := by
  obtain ⟨w9, s9, f9, Z, x, z, hl, e1, e2, -⟩ := xq9
  subst e1; subst e2
  exact c8_firstAlike2 x hl hk hw
theorem q8_kinds (xq9 : XQ h X S T) : xo (FX8_kinds E X h) (fun v h1 => v = sumI (fun k => if whS S T k = 0 ∧ flS S T k = k then 1 else 0) (snm S) ∧ iw (rXP X) h h1) := by
  obtain ⟨w9, s9, f9, Z, x, z, hl, e1, e2, -⟩ := xq9
  subst e1; subst e2
  exact c8_kinds x hl
theorem q8_setBoundaryM (xq9 : XQ h X S T) {p : Int32} (hp : inr p (snm S) = false) (q r : Int32) : FX8_setBoundary E X p q r h = xx 1 h := by
  obtain ⟨w9, s9, f9, Z, x, z, hl, e1, e2, -⟩ := xq9
  subst e1; subst e2
  exact c8_setBoundaryM x hl hp q r
theorem q8_setBoundaryG (xq9 : XQ h X S T) {m : Nat} (hk : m < snm S) {a : Nat} (ha : a < nuS S m) {q : Int32} (hq : inr q (nlS2 S m) = false) : FX8_setBoundary E X (nI m) (nI a) q h = xx 1 h := by
  obtain ⟨w9, s9, f9, Z, x, z, hl, e1, e2, -⟩ := xq9
  subst e1; subst e2
  exact c8_setBoundaryG x hl hk ha hq
theorem q8_setActM (xq9 : XQ h X S T) {p : Int32} (hp : inr p (snm S) = false) (q r t : Int32) : FX8_setAct E X p q r t h = xx 1 h := by
  obtain ⟨w9, s9, f9, Z, x, z, hl, e1, e2, -⟩ := xq9
  subst e1; subst e2
  exact c8_setActM x hl hp q r t
theorem q8_setActT (xq9 : XQ h X S T) {m : Nat} (hk : m < snm S) {g a : Nat} (hg : g < nlS2 S m) (ha : a < nuS S m) {t : Int32} (ht : inr t (nuS S m) = false) : FX8_setAct E X (nI m) (nI g) (nI a) t h = xx 1 h := by
  obtain ⟨w9, s9, f9, Z, x, z, hl, e1, e2, -⟩ := xq9
  subst e1; subst e2
  exact c8_setActT x hl hk hg ha ht
theorem q8_restM (xq9 : XQ h X S T) {p : Int32} (hp : inr p (snm S) = false) : FX8_rest E X p h = xx 1 h := by
  obtain ⟨w9, s9, f9, Z, x, z, hl, e1, e2, -⟩ := xq9
  subst e1; subst e2
  exact c8_restM x hl hp
theorem q8_conjugate2 (xq9 : XQ h X S T) {m : Nat} (hk : m < snm S) (hu : ¬ smu S m = sml S m) : FX8_conjugate E X (nI m) h = xx 2 h := by
  obtain ⟨w9, s9, f9, Z, x, z, hl, e1, e2, -⟩ := xq9
  subst e1; subst e2
  exact c8_conjugate2 x hl hk hu
theorem q8_setTopA (xq9 : XQ h X S T) {p : Int32} (hp : inr p (sna S) = false) (q r : Int32) : FX8_setTop E X p q r h = xx 1 h := by
  obtain ⟨w9, s9, f9, Z, x, z, hl, e1, e2, -⟩ := xq9
  subst e1; subst e2
  exact c8_setTopA x hl hp q r
theorem q8_setTopH (xq9 : XQ h X S T) {a : Nat} (hk : a < sna S) {q : Int32} (hq : inr q (nuS S (saf S a)) = false) (r : Int32) : FX8_setTop E X (nI a) q r h = xx 1 h := by
  obtain ⟨w9, s9, f9, Z, x, z, hl, e1, e2, -⟩ := xq9
  subst e1; subst e2
  exact c8_setTopH x hl hk hq r
theorem q8_setBottomT (xq9 : XQ h X S T) {a : Nat} (hk : a < sna S) {b : Nat} (hb : b < nlS2 S (saf S a)) {q : Int32} (hq : inr q (nlS2 S (sao S a)) = false) : FX8_setBottom E X (nI a) (nI b) q h = xx 1 h := by
  obtain ⟨w9, s9, f9, Z, x, z, hl, e1, e2, -⟩ := xq9
  subst e1; subst e2
  exact c8_setBottomT x hl hk hb hq
theorem XQ.bm (q : XQ h X S T) {m : Nat} (hm : m < snm S) : m < 6 ∧ smu S m < 6 ∧ sml S m < 6 ∧ nuS S m ≤ 8 ∧ nlS2 S m ≤ 8 := by
  obtain ⟨w9, s9, f9, Z, x, z, hl, e1, e2, -⟩ := q
  subst e1; subst e2
  exact x.bm hm
theorem XQ.ba (q : XQ h X S T) {a : Nat} (ha : a < sna S) : a < 8 ∧ saf S a < snm S ∧ sao S a < snm S := by
  obtain ⟨w9, s9, f9, Z, x, z, hl, e1, e2, -⟩ := q
  subst e1; subst e2
  exact x.ba ha
end XQS
