/-! The law's Module. -/
set_option linter.unusedVariables false
/-- the Module at M over the tables U and L holds d -/
def lM (h : XH) (M U L : Nat) (d : MD) : Prop := (xk h M = 22 ∧ (xr h M 2 = some U ∧ xr h M 3 = some L) ∧ xr h M 4 = some (M + 2) ∧ xr h M 5 = some (M + 1)) ∧ (lT h U (dnu d) (dtu d) ∧ lT h L (dnl d) (dtl d)) ∧ (((xk h (M + 1) = 12 ∧ xn h (M + 1) = dnu d) ∧ ∀ a, a < dnu d → xi h (M + 1) a = nI (dbd d a)) ∧ lV h (M + 2) (dnl d) (dnu d) (dac d)) ∧ Wd d ∧ GD d
section LMD
variable {E : XG} {h : XH} {M U L : Nat} {d : MD}
theorem lM.k (m : lM h M U L d) : xk h M = 22 := m.1.1
theorem lM.r2 (m : lM h M U L d) : xr h M 2 = some U := m.1.2.1.1
theorem lM.r3 (m : lM h M U L d) : xr h M 3 = some L := m.1.2.1.2
theorem lM.r4 (m : lM h M U L d) : xr h M 4 = some (M + 2) := m.1.2.2.1
theorem lM.r5 (m : lM h M U L d) : xr h M 5 = some (M + 1) := m.1.2.2.2
theorem lM.u (m : lM h M U L d) : lT h U (dnu d) (dtu d) := m.2.1.1
theorem lM.l (m : lM h M U L d) : lT h L (dnl d) (dtl d) := m.2.1.2
theorem lM.kb (m : lM h M U L d) : xk h (M + 1) = 12 := m.2.2.1.1.1.1
theorem lM.nb (m : lM h M U L d) : xn h (M + 1) = dnu d := m.2.2.1.1.1.2
theorem lM.a (m : lM h M U L d) : lV h (M + 2) (dnl d) (dnu d) (dac d) := m.2.2.1.2
theorem lM.w (m : lM h M U L d) : Wd d := m.2.2.2.1
theorem lM.g (m : lM h M U L d) : GD d := m.2.2.2.2
theorem lM.bg (m : lM h M U L d) {a : Nat} (ha : a < dnu d) : xk h (M + 1) = 12 ∧ xin (nI a) (xn h (M + 1)) := ⟨m.kb, by rw [m.nb]; exact xin_nI ha (by have := m.w.1.2.1; omega)⟩
theorem lM.bv (m : lM h M U L d) {a : Nat} (ha : a < dnu d) : xi h (M + 1) (nI a).toNatClampNeg = nI (dbd d a) := by rw [xz_nI (by have := m.w.1.2.1; omega)]; exact m.2.2.1.1.2 a ha
theorem lM.u8 (m : lM h M U L d) : dnu d < 2 ^ 31 := by have := m.w.1.2.1; omega
theorem lM.l8 (m : lM h M U L d) : dnl d < 2 ^ 31 := by have := m.w.1.2.2.2; omega
theorem lrow0 {α : Type} {G n k : Nat} (q : lS h G n k) (hn : n < 2 ^ 31) (h0 : 0 < n) (f : Nat → XP α) : xg (xk h G = 18 ∧ xin 0 (xn h G)) (xnn (xr h G (0 : Int32).toNatClampNeg) f) = f (G + 1 + 0) := lrow q hn h0 f
theorem lconj_v (m : lM h M U L d) {g a : Nat} (hg : g < dnu d) (ha : a < dnu d) : FX11_conjugate E M (nI g) (nI a) h = xv (nI (dtu d (dtu d g a) (dvu d g))) h := by
  have u8 := m.u8
  have q1 := m.w.2.1 g a hg ha
  have q2 := m.w.2.2.1 g hg
  unfold FX11_conjugate
  rw [xg_t m.k, xnn_e m.r2, xg_t m.k, xnn_e m.r2, lrow m.u.1 u8 hg, xg_t (lS_c m.u.1 hg ha u8), lV_v m.u hg ha u8, lrow m.u.1 u8 q1, xg_t m.k, xnn_e m.r2, xb_eq (inv_v m.u m.g.1 m.w.1.2.1 hg), xg_t (lS_c m.u.1 q1 q2 u8), lV_v m.u q1 q2 u8]
theorem b2_eq {g : Nat} : (anyB (dnu d) fun x => anyB (dnu d) fun k => (decide (¬ x = k) && dac d g x == dac d g k) || dac d g (dtu d x k) != dtu d (dac d g x) (dac d g k)) = b2S d g := by
  unfold b2S
  rw [Bool.eq_iff_iff, Bool.or_eq_true, anyB_iff, anyB_iff, anyB_iff]
  constructor
  · rintro ⟨x, hx, q⟩
    obtain ⟨k, hk, q⟩ := anyB_iff.mp q
    rw [Bool.or_eq_true, Bool.and_eq_true] at q
    rcases q with ⟨q1, q2⟩ | q
    · have q1 := of_decide_eq_true q1
      have q2 := beq_iff_eq.mp q2
      rcases Nat.lt_or_gt_of_ne q1 with z | z
      · exact Or.inl ⟨k, hk, anyB_iff.mpr ⟨x, z, beq_iff_eq.mpr q2⟩⟩
      · exact Or.inl ⟨x, hx, anyB_iff.mpr ⟨k, z, beq_iff_eq.mpr q2.symm⟩⟩
    · exact Or.inr ⟨x, hx, anyB_iff.mpr ⟨k, hk, q⟩⟩
  · rintro (⟨x, hx, q⟩ | ⟨x, hx, q⟩)
    · obtain ⟨k, hk, q⟩ := anyB_iff.mp q
      refine ⟨x, hx, anyB_iff.mpr ⟨k, by omega, ?_⟩⟩
      rw [Bool.or_eq_true, Bool.and_eq_true]
      exact Or.inl ⟨decide_eq_true (by omega), beq_iff_eq.mpr (beq_iff_eq.mp q).symm⟩
    · obtain ⟨k, hk, q⟩ := anyB_iff.mp q
      refine ⟨x, hx, anyB_iff.mpr ⟨k, hk, ?_⟩⟩
      rw [Bool.or_eq_true]
      exact Or.inr q
theorem b3_eq (h0 : 0 < dnl d) : (anyB (dnl d) fun g => anyB (dnl d) fun k => anyB (dnu d) fun x => (dac d 0 x != x) || dac d (dtl d g k) x != dac d g (dac d k x)) = b3S d := by
  unfold b3S
  rw [Bool.eq_iff_iff, Bool.or_eq_true, anyB_iff, anyB_iff, anyB_iff]
  constructor
  · rintro ⟨g, hg, q⟩
    obtain ⟨k, hk, q⟩ := anyB_iff.mp q
    obtain ⟨x, hx, q⟩ := anyB_iff.mp q
    rw [Bool.or_eq_true] at q
    rcases q with q | q
    · exact Or.inl ⟨x, hx, q⟩
    · exact Or.inr ⟨g, hg, anyB_iff.mpr ⟨k, hk, anyB_iff.mpr ⟨x, hx, q⟩⟩⟩
  · rintro (⟨x, hx, q⟩ | ⟨g, hg, q⟩)
    · refine ⟨0, h0, anyB_iff.mpr ⟨0, h0, anyB_iff.mpr ⟨x, hx, ?_⟩⟩⟩
      rw [Bool.or_eq_true]
      exact Or.inl q
    · obtain ⟨k, hk, q⟩ := anyB_iff.mp q
      obtain ⟨x, hx, q⟩ := anyB_iff.mp q
      refine ⟨g, hg, anyB_iff.mpr ⟨k, hk, anyB_iff.mpr ⟨x, hx, ?_⟩⟩⟩
      rw [Bool.or_eq_true]
      exact Or.inr q
theorem ite_ag2 {c : Bool} {ag : Int32 × Int32 → XH → XP Int32} {x y i : Int32} : ag (if c = true then x else y, i) h = if c = true then ag (x, i) h else ag (y, i) h := by cases c <;> rfl
theorem lwhy_v (m : lM h M U L d) : FX11_why E M h = xv (nI (whyS d)) h := by
  have u8 := m.u8
  have l8 := m.l8
  obtain ⟨⟨w1, w2, w3, w4⟩, w5, w6, w7, w8, w9, w10⟩ := m.w
  have hu0 : ¬ nI (dnu d) ≤ (0 : Int32) := by rw [li0, nI_leP u8 (by omega)]; omega
  have hl0 : ¬ nI (dnl d) ≤ (0 : Int32) := by rw [li0, nI_leP l8 (by omega)]; omega
  unfold FX11_why
  rw [xg_t m.k, xnn_e m.r3, xg_t m.l.1.1.1, xlt_d, xg_t m.k, xnn_e m.r2, xg_t m.u.1.1.1, xlt_d, m.l.1.1.2, m.u.1.1.2, ofNat_nI, ofNat_nI]
  refine flg (fun x => anyB (dnu d) fun k => dbd d (dtu d x k) != dtl d (dbd d x) (dbd d k)) (dnu d) 9 1 (by omega) (fun i hi ag s1 => ?_) (fun ag => ?_)
  · dsimp only
    rw [if_neg (nI_ge hi u8)]
    refine flg (fun k => dbd d (dtu d i k) != dtl d (dbd d i) (dbd d k)) (dnu d) s1 1 (by omega) (fun j hj ag2 s2 => ?_) (fun ag2 => ?_)
    · have q1 := w5 i j hi hj
      have q2 := w9 i hi
      have q3 := w9 j hj
      have q4 := w9 _ q1
      have q5 := w7 _ _ q2 q3
      dsimp only
      rw [if_neg (nI_ge hj u8), xg_t m.k, xnn_e m.r5, xg_t m.k, xnn_e m.r2, lrow m.u.1 u8 hi, xg_t (lS_c m.u.1 hi hj u8), lV_v m.u hi hj u8, xg_t (m.bg q1), xg_t m.k, xnn_e m.r3, xg_t m.k, xnn_e m.r5, xg_t (m.bg hi), m.bv hi, lrow m.l.1 l8 q2, xg_t m.k, xnn_e m.r5, xg_t (m.bg hj), m.bv hj, xg_t (lS_c m.l.1 q2 q3 l8), xjn_d, m.bv q1, lV_v m.l q2 q3 l8, nI_s]
      by_cases q : dbd d (dtu d i j) = dtl d (dbd d i) (dbd d j)
      · rw [if_pos (congrArg nI q), bne_f q]; rfl
      · rw [if_neg (fun z => q ((nI_eq (by omega) (by omega)).mp z)), bne_t q]; rfl
    · dsimp only
      rw [if_pos (Int32.le_refl _), nI_s]
  · dsimp only
    rw [if_pos (Int32.le_refl _), show (anyB (dnu d) fun x => anyB (dnu d) fun k => dbd d (dtu d x k) != dtl d (dbd d x) (dbd d k)) = b1S d from rfl]
    cases hb1 : b1S d
    case true =>
      rw [if_pos rfl, show whyS d = 1 from by unfold whyS; rw [hb1]; rfl]
      try dsimp only
      rw [xlp1]
      dsimp only
      rw [xjn_d, if_neg hl0, if_pos (by decide)]
      try dsimp only
      rw [xlp1]
      dsimp only
      rw [xjn_d, if_neg hl0, if_pos (by decide)]
      try dsimp only
      rw [xlp1]
      dsimp only
      rw [xjn_d, if_neg hl0, if_pos (by decide)]
      try dsimp only
      rw [xlp1]
      dsimp only
      rw [xjn_d, if_neg hu0, if_pos (by decide)]
      try dsimp only
      rw [xjn_d]
      try dsimp only
      first | rw [if_neg (by decide)] | rw [xjn_d, if_neg (by decide)]
      try rfl
    case false =>
      rw [if_neg (by decide)]
      have hw : whyS d = if anyB (dnl d) (b2S d) then 2 else if b3S d then 3 else if b4S d then 4 else if b5S d then 5 else 0 := by unfold whyS; rw [hb1]; rfl
      refine (xlp_flag (fun i => ((2 : Int32), nI i)) (fun i => ((9 : Int32), nI i)) h (dnl d) (b2S d) (R1 := xv (nI 2) h) (R2 := xv (nI (if b3S d then 3 else if b4S d then 4 else if b5S d then 5 else 0)) h) (by omega) (fun g hg ag2 => ?_) (fun g hg ag2 => ?_) (fun ag2 => ?_)).trans (by rw [hw]; cases anyB (dnl d) (b2S d) <;> rfl)
      · dsimp only
        rw [xjn_d, if_neg (nI_ge hg l8), if_neg (by decide), ← ite_ag2, ← b2_eq]
        refine flg (fun x => anyB (dnu d) fun k => (decide (¬ x = k) && dac d g x == dac d g k) || dac d g (dtu d x k) != dtu d (dac d g x) (dac d g k)) (dnu d) 9 2 (by omega) (fun i hi ag3 s3 => ?_) (fun ag3 => ?_)
        · dsimp only
          rw [if_neg (nI_ge hi u8)]
          refine flg (fun k => (decide (¬ i = k) && dac d g i == dac d g k) || dac d g (dtu d i k) != dtu d (dac d g i) (dac d g k)) (dnu d) s3 2 (by omega) (fun j hj ag4 s4 => ?_) (fun ag4 => ?_)
          · have q1 := w5 i j hi hj
            have q2 := w10 g i hg hi
            have q3 := w10 g j hg hj
            have q4 := w10 g _ hg q1
            have q5 := w5 _ _ q2 q3
            dsimp only
            rw [if_neg (nI_ge hj u8), xjn_d, xjn_d, xjn_d]
            by_cases ehk : i = j
            · have e0 : (decide (¬ i = j) && dac d g i == dac d g j) = false := by rw [decide_eq_false (fun z => z ehk)]; rfl
              rw [if_pos (by rw [ehk])]
              dsimp only
              rw [xg_t m.k, xnn_e m.r4, lrow m.a.1 l8 hg, xg_t m.k, xnn_e m.r2, lrow m.u.1 u8 hi, xg_t (lS_c m.u.1 hi hj u8), lV_v m.u hi hj u8, xg_t (lS_c m.a.1 hg q1 u8), xg_t m.k, xnn_e m.r2, xg_t m.k, xnn_e m.r4, lrow m.a.1 l8 hg, xg_t (lS_c m.a.1 hg hi u8), lV_v m.a hg hi u8, lrow m.u.1 u8 q2, xg_t m.k, xnn_e m.r4, lrow m.a.1 l8 hg, xg_t (lS_c m.a.1 hg hj u8), lV_v m.a hg hj u8, xg_t (lS_c m.u.1 q2 q3 u8), lV_v m.a hg q1 u8, lV_v m.u q2 q3 u8, nI_s]
              by_cases q : dac d g (dtu d i j) = dtu d (dac d g i) (dac d g j)
              · rw [if_pos (congrArg nI q), bne_f q, e0]; rfl
              · rw [if_neg (fun z => q ((nI_eq (by omega) (by omega)).mp z)), bne_t q, Bool.or_true]; rfl
            · rw [if_neg (fun z => ehk ((nI_eq (by omega) (by omega)).mp z)), xg_t m.k, xnn_e m.r4, lrow m.a.1 l8 hg, xg_t (lS_c m.a.1 hg hi u8), xg_t m.k, xnn_e m.r4, lrow m.a.1 l8 hg, xg_t (lS_c m.a.1 hg hj u8), lV_v m.a hg hi u8, lV_v m.a hg hj u8]
              by_cases ea : dac d g i = dac d g j
              · have e0 : (decide (¬ i = j) && dac d g i == dac d g j) = true := by rw [decide_eq_true ehk, beq_iff_eq.mpr ea]; rfl
                rw [if_pos (congrArg nI ea), e0, nI_s]
                rfl
              · have e0 : (decide (¬ i = j) && dac d g i == dac d g j) = false := by rw [beq_eq_false_iff_ne.mpr ea, Bool.and_false]
                rw [if_neg (fun z => ea ((nI_eq (by omega) (by omega)).mp z))]
                dsimp only
                rw [xg_t m.k, xnn_e m.r4, lrow m.a.1 l8 hg, xg_t m.k, xnn_e m.r2, lrow m.u.1 u8 hi, xg_t (lS_c m.u.1 hi hj u8), lV_v m.u hi hj u8, xg_t (lS_c m.a.1 hg q1 u8), xg_t m.k, xnn_e m.r2, xg_t m.k, xnn_e m.r4, lrow m.a.1 l8 hg, xg_t (lS_c m.a.1 hg hi u8), lV_v m.a hg hi u8, lrow m.u.1 u8 q2, xg_t m.k, xnn_e m.r4, lrow m.a.1 l8 hg, xg_t (lS_c m.a.1 hg hj u8), lV_v m.a hg hj u8, xg_t (lS_c m.u.1 q2 q3 u8), lV_v m.a hg q1 u8, lV_v m.u q2 q3 u8, nI_s]
                by_cases q : dac d g (dtu d i j) = dtu d (dac d g i) (dac d g j)
                · rw [if_pos (congrArg nI q), bne_f q, e0]; rfl
                · rw [if_neg (fun z => q ((nI_eq (by omega) (by omega)).mp z)), bne_t q, Bool.or_true]; rfl
          · dsimp only
            rw [if_pos (Int32.le_refl _), nI_s]
        · dsimp only
          rw [if_pos (Int32.le_refl _), nI_s]
      · dsimp only
        have ez : ∀ x y : XP Int32, (if nI (dnl d) ≤ nI g then x else if (2 : Int32) ≤ 2 then x else y) = x := fun x y => by
          split
          · rfl
          · exact if_pos (by decide)
        rw [xjn_d, ez]
        try dsimp only
        rw [xlp1]
        dsimp only
        rw [xjn_d, if_neg hl0, if_pos (by decide)]
        try dsimp only
        rw [xlp1]
        dsimp only
        rw [xjn_d, if_neg hl0, if_pos (by decide)]
        try dsimp only
        rw [xlp1]
        dsimp only
        rw [xjn_d, if_neg hu0, if_pos (by decide)]
        try dsimp only
        rw [xjn_d]
        try dsimp only
        first | rw [if_neg (by decide)] | rw [xjn_d, if_neg (by decide)]
        try rfl
      · dsimp only
        rw [xjn_d, if_pos (Int32.le_refl _)]
        refine (xlp_flag (fun i => ((3 : Int32), nI i)) (fun i => ((9 : Int32), nI i)) h (dnl d) (fun g => anyB (dnl d) fun k => anyB (dnu d) fun x => (dac d 0 x != x) || dac d (dtl d g k) x != dac d g (dac d k x)) (R1 := xv (nI 3) h) (R2 := xv (nI (if b4S d then 4 else if b5S d then 5 else 0)) h) (by omega) (fun g hg ag3 => ?_) (fun g hg ag3 => ?_) (fun ag3 => ?_)).trans (by rw [b3_eq w3]; cases b3S d <;> rfl)
        · dsimp only
          rw [xjn_d, if_neg (nI_ge hg l8), if_neg (by decide), ← ite_ag2]
          refine flg (fun k => anyB (dnu d) fun x => (dac d 0 x != x) || dac d (dtl d g k) x != dac d g (dac d k x)) (dnl d) 9 3 (by omega) (fun f hf ag4 s4 => ?_) (fun ag4 => ?_)
          · dsimp only
            rw [if_neg (nI_ge hf l8)]
            refine flg (fun x => (dac d 0 x != x) || dac d (dtl d g f) x != dac d g (dac d f x)) (dnu d) s4 3 (by omega) (fun j hj ag5 s5 => ?_) (fun ag5 => ?_)
            · have q1 := w7 g f hg hf
              have q2 := w10 f j hf hj
              have q3 := w10 _ j q1 hj
              have q4 := w10 g _ hg q2
              have q5 := w10 0 j w3 hj
              dsimp only
              rw [if_neg (nI_ge hj u8), xg_t m.k, xnn_e m.r4, lrow0 m.a.1 l8 w3, xg_t (lS_c m.a.1 w3 hj u8), xjn_d, xjn_d, lV_v m.a w3 hj u8]
              by_cases e1 : dac d 0 j = j
              · rw [if_pos (congrArg nI e1), bne_f e1, Bool.false_or, xg_t m.k, xnn_e m.r4, xg_t m.k, xnn_e m.r3, lrow m.l.1 l8 hg, xg_t (lS_c m.l.1 hg hf l8), lV_v m.l hg hf l8, lrow m.a.1 l8 q1, xg_t (lS_c m.a.1 q1 hj u8), xg_t m.k, xnn_e m.r4, lrow m.a.1 l8 hg, xg_t m.k, xnn_e m.r4, lrow m.a.1 l8 hf, xg_t (lS_c m.a.1 hf hj u8), lV_v m.a hf hj u8, xg_t (lS_c m.a.1 hg q2 u8), lV_v m.a q1 hj u8, lV_v m.a hg q2 u8, nI_s]
                by_cases q : dac d (dtl d g f) j = dac d g (dac d f j)
                · rw [if_pos (congrArg nI q), bne_f q]; rfl
                · rw [if_neg (fun z => q ((nI_eq (by omega) (by omega)).mp z)), bne_t q]; rfl
              · rw [if_neg (fun z => e1 ((nI_eq (by omega) (by omega)).mp z)), bne_t e1, Bool.true_or, nI_s]; rfl
            · dsimp only
              rw [if_pos (Int32.le_refl _), nI_s]
          · dsimp only
            rw [if_pos (Int32.le_refl _), nI_s]
        · dsimp only
          have ez : ∀ x y : XP Int32, (if nI (dnl d) ≤ nI g then x else if (3 : Int32) ≤ 3 then x else y) = x := fun x y => by
            split
            · rfl
            · exact if_pos (by decide)
          rw [xjn_d, ez]
          try dsimp only
          rw [xlp1]
          dsimp only
          rw [xjn_d, if_neg hl0, if_pos (by decide)]
          try dsimp only
          rw [xlp1]
          dsimp only
          rw [xjn_d, if_neg hu0, if_pos (by decide)]
          try dsimp only
          rw [xjn_d]
          try dsimp only
          first | rw [if_neg (by decide)] | rw [xjn_d, if_neg (by decide)]
          try rfl
        · dsimp only
          rw [xjn_d, if_pos (Int32.le_refl _)]
          refine (xlp_flag (fun i => ((4 : Int32), nI i)) (fun i => ((9 : Int32), nI i)) h (dnl d) (fun g => anyB (dnu d) fun x => dbd d (dac d g x) != dtl d (dtl d g (dbd d x)) (dvl d g)) (R1 := xv (nI 4) h) (R2 := xv (nI (if b5S d then 5 else 0)) h) (by omega) (fun g hg ag4 => ?_) (fun g hg ag4 => ?_) (fun ag4 => ?_)).trans (by rw [show (anyB (dnl d) fun g => anyB (dnu d) fun x => dbd d (dac d g x) != dtl d (dtl d g (dbd d x)) (dvl d g)) = b4S d from rfl]; cases b4S d <;> rfl)
          · dsimp only
            rw [xjn_d, if_neg (nI_ge hg l8), if_neg (by decide), ← ite_ag2]
            refine flg (fun x => dbd d (dac d g x) != dtl d (dtl d g (dbd d x)) (dvl d g)) (dnu d) 9 4 (by omega) (fun j hj ag5 s5 => ?_) (fun ag5 => ?_)
            · have q1 := w10 g j hg hj
              have q2 := w9 j hj
              have q3 := w9 _ q1
              have q4 := w7 g _ hg q2
              have q5 := w8 g hg
              have q6 := w7 _ _ q4 q5
              dsimp only
              rw [if_neg (nI_ge hj u8), xg_t m.k, xnn_e m.r5, xg_t m.k, xnn_e m.r4, lrow m.a.1 l8 hg, xg_t (lS_c m.a.1 hg hj u8), lV_v m.a hg hj u8, xg_t (m.bg q1), xg_t m.k, xnn_e m.r3, xg_t m.k, xnn_e m.r3, lrow m.l.1 l8 hg, xg_t m.k, xnn_e m.r5, xg_t (m.bg hj), m.bv hj, xg_t (lS_c m.l.1 hg q2 l8), lV_v m.l hg q2 l8, lrow m.l.1 l8 q4, xg_t m.k, xnn_e m.r3, xb_eq (inv_v m.l m.g.2 w4 hg), xg_t (lS_c m.l.1 q4 q5 l8), xjn_d, m.bv q1, lV_v m.l q4 q5 l8, nI_s]
              by_cases q : dbd d (dac d g j) = dtl d (dtl d g (dbd d j)) (dvl d g)
              · rw [if_pos (congrArg nI q), bne_f q]; rfl
              · rw [if_neg (fun z => q ((nI_eq (by omega) (by omega)).mp z)), bne_t q]; rfl
            · dsimp only
              rw [if_pos (Int32.le_refl _), nI_s]
          · dsimp only
            have ez : ∀ x y : XP Int32, (if nI (dnl d) ≤ nI g then x else if (4 : Int32) ≤ 4 then x else y) = x := fun x y => by
              split
              · rfl
              · exact if_pos (by decide)
            rw [xjn_d, ez]
            try dsimp only
            rw [xlp1]
            dsimp only
            rw [xjn_d, if_neg hu0, if_pos (by decide)]
            try dsimp only
            rw [xjn_d]
            try dsimp only
            first | rw [if_neg (by decide)] | rw [xjn_d, if_neg (by decide)]
            try rfl
          · dsimp only
            rw [xjn_d, if_pos (Int32.le_refl _)]
            refine (xlp_flag (fun i => ((5 : Int32), nI i)) (fun i => ((9 : Int32), nI i)) h (dnu d) (fun x => anyB (dnu d) fun k => dac d (dbd d x) k != dtu d (dtu d x k) (dvu d x)) (R1 := xv (nI 5) h) (R2 := xv (nI 0) h) (by omega) (fun i hi ag5 => ?_) (fun g hg ag5 => ?_) (fun ag5 => ?_)).trans (by rw [show (anyB (dnu d) fun x => anyB (dnu d) fun k => dac d (dbd d x) k != dtu d (dtu d x k) (dvu d x)) = b5S d from rfl]; cases b5S d <;> rfl)
            · dsimp only
              rw [xjn_d, if_neg (nI_ge hi u8), if_neg (by decide), ← ite_ag2]
              refine flg (fun k => dac d (dbd d i) k != dtu d (dtu d i k) (dvu d i)) (dnu d) 9 5 (by omega) (fun j hj ag6 s6 => ?_) (fun ag6 => ?_)
              · have q1 := w9 i hi
                have q2 := w10 _ j q1 hj
                have q3 := w5 i j hi hj
                have q4 := w5 _ _ q3 (w6 i hi)
                dsimp only
                rw [if_neg (nI_ge hj u8), xg_t m.k, xnn_e m.r4, xg_t m.k, xnn_e m.r5, xg_t (m.bg hi), m.bv hi, lrow m.a.1 l8 q1, xg_t (lS_c m.a.1 q1 hj u8), xg_t m.k, xb_eq (lconj_v m hi hj), xjn_d, lV_v m.a q1 hj u8, nI_s]
                by_cases q : dac d (dbd d i) j = dtu d (dtu d i j) (dvu d i)
                · rw [if_pos (congrArg nI q), bne_f q]; rfl
                · rw [if_neg (fun z => q ((nI_eq (by omega) (by omega)).mp z)), bne_t q]; rfl
              · dsimp only
                rw [if_pos (Int32.le_refl _), nI_s]
            · dsimp only
              have ez : ∀ x y : XP Int32, (if nI (dnu d) ≤ nI g then x else if (5 : Int32) ≤ 5 then x else y) = x := fun x y => by
                split
                · rfl
                · exact if_pos (by decide)
              rw [xjn_d, ez]
              try dsimp only
              rw [xjn_d]
              try dsimp only
              first | rw [if_neg (by decide)] | rw [xjn_d, if_neg (by decide)]
              try rfl
            · dsimp only
              rw [xjn_d, if_pos (Int32.le_refl _)]
              dsimp only
              rw [xjn_d, if_pos rfl]
              rfl
theorem lker_v (m : lM h M U L d) : FX11_kernel E M h = xv (kerS d) h := by
  have u8 := m.u8
  have w2 := m.w.1.2.1
  have w9 := m.w.2.2.2.2.2.1
  have l8 := m.w.1.2.2.2
  unfold FX11_kernel
  refine xlp_all (fun i => (orI (fun x => if dbd d x = 0 then sh x else 0) i, nI i)) (fun _ => h) (dnu d) (by omega) (fun i hi ag => ?_) (fun ag => ?_)
  · have q1 := w9 i hi
    dsimp only
    rw [xg_t m.k, xnn_e m.r2, xg_t m.u.1.1.1, if_neg (by rw [m.u.1.1.2]; exact nI_ge hi u8), xg_t m.k, xnn_e m.r5, xg_t (m.bg hi), xjn_d, m.bv hi, sh_d, orI_s, nI_s]
    by_cases q : dbd d i = 0
    · rw [if_pos (by rw [q]; rfl), if_pos q]
      rfl
    · rw [if_neg (by rw [nI_eq0 (by omega)]; exact q), if_neg q]
      rfl
  · dsimp only
    rw [xg_t m.k, xnn_e m.r2, xg_t m.u.1.1.1, if_pos (by rw [m.u.1.1.2]; exact Int32.le_refl _)]
    rfl
theorem limg_v (m : lM h M U L d) : FX11_image E M h = xv (imgS d) h := by
  have u8 := m.u8
  have w2 := m.w.1.2.1
  unfold FX11_image
  rw [xg_t m.k, xnn_e m.r5, xg_t m.kb, xlt_d, m.nb, ofNat_nI]
  refine xlp_all (fun i => (orI (fun x => sh (dbd d x)) i, nI i)) (fun _ => h) (dnu d) (by omega) (fun i hi ag => ?_) (fun ag => ?_)
  · dsimp only
    rw [if_neg (nI_ge hi u8), xg_t ⟨m.kb, by rw [m.nb]; exact xin_nI hi u8⟩, xlt_d, m.bv hi, xlt_d, sh_d, orI_s, nI_s]
  · dsimp only
    rw [if_pos (Int32.le_refl _)]
    rfl
end LMD
