/-! The law's loop and its head. -/
set_option linter.unusedVariables false
theorem clL_8 : xIn (.classLink RL 8 RX8) := ⟨List.mem_of_getElem? (i := 117) (by decide +kernel), rfl⟩
theorem clL_190 : xIn (.classLink RL 190 RX9) := ⟨List.mem_of_getElem? (i := 1528) (by decide +kernel), rfl⟩
/-- the low six bits are one of 64 numbers -/
theorem low6 (x : Int32) : ∃ c, c < 64 ∧ x &&& 63 = nI c := by
  refine ⟨(x.toBitVec &&& 63#32).toNat, ?_, ?_⟩
  · rw [BitVec.toNat_and]
    exact Nat.lt_of_le_of_lt Nat.and_le_right (by decide)
  · apply Int32.toBitVec_inj.mp
    show x.toBitVec &&& 63#32 = BitVec.ofNat 32 _
    simp
theorem gt6 {i N : Nat} (hi : i < 2 ^ 30) (hN : N < 2 ^ 30) : (nI N - 6 < nI i) ↔ N < i + 6 := by
  by_cases q : 6 ≤ N
  · have e : nI N - 6 = nI (N - 6) := by
      have : nI N = nI (N - 6) + 6 := by
        rw [show (6 : Int32) = nI 6 from rfl, nI_a]; congr 1; omega
      rw [this, Int32.add_sub_cancel]
    rw [e, nI_lt_iff (by omega) (by omega)]
    omega
  · have hc : N = 0 ∨ N = 1 ∨ N = 2 ∨ N = 3 ∨ N = 4 ∨ N = 5 := by omega
    have h0 : (0 : Int32) ≤ nI i := by rw [nI_0le (by omega)]; trivial
    have : nI N - 6 < 0 := by rcases hc with rfl | rfl | rfl | rfl | rfl | rfl <;> decide
    exact iff_of_true (Int32.lt_of_lt_of_le this h0) (by omega)
section LOOP
variable {E : XG} {k u : Nat} {h : XH} {X Y O i : Nat} {Z : ZD} {x5 x6 : Option Value}
/-- the law's end -/
theorem V_end : XV E mL_law k u 4044 (Lw E X Y O i x5 x6) [] h QT := by
  refine V_ic 4044 1 dL_law_4044 (by decide) ?_
  exact V_ret1 4045 dL_law_4045 rfl
/-- one turn: a call of the script -/
theorem V_turn (j : JJ h X Y O Z) (ha : i + 6 ≤ eN E) (hN : eN E < 2 ^ 30) (kk : ∀ h2 Z' y5 y6, JJ h2 X Y O Z' → XV E mL_law k u 23 (Lw E X Y O (i + 6) y5 y6) [] h2 QT) : XV E mL_law (3 + k) (17 + u) 33 (Lw E X Y O i x5 x6) [] h QT := by
  have kx : ∀ h2 Z' y5 y6, JJ h2 X Y O Z' → XV E mL_law k u 4038 (Lw E X Y O i y5 y6) [] h2 QT := fun h2 Z' y5 y6 j2 => by
    refine V_iinc_4 4038 (nI (i + 6)) dL_law_4038 (nI_a i 6) rfl ?_
    exact V_goto 4041 23 dL_law_4041 (by decide) (kk h2 Z' y5 y6 j2)
  have h31 : eN E < 2 ^ 31 := by omega
  refine V_aload_0 33 dL_law_33 ?_
  refine V_iload_4 34 dL_law_34 ?_
  refine V_sald 36 (xin_vp ⟨by rw [nI_0le (by omega)]; trivial, by rw [nI_clamp (by omega)]; omega⟩) dL_law_36 ?_
  refine V_bip 37 63 dL_law_37 (by decide) ?_
  refine V_iand 39 dL_law_39 ?_
  obtain ⟨c, hc, e⟩ := low6 (eX E (nI i).toNatClampNeg)
  rw [e]
  match c, hc with
  | 0, _ => exact V_tabI 40 296 dL_law_40 (by decide) (by decide) (off := 256) (by decide) (by decide) (LC_0 j ha h31 kx)
  | 1, _ => exact V_tabI 40 369 dL_law_40 (by decide) (by decide) (off := 329) (by decide) (by decide) (LC_1 j ha h31 kx)
  | 2, _ => exact V_tabI 40 425 dL_law_40 (by decide) (by decide) (off := 385) (by decide) (by decide) (LC_2 j ha h31 kx)
  | 3, _ => exact V_tabI 40 438 dL_law_40 (by decide) (by decide) (off := 398) (by decide) (by decide) (LC_3 j ha h31 kx)
  | 4, _ => exact V_tabI 40 451 dL_law_40 (by decide) (by decide) (off := 411) (by decide) (by decide) (LC_4 j ha h31 kx)
  | 5, _ => exact V_tabI 40 464 dL_law_40 (by decide) (by decide) (off := 424) (by decide) (by decide) (LC_5 j ha h31 kx)
  | 6, _ => exact V_tabI 40 520 dL_law_40 (by decide) (by decide) (off := 480) (by decide) (by decide) (LC_6 j ha h31 kx)
  | 7, _ => exact V_tabI 40 600 dL_law_40 (by decide) (by decide) (off := 560) (by decide) (by decide) (LC_7 j ha h31 kx)
  | 8, _ => exact V_tabI 40 656 dL_law_40 (by decide) (by decide) (off := 616) (by decide) (by decide) (LC_8 j ha h31 kx)
  | 9, _ => exact V_tabI 40 736 dL_law_40 (by decide) (by decide) (off := 696) (by decide) (by decide) (LC_9 j ha h31 kx)
  | 10, _ => exact V_tabI 40 804 dL_law_40 (by decide) (by decide) (off := 764) (by decide) (by decide) (LC_10 j ha h31 kx)
  | 11, _ => exact V_tabI 40 872 dL_law_40 (by decide) (by decide) (off := 832) (by decide) (by decide) (LC_11 j ha h31 kx)
  | 12, _ => exact V_tabI 40 928 dL_law_40 (by decide) (by decide) (off := 888) (by decide) (by decide) (LC_12 j ha h31 kx)
  | 13, _ => exact V_tabI 40 984 dL_law_40 (by decide) (by decide) (off := 944) (by decide) (by decide) (LC_13 j ha h31 kx)
  | 14, _ => exact V_tabI 40 1052 dL_law_40 (by decide) (by decide) (off := 1012) (by decide) (by decide) (LC_14 j ha h31 kx)
  | 15, _ => exact V_tabI 40 1120 dL_law_40 (by decide) (by decide) (off := 1080) (by decide) (by decide) (LC_15 j ha h31 kx)
  | 16, _ => exact V_tabI 40 1204 dL_law_40 (by decide) (by decide) (off := 1164) (by decide) (by decide) (LC_16 j ha h31 kx)
  | 17, _ => exact V_tabI 40 1272 dL_law_40 (by decide) (by decide) (off := 1232) (by decide) (by decide) (LC_17 j ha h31 kx)
  | 18, _ => exact V_tabI 40 1352 dL_law_40 (by decide) (by decide) (off := 1312) (by decide) (by decide) (LC_18 j ha h31 kx)
  | 19, _ => exact V_tabI 40 1408 dL_law_40 (by decide) (by decide) (off := 1368) (by decide) (by decide) (LC_19 j ha h31 kx)
  | 20, _ => exact V_tabI 40 1452 dL_law_40 (by decide) (by decide) (off := 1412) (by decide) (by decide) (LC_20 j ha h31 kx)
  | 21, _ => exact V_tabI 40 1508 dL_law_40 (by decide) (by decide) (off := 1468) (by decide) (by decide) (LC_21 j ha h31 kx)
  | 22, _ => exact V_tabI 40 1564 dL_law_40 (by decide) (by decide) (off := 1524) (by decide) (by decide) (LC_22 j ha h31 kx)
  | 23, _ => exact V_tabI 40 1627 dL_law_40 (by decide) (by decide) (off := 1587) (by decide) (by decide) (LC_23 j ha h31 kx)
  | 24, _ => exact V_tabI 40 1695 dL_law_40 (by decide) (by decide) (off := 1655) (by decide) (by decide) (LC_24 j ha h31 kx)
  | 25, _ => exact V_tabI 40 1763 dL_law_40 (by decide) (by decide) (off := 1723) (by decide) (by decide) (LC_25 j ha h31 kx)
  | 26, _ => exact V_tabI 40 1819 dL_law_40 (by decide) (by decide) (off := 1779) (by decide) (by decide) (LC_26 j ha h31 kx)
  | 27, _ => exact V_tabI 40 1887 dL_law_40 (by decide) (by decide) (off := 1847) (by decide) (by decide) (LC_27 j ha h31 kx)
  | 28, _ => exact V_tabI 40 1967 dL_law_40 (by decide) (by decide) (off := 1927) (by decide) (by decide) (LC_28 j ha h31 kx)
  | 29, _ => exact V_tabI 40 2047 dL_law_40 (by decide) (by decide) (off := 2007) (by decide) (by decide) (LC_29 j ha h31 kx)
  | 30, _ => exact V_tabI 40 2143 dL_law_40 (by decide) (by decide) (off := 2103) (by decide) (by decide) (LC_30 j ha h31 kx)
  | 31, _ => exact V_tabI 40 2218 dL_law_40 (by decide) (by decide) (off := 2178) (by decide) (by decide) (LC_31 j ha h31 kx)
  | 32, _ => exact V_tabI 40 2262 dL_law_40 (by decide) (by decide) (off := 2222) (by decide) (by decide) (LC_32 j ha h31 kx)
  | 33, _ => exact V_tabI 40 2318 dL_law_40 (by decide) (by decide) (off := 2278) (by decide) (by decide) (LC_33 j ha h31 kx)
  | 34, _ => exact V_tabI 40 2398 dL_law_40 (by decide) (by decide) (off := 2358) (by decide) (by decide) (LC_34 j ha h31 kx)
  | 35, _ => exact V_tabI 40 2466 dL_law_40 (by decide) (by decide) (off := 2426) (by decide) (by decide) (LC_35 j ha h31 kx)
  | 36, _ => exact V_tabI 40 2534 dL_law_40 (by decide) (by decide) (off := 2494) (by decide) (by decide) (LC_36 j ha h31 kx)
  | 37, _ => exact V_tabI 40 2614 dL_law_40 (by decide) (by decide) (off := 2574) (by decide) (by decide) (LC_37 j ha h31 kx)
  | 38, _ => exact V_tabI 40 2698 dL_law_40 (by decide) (by decide) (off := 2658) (by decide) (by decide) (LC_38 j ha h31 kx)
  | 39, _ => exact V_tabI 40 2766 dL_law_40 (by decide) (by decide) (off := 2726) (by decide) (by decide) (LC_39 j ha h31 kx)
  | 40, _ => exact V_tabI 40 2834 dL_law_40 (by decide) (by decide) (off := 2794) (by decide) (by decide) (LC_40 j ha h31 kx)
  | 41, _ => exact V_tabI 40 2890 dL_law_40 (by decide) (by decide) (off := 2850) (by decide) (by decide) (LC_41 j ha h31 kx)
  | 42, _ => exact V_tabI 40 2953 dL_law_40 (by decide) (by decide) (off := 2913) (by decide) (by decide) (LC_42 j ha h31 kx)
  | 43, _ => exact V_tabI 40 2997 dL_law_40 (by decide) (by decide) (off := 2957) (by decide) (by decide) (LC_43 j ha h31 kx)
  | 44, _ => exact V_tabI 40 3065 dL_law_40 (by decide) (by decide) (off := 3025) (by decide) (by decide) (LC_44 j ha h31 kx)
  | 45, _ => exact V_tabI 40 3121 dL_law_40 (by decide) (by decide) (off := 3081) (by decide) (by decide) (LC_45 j ha h31 kx)
  | 46, _ => exact V_tabI 40 3201 dL_law_40 (by decide) (by decide) (off := 3161) (by decide) (by decide) (LC_46 j ha h31 kx)
  | 47, _ => exact V_tabI 40 3257 dL_law_40 (by decide) (by decide) (off := 3217) (by decide) (by decide) (LC_47 j ha h31 kx)
  | 48, _ => exact V_tabI 40 3313 dL_law_40 (by decide) (by decide) (off := 3273) (by decide) (by decide) (LC_48 j ha h31 kx)
  | 49, _ => exact V_tabI 40 3369 dL_law_40 (by decide) (by decide) (off := 3329) (by decide) (by decide) (LC_49 j ha h31 kx)
  | 50, _ => exact V_tabI 40 3425 dL_law_40 (by decide) (by decide) (off := 3385) (by decide) (by decide) (LC_50 j ha h31 kx)
  | 51, _ => exact V_tabI 40 3505 dL_law_40 (by decide) (by decide) (off := 3465) (by decide) (by decide) (LC_51 j ha h31 kx)
  | 52, _ => exact V_tabI 40 3597 dL_law_40 (by decide) (by decide) (off := 3557) (by decide) (by decide) (LC_52 j ha h31 kx)
  | 53, _ => exact V_tabI 40 3653 dL_law_40 (by decide) (by decide) (off := 3613) (by decide) (by decide) (LC_53 j ha h31 kx)
  | 54, _ => exact V_tabI 40 3709 dL_law_40 (by decide) (by decide) (off := 3669) (by decide) (by decide) (LC_54 j ha h31 kx)
  | 55, _ => exact V_tabI 40 3789 dL_law_40 (by decide) (by decide) (off := 3749) (by decide) (by decide) (LC_55 j ha h31 kx)
  | 56, _ => exact V_tabI 40 3869 dL_law_40 (by decide) (by decide) (off := 3829) (by decide) (by decide) (LC_56 j ha h31 kx)
  | 57, _ => exact V_tabI 40 3913 dL_law_40 (by decide) (by decide) (off := 3873) (by decide) (by decide) (LC_57 j ha h31 kx)
  | 58, _ => exact V_tabI 40 3926 dL_law_40 (by decide) (by decide) (off := 3886) (by decide) (by decide) (LC_58 j ha h31 kx)
  | 59, _ => exact V_tabI 40 3982 dL_law_40 (by decide) (by decide) (off := 3942) (by decide) (by decide) (LC_59 j ha h31 kx)
  | c + 60, hc =>
    refine V_tabO 40 4038 dL_law_40 (Or.inr ?_) (by decide) (V_less (by omega) (by omega) (kx h Z x5 x6 j))
    have hc4 : c = 0 ∨ c = 1 ∨ c = 2 ∨ c = 3 := by omega
    rcases hc4 with rfl | rfl | rfl | rfl <;> decide
theorem V_head (hi : i < 2 ^ 30) (hN : eN E < 2 ^ 30) (kt : eN E < i + 6 → XV E mL_law k u 4044 (Lw E X Y O i x5 x6) [] h QT) (kf : i + 6 ≤ eN E → XV E mL_law k u 33 (Lw E X Y O i x5 x6) [] h QT) : XV E mL_law k u 23 (Lw E X Y O i x5 x6) [] h QT := by
  refine V_iload_4 23 dL_law_23 ?_
  refine V_aload_0 25 dL_law_25 ?_
  refine V_slen 26 dL_law_26 ?_
  refine V_bip 27 6 dL_law_27 (by decide) ?_
  refine V_isub 29 dL_law_29 ?_
  exact V_icmpgt 30 4044 dL_law_30 (by decide) (fun q => kt ((gt6 hi hN).mp q)) (fun q => kf (Nat.not_lt.mp fun z => q ((gt6 hi hN).mpr z)))
theorem V_loop (hN : eN E ≤ 3072) : ∀ (n : Nat) (i : Nat) (x5 x6 : Option Value) (h : XH) (Z : ZD), JJ h X Y O Z → i ≤ 4000 → eN E < i + 6 * (n + 1) → XV E mL_law (3 * n) (17 * n) 23 (Lw E X Y O i x5 x6) [] h QT
  | 0, i, x5, x6, h, Z, j, hi, hn => V_head (by omega) (by omega) (fun _ => V_end) (fun q => absurd q (by omega))
  | n + 1, i, x5, x6, h, Z, j, hi, hn => by
    refine V_less (k' := 3 + 3 * n) (u' := 17 + 17 * n) (by omega) (by omega) (V_head (by omega) (by omega) (fun _ => V_end) (fun q => ?_))
    exact V_turn j q (by omega) (fun h2 Z' y5 y6 j2 => V_loop hN n (i + 6) y5 y6 h2 Z' j2 (by omega) (by omega))
theorem XN_v {E : XG} {M : XM} {α : Type} {en : α → Option Value} {a b : Nat} {As : List Value} {h h' : XH} {mm : XP α} {v : α} (c : XN E M en a b As h mm) (e : mm = xv v h') : XC E M a b As h (xres en (.inl v) h') := by
  have q := c (.inl v) h' e
  simp only [ek, es, Nat.add_zero] at q
  exact q
theorem nI_m1' : nI 4294967295 = -1 := by decide +kernel
theorem XI_up0 {h' : XH} (x : XI h X (X + 2) (X + 106) 0 Z0) (t : xt h = X + 223) (l : Lo (X + 223) h h') (t2 : X + 223 ≤ xt h') : XI h' X (X + 2) (X + 106) 0 Z0 := by
  have sm : ∀ a, a < X + 223 → smC a h h' := fun a ha => l a ha
  have lf : LF X (X + 106) h h' := ⟨by omega, fun a a1 _ _ => sm a (by omega)⟩
  have z1 := x.2.2.1.1
  have z2 := x.2.2.2.1
  have r := XI_er (c := 0) (p := 4294967295) x (by omega) lf (sm X (by omega)).1.1 (sm X (by omega)).2.2.2 (fun j _ => (sm X (by omega)).2.1 j) (((sm X (by omega)).2.1 1).trans z1) (((sm X (by omega)).2.1 2).trans z2.1) ((((sm X (by omega)).2.1 3).trans z2.2.1).trans nI_m1'.symm) (WL_sm x.1.2.2.2.2.1 (fun a a1 a2 => sm a (by omega))) (WN_sm x.1.2.2.2.2.2 (fun a a1 a2 => sm a (by omega)))
  have e : zEr Z0 0 4294967295 = Z0 := by unfold zEr; rw [nI_m1']; rfl
  rw [e] at r
  exact r
/-- the law's whole body -/
theorem V_law (hN : eN E ≤ 3072) (hz : ∀ a j, xt h ≤ a → xi h a j = 0) (hB : eB E ≤ xt h) : XV E mL_law (222 + (24 + (3 * 512 + 1) + 1) + 1) (9505 + (9024 + (17 * 512 + 1) + 45) + 14) 0 [some (.ref (eS E)), none, none, none, none, none, none] [] h QT := by
  obtain ⟨a1, a2, a3⟩ := new_0 (h := h) 9 hz
  refine V_newB (ci := 8) (N := 14) 0 xok8 rfl hB clL_8 inst8 ini8 (dv8 h) dL_law_0 ?_
  refine V_dup 3 dL_law_3 rfl ?_
  obtain ⟨w0, h2, e2, t2, l2, x2, z2⟩ := FX8_init_o (E := E) a1 a2 a3
  refine V_callI (k' := 222) (u' := 9505) 4 (As := []) calX8_init rfl rfl imX8_init mkL_189 rfl rfl rfl rfl rfl dL_law_4 (XN_v (CX8_init E (xt h) _) e2) (fun ec h3 q => by cases q) (fun v h3 q => ?_)
  cases q
  refine V_astore_1 7 dL_law_7 rfl ?_
  obtain ⟨b1, b2, b3⟩ := new_0 (h := h2) 10 (fun a j ha => z2 a j (by omega))
  refine V_newB (ci := 9) (N := 45) 8 xok9 rfl (by omega) clL_190 inst9 ini9 (dv9 h2) dL_law_8 ?_
  refine V_dup 11 dL_law_11 rfl ?_
  obtain ⟨w1, h4, e4, t4, l4, y4, z4, -⟩ := FX9_init_o (E := E) b1 b2 b3
  have l24 : Lo ((xt h) + 223) h2 h4 := (Lo_ya h2 10 0 (by omega)).trans (l4.less (by omega))
  rw [t2] at t4 l4 y4 z4 e4 ⊢
  refine V_less (k' := 24 + (3 * 512 + 1)) (u' := 9024 + (17 * 512 + 1)) (by omega) (by omega) ?_
  refine V_callI (k := 3 * 512 + 1) (u := 17 * 512 + 1) (k' := 24) (u' := 9024) 12 (As := []) calX9_init rfl rfl imX9_init mkL_192 rfl rfl rfl rfl rfl dL_law_12 (XN_v (CX9_init E _ _) e4) (fun ec h3 q => by cases q) (fun v h3 q => ?_)
  cases q
  refine V_astore_2 15 dL_law_15 rfl ?_
  refine V_ic 16 1 dL_law_16 (by decide) ?_
  refine V_newB_long (k := 3 * 512) (u := 17 * 512) 17 1 (by omega) (by decide) (by decide) (by decide) ar13 dL_law_17 ?_
  refine V_astore_3 19 dL_law_19 rfl ?_
  refine V_ic 20 0 dL_law_20 (by decide) ?_
  refine V_istore_4 21 dL_law_21 rfl ?_
  have l5 : Lo (xt h4) h4 (ya h4 13 1) := Lo_ya h4 13 1 (Nat.le_refl _)
  have x5 : XI (ya h4 13 1) (xt h) ((xt h) + 2) ((xt h) + 106) 0 Z0 := XI_up0 x2 t2 (l24.trans (l5.less (by omega))) (by show (xt h) + 223 ≤ xt h4 + 1; omega)
  have y5 : YI (ya h4 13 1) ((xt h) + 223) Z0 := YI_fr (X := xt h) y4 ⟨by show xt h4 ≤ xt h4 + 1; omega, fun a _ ha => l5 a ha⟩ (Nat.le_refl _) (by omega)
  refine V_loop hN 512 0 none none (ya h4 13 1) Z0 ⟨Z0_wz, ⟨Nat.le_refl _, by omega, by show xt h4 < xt h4 + 1; omega⟩, ⟨?_, ?_⟩, ⟨_, _, _, x5⟩, y5⟩ (by omega) (by omega)
  · rw [xk_ya, if_pos rfl]
  · rw [xn_ya, if_pos rfl]
end LOOP
