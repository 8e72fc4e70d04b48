/-! What holds at the law's entry. -/
set_option linter.unusedVariables false
/-- what the start says of a String constant -/
def SC (s : State) (b : Nat) (i : Nat) : Prop :=
  (Cond.exactly (.string (ownJS i) (idxJS i)) "java/lang/String").before #[Value.ref b] s = true ∧ (Cond.eq (.field (.string (ownJS i) (idxJS i)) "java/lang/String" "coder" "B") (.int 0)).before #[Value.ref b] s = true ∧ (Cond.arrayOf (.field (.string (ownJS i) (idxJS i)) "java/lang/String" "value" "[B") .byte).before #[Value.ref b] s = true ∧ (Cond.eq (.length (.field (.string (ownJS i) (idxJS i)) "java/lang/String" "value" "[B")) (.int (Int32.ofNat (lenJS.getD i 0)))).before #[Value.ref b] s = true ∧ ∀ j : Nat, j < lenJS.getD i 0 → (Cond.eq (.elem (.field (.string (ownJS i) (idxJS i)) "java/lang/String" "value" "[B") (.int (Int32.ofNat j))) (.int ((bytJS.getD i []).getD j 0))).before #[Value.ref b] s = true
theorem sc_0 {s : State} {b : Nat} (hs : ∀ c ∈ flatC (Jvm.Cond.and given_1 narrow_1), c.before #[Value.ref b] s = true) : SC s b 0 := by
  refine ⟨hs _ (List.mem_of_getElem? (i := 89) (by decide +kernel)), hs _ (List.mem_of_getElem? (i := 90) (by decide +kernel)), hs _ (List.mem_of_getElem? (i := 91) (by decide +kernel)), hs _ (List.mem_of_getElem? (i := 92) (by decide +kernel)), fun j hj => ?_⟩
  match j, hj with
  | 0, _ => exact hs _ (List.mem_of_getElem? (i := 93) (by decide +kernel))
  | 1, _ => exact hs _ (List.mem_of_getElem? (i := 94) (by decide +kernel))
  | 2, _ => exact hs _ (List.mem_of_getElem? (i := 95) (by decide +kernel))
  | 3, _ => exact hs _ (List.mem_of_getElem? (i := 96) (by decide +kernel))
  | 4, _ => exact hs _ (List.mem_of_getElem? (i := 97) (by decide +kernel))
  | 5, _ => exact hs _ (List.mem_of_getElem? (i := 98) (by decide +kernel))
  | 6, _ => exact hs _ (List.mem_of_getElem? (i := 99) (by decide +kernel))
  | 7, _ => exact hs _ (List.mem_of_getElem? (i := 100) (by decide +kernel))
  | 8, _ => exact hs _ (List.mem_of_getElem? (i := 101) (by decide +kernel))
  | 9, _ => exact hs _ (List.mem_of_getElem? (i := 102) (by decide +kernel))
  | 10, _ => exact hs _ (List.mem_of_getElem? (i := 103) (by decide +kernel))
  | 11, _ => exact hs _ (List.mem_of_getElem? (i := 104) (by decide +kernel))
  | 12, _ => exact hs _ (List.mem_of_getElem? (i := 105) (by decide +kernel))
  | 13, _ => exact hs _ (List.mem_of_getElem? (i := 106) (by decide +kernel))
  | 14, _ => exact hs _ (List.mem_of_getElem? (i := 107) (by decide +kernel))
  | 15, _ => exact hs _ (List.mem_of_getElem? (i := 108) (by decide +kernel))
  | 16, _ => exact hs _ (List.mem_of_getElem? (i := 109) (by decide +kernel))
  | 17, _ => exact hs _ (List.mem_of_getElem? (i := 110) (by decide +kernel))
  | 18, _ => exact hs _ (List.mem_of_getElem? (i := 111) (by decide +kernel))
  | 19, _ => exact hs _ (List.mem_of_getElem? (i := 112) (by decide +kernel))
  | 20, _ => exact hs _ (List.mem_of_getElem? (i := 113) (by decide +kernel))
  | 21, _ => exact hs _ (List.mem_of_getElem? (i := 114) (by decide +kernel))
  | j + 22, hj => exact absurd hj (by show ¬ j + 22 < 22; omega)
theorem sc_1 {s : State} {b : Nat} (hs : ∀ c ∈ flatC (Jvm.Cond.and given_1 narrow_1), c.before #[Value.ref b] s = true) : SC s b 1 := by
  refine ⟨hs _ (List.mem_of_getElem? (i := 115) (by decide +kernel)), hs _ (List.mem_of_getElem? (i := 116) (by decide +kernel)), hs _ (List.mem_of_getElem? (i := 117) (by decide +kernel)), hs _ (List.mem_of_getElem? (i := 118) (by decide +kernel)), fun j hj => ?_⟩
  match j, hj with
  | 0, _ => exact hs _ (List.mem_of_getElem? (i := 119) (by decide +kernel))
  | 1, _ => exact hs _ (List.mem_of_getElem? (i := 120) (by decide +kernel))
  | 2, _ => exact hs _ (List.mem_of_getElem? (i := 121) (by decide +kernel))
  | 3, _ => exact hs _ (List.mem_of_getElem? (i := 122) (by decide +kernel))
  | 4, _ => exact hs _ (List.mem_of_getElem? (i := 123) (by decide +kernel))
  | 5, _ => exact hs _ (List.mem_of_getElem? (i := 124) (by decide +kernel))
  | 6, _ => exact hs _ (List.mem_of_getElem? (i := 125) (by decide +kernel))
  | j + 7, hj => exact absurd hj (by show ¬ j + 7 < 7; omega)
theorem sc_2 {s : State} {b : Nat} (hs : ∀ c ∈ flatC (Jvm.Cond.and given_1 narrow_1), c.before #[Value.ref b] s = true) : SC s b 2 := by
  refine ⟨hs _ (List.mem_of_getElem? (i := 127) (by decide +kernel)), hs _ (List.mem_of_getElem? (i := 128) (by decide +kernel)), hs _ (List.mem_of_getElem? (i := 129) (by decide +kernel)), hs _ (List.mem_of_getElem? (i := 130) (by decide +kernel)), fun j hj => ?_⟩
  match j, hj with
  | 0, _ => exact hs _ (List.mem_of_getElem? (i := 131) (by decide +kernel))
  | 1, _ => exact hs _ (List.mem_of_getElem? (i := 132) (by decide +kernel))
  | 2, _ => exact hs _ (List.mem_of_getElem? (i := 133) (by decide +kernel))
  | 3, _ => exact hs _ (List.mem_of_getElem? (i := 134) (by decide +kernel))
  | 4, _ => exact hs _ (List.mem_of_getElem? (i := 135) (by decide +kernel))
  | j + 5, hj => exact absurd hj (by show ¬ j + 5 < 5; omega)
theorem sc_3 {s : State} {b : Nat} (hs : ∀ c ∈ flatC (Jvm.Cond.and given_1 narrow_1), c.before #[Value.ref b] s = true) : SC s b 3 := by
  refine ⟨hs _ (List.mem_of_getElem? (i := 138) (by decide +kernel)), hs _ (List.mem_of_getElem? (i := 139) (by decide +kernel)), hs _ (List.mem_of_getElem? (i := 140) (by decide +kernel)), hs _ (List.mem_of_getElem? (i := 141) (by decide +kernel)), fun j hj => ?_⟩
  match j, hj with
  | 0, _ => exact hs _ (List.mem_of_getElem? (i := 142) (by decide +kernel))
  | 1, _ => exact hs _ (List.mem_of_getElem? (i := 143) (by decide +kernel))
  | 2, _ => exact hs _ (List.mem_of_getElem? (i := 144) (by decide +kernel))
  | 3, _ => exact hs _ (List.mem_of_getElem? (i := 145) (by decide +kernel))
  | 4, _ => exact hs _ (List.mem_of_getElem? (i := 146) (by decide +kernel))
  | 5, _ => exact hs _ (List.mem_of_getElem? (i := 147) (by decide +kernel))
  | j + 6, hj => exact absurd hj (by show ¬ j + 6 < 6; omega)
theorem sc_4 {s : State} {b : Nat} (hs : ∀ c ∈ flatC (Jvm.Cond.and given_1 narrow_1), c.before #[Value.ref b] s = true) : SC s b 4 := by
  refine ⟨hs _ (List.mem_of_getElem? (i := 151) (by decide +kernel)), hs _ (List.mem_of_getElem? (i := 152) (by decide +kernel)), hs _ (List.mem_of_getElem? (i := 153) (by decide +kernel)), hs _ (List.mem_of_getElem? (i := 154) (by decide +kernel)), fun j hj => ?_⟩
  match j, hj with
  | 0, _ => exact hs _ (List.mem_of_getElem? (i := 155) (by decide +kernel))
  | 1, _ => exact hs _ (List.mem_of_getElem? (i := 156) (by decide +kernel))
  | 2, _ => exact hs _ (List.mem_of_getElem? (i := 157) (by decide +kernel))
  | 3, _ => exact hs _ (List.mem_of_getElem? (i := 158) (by decide +kernel))
  | 4, _ => exact hs _ (List.mem_of_getElem? (i := 159) (by decide +kernel))
  | 5, _ => exact hs _ (List.mem_of_getElem? (i := 160) (by decide +kernel))
  | 6, _ => exact hs _ (List.mem_of_getElem? (i := 161) (by decide +kernel))
  | 7, _ => exact hs _ (List.mem_of_getElem? (i := 162) (by decide +kernel))
  | j + 8, hj => exact absurd hj (by show ¬ j + 8 < 8; omega)
theorem sc_5 {s : State} {b : Nat} (hs : ∀ c ∈ flatC (Jvm.Cond.and given_1 narrow_1), c.before #[Value.ref b] s = true) : SC s b 5 := by
  refine ⟨hs _ (List.mem_of_getElem? (i := 167) (by decide +kernel)), hs _ (List.mem_of_getElem? (i := 168) (by decide +kernel)), hs _ (List.mem_of_getElem? (i := 169) (by decide +kernel)), hs _ (List.mem_of_getElem? (i := 170) (by decide +kernel)), fun j hj => ?_⟩
  match j, hj with
  | 0, _ => exact hs _ (List.mem_of_getElem? (i := 171) (by decide +kernel))
  | 1, _ => exact hs _ (List.mem_of_getElem? (i := 172) (by decide +kernel))
  | 2, _ => exact hs _ (List.mem_of_getElem? (i := 173) (by decide +kernel))
  | 3, _ => exact hs _ (List.mem_of_getElem? (i := 174) (by decide +kernel))
  | 4, _ => exact hs _ (List.mem_of_getElem? (i := 175) (by decide +kernel))
  | 5, _ => exact hs _ (List.mem_of_getElem? (i := 176) (by decide +kernel))
  | 6, _ => exact hs _ (List.mem_of_getElem? (i := 177) (by decide +kernel))
  | 7, _ => exact hs _ (List.mem_of_getElem? (i := 178) (by decide +kernel))
  | 8, _ => exact hs _ (List.mem_of_getElem? (i := 179) (by decide +kernel))
  | 9, _ => exact hs _ (List.mem_of_getElem? (i := 180) (by decide +kernel))
  | j + 10, hj => exact absurd hj (by show ¬ j + 10 < 10; omega)
theorem sc_6 {s : State} {b : Nat} (hs : ∀ c ∈ flatC (Jvm.Cond.and given_1 narrow_1), c.before #[Value.ref b] s = true) : SC s b 6 := by
  refine ⟨hs _ (List.mem_of_getElem? (i := 186) (by decide +kernel)), hs _ (List.mem_of_getElem? (i := 187) (by decide +kernel)), hs _ (List.mem_of_getElem? (i := 188) (by decide +kernel)), hs _ (List.mem_of_getElem? (i := 189) (by decide +kernel)), fun j hj => ?_⟩
  match j, hj with
  | 0, _ => exact hs _ (List.mem_of_getElem? (i := 190) (by decide +kernel))
  | 1, _ => exact hs _ (List.mem_of_getElem? (i := 191) (by decide +kernel))
  | 2, _ => exact hs _ (List.mem_of_getElem? (i := 192) (by decide +kernel))
  | 3, _ => exact hs _ (List.mem_of_getElem? (i := 193) (by decide +kernel))
  | 4, _ => exact hs _ (List.mem_of_getElem? (i := 194) (by decide +kernel))
  | 5, _ => exact hs _ (List.mem_of_getElem? (i := 195) (by decide +kernel))
  | 6, _ => exact hs _ (List.mem_of_getElem? (i := 196) (by decide +kernel))
  | j + 7, hj => exact absurd hj (by show ¬ j + 7 < 7; omega)
theorem sc_7 {s : State} {b : Nat} (hs : ∀ c ∈ flatC (Jvm.Cond.and given_1 narrow_1), c.before #[Value.ref b] s = true) : SC s b 7 := by
  refine ⟨hs _ (List.mem_of_getElem? (i := 203) (by decide +kernel)), hs _ (List.mem_of_getElem? (i := 204) (by decide +kernel)), hs _ (List.mem_of_getElem? (i := 205) (by decide +kernel)), hs _ (List.mem_of_getElem? (i := 206) (by decide +kernel)), fun j hj => ?_⟩
  match j, hj with
  | 0, _ => exact hs _ (List.mem_of_getElem? (i := 207) (by decide +kernel))
  | 1, _ => exact hs _ (List.mem_of_getElem? (i := 208) (by decide +kernel))
  | 2, _ => exact hs _ (List.mem_of_getElem? (i := 209) (by decide +kernel))
  | 3, _ => exact hs _ (List.mem_of_getElem? (i := 210) (by decide +kernel))
  | 4, _ => exact hs _ (List.mem_of_getElem? (i := 211) (by decide +kernel))
  | 5, _ => exact hs _ (List.mem_of_getElem? (i := 212) (by decide +kernel))
  | j + 6, hj => exact absurd hj (by show ¬ j + 6 < 6; omega)
theorem sc_8 {s : State} {b : Nat} (hs : ∀ c ∈ flatC (Jvm.Cond.and given_1 narrow_1), c.before #[Value.ref b] s = true) : SC s b 8 := by
  refine ⟨hs _ (List.mem_of_getElem? (i := 220) (by decide +kernel)), hs _ (List.mem_of_getElem? (i := 221) (by decide +kernel)), hs _ (List.mem_of_getElem? (i := 222) (by decide +kernel)), hs _ (List.mem_of_getElem? (i := 223) (by decide +kernel)), fun j hj => ?_⟩
  match j, hj with
  | 0, _ => exact hs _ (List.mem_of_getElem? (i := 224) (by decide +kernel))
  | 1, _ => exact hs _ (List.mem_of_getElem? (i := 225) (by decide +kernel))
  | 2, _ => exact hs _ (List.mem_of_getElem? (i := 226) (by decide +kernel))
  | j + 3, hj => exact absurd hj (by show ¬ j + 3 < 3; omega)
theorem sc_9 {s : State} {b : Nat} (hs : ∀ c ∈ flatC (Jvm.Cond.and given_1 narrow_1), c.before #[Value.ref b] s = true) : SC s b 9 := by
  refine ⟨hs _ (List.mem_of_getElem? (i := 235) (by decide +kernel)), hs _ (List.mem_of_getElem? (i := 236) (by decide +kernel)), hs _ (List.mem_of_getElem? (i := 237) (by decide +kernel)), hs _ (List.mem_of_getElem? (i := 238) (by decide +kernel)), fun j hj => ?_⟩
  match j, hj with
  | 0, _ => exact hs _ (List.mem_of_getElem? (i := 239) (by decide +kernel))
  | 1, _ => exact hs _ (List.mem_of_getElem? (i := 240) (by decide +kernel))
  | 2, _ => exact hs _ (List.mem_of_getElem? (i := 241) (by decide +kernel))
  | 3, _ => exact hs _ (List.mem_of_getElem? (i := 242) (by decide +kernel))
  | 4, _ => exact hs _ (List.mem_of_getElem? (i := 243) (by decide +kernel))
  | j + 5, hj => exact absurd hj (by show ¬ j + 5 < 5; omega)
theorem sc_10 {s : State} {b : Nat} (hs : ∀ c ∈ flatC (Jvm.Cond.and given_1 narrow_1), c.before #[Value.ref b] s = true) : SC s b 10 := by
  refine ⟨hs _ (List.mem_of_getElem? (i := 253) (by decide +kernel)), hs _ (List.mem_of_getElem? (i := 254) (by decide +kernel)), hs _ (List.mem_of_getElem? (i := 255) (by decide +kernel)), hs _ (List.mem_of_getElem? (i := 256) (by decide +kernel)), fun j hj => ?_⟩
  match j, hj with
  | 0, _ => exact hs _ (List.mem_of_getElem? (i := 257) (by decide +kernel))
  | 1, _ => exact hs _ (List.mem_of_getElem? (i := 258) (by decide +kernel))
  | 2, _ => exact hs _ (List.mem_of_getElem? (i := 259) (by decide +kernel))
  | 3, _ => exact hs _ (List.mem_of_getElem? (i := 260) (by decide +kernel))
  | 4, _ => exact hs _ (List.mem_of_getElem? (i := 261) (by decide +kernel))
  | 5, _ => exact hs _ (List.mem_of_getElem? (i := 262) (by decide +kernel))
  | 6, _ => exact hs _ (List.mem_of_getElem? (i := 263) (by decide +kernel))
  | 7, _ => exact hs _ (List.mem_of_getElem? (i := 264) (by decide +kernel))
  | 8, _ => exact hs _ (List.mem_of_getElem? (i := 265) (by decide +kernel))
  | 9, _ => exact hs _ (List.mem_of_getElem? (i := 266) (by decide +kernel))
  | 10, _ => exact hs _ (List.mem_of_getElem? (i := 267) (by decide +kernel))
  | 11, _ => exact hs _ (List.mem_of_getElem? (i := 268) (by decide +kernel))
  | 12, _ => exact hs _ (List.mem_of_getElem? (i := 269) (by decide +kernel))
  | 13, _ => exact hs _ (List.mem_of_getElem? (i := 270) (by decide +kernel))
  | 14, _ => exact hs _ (List.mem_of_getElem? (i := 271) (by decide +kernel))
  | 15, _ => exact hs _ (List.mem_of_getElem? (i := 272) (by decide +kernel))
  | 16, _ => exact hs _ (List.mem_of_getElem? (i := 273) (by decide +kernel))
  | 17, _ => exact hs _ (List.mem_of_getElem? (i := 274) (by decide +kernel))
  | 18, _ => exact hs _ (List.mem_of_getElem? (i := 275) (by decide +kernel))
  | 19, _ => exact hs _ (List.mem_of_getElem? (i := 276) (by decide +kernel))
  | 20, _ => exact hs _ (List.mem_of_getElem? (i := 277) (by decide +kernel))
  | 21, _ => exact hs _ (List.mem_of_getElem? (i := 278) (by decide +kernel))
  | 22, _ => exact hs _ (List.mem_of_getElem? (i := 279) (by decide +kernel))
  | 23, _ => exact hs _ (List.mem_of_getElem? (i := 280) (by decide +kernel))
  | 24, _ => exact hs _ (List.mem_of_getElem? (i := 281) (by decide +kernel))
  | 25, _ => exact hs _ (List.mem_of_getElem? (i := 282) (by decide +kernel))
  | 26, _ => exact hs _ (List.mem_of_getElem? (i := 283) (by decide +kernel))
  | 27, _ => exact hs _ (List.mem_of_getElem? (i := 284) (by decide +kernel))
  | 28, _ => exact hs _ (List.mem_of_getElem? (i := 285) (by decide +kernel))
  | 29, _ => exact hs _ (List.mem_of_getElem? (i := 286) (by decide +kernel))
  | 30, _ => exact hs _ (List.mem_of_getElem? (i := 287) (by decide +kernel))
  | 31, _ => exact hs _ (List.mem_of_getElem? (i := 288) (by decide +kernel))
  | 32, _ => exact hs _ (List.mem_of_getElem? (i := 289) (by decide +kernel))
  | 33, _ => exact hs _ (List.mem_of_getElem? (i := 290) (by decide +kernel))
  | 34, _ => exact hs _ (List.mem_of_getElem? (i := 291) (by decide +kernel))
  | 35, _ => exact hs _ (List.mem_of_getElem? (i := 292) (by decide +kernel))
  | 36, _ => exact hs _ (List.mem_of_getElem? (i := 293) (by decide +kernel))
  | 37, _ => exact hs _ (List.mem_of_getElem? (i := 294) (by decide +kernel))
  | 38, _ => exact hs _ (List.mem_of_getElem? (i := 295) (by decide +kernel))
  | j + 39, hj => exact absurd hj (by show ¬ j + 39 < 39; omega)
theorem sc_11 {s : State} {b : Nat} (hs : ∀ c ∈ flatC (Jvm.Cond.and given_1 narrow_1), c.before #[Value.ref b] s = true) : SC s b 11 := by
  refine ⟨hs _ (List.mem_of_getElem? (i := 306) (by decide +kernel)), hs _ (List.mem_of_getElem? (i := 307) (by decide +kernel)), hs _ (List.mem_of_getElem? (i := 308) (by decide +kernel)), hs _ (List.mem_of_getElem? (i := 309) (by decide +kernel)), fun j hj => ?_⟩
  match j, hj with
  | 0, _ => exact hs _ (List.mem_of_getElem? (i := 310) (by decide +kernel))
  | 1, _ => exact hs _ (List.mem_of_getElem? (i := 311) (by decide +kernel))
  | 2, _ => exact hs _ (List.mem_of_getElem? (i := 312) (by decide +kernel))
  | 3, _ => exact hs _ (List.mem_of_getElem? (i := 313) (by decide +kernel))
  | 4, _ => exact hs _ (List.mem_of_getElem? (i := 314) (by decide +kernel))
  | 5, _ => exact hs _ (List.mem_of_getElem? (i := 315) (by decide +kernel))
  | 6, _ => exact hs _ (List.mem_of_getElem? (i := 316) (by decide +kernel))
  | 7, _ => exact hs _ (List.mem_of_getElem? (i := 317) (by decide +kernel))
  | 8, _ => exact hs _ (List.mem_of_getElem? (i := 318) (by decide +kernel))
  | 9, _ => exact hs _ (List.mem_of_getElem? (i := 319) (by decide +kernel))
  | 10, _ => exact hs _ (List.mem_of_getElem? (i := 320) (by decide +kernel))
  | 11, _ => exact hs _ (List.mem_of_getElem? (i := 321) (by decide +kernel))
  | 12, _ => exact hs _ (List.mem_of_getElem? (i := 322) (by decide +kernel))
  | 13, _ => exact hs _ (List.mem_of_getElem? (i := 323) (by decide +kernel))
  | 14, _ => exact hs _ (List.mem_of_getElem? (i := 324) (by decide +kernel))
  | 15, _ => exact hs _ (List.mem_of_getElem? (i := 325) (by decide +kernel))
  | 16, _ => exact hs _ (List.mem_of_getElem? (i := 326) (by decide +kernel))
  | 17, _ => exact hs _ (List.mem_of_getElem? (i := 327) (by decide +kernel))
  | j + 18, hj => exact absurd hj (by show ¬ j + 18 < 18; omega)
theorem sc_12 {s : State} {b : Nat} (hs : ∀ c ∈ flatC (Jvm.Cond.and given_1 narrow_1), c.before #[Value.ref b] s = true) : SC s b 12 := by
  refine ⟨hs _ (List.mem_of_getElem? (i := 339) (by decide +kernel)), hs _ (List.mem_of_getElem? (i := 340) (by decide +kernel)), hs _ (List.mem_of_getElem? (i := 341) (by decide +kernel)), hs _ (List.mem_of_getElem? (i := 342) (by decide +kernel)), fun j hj => ?_⟩
  match j, hj with
  | 0, _ => exact hs _ (List.mem_of_getElem? (i := 343) (by decide +kernel))
  | 1, _ => exact hs _ (List.mem_of_getElem? (i := 344) (by decide +kernel))
  | 2, _ => exact hs _ (List.mem_of_getElem? (i := 345) (by decide +kernel))
  | 3, _ => exact hs _ (List.mem_of_getElem? (i := 346) (by decide +kernel))
  | 4, _ => exact hs _ (List.mem_of_getElem? (i := 347) (by decide +kernel))
  | 5, _ => exact hs _ (List.mem_of_getElem? (i := 348) (by decide +kernel))
  | 6, _ => exact hs _ (List.mem_of_getElem? (i := 349) (by decide +kernel))
  | 7, _ => exact hs _ (List.mem_of_getElem? (i := 350) (by decide +kernel))
  | 8, _ => exact hs _ (List.mem_of_getElem? (i := 351) (by decide +kernel))
  | 9, _ => exact hs _ (List.mem_of_getElem? (i := 352) (by decide +kernel))
  | 10, _ => exact hs _ (List.mem_of_getElem? (i := 353) (by decide +kernel))
  | 11, _ => exact hs _ (List.mem_of_getElem? (i := 354) (by decide +kernel))
  | 12, _ => exact hs _ (List.mem_of_getElem? (i := 355) (by decide +kernel))
  | 13, _ => exact hs _ (List.mem_of_getElem? (i := 356) (by decide +kernel))
  | 14, _ => exact hs _ (List.mem_of_getElem? (i := 357) (by decide +kernel))
  | 15, _ => exact hs _ (List.mem_of_getElem? (i := 358) (by decide +kernel))
  | 16, _ => exact hs _ (List.mem_of_getElem? (i := 359) (by decide +kernel))
  | 17, _ => exact hs _ (List.mem_of_getElem? (i := 360) (by decide +kernel))
  | 18, _ => exact hs _ (List.mem_of_getElem? (i := 361) (by decide +kernel))
  | 19, _ => exact hs _ (List.mem_of_getElem? (i := 362) (by decide +kernel))
  | 20, _ => exact hs _ (List.mem_of_getElem? (i := 363) (by decide +kernel))
  | 21, _ => exact hs _ (List.mem_of_getElem? (i := 364) (by decide +kernel))
  | 22, _ => exact hs _ (List.mem_of_getElem? (i := 365) (by decide +kernel))
  | 23, _ => exact hs _ (List.mem_of_getElem? (i := 366) (by decide +kernel))
  | 24, _ => exact hs _ (List.mem_of_getElem? (i := 367) (by decide +kernel))
  | 25, _ => exact hs _ (List.mem_of_getElem? (i := 368) (by decide +kernel))
  | j + 26, hj => exact absurd hj (by show ¬ j + 26 < 26; omega)
theorem sc_13 {s : State} {b : Nat} (hs : ∀ c ∈ flatC (Jvm.Cond.and given_1 narrow_1), c.before #[Value.ref b] s = true) : SC s b 13 := by
  refine ⟨hs _ (List.mem_of_getElem? (i := 381) (by decide +kernel)), hs _ (List.mem_of_getElem? (i := 382) (by decide +kernel)), hs _ (List.mem_of_getElem? (i := 383) (by decide +kernel)), hs _ (List.mem_of_getElem? (i := 384) (by decide +kernel)), fun j hj => ?_⟩
  match j, hj with
  | 0, _ => exact hs _ (List.mem_of_getElem? (i := 385) (by decide +kernel))
  | 1, _ => exact hs _ (List.mem_of_getElem? (i := 386) (by decide +kernel))
  | 2, _ => exact hs _ (List.mem_of_getElem? (i := 387) (by decide +kernel))
  | 3, _ => exact hs _ (List.mem_of_getElem? (i := 388) (by decide +kernel))
  | 4, _ => exact hs _ (List.mem_of_getElem? (i := 389) (by decide +kernel))
  | 5, _ => exact hs _ (List.mem_of_getElem? (i := 390) (by decide +kernel))
  | 6, _ => exact hs _ (List.mem_of_getElem? (i := 391) (by decide +kernel))
  | 7, _ => exact hs _ (List.mem_of_getElem? (i := 392) (by decide +kernel))
  | 8, _ => exact hs _ (List.mem_of_getElem? (i := 393) (by decide +kernel))
  | 9, _ => exact hs _ (List.mem_of_getElem? (i := 394) (by decide +kernel))
  | 10, _ => exact hs _ (List.mem_of_getElem? (i := 395) (by decide +kernel))
  | 11, _ => exact hs _ (List.mem_of_getElem? (i := 396) (by decide +kernel))
  | 12, _ => exact hs _ (List.mem_of_getElem? (i := 397) (by decide +kernel))
  | 13, _ => exact hs _ (List.mem_of_getElem? (i := 398) (by decide +kernel))
  | 14, _ => exact hs _ (List.mem_of_getElem? (i := 399) (by decide +kernel))
  | 15, _ => exact hs _ (List.mem_of_getElem? (i := 400) (by decide +kernel))
  | 16, _ => exact hs _ (List.mem_of_getElem? (i := 401) (by decide +kernel))
  | 17, _ => exact hs _ (List.mem_of_getElem? (i := 402) (by decide +kernel))
  | 18, _ => exact hs _ (List.mem_of_getElem? (i := 403) (by decide +kernel))
  | 19, _ => exact hs _ (List.mem_of_getElem? (i := 404) (by decide +kernel))
  | 20, _ => exact hs _ (List.mem_of_getElem? (i := 405) (by decide +kernel))
  | 21, _ => exact hs _ (List.mem_of_getElem? (i := 406) (by decide +kernel))
  | 22, _ => exact hs _ (List.mem_of_getElem? (i := 407) (by decide +kernel))
  | 23, _ => exact hs _ (List.mem_of_getElem? (i := 408) (by decide +kernel))
  | 24, _ => exact hs _ (List.mem_of_getElem? (i := 409) (by decide +kernel))
  | 25, _ => exact hs _ (List.mem_of_getElem? (i := 410) (by decide +kernel))
  | 26, _ => exact hs _ (List.mem_of_getElem? (i := 411) (by decide +kernel))
  | 27, _ => exact hs _ (List.mem_of_getElem? (i := 412) (by decide +kernel))
  | 28, _ => exact hs _ (List.mem_of_getElem? (i := 413) (by decide +kernel))
  | j + 29, hj => exact absurd hj (by show ¬ j + 29 < 29; omega)
theorem sc_14 {s : State} {b : Nat} (hs : ∀ c ∈ flatC (Jvm.Cond.and given_1 narrow_1), c.before #[Value.ref b] s = true) : SC s b 14 := by
  refine ⟨hs _ (List.mem_of_getElem? (i := 427) (by decide +kernel)), hs _ (List.mem_of_getElem? (i := 428) (by decide +kernel)), hs _ (List.mem_of_getElem? (i := 429) (by decide +kernel)), hs _ (List.mem_of_getElem? (i := 430) (by decide +kernel)), fun j hj => ?_⟩
  match j, hj with
  | 0, _ => exact hs _ (List.mem_of_getElem? (i := 431) (by decide +kernel))
  | 1, _ => exact hs _ (List.mem_of_getElem? (i := 432) (by decide +kernel))
  | 2, _ => exact hs _ (List.mem_of_getElem? (i := 433) (by decide +kernel))
  | 3, _ => exact hs _ (List.mem_of_getElem? (i := 434) (by decide +kernel))
  | 4, _ => exact hs _ (List.mem_of_getElem? (i := 435) (by decide +kernel))
  | 5, _ => exact hs _ (List.mem_of_getElem? (i := 436) (by decide +kernel))
  | 6, _ => exact hs _ (List.mem_of_getElem? (i := 437) (by decide +kernel))
  | j + 7, hj => exact absurd hj (by show ¬ j + 7 < 7; omega)
theorem sc_15 {s : State} {b : Nat} (hs : ∀ c ∈ flatC (Jvm.Cond.and given_1 narrow_1), c.before #[Value.ref b] s = true) : SC s b 15 := by
  refine ⟨hs _ (List.mem_of_getElem? (i := 452) (by decide +kernel)), hs _ (List.mem_of_getElem? (i := 453) (by decide +kernel)), hs _ (List.mem_of_getElem? (i := 454) (by decide +kernel)), hs _ (List.mem_of_getElem? (i := 455) (by decide +kernel)), fun j hj => ?_⟩
  match j, hj with
  | 0, _ => exact hs _ (List.mem_of_getElem? (i := 456) (by decide +kernel))
  | 1, _ => exact hs _ (List.mem_of_getElem? (i := 457) (by decide +kernel))
  | 2, _ => exact hs _ (List.mem_of_getElem? (i := 458) (by decide +kernel))
  | 3, _ => exact hs _ (List.mem_of_getElem? (i := 459) (by decide +kernel))
  | 4, _ => exact hs _ (List.mem_of_getElem? (i := 460) (by decide +kernel))
  | j + 5, hj => exact absurd hj (by show ¬ j + 5 < 5; omega)
theorem sc_16 {s : State} {b : Nat} (hs : ∀ c ∈ flatC (Jvm.Cond.and given_1 narrow_1), c.before #[Value.ref b] s = true) : SC s b 16 := by
  refine ⟨hs _ (List.mem_of_getElem? (i := 476) (by decide +kernel)), hs _ (List.mem_of_getElem? (i := 477) (by decide +kernel)), hs _ (List.mem_of_getElem? (i := 478) (by decide +kernel)), hs _ (List.mem_of_getElem? (i := 479) (by decide +kernel)), fun j hj => ?_⟩
  match j, hj with
  | 0, _ => exact hs _ (List.mem_of_getElem? (i := 480) (by decide +kernel))
  | 1, _ => exact hs _ (List.mem_of_getElem? (i := 481) (by decide +kernel))
  | 2, _ => exact hs _ (List.mem_of_getElem? (i := 482) (by decide +kernel))
  | 3, _ => exact hs _ (List.mem_of_getElem? (i := 483) (by decide +kernel))
  | 4, _ => exact hs _ (List.mem_of_getElem? (i := 484) (by decide +kernel))
  | 5, _ => exact hs _ (List.mem_of_getElem? (i := 485) (by decide +kernel))
  | j + 6, hj => exact absurd hj (by show ¬ j + 6 < 6; omega)
theorem sc_17 {s : State} {b : Nat} (hs : ∀ c ∈ flatC (Jvm.Cond.and given_1 narrow_1), c.before #[Value.ref b] s = true) : SC s b 17 := by
  refine ⟨hs _ (List.mem_of_getElem? (i := 502) (by decide +kernel)), hs _ (List.mem_of_getElem? (i := 503) (by decide +kernel)), hs _ (List.mem_of_getElem? (i := 504) (by decide +kernel)), hs _ (List.mem_of_getElem? (i := 505) (by decide +kernel)), fun j hj => ?_⟩
  match j, hj with
  | 0, _ => exact hs _ (List.mem_of_getElem? (i := 506) (by decide +kernel))
  | 1, _ => exact hs _ (List.mem_of_getElem? (i := 507) (by decide +kernel))
  | 2, _ => exact hs _ (List.mem_of_getElem? (i := 508) (by decide +kernel))
  | 3, _ => exact hs _ (List.mem_of_getElem? (i := 509) (by decide +kernel))
  | 4, _ => exact hs _ (List.mem_of_getElem? (i := 510) (by decide +kernel))
  | 5, _ => exact hs _ (List.mem_of_getElem? (i := 511) (by decide +kernel))
  | 6, _ => exact hs _ (List.mem_of_getElem? (i := 512) (by decide +kernel))
  | 7, _ => exact hs _ (List.mem_of_getElem? (i := 513) (by decide +kernel))
  | j + 8, hj => exact absurd hj (by show ¬ j + 8 < 8; omega)
theorem sc_18 {s : State} {b : Nat} (hs : ∀ c ∈ flatC (Jvm.Cond.and given_1 narrow_1), c.before #[Value.ref b] s = true) : SC s b 18 := by
  refine ⟨hs _ (List.mem_of_getElem? (i := 531) (by decide +kernel)), hs _ (List.mem_of_getElem? (i := 532) (by decide +kernel)), hs _ (List.mem_of_getElem? (i := 533) (by decide +kernel)), hs _ (List.mem_of_getElem? (i := 534) (by decide +kernel)), fun j hj => ?_⟩
  match j, hj with
  | 0, _ => exact hs _ (List.mem_of_getElem? (i := 535) (by decide +kernel))
  | 1, _ => exact hs _ (List.mem_of_getElem? (i := 536) (by decide +kernel))
  | 2, _ => exact hs _ (List.mem_of_getElem? (i := 537) (by decide +kernel))
  | 3, _ => exact hs _ (List.mem_of_getElem? (i := 538) (by decide +kernel))
  | 4, _ => exact hs _ (List.mem_of_getElem? (i := 539) (by decide +kernel))
  | 5, _ => exact hs _ (List.mem_of_getElem? (i := 540) (by decide +kernel))
  | 6, _ => exact hs _ (List.mem_of_getElem? (i := 541) (by decide +kernel))
  | 7, _ => exact hs _ (List.mem_of_getElem? (i := 542) (by decide +kernel))
  | 8, _ => exact hs _ (List.mem_of_getElem? (i := 543) (by decide +kernel))
  | 9, _ => exact hs _ (List.mem_of_getElem? (i := 544) (by decide +kernel))
  | j + 10, hj => exact absurd hj (by show ¬ j + 10 < 10; omega)
theorem sc_19 {s : State} {b : Nat} (hs : ∀ c ∈ flatC (Jvm.Cond.and given_1 narrow_1), c.before #[Value.ref b] s = true) : SC s b 19 := by
  refine ⟨hs _ (List.mem_of_getElem? (i := 563) (by decide +kernel)), hs _ (List.mem_of_getElem? (i := 564) (by decide +kernel)), hs _ (List.mem_of_getElem? (i := 565) (by decide +kernel)), hs _ (List.mem_of_getElem? (i := 566) (by decide +kernel)), fun j hj => ?_⟩
  match j, hj with
  | 0, _ => exact hs _ (List.mem_of_getElem? (i := 567) (by decide +kernel))
  | 1, _ => exact hs _ (List.mem_of_getElem? (i := 568) (by decide +kernel))
  | 2, _ => exact hs _ (List.mem_of_getElem? (i := 569) (by decide +kernel))
  | 3, _ => exact hs _ (List.mem_of_getElem? (i := 570) (by decide +kernel))
  | 4, _ => exact hs _ (List.mem_of_getElem? (i := 571) (by decide +kernel))
  | 5, _ => exact hs _ (List.mem_of_getElem? (i := 572) (by decide +kernel))
  | 6, _ => exact hs _ (List.mem_of_getElem? (i := 573) (by decide +kernel))
  | j + 7, hj => exact absurd hj (by show ¬ j + 7 < 7; omega)
theorem sc_20 {s : State} {b : Nat} (hs : ∀ c ∈ flatC (Jvm.Cond.and given_1 narrow_1), c.before #[Value.ref b] s = true) : SC s b 20 := by
  refine ⟨hs _ (List.mem_of_getElem? (i := 593) (by decide +kernel)), hs _ (List.mem_of_getElem? (i := 594) (by decide +kernel)), hs _ (List.mem_of_getElem? (i := 595) (by decide +kernel)), hs _ (List.mem_of_getElem? (i := 596) (by decide +kernel)), fun j hj => ?_⟩
  match j, hj with
  | 0, _ => exact hs _ (List.mem_of_getElem? (i := 597) (by decide +kernel))
  | 1, _ => exact hs _ (List.mem_of_getElem? (i := 598) (by decide +kernel))
  | 2, _ => exact hs _ (List.mem_of_getElem? (i := 599) (by decide +kernel))
  | 3, _ => exact hs _ (List.mem_of_getElem? (i := 600) (by decide +kernel))
  | 4, _ => exact hs _ (List.mem_of_getElem? (i := 601) (by decide +kernel))
  | 5, _ => exact hs _ (List.mem_of_getElem? (i := 602) (by decide +kernel))
  | j + 6, hj => exact absurd hj (by show ¬ j + 6 < 6; omega)
theorem sc_21 {s : State} {b : Nat} (hs : ∀ c ∈ flatC (Jvm.Cond.and given_1 narrow_1), c.before #[Value.ref b] s = true) : SC s b 21 := by
  refine ⟨hs _ (List.mem_of_getElem? (i := 623) (by decide +kernel)), hs _ (List.mem_of_getElem? (i := 624) (by decide +kernel)), hs _ (List.mem_of_getElem? (i := 625) (by decide +kernel)), hs _ (List.mem_of_getElem? (i := 626) (by decide +kernel)), fun j hj => ?_⟩
  match j, hj with
  | 0, _ => exact hs _ (List.mem_of_getElem? (i := 627) (by decide +kernel))
  | 1, _ => exact hs _ (List.mem_of_getElem? (i := 628) (by decide +kernel))
  | 2, _ => exact hs _ (List.mem_of_getElem? (i := 629) (by decide +kernel))
  | j + 3, hj => exact absurd hj (by show ¬ j + 3 < 3; omega)
theorem sc_22 {s : State} {b : Nat} (hs : ∀ c ∈ flatC (Jvm.Cond.and given_1 narrow_1), c.before #[Value.ref b] s = true) : SC s b 22 := by
  refine ⟨hs _ (List.mem_of_getElem? (i := 651) (by decide +kernel)), hs _ (List.mem_of_getElem? (i := 652) (by decide +kernel)), hs _ (List.mem_of_getElem? (i := 653) (by decide +kernel)), hs _ (List.mem_of_getElem? (i := 654) (by decide +kernel)), fun j hj => ?_⟩
  match j, hj with
  | 0, _ => exact hs _ (List.mem_of_getElem? (i := 655) (by decide +kernel))
  | 1, _ => exact hs _ (List.mem_of_getElem? (i := 656) (by decide +kernel))
  | 2, _ => exact hs _ (List.mem_of_getElem? (i := 657) (by decide +kernel))
  | 3, _ => exact hs _ (List.mem_of_getElem? (i := 658) (by decide +kernel))
  | 4, _ => exact hs _ (List.mem_of_getElem? (i := 659) (by decide +kernel))
  | j + 5, hj => exact absurd hj (by show ¬ j + 5 < 5; omega)
theorem sc_all {s : State} {b : Nat} (hs : ∀ c ∈ flatC (Jvm.Cond.and given_1 narrow_1), c.before #[Value.ref b] s = true) : ∀ i, i < nJS → SC s b i := fun i hi => by
  match i, hi with
  | 0, _ => exact sc_0 hs
  | 1, _ => exact sc_1 hs
  | 2, _ => exact sc_2 hs
  | 3, _ => exact sc_3 hs
  | 4, _ => exact sc_4 hs
  | 5, _ => exact sc_5 hs
  | 6, _ => exact sc_6 hs
  | 7, _ => exact sc_7 hs
  | 8, _ => exact sc_8 hs
  | 9, _ => exact sc_9 hs
  | 10, _ => exact sc_10 hs
  | 11, _ => exact sc_11 hs
  | 12, _ => exact sc_12 hs
  | 13, _ => exact sc_13 hs
  | 14, _ => exact sc_14 hs
  | 15, _ => exact sc_15 hs
  | 16, _ => exact sc_16 hs
  | 17, _ => exact sc_17 hs
  | 18, _ => exact sc_18 hs
  | 19, _ => exact sc_19 hs
  | 20, _ => exact sc_20 hs
  | 21, _ => exact sc_21 hs
  | 22, _ => exact sc_22 hs
  | i + 23, hi => exact absurd hi (by show ¬ i + 23 < 23; omega)
theorem sr_all : ∀ i, i < nJS → (Cond.stringRef (ownJS i) (idxJS i) (texJS i)) ∈ lw_tbl := fun i hi => by
  match i, hi with
  | 0, _ => exact List.mem_of_getElem? (i := 446) (by decide +kernel)
  | 1, _ => exact List.mem_of_getElem? (i := 560) (by decide +kernel)
  | 2, _ => exact List.mem_of_getElem? (i := 621) (by decide +kernel)
  | 3, _ => exact List.mem_of_getElem? (i := 645) (by decide +kernel)
  | 4, _ => exact List.mem_of_getElem? (i := 666) (by decide +kernel)
  | 5, _ => exact List.mem_of_getElem? (i := 675) (by decide +kernel)
  | 6, _ => exact List.mem_of_getElem? (i := 687) (by decide +kernel)
  | 7, _ => exact List.mem_of_getElem? (i := 711) (by decide +kernel)
  | 8, _ => exact List.mem_of_getElem? (i := 726) (by decide +kernel)
  | 9, _ => exact List.mem_of_getElem? (i := 738) (by decide +kernel)
  | 10, _ => exact List.mem_of_getElem? (i := 755) (by decide +kernel)
  | 11, _ => exact List.mem_of_getElem? (i := 842) (by decide +kernel)
  | 12, _ => exact List.mem_of_getElem? (i := 1506) (by decide +kernel)
  | 13, _ => exact List.mem_of_getElem? (i := 1527) (by decide +kernel)
  | 14, _ => exact List.mem_of_getElem? (i := 1720) (by decide +kernel)
  | 15, _ => exact List.mem_of_getElem? (i := 1743) (by decide +kernel)
  | 16, _ => exact List.mem_of_getElem? (i := 1756) (by decide +kernel)
  | 17, _ => exact List.mem_of_getElem? (i := 1769) (by decide +kernel)
  | 18, _ => exact List.mem_of_getElem? (i := 1774) (by decide +kernel)
  | 19, _ => exact List.mem_of_getElem? (i := 1782) (by decide +kernel)
  | 20, _ => exact List.mem_of_getElem? (i := 1798) (by decide +kernel)
  | 21, _ => exact List.mem_of_getElem? (i := 1803) (by decide +kernel)
  | 22, _ => exact List.mem_of_getElem? (i := 1811) (by decide +kernel)
  | i + 23, hi => exact absurd hi (by show ¬ i + 23 < 23; omega)
theorem ne_all : ∀ q ∈ xNest, Cond.methodLinkNest q.1 q.2.1 q.2.2.1 q.2.2.2 ∈ lw_tbl := List.forall_mem_cons.mpr ⟨List.mem_of_getElem? (i := 1269) (by decide +kernel), List.forall_mem_cons.mpr ⟨List.mem_of_getElem? (i := 1331) (by decide +kernel), List.forall_mem_cons.mpr ⟨List.mem_of_getElem? (i := 190) (by decide +kernel), List.forall_mem_cons.mpr ⟨List.mem_of_getElem? (i := 784) (by decide +kernel), List.forall_mem_cons.mpr ⟨List.mem_of_getElem? (i := 1473) (by decide +kernel), List.forall_mem_cons.mpr ⟨List.mem_of_getElem? (i := 795) (by decide +kernel), List.forall_mem_cons.mpr ⟨List.mem_of_getElem? (i := 812) (by decide +kernel), List.forall_mem_cons.mpr ⟨List.mem_of_getElem? (i := 770) (by decide +kernel), List.forall_mem_cons.mpr ⟨List.mem_of_getElem? (i := 940) (by decide +kernel), List.forall_mem_cons.mpr ⟨List.mem_of_getElem? (i := 868) (by decide +kernel), List.forall_mem_cons.mpr ⟨List.mem_of_getElem? (i := 642) (by decide +kernel), List.forall_mem_cons.mpr ⟨List.mem_of_getElem? (i := 1097) (by decide +kernel), List.forall_mem_cons.mpr ⟨List.mem_of_getElem? (i := 1098) (by decide +kernel), List.forall_mem_cons.mpr ⟨List.mem_of_getElem? (i := 735) (by decide +kernel), List.forall_mem_cons.mpr ⟨List.mem_of_getElem? (i := 725) (by decide +kernel), List.forall_mem_cons.mpr ⟨List.mem_of_getElem? (i := 654) (by decide +kernel), List.forall_mem_cons.mpr ⟨List.mem_of_getElem? (i := 549) (by decide +kernel), List.forall_mem_cons.mpr ⟨List.mem_of_getElem? (i := 1443) (by decide +kernel), List.forall_mem_cons.mpr ⟨List.mem_of_getElem? (i := 1444) (by decide +kernel), List.forall_mem_cons.mpr ⟨List.mem_of_getElem? (i := 1361) (by decide +kernel), (fun _ z => absurd z List.not_mem_nil)⟩⟩⟩⟩⟩⟩⟩⟩⟩⟩⟩⟩⟩⟩⟩⟩⟩⟩⟩⟩
theorem de_all : ∀ x ∈ xDec, Cond.declares x ∈ lw_tbl := List.forall_mem_cons.mpr ⟨List.mem_of_getElem? (i := 408) (by decide +kernel), List.forall_mem_cons.mpr ⟨List.mem_of_getElem? (i := 409) (by decide +kernel), List.forall_mem_cons.mpr ⟨List.mem_of_getElem? (i := 410) (by decide +kernel), List.forall_mem_cons.mpr ⟨List.mem_of_getElem? (i := 411) (by decide +kernel), List.forall_mem_cons.mpr ⟨List.mem_of_getElem? (i := 412) (by decide +kernel), List.forall_mem_cons.mpr ⟨List.mem_of_getElem? (i := 413) (by decide +kernel), (fun _ z => absurd z List.not_mem_nil)⟩⟩⟩⟩⟩⟩
theorem ca_all : ∀ i, Cond.castable (xnm i) (xnm i) ∈ lw_tbl
  | 0 => List.mem_of_getElem? (i := 835) (show lw_tbl[835]? = some (Cond.castable (xnm 0) (xnm 0)) by decide +kernel)
  | 1 => List.mem_of_getElem? (i := 407) (show lw_tbl[407]? = some (Cond.castable (xnm 1) (xnm 1)) by decide +kernel)
  | _ + 2 => List.mem_of_getElem? (i := 748) (show lw_tbl[748]? = some (Cond.castable (xnm 2) (xnm 2)) by decide +kernel)
theorem nc_all : ∀ i j, xnm i ≠ xnm j → Cond.not (.castable (xnm i) (xnm j)) ∈ flatC (Jvm.Cond.and given_1 narrow_1)
  | 0, 0, h => absurd rfl h
  | 0, 1, _ => List.mem_of_getElem? (i := 22) (show (flatC (Jvm.Cond.and given_1 narrow_1))[22]? = some (Cond.not (.castable (xnm 0) (xnm 1))) by decide +kernel)
  | 0, _ + 2, _ => List.mem_of_getElem? (i := 34) (show (flatC (Jvm.Cond.and given_1 narrow_1))[34]? = some (Cond.not (.castable (xnm 0) (xnm 2))) by decide +kernel)
  | 1, 0, _ => List.mem_of_getElem? (i := 43) (show (flatC (Jvm.Cond.and given_1 narrow_1))[43]? = some (Cond.not (.castable (xnm 1) (xnm 0))) by decide +kernel)
  | 1, 1, h => absurd rfl h
  | 1, _ + 2, _ => List.mem_of_getElem? (i := 31) (show (flatC (Jvm.Cond.and given_1 narrow_1))[31]? = some (Cond.not (.castable (xnm 1) (xnm 2))) by decide +kernel)
  | _ + 2, 0, _ => List.mem_of_getElem? (i := 46) (show (flatC (Jvm.Cond.and given_1 narrow_1))[46]? = some (Cond.not (.castable (xnm 2) (xnm 0))) by decide +kernel)
  | _ + 2, 1, _ => List.mem_of_getElem? (i := 21) (show (flatC (Jvm.Cond.and given_1 narrow_1))[21]? = some (Cond.not (.castable (xnm 2) (xnm 1))) by decide +kernel)
  | _ + 2, _ + 2, h => absurd rfl h
