/-! How an instruction is read, by both. -/
abbrev cellK (loc b : Nat) : Prop := (128 ≤ b ∧ b < 128 + loc) ∨ (136 ≤ b ∧ b < 144)
abbrev okK (loc k b : Nat) : Prop := (k = 1 ∧ (b < 128 ∨ cellK loc b)) ∨ (k = 2 ∧ cellK loc b) ∨ k = 3 ∨ (k ≠ 1 ∧ k ≠ 2 ∧ k ≠ 3 ∧ b ≤ 4)
def rdL (B : Nat → Nat) (loc p : Nat) : Nat → Nat → Nat → Nat × Nat
  | 0, _, len => (0, len)
  | d + 1, f, len => if f = 0 then (0, len) else if 1024 ≤ p + len then (1, len) else if okK loc (f % 16) (B (p + len)) then rdL B loc p d (if f % 16 = 4 then 4369 / 16 ^ (4 - B (p + len)) else f / 16) (len + 1) else (7, len)
def frm (c : Nat) : Nat := [1, 18, 274, 274, 274, 274, 274, 18, 17, 3, 785, 785, 1042, 1, 3, 0].getD c 0
def dec (B : Nat → Nat) (p loc : Nat) : Nat × Nat := if 1024 ≤ p then (1, 0) else if 15 < B p then (7, 0) else rdL B loc p 7 (frm (B p)) 1
theorem frm_x : ∀ j, j < 16 → xForm j = nI (frm j) := by decide +kernel
theorem frm_lt : ∀ j, frm j < 65536 := by
  intro j
  by_cases h : j < 16
  · have : ∀ j, j < 16 → frm j < 65536 := by decide +kernel
    exact this j h
  · have : frm j = 0 := by
      unfold frm
      rw [List.getD_eq_getElem?_getD, List.getElem?_eq_none (by simp; omega)]
      rfl
    omega
theorem c_isCell {N mo b loc : Nat} {st : xSt} (hb : b < 256) (hl : loc ≤ 8) : fX0_isCell N mo (nI b) (nI loc) st = some (if cellK loc b then nI 1 else nI 0, st) := by
  have l1 : (128 : Int32) = nI 128 := rfl
  have l2 : (136 : Int32) = nI 136 := rfl
  have l3 : (144 : Int32) = nI 144 := rfl
  unfold fX0_isCell fX0_isCell_b16 fX0_isCell_b30
  by_cases h1 : b < 128
  · simp (disch := omega) only [nm, bd, Option.bind_some, pI1, pI2, pQ1, pQ2, li_0, li_1, li_2, li_3, li_4, li_5, li_6, li_7, li_8, li_9, li_10, li_11, li_12, li_13, li_14, li_15, li_16, li_60, li_64, li_128, li_136, li_144, li_256, li_400, li_500, li_1020, li_1024, nI_neg1, nI_clamp, nI_ltI, nI_leI, nI_eq, nI_add, pk_sub, pk_mul, pk_div, nI_nm1, nI_nm1p, Nat.add_sub_cancel, Nat.add_sub_cancel_left, false_or, or_false, true_or, or_true, not_true_eq_false, not_false_eq_true, and_true, true_and, and_false, false_and, if_true, if_false, if_pos, if_neg]
  · by_cases h2 : b < 128 + loc
    · simp (disch := omega) only [nm, bd, Option.bind_some, pI1, pI2, pQ1, pQ2, li_0, li_1, li_2, li_3, li_4, li_5, li_6, li_7, li_8, li_9, li_10, li_11, li_12, li_13, li_14, li_15, li_16, li_60, li_64, li_128, li_136, li_144, li_256, li_400, li_500, li_1020, li_1024, nI_neg1, nI_clamp, nI_ltI, nI_leI, nI_eq, nI_add, pk_sub, pk_mul, pk_div, nI_nm1, nI_nm1p, Nat.add_sub_cancel, Nat.add_sub_cancel_left, false_or, or_false, true_or, or_true, not_true_eq_false, not_false_eq_true, and_true, true_and, and_false, false_and, if_true, if_false, if_pos, if_neg]
    · by_cases h3 : b < 136
      · simp (disch := omega) only [nm, bd, Option.bind_some, pI1, pI2, pQ1, pQ2, li_0, li_1, li_2, li_3, li_4, li_5, li_6, li_7, li_8, li_9, li_10, li_11, li_12, li_13, li_14, li_15, li_16, li_60, li_64, li_128, li_136, li_144, li_256, li_400, li_500, li_1020, li_1024, nI_neg1, nI_clamp, nI_ltI, nI_leI, nI_eq, nI_add, pk_sub, pk_mul, pk_div, nI_nm1, nI_nm1p, Nat.add_sub_cancel, Nat.add_sub_cancel_left, false_or, or_false, true_or, or_true, not_true_eq_false, not_false_eq_true, and_true, true_and, and_false, false_and, if_true, if_false, if_pos, if_neg]
      · by_cases h4 : b < 144
        · simp (disch := omega) only [nm, bd, Option.bind_some, pI1, pI2, pQ1, pQ2, li_0, li_1, li_2, li_3, li_4, li_5, li_6, li_7, li_8, li_9, li_10, li_11, li_12, li_13, li_14, li_15, li_16, li_60, li_64, li_128, li_136, li_144, li_256, li_400, li_500, li_1020, li_1024, nI_neg1, nI_clamp, nI_ltI, nI_leI, nI_eq, nI_add, pk_sub, pk_mul, pk_div, nI_nm1, nI_nm1p, Nat.add_sub_cancel, Nat.add_sub_cancel_left, false_or, or_false, true_or, or_true, not_true_eq_false, not_false_eq_true, and_true, true_and, and_false, false_and, if_true, if_false, if_pos, if_neg]
        · simp (disch := omega) only [nm, bd, Option.bind_some, pI1, pI2, pQ1, pQ2, li_0, li_1, li_2, li_3, li_4, li_5, li_6, li_7, li_8, li_9, li_10, li_11, li_12, li_13, li_14, li_15, li_16, li_60, li_64, li_128, li_136, li_144, li_256, li_400, li_500, li_1020, li_1024, nI_neg1, nI_clamp, nI_ltI, nI_leI, nI_eq, nI_add, pk_sub, pk_mul, pk_div, nI_nm1, nI_nm1p, Nat.add_sub_cancel, Nat.add_sub_cancel_left, false_or, or_false, true_or, or_true, not_true_eq_false, not_false_eq_true, and_true, true_and, and_false, false_and, if_true, if_false, if_pos, if_neg]
theorem c_fits {N mo f b loc : Nat} {st : xSt} (hf : f < 65536) (hb : b < 256) (hl : loc ≤ 8) : fX0_fits N mo (nI f) (nI b) (nI loc) st = some (if okK loc (f % 16) b then nI 1 else nI 0, st) := by
  have ha : nI f &&& (15 : Int32) = nI (f % 16) := pk_andN (m := 15) (by omega) 4 (by decide)
  have ha2 : nI f &&& nI 15 = nI (f % 16) := ha
  obtain ⟨k, hk⟩ : ∃ k, k = f % 16 := ⟨_, rfl⟩
  have hk2 : k < 16 := by omega
  unfold fX0_fits fX0_fits_b47
  rw [ha, ← hk]
  by_cases e1 : k = 1
  · by_cases h1 : b < 128
    · simp (disch := omega) only [c_isCell hb hl, nm, bd, Option.bind_some, pI1, pI2, pQ1, pQ2, li_0, li_1, li_2, li_3, li_4, li_5, li_6, li_7, li_8, li_9, li_10, li_11, li_12, li_13, li_14, li_15, li_16, li_60, li_64, li_128, li_136, li_144, li_256, li_400, li_500, li_1020, li_1024, nI_neg1, nI_clamp, nI_ltI, nI_leI, nI_eq, nI_add, pk_sub, pk_mul, pk_div, nI_nm1, nI_nm1p, Nat.add_sub_cancel, Nat.add_sub_cancel_left, false_or, or_false, true_or, or_true, not_true_eq_false, not_false_eq_true, and_true, true_and, and_false, false_and, if_true, if_false, if_pos, if_neg]
    · by_cases h2 : cellK loc b
      · simp (disch := omega) only [c_isCell hb hl, nm, bd, Option.bind_some, pI1, pI2, pQ1, pQ2, li_0, li_1, li_2, li_3, li_4, li_5, li_6, li_7, li_8, li_9, li_10, li_11, li_12, li_13, li_14, li_15, li_16, li_60, li_64, li_128, li_136, li_144, li_256, li_400, li_500, li_1020, li_1024, nI_neg1, nI_clamp, nI_ltI, nI_leI, nI_eq, nI_add, pk_sub, pk_mul, pk_div, nI_nm1, nI_nm1p, Nat.add_sub_cancel, Nat.add_sub_cancel_left, false_or, or_false, true_or, or_true, not_true_eq_false, not_false_eq_true, and_true, true_and, and_false, false_and, if_true, if_false, if_pos, if_neg]
      · simp (disch := omega) only [c_isCell hb hl, nm, bd, Option.bind_some, pI1, pI2, pQ1, pQ2, li_0, li_1, li_2, li_3, li_4, li_5, li_6, li_7, li_8, li_9, li_10, li_11, li_12, li_13, li_14, li_15, li_16, li_60, li_64, li_128, li_136, li_144, li_256, li_400, li_500, li_1020, li_1024, nI_neg1, nI_clamp, nI_ltI, nI_leI, nI_eq, nI_add, pk_sub, pk_mul, pk_div, nI_nm1, nI_nm1p, Nat.add_sub_cancel, Nat.add_sub_cancel_left, false_or, or_false, true_or, or_true, not_true_eq_false, not_false_eq_true, and_true, true_and, and_false, false_and, if_true, if_false, if_pos, if_neg]
  · by_cases e2 : k = 2
    · by_cases h2 : cellK loc b
      · simp (disch := omega) only [c_isCell hb hl, nm, bd, Option.bind_some, pI1, pI2, pQ1, pQ2, li_0, li_1, li_2, li_3, li_4, li_5, li_6, li_7, li_8, li_9, li_10, li_11, li_12, li_13, li_14, li_15, li_16, li_60, li_64, li_128, li_136, li_144, li_256, li_400, li_500, li_1020, li_1024, nI_neg1, nI_clamp, nI_ltI, nI_leI, nI_eq, nI_add, pk_sub, pk_mul, pk_div, nI_nm1, nI_nm1p, Nat.add_sub_cancel, Nat.add_sub_cancel_left, false_or, or_false, true_or, or_true, not_true_eq_false, not_false_eq_true, and_true, true_and, and_false, false_and, if_true, if_false, if_pos, if_neg]
      · simp (disch := omega) only [c_isCell hb hl, nm, bd, Option.bind_some, pI1, pI2, pQ1, pQ2, li_0, li_1, li_2, li_3, li_4, li_5, li_6, li_7, li_8, li_9, li_10, li_11, li_12, li_13, li_14, li_15, li_16, li_60, li_64, li_128, li_136, li_144, li_256, li_400, li_500, li_1020, li_1024, nI_neg1, nI_clamp, nI_ltI, nI_leI, nI_eq, nI_add, pk_sub, pk_mul, pk_div, nI_nm1, nI_nm1p, Nat.add_sub_cancel, Nat.add_sub_cancel_left, false_or, or_false, true_or, or_true, not_true_eq_false, not_false_eq_true, and_true, true_and, and_false, false_and, if_true, if_false, if_pos, if_neg]
    · by_cases e3 : k = 3
      · simp (disch := omega) only [nm, bd, Option.bind_some, pI1, pI2, pQ1, pQ2, li_0, li_1, li_2, li_3, li_4, li_5, li_6, li_7, li_8, li_9, li_10, li_11, li_12, li_13, li_14, li_15, li_16, li_60, li_64, li_128, li_136, li_144, li_256, li_400, li_500, li_1020, li_1024, nI_neg1, nI_clamp, nI_ltI, nI_leI, nI_eq, nI_add, pk_sub, pk_mul, pk_div, nI_nm1, nI_nm1p, Nat.add_sub_cancel, Nat.add_sub_cancel_left, false_or, or_false, true_or, or_true, not_true_eq_false, not_false_eq_true, and_true, true_and, and_false, false_and, if_true, if_false, if_pos, if_neg]
      · by_cases h4 : b ≤ 4
        · simp (disch := omega) only [nm, bd, Option.bind_some, pI1, pI2, pQ1, pQ2, li_0, li_1, li_2, li_3, li_4, li_5, li_6, li_7, li_8, li_9, li_10, li_11, li_12, li_13, li_14, li_15, li_16, li_60, li_64, li_128, li_136, li_144, li_256, li_400, li_500, li_1020, li_1024, nI_neg1, nI_clamp, nI_ltI, nI_leI, nI_eq, nI_add, pk_sub, pk_mul, pk_div, nI_nm1, nI_nm1p, Nat.add_sub_cancel, Nat.add_sub_cancel_left, false_or, or_false, true_or, or_true, not_true_eq_false, not_false_eq_true, and_true, true_and, and_false, false_and, if_true, if_false, if_pos, if_neg]
        · simp (disch := omega) only [nm, bd, Option.bind_some, pI1, pI2, pQ1, pQ2, li_0, li_1, li_2, li_3, li_4, li_5, li_6, li_7, li_8, li_9, li_10, li_11, li_12, li_13, li_14, li_15, li_16, li_60, li_64, li_128, li_136, li_144, li_256, li_400, li_500, li_1020, li_1024, nI_neg1, nI_clamp, nI_ltI, nI_leI, nI_eq, nI_add, pk_sub, pk_mul, pk_div, nI_nm1, nI_nm1p, Nat.add_sub_cancel, Nat.add_sub_cancel_left, false_or, or_false, true_or, or_true, not_true_eq_false, not_false_eq_true, and_true, true_and, and_false, false_and, if_true, if_false, if_pos, if_neg]
theorem c_behind {N mo f b : Nat} {st : xSt} (hf : f < 65536) (hb : f % 16 = 4 → b ≤ 4) : fX0_formBehind N mo (nI f) (nI b) st = some (nI (if f % 16 = 4 then 4369 / 16 ^ (4 - b) else f / 16), st) := by
  have ha : nI f &&& (15 : Int32) = nI (f % 16) := pk_andN (m := 15) (by omega) 4 (by decide)
  unfold fX0_formBehind
  rw [ha]
  by_cases h : f % 16 = 4
  · have hb := hb h
    rw [h, if_pos (by decide), if_pos rfl]
    have h5 : ∀ b, b < 5 → ((4369 : Int32) >>> (((4 : Int32) * ((4 : Int32) - nI b)) &&& 31)) = nI (4369 / 16 ^ (4 - b)) := by decide +kernel
    rw [h5 b (by omega)]
  · rw [if_neg h, if_neg (fun e => h ((nI_eq (by omega) (by omega)).mp (e.trans li_4)))]
    rw [show nI f >>> ((4 : Int32) &&& 31) = nI (f / 2 ^ 4) from pk_shrN (by omega) _ 4 (by decide)]
theorem rdL_p {B : Nat → Nat} {loc p : Nat} : ∀ d f len, len + d ≤ 8 → p + len ≤ 1024 → len ≤ (rdL B loc p d f len).2 ∧ (rdL B loc p d f len).2 ≤ len + d ∧ (rdL B loc p d f len).1 ≤ 7 ∧ p + (rdL B loc p d f len).2 ≤ 1024 := by
  intro d
  induction d with
  | zero => intro f len h h2; simp [rdL]; omega
  | succ d ih =>
    intro f len h h2
    unfold rdL
    split
    · simp; omega
    · split
      · simp; omega
      · split
        · have := ih (if f % 16 = 4 then 4369 / 16 ^ (4 - B (p + len)) else f / 16) (len + 1) (by omega) (by omega)
          omega
        · simp; omega
theorem c_rdl {N mo q base loc p : Nat} {B : Nat → Nat} (hq : ¬ (20 = rwC q ∧ 3 = rwI mo q)) (hl : loc ≤ 8) (hp : p < 1024) (hB : ∀ k, k < 1024 → B k < 256) (hbs : base + 10 < rwN q) (hrn : rwN q ≤ 660) : ∀ d f len fuel st, len + d = 8 → d < fuel → f < 65536 → 1 ≤ len → (∀ k, k < 1024 → st.1 20 3 k = nI (B k)) →
    ∃ st', fX3_read_b48 N mo fuel (nI p) (nI loc) q (nI base) (nI f) (nI len) st = some (nI (rdL B loc p d f len).1, st') ∧ st'.2 = st.2 ∧ (∀ c i k, ¬ (c = rwC q ∧ i = rwI mo q ∧ base + len ≤ k ∧ k ≤ base + 8) → st'.1 c i k = st.1 c i k) ∧ ((rdL B loc p d f len).1 = 0 → st'.1 (rwC q) (rwI mo q) (base + 8) = nI (rdL B loc p d f len).2 ∧ ∀ i, len ≤ i → i < (rdL B loc p d f len).2 → st'.1 (rwC q) (rwI mo q) (base + i) = nI (B (p + i))) := by
  intro d
  induction d with
  | zero =>
    intro f len fuel st h1 h2 hf h3 hm
    obtain ⟨fuel, rfl⟩ : ∃ z, fuel = z + 1 := ⟨fuel - 1, by omega⟩
    have : len = 8 := by omega
    subst this
    unfold fX3_read_b48 fX3_read_b121 rdL
    simp (disch := omega) only [ite_self, nm, bd, Option.bind_some, pI1, pI2, pQ1, pQ2, li_0, li_1, li_2, li_3, li_4, li_5, li_6, li_7, li_8, li_9, li_10, li_11, li_12, li_13, li_14, li_15, li_16, li_60, li_64, li_128, li_136, li_144, li_256, li_400, li_500, li_1020, li_1024, nI_neg1, nI_clamp, nI_ltI, nI_leI, nI_eq, nI_add, pk_sub, pk_mul, pk_div, nI_nm1, nI_nm1p, Nat.add_sub_cancel, Nat.add_sub_cancel_left, false_or, or_false, true_or, or_true, not_true_eq_false, not_false_eq_true, and_true, true_and, and_false, false_and, if_true, if_false, if_pos, if_neg]
    refine ⟨_, rfl, rfl, fun c i k h => ?_, fun _ => ⟨?_, fun i h4 h5 => by omega⟩⟩
    · rw [pI1, if_neg (by omega)]
    · rw [pI1, if_pos (by omega)]
  | succ d ih =>
    intro f len fuel st h1 h2 hf h3 hm
    obtain ⟨fuel, rfl⟩ : ∃ z, fuel = z + 1 := ⟨fuel - 1, by omega⟩
    by_cases hf0 : f = 0
    · subst hf0
      unfold fX3_read_b48 fX3_read_b121 rdL
      simp (disch := omega) only [nm, bd, Option.bind_some, pI1, pI2, pQ1, pQ2, li_0, li_1, li_2, li_3, li_4, li_5, li_6, li_7, li_8, li_9, li_10, li_11, li_12, li_13, li_14, li_15, li_16, li_60, li_64, li_128, li_136, li_144, li_256, li_400, li_500, li_1020, li_1024, nI_neg1, nI_clamp, nI_ltI, nI_leI, nI_eq, nI_add, pk_sub, pk_mul, pk_div, nI_nm1, nI_nm1p, Nat.add_sub_cancel, Nat.add_sub_cancel_left, false_or, or_false, true_or, or_true, not_true_eq_false, not_false_eq_true, and_true, true_and, and_false, false_and, if_true, if_false, if_pos, if_neg]
      refine ⟨_, rfl, rfl, fun c i k h => ?_, fun _ => ⟨?_, fun i h4 h5 => by omega⟩⟩
      · rw [pI1, if_neg (by omega)]
      · rw [pI1, if_pos (by omega)]
    · by_cases hpl : 1024 ≤ p + len
      · unfold fX3_read_b48 fX8_isPlace rdL
        simp (disch := omega) only [nm, bd, Option.bind_some, pI1, pI2, pQ1, pQ2, li_0, li_1, li_2, li_3, li_4, li_5, li_6, li_7, li_8, li_9, li_10, li_11, li_12, li_13, li_14, li_15, li_16, li_60, li_64, li_128, li_136, li_144, li_256, li_400, li_500, li_1020, li_1024, nI_neg1, nI_clamp, nI_ltI, nI_leI, nI_eq, nI_add, pk_sub, pk_mul, pk_div, nI_nm1, nI_nm1p, Nat.add_sub_cancel, Nat.add_sub_cancel_left, false_or, or_false, true_or, or_true, not_true_eq_false, not_false_eq_true, and_true, true_and, and_false, false_and, if_true, if_false, if_pos, if_neg]
        exact ⟨_, rfl, rfl, fun c i k h => rfl, fun h => by omega⟩
      · have hb := hB (p + len) (by omega)
        have hm2 := hm (p + len) (by omega)
        obtain ⟨b, eb⟩ : ∃ b, b = B (p + len) := ⟨_, rfl⟩
        rw [← eb] at hb hm2
        by_cases hk : okK loc (f % 16) b
        · have hfit := c_fits (N := N) (mo := mo) (st := st) hf hb hl
          rw [if_pos hk] at hfit
          have hbe := fun st => c_behind (N := N) (mo := mo) (st := st) (b := b) hf (fun h => by omega)
          obtain ⟨f', ef⟩ : ∃ f', f' = if f % 16 = 4 then 4369 / 16 ^ (4 - b) else f / 16 := ⟨_, rfl⟩
          rw [← ef] at hbe
          have hf' : f' < 65536 := by
            rw [ef]
            split
            · exact Nat.lt_of_le_of_lt (Nat.div_le_self _ _) (by omega)
            · omega
          have er : rdL B loc p (d + 1) f len = rdL B loc p d f' (len + 1) := by
            rw [rdL, if_neg hf0, if_neg hpl, ← eb, if_pos hk, ← ef]
          rw [er]
          obtain ⟨st', e1, e2, e3, e4⟩ := ih f' (len + 1) fuel (pI st (rwC q) (rwI mo q) (base + len) (nI b)) (by omega) (by omega) hf' (by omega) (fun k hk => by
            rw [pI1, if_neg (fun z => hq ⟨z.1, z.2.1⟩)]; exact hm k hk)
          refine ⟨st', ?_, by rw [e2, pI2], fun c i k h => ?_, fun h0 => ⟨(e4 h0).1, fun i h4 h5 => ?_⟩⟩
          · unfold fX3_read_b48 fX8_isPlace
            simp (disch := omega) only [hm2, hfit, hbe, nm, bd, Option.bind_some, pI1, pI2, pQ1, pQ2, li_0, li_1, li_2, li_3, li_4, li_5, li_6, li_7, li_8, li_9, li_10, li_11, li_12, li_13, li_14, li_15, li_16, li_60, li_64, li_128, li_136, li_144, li_256, li_400, li_500, li_1020, li_1024, nI_neg1, nI_clamp, nI_ltI, nI_leI, nI_eq, nI_add, pk_sub, pk_mul, pk_div, nI_nm1, nI_nm1p, Nat.add_sub_cancel, Nat.add_sub_cancel_left, false_or, or_false, true_or, or_true, not_true_eq_false, not_false_eq_true, and_true, true_and, and_false, false_and, if_true, if_false, if_pos, if_neg]
            exact e1
          · rw [e3 c i k (by omega), pI1, if_neg (by omega)]
          · by_cases hi : i = len
            · subst hi
              rw [e3 _ _ _ (by omega), pI1, if_pos ⟨rfl, rfl, rfl⟩, eb]
            · exact (e4 h0).2 i (by omega) h5
        · have hfit := c_fits (N := N) (mo := mo) (st := st) hf hb hl
          rw [if_neg hk] at hfit
          have er : rdL B loc p (d + 1) f len = (7, len) := by
            rw [rdL, if_neg hf0, if_neg hpl, ← eb, if_neg hk]
          rw [er]
          unfold fX3_read_b48 fX8_isPlace
          simp (disch := omega) only [hm2, hfit, nm, bd, Option.bind_some, pI1, pI2, pQ1, pQ2, li_0, li_1, li_2, li_3, li_4, li_5, li_6, li_7, li_8, li_9, li_10, li_11, li_12, li_13, li_14, li_15, li_16, li_60, li_64, li_128, li_136, li_144, li_256, li_400, li_500, li_1020, li_1024, nI_neg1, nI_clamp, nI_ltI, nI_leI, nI_eq, nI_add, pk_sub, pk_mul, pk_div, nI_nm1, nI_nm1p, Nat.add_sub_cancel, Nat.add_sub_cancel_left, false_or, or_false, true_or, or_true, not_true_eq_false, not_false_eq_true, and_true, true_and, and_false, false_and, if_true, if_false, if_pos, if_neg]
          exact ⟨_, rfl, rfl, fun c i k h => rfl, fun h => by omega⟩
theorem dec_p {B : Nat → Nat} {loc p : Nat} : (dec B p loc).1 ≤ 7 ∧ (dec B p loc).2 ≤ 8 ∧ ((dec B p loc).1 = 0 → 1 ≤ (dec B p loc).2 ∧ p + (dec B p loc).2 ≤ 1024 ∧ B p ≤ 15) := by
  unfold dec
  split
  · simp
  · split
    · simp
    · have := rdL_p (B := B) (loc := loc) (p := p) 7 (frm (B p)) 1 (by omega) (by omega)
      omega
theorem c_read {N mo q base loc p : Nat} {B : Nat → Nat} {st : xSt} (hN : 10 < N) (hq : ¬ (20 = rwC q ∧ 3 = rwI mo q)) (hl : loc ≤ 8) (hp : p < 3000) (hB : ∀ k, k < 1024 → B k < 256) (hbs : base + 10 < rwN q) (hrn : rwN q ≤ 660) (hm : ∀ k, k < 1024 → st.1 20 3 k = nI (B k)) :
    ∃ st', fX3_read N mo (nI p) (nI loc) q (nI base) st = some (nI (dec B p loc).1, st') ∧ st'.2 = st.2 ∧ (∀ c i k, ¬ (c = rwC q ∧ i = rwI mo q ∧ base ≤ k ∧ k ≤ base + 8) → st'.1 c i k = st.1 c i k) ∧ ((dec B p loc).1 = 0 → st'.1 (rwC q) (rwI mo q) (base + 8) = nI (dec B p loc).2 ∧ ∀ i, i < (dec B p loc).2 → st'.1 (rwC q) (rwI mo q) (base + i) = nI (B (p + i))) := by
  by_cases h1 : 1024 ≤ p
  · unfold fX3_read fX8_isPlace dec
    simp (disch := omega) only [nm, bd, Option.bind_some, pI1, pI2, pQ1, pQ2, li_0, li_1, li_2, li_3, li_4, li_5, li_6, li_7, li_8, li_9, li_10, li_11, li_12, li_13, li_14, li_15, li_16, li_60, li_64, li_128, li_136, li_144, li_256, li_400, li_500, li_1020, li_1024, nI_neg1, nI_clamp, nI_ltI, nI_leI, nI_eq, nI_add, pk_sub, pk_mul, pk_div, nI_nm1, nI_nm1p, Nat.add_sub_cancel, Nat.add_sub_cancel_left, false_or, or_false, true_or, or_true, not_true_eq_false, not_false_eq_true, and_true, true_and, and_false, false_and, if_true, if_false, if_pos, if_neg]
    exact ⟨_, rfl, rfl, fun c i k h => rfl, fun h => by omega⟩
  · have hb := hB p (by omega)
    have hmp := hm p (by omega)
    by_cases h2 : 15 < B p
    · unfold fX3_read fX8_isPlace fX0_isCode dec
      simp (disch := omega) only [hmp, nm, bd, Option.bind_some, pI1, pI2, pQ1, pQ2, li_0, li_1, li_2, li_3, li_4, li_5, li_6, li_7, li_8, li_9, li_10, li_11, li_12, li_13, li_14, li_15, li_16, li_60, li_64, li_128, li_136, li_144, li_256, li_400, li_500, li_1020, li_1024, nI_neg1, nI_clamp, nI_ltI, nI_leI, nI_eq, nI_add, pk_sub, pk_mul, pk_div, nI_nm1, nI_nm1p, Nat.add_sub_cancel, Nat.add_sub_cancel_left, false_or, or_false, true_or, or_true, not_true_eq_false, not_false_eq_true, and_true, true_and, and_false, false_and, if_true, if_false, if_pos, if_neg]
      exact ⟨_, rfl, rfl, fun c i k h => rfl, fun h => by omega⟩
    · have ed : dec B p loc = rdL B loc p 7 (frm (B p)) 1 := by
        unfold dec
        rw [if_neg h1, if_neg h2]
      rw [ed]
      have hm3 : ∀ k, k < 1024 → (pI st (rwC q) (rwI mo q) base (nI (B p))).1 20 3 k = nI (B k) := fun k hk => by
        rw [pI1, if_neg (fun z => hq ⟨z.1, z.2.1⟩)]; exact hm k hk
      have hm4 := hm3 p (by omega)
      obtain ⟨st', e1, e2, e3, e4⟩ := c_rdl (N := N) (mo := mo) (p := p) hq hl (by omega) hB hbs hrn 7 (frm (B p)) 1 N (pI st (rwC q) (rwI mo q) base (nI (B p))) rfl (by omega) (frm_lt _) (by omega) hm3
      refine ⟨st', ?_, by rw [e2, pI2], fun c i k h => ?_, fun h0 => ⟨(e4 h0).1, fun i h5 => ?_⟩⟩
      · obtain ⟨s2, es⟩ : ∃ s2, s2 = pI st (rwC q) (rwI mo q) base (nI (B p)) := ⟨_, rfl⟩
        rw [← es] at e1 hm4
        have hx := frm_x (B p) (by omega)
        unfold fX3_read fX8_isPlace fX0_formOf fX0_isCode
        simp (disch := omega) only [hmp, ← es, hm4, hx, nm, bd, Option.bind_some, pI1, pI2, pQ1, pQ2, li_0, li_1, li_2, li_3, li_4, li_5, li_6, li_7, li_8, li_9, li_10, li_11, li_12, li_13, li_14, li_15, li_16, li_60, li_64, li_128, li_136, li_144, li_256, li_400, li_500, li_1020, li_1024, nI_neg1, nI_clamp, nI_ltI, nI_leI, nI_eq, nI_add, pk_sub, pk_mul, pk_div, nI_nm1, nI_nm1p, Nat.add_sub_cancel, Nat.add_sub_cancel_left, false_or, or_false, true_or, or_true, not_true_eq_false, not_false_eq_true, and_true, true_and, and_false, false_and, if_true, if_false, if_pos, if_neg]
        exact e1
      · rw [e3 c i k (by omega), pI1, if_neg (by omega)]
      · by_cases hi : i = 0
        · subst hi
          rw [e3 _ _ _ (by omega), pI1, if_pos ⟨rfl, rfl, rfl⟩, Nat.add_zero]
        · exact (e4 h0).2 i (by omega) h5
