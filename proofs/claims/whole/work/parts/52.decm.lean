/-! The reference's reading. -/
def stepK (B : Nat → Nat) (loc p k : Nat) (x : Nat × Nat) : Nat × Nat := if x.1 = 0 then if 1024 ≤ p + x.2 then (1, x.2) else if okK loc k (B (p + x.2)) then (0, x.2 + 1) else (7, x.2) else x
def MR (B : Nat → Nat) (loc p : Nat) (s0 s : xSt) (cd : Nat) (x : Nat × Nat) : Prop := s.2 = s0.2 ∧ (∀ c i k, ¬ (c = 9 ∧ i = 0 ∧ (k = 19 ∨ k = 20 ∨ k = 21 ∨ k = 23 ∨ k = 24)) → ¬ (c = 30 ∧ i = 22) → s.1 c i k = s0.1 c i k) ∧ s.1 9 0 19 = nI cd ∧ s.1 9 0 20 = nI x.1 ∧ s.1 9 0 24 = nI loc ∧ (x.1 = 0 → s.1 9 0 21 = nI (p + x.2) ∧ s.1 9 0 23 = nI (x.2 - 1) ∧ ∀ i, i + 1 < x.2 → s.1 30 22 i = nI (B (p + 1 + i)))
theorem m_isCell {N b loc : Nat} {st : xSt} (hb : b < 256) (hl : loc ≤ 8) (h : st.1 9 0 24 = nI loc) : fX9_isCell N (nI b) st = some (if cellK loc b then nI 1 else nI 0, st) := by
  unfold fX9_isCell fX9_isCell_b19 fX9_isCell_b33
  by_cases h1 : b < 128
  · simp (disch := omega) only [h, nm, bd, Option.bind_some, pI1, pI2, pQ1, pQ2, li_0, li_1, li_2, li_3, li_4, li_5, li_6, li_7, li_8, li_9, li_10, li_11, li_12, li_13, li_14, li_15, li_16, li_60, li_64, li_128, li_136, li_144, li_256, li_400, li_500, li_1020, li_1024, nI_neg1, nI_clamp, nI_ltI, nI_leI, nI_eq, nI_add, pk_sub, pk_mul, pk_div, nI_nm1, nI_nm1p, Nat.add_sub_cancel, Nat.add_sub_cancel_left, false_or, or_false, true_or, or_true, not_true_eq_false, not_false_eq_true, and_true, true_and, and_false, false_and, if_true, if_false, if_pos, if_neg]
  · by_cases h2 : b < 128 + loc
    · simp (disch := omega) only [h, nm, bd, Option.bind_some, pI1, pI2, pQ1, pQ2, li_0, li_1, li_2, li_3, li_4, li_5, li_6, li_7, li_8, li_9, li_10, li_11, li_12, li_13, li_14, li_15, li_16, li_60, li_64, li_128, li_136, li_144, li_256, li_400, li_500, li_1020, li_1024, nI_neg1, nI_clamp, nI_ltI, nI_leI, nI_eq, nI_add, pk_sub, pk_mul, pk_div, nI_nm1, nI_nm1p, Nat.add_sub_cancel, Nat.add_sub_cancel_left, false_or, or_false, true_or, or_true, not_true_eq_false, not_false_eq_true, and_true, true_and, and_false, false_and, if_true, if_false, if_pos, if_neg]
    · by_cases h3 : b < 136
      · simp (disch := omega) only [h, nm, bd, Option.bind_some, pI1, pI2, pQ1, pQ2, li_0, li_1, li_2, li_3, li_4, li_5, li_6, li_7, li_8, li_9, li_10, li_11, li_12, li_13, li_14, li_15, li_16, li_60, li_64, li_128, li_136, li_144, li_256, li_400, li_500, li_1020, li_1024, nI_neg1, nI_clamp, nI_ltI, nI_leI, nI_eq, nI_add, pk_sub, pk_mul, pk_div, nI_nm1, nI_nm1p, Nat.add_sub_cancel, Nat.add_sub_cancel_left, false_or, or_false, true_or, or_true, not_true_eq_false, not_false_eq_true, and_true, true_and, and_false, false_and, if_true, if_false, if_pos, if_neg]
      · by_cases h4 : b < 144
        · simp (disch := omega) only [h, nm, bd, Option.bind_some, pI1, pI2, pQ1, pQ2, li_0, li_1, li_2, li_3, li_4, li_5, li_6, li_7, li_8, li_9, li_10, li_11, li_12, li_13, li_14, li_15, li_16, li_60, li_64, li_128, li_136, li_144, li_256, li_400, li_500, li_1020, li_1024, nI_neg1, nI_clamp, nI_ltI, nI_leI, nI_eq, nI_add, pk_sub, pk_mul, pk_div, nI_nm1, nI_nm1p, Nat.add_sub_cancel, Nat.add_sub_cancel_left, false_or, or_false, true_or, or_true, not_true_eq_false, not_false_eq_true, and_true, true_and, and_false, false_and, if_true, if_false, if_pos, if_neg]
        · simp (disch := omega) only [h, nm, bd, Option.bind_some, pI1, pI2, pQ1, pQ2, li_0, li_1, li_2, li_3, li_4, li_5, li_6, li_7, li_8, li_9, li_10, li_11, li_12, li_13, li_14, li_15, li_16, li_60, li_64, li_128, li_136, li_144, li_256, li_400, li_500, li_1020, li_1024, nI_neg1, nI_clamp, nI_ltI, nI_leI, nI_eq, nI_add, pk_sub, pk_mul, pk_div, nI_nm1, nI_nm1p, Nat.add_sub_cancel, Nat.add_sub_cancel_left, false_or, or_false, true_or, or_true, not_true_eq_false, not_false_eq_true, and_true, true_and, and_false, false_and, if_true, if_false, if_pos, if_neg]
theorem m_b68 {N b u loc z : Nat} {st : xSt} (h0 : st.1 9 0 20 = nI 0) (hu : u < 8) (h1 : st.1 9 0 23 = nI u) (hz : z = 0 ∨ z = 1) : fX9_operandOf_b68 N (nI b) (nI z) st = some (pI (pI (pI st 9 0 20 (nI (if z = 0 then 0 else 7))) 30 22 u (nI b)) 9 0 23 (nI (u + 1))) := by
  unfold fX9_operandOf_b68 fX9_bad
  rcases hz with rfl | rfl
  · simp (disch := omega) only [h0, h1, nm, bd, Option.bind_some, pI1, pI2, pQ1, pQ2, li_0, li_1, li_2, li_3, li_4, li_5, li_6, li_7, li_8, li_9, li_10, li_11, li_12, li_13, li_14, li_15, li_16, li_60, li_64, li_128, li_136, li_144, li_256, li_400, li_500, li_1020, li_1024, nI_neg1, nI_clamp, nI_ltI, nI_leI, nI_eq, nI_add, pk_sub, pk_mul, pk_div, nI_nm1, nI_nm1p, Nat.add_sub_cancel, Nat.add_sub_cancel_left, false_or, or_false, true_or, or_true, not_true_eq_false, not_false_eq_true, and_true, true_and, and_false, false_and, if_true, if_false, if_pos, if_neg]
  · simp (disch := omega) only [h0, h1, nm, bd, Option.bind_some, pI1, pI2, pQ1, pQ2, li_0, li_1, li_2, li_3, li_4, li_5, li_6, li_7, li_8, li_9, li_10, li_11, li_12, li_13, li_14, li_15, li_16, li_60, li_64, li_128, li_136, li_144, li_256, li_400, li_500, li_1020, li_1024, nI_neg1, nI_clamp, nI_ltI, nI_leI, nI_eq, nI_add, pk_sub, pk_mul, pk_div, nI_nm1, nI_nm1p, Nat.add_sub_cancel, Nat.add_sub_cancel_left, false_or, or_false, true_or, or_true, not_true_eq_false, not_false_eq_true, and_true, true_and, and_false, false_and, if_true, if_false, if_pos, if_neg]
theorem m_kind {N b u loc k : Nat} {st : xSt} (hb : b < 256) (hl : loc ≤ 8) (hk : k < 4) (h0 : st.1 9 0 20 = nI 0) (hu : u < 8) (h1 : st.1 9 0 23 = nI u) (h24 : st.1 9 0 24 = nI loc) :
    (if (nI k) = (0 : Int32) then if (nI b) < (128 : Int32) then fX9_operandOf_b40 N (nI k) (nI b) st else bd (fX9_isCell N (nI b) st) (fun v10 st8 => if v10 = (0 : Int32) then fX9_operandOf_b63 N (nI b) st8 else fX9_operandOf_b40 N (nI k) (nI b) st8) else fX9_operandOf_b40 N (nI k) (nI b) st) = some (pI (pI (pI st 9 0 20 (nI (if okK loc (k + 1) b then 0 else 7))) 30 22 u (nI b)) 9 0 23 (nI (u + 1))) := by
  have hc := m_isCell (N := N) hb hl h24
  have z0 := m_b68 (N := N) (b := b) (loc := loc) (z := 0) h0 hu h1 (Or.inl rfl)
  have z1 := m_b68 (N := N) (b := b) (loc := loc) (z := 1) h0 hu h1 (Or.inr rfl)
  rw [if_pos rfl] at z0
  rw [if_neg (by omega)] at z1
  have z0' : fX9_operandOf_b67 N (nI b) st = _ := z0
  have z1' : fX9_operandOf_b63 N (nI b) st = _ := z1
  unfold fX9_operandOf_b40 fX9_operandOf_b53
  have hk2 : k = 0 ∨ k = 1 ∨ k = 2 ∨ k = 3 := by omega
  rcases hk2 with rfl | rfl | rfl | rfl
  · by_cases h2 : b < 128
    · simp (disch := omega) only [hc, z0', z1', nm, bd, Option.bind_some, pI1, pI2, pQ1, pQ2, li_0, li_1, li_2, li_3, li_4, li_5, li_6, li_7, li_8, li_9, li_10, li_11, li_12, li_13, li_14, li_15, li_16, li_60, li_64, li_128, li_136, li_144, li_256, li_400, li_500, li_1020, li_1024, nI_neg1, nI_clamp, nI_ltI, nI_leI, nI_eq, nI_add, pk_sub, pk_mul, pk_div, nI_nm1, nI_nm1p, Nat.add_sub_cancel, Nat.add_sub_cancel_left, false_or, or_false, true_or, or_true, not_true_eq_false, not_false_eq_true, and_true, true_and, and_false, false_and, if_true, if_false, if_pos, if_neg]
    · by_cases h3 : cellK loc b
      · simp (disch := omega) only [hc, z0', z1', nm, bd, Option.bind_some, pI1, pI2, pQ1, pQ2, li_0, li_1, li_2, li_3, li_4, li_5, li_6, li_7, li_8, li_9, li_10, li_11, li_12, li_13, li_14, li_15, li_16, li_60, li_64, li_128, li_136, li_144, li_256, li_400, li_500, li_1020, li_1024, nI_neg1, nI_clamp, nI_ltI, nI_leI, nI_eq, nI_add, pk_sub, pk_mul, pk_div, nI_nm1, nI_nm1p, Nat.add_sub_cancel, Nat.add_sub_cancel_left, false_or, or_false, true_or, or_true, not_true_eq_false, not_false_eq_true, and_true, true_and, and_false, false_and, if_true, if_false, if_pos, if_neg]
      · simp (disch := omega) only [hc, z0', z1', nm, bd, Option.bind_some, pI1, pI2, pQ1, pQ2, li_0, li_1, li_2, li_3, li_4, li_5, li_6, li_7, li_8, li_9, li_10, li_11, li_12, li_13, li_14, li_15, li_16, li_60, li_64, li_128, li_136, li_144, li_256, li_400, li_500, li_1020, li_1024, nI_neg1, nI_clamp, nI_ltI, nI_leI, nI_eq, nI_add, pk_sub, pk_mul, pk_div, nI_nm1, nI_nm1p, Nat.add_sub_cancel, Nat.add_sub_cancel_left, false_or, or_false, true_or, or_true, not_true_eq_false, not_false_eq_true, and_true, true_and, and_false, false_and, if_true, if_false, if_pos, if_neg]
  · by_cases h3 : cellK loc b
    · simp (disch := omega) only [hc, z0', z1', nm, bd, Option.bind_some, pI1, pI2, pQ1, pQ2, li_0, li_1, li_2, li_3, li_4, li_5, li_6, li_7, li_8, li_9, li_10, li_11, li_12, li_13, li_14, li_15, li_16, li_60, li_64, li_128, li_136, li_144, li_256, li_400, li_500, li_1020, li_1024, nI_neg1, nI_clamp, nI_ltI, nI_leI, nI_eq, nI_add, pk_sub, pk_mul, pk_div, nI_nm1, nI_nm1p, Nat.add_sub_cancel, Nat.add_sub_cancel_left, false_or, or_false, true_or, or_true, not_true_eq_false, not_false_eq_true, and_true, true_and, and_false, false_and, if_true, if_false, if_pos, if_neg]
    · simp (disch := omega) only [hc, z0', z1', nm, bd, Option.bind_some, pI1, pI2, pQ1, pQ2, li_0, li_1, li_2, li_3, li_4, li_5, li_6, li_7, li_8, li_9, li_10, li_11, li_12, li_13, li_14, li_15, li_16, li_60, li_64, li_128, li_136, li_144, li_256, li_400, li_500, li_1020, li_1024, nI_neg1, nI_clamp, nI_ltI, nI_leI, nI_eq, nI_add, pk_sub, pk_mul, pk_div, nI_nm1, nI_nm1p, Nat.add_sub_cancel, Nat.add_sub_cancel_left, false_or, or_false, true_or, or_true, not_true_eq_false, not_false_eq_true, and_true, true_and, and_false, false_and, if_true, if_false, if_pos, if_neg]
  · simp (disch := omega) only [hc, z0', z1', nm, bd, Option.bind_some, pI1, pI2, pQ1, pQ2, li_0, li_1, li_2, li_3, li_4, li_5, li_6, li_7, li_8, li_9, li_10, li_11, li_12, li_13, li_14, li_15, li_16, li_60, li_64, li_128, li_136, li_144, li_256, li_400, li_500, li_1020, li_1024, nI_neg1, nI_clamp, nI_ltI, nI_leI, nI_eq, nI_add, pk_sub, pk_mul, pk_div, nI_nm1, nI_nm1p, Nat.add_sub_cancel, Nat.add_sub_cancel_left, false_or, or_false, true_or, or_true, not_true_eq_false, not_false_eq_true, and_true, true_and, and_false, false_and, if_true, if_false, if_pos, if_neg]
  · by_cases h3 : b ≤ 4
    · simp (disch := omega) only [hc, z0', z1', nm, bd, Option.bind_some, pI1, pI2, pQ1, pQ2, li_0, li_1, li_2, li_3, li_4, li_5, li_6, li_7, li_8, li_9, li_10, li_11, li_12, li_13, li_14, li_15, li_16, li_60, li_64, li_128, li_136, li_144, li_256, li_400, li_500, li_1020, li_1024, nI_neg1, nI_clamp, nI_ltI, nI_leI, nI_eq, nI_add, pk_sub, pk_mul, pk_div, nI_nm1, nI_nm1p, Nat.add_sub_cancel, Nat.add_sub_cancel_left, false_or, or_false, true_or, or_true, not_true_eq_false, not_false_eq_true, and_true, true_and, and_false, false_and, if_true, if_false, if_pos, if_neg]
    · simp (disch := omega) only [hc, z0', z1', nm, bd, Option.bind_some, pI1, pI2, pQ1, pQ2, li_0, li_1, li_2, li_3, li_4, li_5, li_6, li_7, li_8, li_9, li_10, li_11, li_12, li_13, li_14, li_15, li_16, li_60, li_64, li_128, li_136, li_144, li_256, li_400, li_500, li_1020, li_1024, nI_neg1, nI_clamp, nI_ltI, nI_leI, nI_eq, nI_add, pk_sub, pk_mul, pk_div, nI_nm1, nI_nm1p, Nat.add_sub_cancel, Nat.add_sub_cancel_left, false_or, or_false, true_or, or_true, not_true_eq_false, not_false_eq_true, and_true, true_and, and_false, false_and, if_true, if_false, if_pos, if_neg]
theorem m_op {N loc p k cd : Nat} {B : Nat → Nat} {s0 s : xSt} {x : Nat × Nat} (hB : ∀ k, k < 1024 → B k < 256) (hm : ∀ k, k < 1024 → s0.1 30 1 k = nI (B k)) (hl : loc ≤ 8) (hk : k < 4) (hp : p < 3000) (h : MR B loc p s0 s cd x) (hx : x.1 ≤ 7) (hx2 : 1 ≤ x.2 ∧ x.2 ≤ 8) : ∃ s', fX9_operandOf N (nI k) s = some s' ∧ MR B loc p s0 s' cd (stepK B loc p (k + 1) x) := by
  obtain ⟨a1, a2, a3, a4, a5, a6⟩ := id h
  by_cases hx0 : x.1 = 0
  · obtain ⟨b1, b2, b3⟩ := a6 hx0
    rw [hx0] at a4
    by_cases hpx : 1024 ≤ p + x.2
    · unfold fX9_operandOf fX9_nextByte stepK
      simp (disch := omega) only [a4, b1, hx0, nm, bd, Option.bind_some, pI1, pI2, pQ1, pQ2, li_0, li_1, li_2, li_3, li_4, li_5, li_6, li_7, li_8, li_9, li_10, li_11, li_12, li_13, li_14, li_15, li_16, li_60, li_64, li_128, li_136, li_144, li_256, li_400, li_500, li_1020, li_1024, nI_neg1, nI_clamp, nI_ltI, nI_leI, nI_eq, nI_add, pk_sub, pk_mul, pk_div, nI_nm1, nI_nm1p, Nat.add_sub_cancel, Nat.add_sub_cancel_left, false_or, or_false, true_or, or_true, not_true_eq_false, not_false_eq_true, and_true, true_and, and_false, false_and, if_true, if_false, if_pos, if_neg]
      refine ⟨_, rfl, a1, fun c i k h1 h2 => ?_, ?_, ?_, ?_, fun h => by omega⟩
      · rw [pI1, if_neg (by omega)]; exact a2 c i k h1 h2
      · rw [pI1, if_neg (by omega)]; exact a3
      · rw [pI1, if_pos (by omega)]
      · rw [pI1, if_neg (by omega)]; exact a5
    · have hb := hB _ (Nat.lt_of_not_le hpx)
      have hmb : s.1 30 1 (p + x.2) = nI (B (p + x.2)) := by rw [a2 _ _ _ (by omega) (by omega)]; exact hm _ (by omega)
      obtain ⟨s2, es⟩ : ∃ s2, s2 = pI s 9 0 21 (nI (p + x.2 + 1)) := ⟨_, rfl⟩
      have hk2 := m_kind (N := N) (b := B (p + x.2)) (u := x.2 - 1) (loc := loc) (k := k) (st := s2) hb hl hk (by rw [es, pI1, if_neg (by omega)]; exact a4) (by omega) (by rw [es, pI1, if_neg (by omega)]; exact b2) (by rw [es, pI1, if_neg (by omega)]; exact a5)
      have e1 : fX9_operandOf N (nI k) s = some (pI (pI (pI s2 9 0 20 (nI (if okK loc (k + 1) (B (p + x.2)) then 0 else 7))) 30 22 (x.2 - 1) (nI (B (p + x.2)))) 9 0 23 (nI (x.2 - 1 + 1))) := by
        rw [← hk2]
        have e2 : fX9_nextByte N s = some (nI (B (p + x.2)), s2) := by
          unfold fX9_nextByte
          simp (disch := omega) only [b1, hmb, nm, bd, Option.bind_some, pI1, pI2, pQ1, pQ2, li_0, li_1, li_2, li_3, li_4, li_5, li_6, li_7, li_8, li_9, li_10, li_11, li_12, li_13, li_14, li_15, li_16, li_60, li_64, li_128, li_136, li_144, li_256, li_400, li_500, li_1020, li_1024, nI_neg1, nI_clamp, nI_ltI, nI_leI, nI_eq, nI_add, pk_sub, pk_mul, pk_div, nI_nm1, nI_nm1p, Nat.add_sub_cancel, Nat.add_sub_cancel_left, false_or, or_false, true_or, or_true, not_true_eq_false, not_false_eq_true, and_true, true_and, and_false, false_and, if_true, if_false, if_pos, if_neg]
          rw [es]
        have e3 : s2.1 9 0 20 = (0 : Int32) := by rw [es, pI1, if_neg (by omega)]; exact a4
        unfold fX9_operandOf
        have a4' : s.1 9 0 20 = (0 : Int32) := a4
        rw [if_pos a4', e2]
        simp only [bd]
        rw [if_pos e3]
      refine ⟨_, e1, by simp only [pI2, es]; exact a1, fun c i k h1 h2 => ?_, ?_, ?_, ?_, ?_⟩
      · rw [pI1, if_neg (by omega), pI1, if_neg (by omega), pI1, if_neg (by omega), es, pI1, if_neg (by omega)]; exact a2 c i k h1 h2
      · rw [pI1, if_neg (by omega), pI1, if_neg (by omega), pI1, if_neg (by omega), es, pI1, if_neg (by omega)]; exact a3
      · rw [pI1, if_neg (by omega), pI1, if_neg (by omega), pI1, if_pos (by omega)]
        unfold stepK
        rw [if_pos hx0, if_neg hpx]
        split <;> rfl
      · rw [pI1, if_neg (by omega), pI1, if_neg (by omega), pI1, if_neg (by omega), es, pI1, if_neg (by omega)]; exact a5
      · intro h0
        unfold stepK at h0 ⊢
        rw [if_pos hx0, if_neg hpx] at h0 ⊢
        by_cases hok : okK loc (k + 1) (B (p + x.2))
        · simp only [if_pos hok]
          refine ⟨?_, ?_, fun i hi => ?_⟩
          · rw [pI1, if_neg (by omega), pI1, if_neg (by omega), pI1, if_neg (by omega), es, pI1, if_pos (by omega)]
            rfl
          · rw [pI1, if_pos (by omega)]
            exact congrArg nI (by omega)
          · by_cases hi2 : i = x.2 - 1
            · rw [pI1, if_neg (by omega), pI1, if_pos (by omega), hi2]
              exact congrArg nI (congrArg B (by omega))
            · rw [pI1, if_neg (by omega), pI1, if_neg (by omega), pI1, if_neg (by omega), es, pI1, if_neg (by omega)]
              exact b3 i (by omega)
        · rw [if_neg hok] at h0
          simp at h0
  · refine ⟨s, ?_, ?_⟩
    · unfold fX9_operandOf
      rw [if_neg (by rw [a4]; exact nI_ne0 (by omega) (by omega))]
    · unfold stepK
      rw [if_neg hx0]
      exact h
theorem stepK_p {B : Nat → Nat} {loc p k : Nat} {x : Nat × Nat} (hx : x.1 ≤ 7) (hx2 : 1 ≤ x.2) : (stepK B loc p k x).1 ≤ 7 ∧ 1 ≤ (stepK B loc p k x).2 ∧ (stepK B loc p k x).2 ≤ x.2 + 1 := by
  unfold stepK
  split
  · split
    · simp; omega
    · split
      · simp
      · simp; omega
  · omega
