theorem c_openL {N mo f b g : Nat} {A : Int32} (hb : b ≤ 8) (hg : g ≤ 4) : ∀ d i fuel (st : xSt), i + d = 8 → d < fuel → ∃ s', fX1_open_b13 N mo fuel f (nI b) (nI g) (nI i) st = some s' ∧ s'.2 = st.2 ∧ (∀ c j k, ¬ (c = 2 ∧ j = f ∧ (k = 3 ∨ k = 5 ∨ k = 6 ∨ k = 7)) → ¬ (c = 21 ∧ j = f ∧ i ≤ k ∧ k < 8) → s'.1 c j k = st.1 c j k) ∧ s'.1 2 f 3 = nI 1 ∧ s'.1 2 f 5 = nI 0 ∧ s'.1 2 f 6 = nI 0 ∧ s'.1 2 f 7 = -1 ∧ (∀ k, i ≤ k → k < 8 → s'.1 21 f k = if k < g ∧ k < b then st.1 20 5 k else nI 0) := by
  intro d
  induction d with
  | zero =>
    intro i fuel st h1 h2
    obtain ⟨fuel, rfl⟩ : ∃ z, fuel = z + 1 := ⟨fuel - 1, by omega⟩
    refine ⟨pI (pI (pI (pI st 2 f 3 (nI 1)) 2 f 5 (nI 0)) 2 f 6 (nI 0)) 2 f 7 (-1), ?_, rfl, fun c j k z1 z2 => by simp (disch := omega) only [if_pos, if_neg, pI1, pI2, pQ1, pQ2, true_and, and_true, false_and, and_false, true_or, or_true, false_or, or_false, if_true, if_false, Nat.reduceEqDiff, and_self, not_true_eq_false, not_false_eq_true], by simp (disch := omega) only [if_pos, if_neg, pI1, pI2, pQ1, pQ2, true_and, and_true, false_and, and_false, true_or, or_true, false_or, or_false, if_true, if_false, Nat.reduceEqDiff, and_self, not_true_eq_false, not_false_eq_true], by simp (disch := omega) only [if_pos, if_neg, pI1, pI2, pQ1, pQ2, true_and, and_true, false_and, and_false, true_or, or_true, false_or, or_false, if_true, if_false, Nat.reduceEqDiff, and_self, not_true_eq_false, not_false_eq_true], by simp (disch := omega) only [if_pos, if_neg, pI1, pI2, pQ1, pQ2, true_and, and_true, false_and, and_false, true_or, or_true, false_or, or_false, if_true, if_false, Nat.reduceEqDiff, and_self, not_true_eq_false, not_false_eq_true], by simp (disch := omega) only [if_pos, if_neg, pI1, pI2, pQ1, pQ2, true_and, and_true, false_and, and_false, true_or, or_true, false_or, or_false, if_true, if_false, Nat.reduceEqDiff, and_self, not_true_eq_false, not_false_eq_true], fun k z1 z2 => by omega⟩
    unfold fX1_open_b13
    rw [if_pos (show (8 : Int32) ≤ nI i from nI_le (a := 8) (by omega) (by omega))]
    rfl
  | succ d ih =>
    intro i fuel st h1 h2
    obtain ⟨fuel, rfl⟩ : ∃ z, fuel = z + 1 := ⟨fuel - 1, by omega⟩
    obtain ⟨s', e1, e2, e3, e4, e5, e6, e7, e8⟩ := ih (i + 1) fuel (pI st 21 f i (if i < g ∧ i < b then st.1 20 5 i else nI 0)) (by omega) (by omega)
    refine ⟨s', ?_, by rw [e2]; rfl, fun c j k z1 z2 => ?_, e4, e5, e6, e7, fun k z1 z2 => ?_⟩
    · unfold fX1_open_b13 fX1_open_b46 fX1_open_b47
      by_cases hig : g ≤ i
      · rw [if_neg (show ¬ (i < g ∧ i < b) by omega)] at e1
        simp (disch := omega) only [nm, bd, Option.bind_some, pI1, pI2, pQ1, pQ2, li_0, li_1, li_2, li_3, li_4, li_5, li_6, li_7, li_8, li_9, li_10, li_11, li_12, li_13, li_14, li_15, li_16, li_60, li_64, li_128, li_136, li_144, li_256, li_400, li_500, li_1020, li_1024, nI_neg1, nI_clamp, nI_ltI, nI_leI, nI_eq, nI_add, pk_sub, pk_mul, pk_div, nI_nm1, nI_nm1p, Nat.add_sub_cancel, Nat.add_sub_cancel_left, false_or, or_false, true_or, or_true, not_true_eq_false, not_false_eq_true, and_true, true_and, and_false, false_and, if_true, if_false, if_pos, if_neg]
        exact e1
      · by_cases hib : b ≤ i
        · rw [if_neg (show ¬ (i < g ∧ i < b) by omega)] at e1
          simp (disch := omega) only [nm, bd, Option.bind_some, pI1, pI2, pQ1, pQ2, li_0, li_1, li_2, li_3, li_4, li_5, li_6, li_7, li_8, li_9, li_10, li_11, li_12, li_13, li_14, li_15, li_16, li_60, li_64, li_128, li_136, li_144, li_256, li_400, li_500, li_1020, li_1024, nI_neg1, nI_clamp, nI_ltI, nI_leI, nI_eq, nI_add, pk_sub, pk_mul, pk_div, nI_nm1, nI_nm1p, Nat.add_sub_cancel, Nat.add_sub_cancel_left, false_or, or_false, true_or, or_true, not_true_eq_false, not_false_eq_true, and_true, true_and, and_false, false_and, if_true, if_false, if_pos, if_neg]
          exact e1
        · rw [if_pos (show i < g ∧ i < b by omega)] at e1
          simp (disch := omega) only [nm, bd, Option.bind_some, pI1, pI2, pQ1, pQ2, li_0, li_1, li_2, li_3, li_4, li_5, li_6, li_7, li_8, li_9, li_10, li_11, li_12, li_13, li_14, li_15, li_16, li_60, li_64, li_128, li_136, li_144, li_256, li_400, li_500, li_1020, li_1024, nI_neg1, nI_clamp, nI_ltI, nI_leI, nI_eq, nI_add, pk_sub, pk_mul, pk_div, nI_nm1, nI_nm1p, Nat.add_sub_cancel, Nat.add_sub_cancel_left, false_or, or_false, true_or, or_true, not_true_eq_false, not_false_eq_true, and_true, true_and, and_false, false_and, if_true, if_false, if_pos, if_neg]
          exact e1
    · rw [e3 _ _ _ z1 (by omega), pI1, if_neg (by omega)]
    · by_cases hk : k = i
      · subst hk
        rw [e3 _ _ _ (by omega) (by omega), pI1, if_pos (by omega)]
      · have q : ∀ v, (pI st 21 f i v).1 20 5 k = st.1 20 5 k := fun v => by simp (disch := omega) only [if_pos, if_neg, pI1, pI2, pQ1, pQ2, true_and, and_true, false_and, and_false, true_or, or_true, false_or, or_false, if_true, if_false, Nat.reduceEqDiff, and_self, not_true_eq_false, not_false_eq_true]
        rw [e8 k (by omega) z2, q]
theorem m_openL {N f a b g : Nat} {z3 : Int32} (ha : a < 1024) (hf : f < 12) (hb : b ≤ 8) (hg : g ≤ 4) : ∀ d i fuel (st : xSt), i + d = 8 → d < fuel → st.1 9 0 29 = nI f → st.1 9 0 39 = nI g → st.1 30 1 a = nI b → ∃ s', fX9_go_b213 N fuel (nI a) z3 (nI i) st = some s' ∧ s'.2 = st.2 ∧ (∀ c j k, ¬ (c = 9 ∧ j = 0 ∧ (k = 29 ∨ k = 15 ∨ k = 16)) → ¬ (c = 30 ∧ j = 37 ∧ 8 * f + i ≤ k ∧ k < 8 * f + 8) → s'.1 c j k = st.1 c j k) ∧ s'.1 9 0 29 = nI (f + 1) ∧ s'.1 9 0 15 = st.1 9 0 15 + 1 ∧ s'.1 9 0 16 = st.1 9 0 16 + (if z3 = -1 then 0 else 1) ∧ (∀ k, i ≤ k → k < 8 → s'.1 30 37 (8 * f + k) = if k < g ∧ k < b then st.1 30 38 k else nI 0) := by
  intro d
  induction d with
  | zero =>
    intro i fuel st h1 h2 h3 h4 h5
    obtain ⟨fuel, rfl⟩ : ∃ z, fuel = z + 1 := ⟨fuel - 1, by omega⟩
    refine ⟨pI (pI (pI st 9 0 29 (nI (f + 1))) 9 0 15 (st.1 9 0 15 + 1)) 9 0 16 (st.1 9 0 16 + (if z3 = -1 then 0 else 1)), ?_, rfl, fun c j k z1 z2 => by simp (disch := omega) only [if_pos, if_neg, pI1, pI2, pQ1, pQ2, true_and, and_true, false_and, and_false, true_or, or_true, false_or, or_false, if_true, if_false, Nat.reduceEqDiff, and_self, not_true_eq_false, not_false_eq_true], by simp (disch := omega) only [if_pos, if_neg, pI1, pI2, pQ1, pQ2, true_and, and_true, false_and, and_false, true_or, or_true, false_or, or_false, if_true, if_false, Nat.reduceEqDiff, and_self, not_true_eq_false, not_false_eq_true], by simp (disch := omega) only [if_pos, if_neg, pI1, pI2, pQ1, pQ2, true_and, and_true, false_and, and_false, true_or, or_true, false_or, or_false, if_true, if_false, Nat.reduceEqDiff, and_self, not_true_eq_false, not_false_eq_true], by simp (disch := omega) only [if_pos, if_neg, pI1, pI2, pQ1, pQ2, true_and, and_true, false_and, and_false, true_or, or_true, false_or, or_false, if_true, if_false, Nat.reduceEqDiff, and_self, not_true_eq_false, not_false_eq_true], fun k z1 z2 => by omega⟩
    have q1 : (pI st 9 0 29 (nI (f + 1))).1 9 0 15 = st.1 9 0 15 := by simp (disch := omega) only [if_pos, if_neg, pI1, pI2, pQ1, pQ2, true_and, and_true, false_and, and_false, true_or, or_true, false_or, or_false, if_true, if_false, Nat.reduceEqDiff, and_self, not_true_eq_false, not_false_eq_true]
    have q2 : ∀ v, (pI (pI st 9 0 29 (nI (f + 1))) 9 0 15 v).1 9 0 16 = st.1 9 0 16 := fun v => by simp (disch := omega) only [if_pos, if_neg, pI1, pI2, pQ1, pQ2, true_and, and_true, false_and, and_false, true_or, or_true, false_or, or_false, if_true, if_false, Nat.reduceEqDiff, and_self, not_true_eq_false, not_false_eq_true]
    unfold fX9_go_b213
    rw [if_pos (show (8 : Int32) ≤ nI i from nI_le (a := 8) (by omega) (by omega)), h3, nI_1]
    simp only [nm]
    rw [q1, q2]
    by_cases hz : z3 = -1
    · rw [if_pos hz, if_pos hz]
    · rw [if_neg hz, if_neg hz]
  | succ d ih =>
    intro i fuel st h1 h2 h3 h4 h5
    obtain ⟨fuel, rfl⟩ : ∃ z, fuel = z + 1 := ⟨fuel - 1, by omega⟩
    obtain ⟨s', e1, e2, e3, e4, e5, e6, e7⟩ := ih (i + 1) fuel (pI st 30 37 (8 * f + i) (if i < g ∧ i < b then st.1 30 38 i else nI 0)) (by omega) (by omega) (by simp (disch := omega) only [if_pos, if_neg, pI1, pI2, pQ1, pQ2, true_and, and_true, false_and, and_false, true_or, or_true, false_or, or_false, if_true, if_false, Nat.reduceEqDiff, and_self, not_true_eq_false, not_false_eq_true]; exact h3) (by simp (disch := omega) only [if_pos, if_neg, pI1, pI2, pQ1, pQ2, true_and, and_true, false_and, and_false, true_or, or_true, false_or, or_false, if_true, if_false, Nat.reduceEqDiff, and_self, not_true_eq_false, not_false_eq_true]; exact h4) (by simp (disch := omega) only [if_pos, if_neg, pI1, pI2, pQ1, pQ2, true_and, and_true, false_and, and_false, true_or, or_true, false_or, or_false, if_true, if_false, Nat.reduceEqDiff, and_self, not_true_eq_false, not_false_eq_true]; exact h5)
    refine ⟨s', ?_, by rw [e2]; rfl, fun c j k z1 z2 => ?_, e4, by rw [e5]; simp (disch := omega) only [if_pos, if_neg, pI1, pI2, pQ1, pQ2, true_and, and_true, false_and, and_false, true_or, or_true, false_or, or_false, if_true, if_false, Nat.reduceEqDiff, and_self, not_true_eq_false, not_false_eq_true], by rw [e6]; simp (disch := omega) only [if_pos, if_neg, pI1, pI2, pQ1, pQ2, true_and, and_true, false_and, and_false, true_or, or_true, false_or, or_false, if_true, if_false, Nat.reduceEqDiff, and_self, not_true_eq_false, not_false_eq_true], fun k z1 z2 => ?_⟩
    · unfold fX9_go_b213 fX9_go_b264 fX9_go_b265
      by_cases hig : g ≤ i
      · rw [if_neg (show ¬ (i < g ∧ i < b) by omega)] at e1
        simp (disch := omega) only [h3, h4, nm, bd, Option.bind_some, pI1, pI2, pQ1, pQ2, li_0, li_1, li_2, li_3, li_4, li_5, li_6, li_7, li_8, li_9, li_10, li_11, li_12, li_13, li_14, li_15, li_16, li_60, li_64, li_128, li_136, li_144, li_256, li_400, li_500, li_1020, li_1024, nI_neg1, nI_clamp, nI_ltI, nI_leI, nI_eq, nI_add, pk_sub, pk_mul, pk_div, nI_nm1, nI_nm1p, Nat.add_sub_cancel, Nat.add_sub_cancel_left, false_or, or_false, true_or, or_true, not_true_eq_false, not_false_eq_true, and_true, true_and, and_false, false_and, if_true, if_false, if_pos, if_neg]
        exact e1
      · by_cases hib : b ≤ i
        · rw [if_neg (show ¬ (i < g ∧ i < b) by omega)] at e1
          simp (disch := omega) only [h3, h4, h5, nm, bd, Option.bind_some, pI1, pI2, pQ1, pQ2, li_0, li_1, li_2, li_3, li_4, li_5, li_6, li_7, li_8, li_9, li_10, li_11, li_12, li_13, li_14, li_15, li_16, li_60, li_64, li_128, li_136, li_144, li_256, li_400, li_500, li_1020, li_1024, nI_neg1, nI_clamp, nI_ltI, nI_leI, nI_eq, nI_add, pk_sub, pk_mul, pk_div, nI_nm1, nI_nm1p, Nat.add_sub_cancel, Nat.add_sub_cancel_left, false_or, or_false, true_or, or_true, not_true_eq_false, not_false_eq_true, and_true, true_and, and_false, false_and, if_true, if_false, if_pos, if_neg]
          exact e1
        · rw [if_pos (show i < g ∧ i < b by omega)] at e1
          simp (disch := omega) only [h3, h4, h5, nm, bd, Option.bind_some, pI1, pI2, pQ1, pQ2, li_0, li_1, li_2, li_3, li_4, li_5, li_6, li_7, li_8, li_9, li_10, li_11, li_12, li_13, li_14, li_15, li_16, li_60, li_64, li_128, li_136, li_144, li_256, li_400, li_500, li_1020, li_1024, nI_neg1, nI_clamp, nI_ltI, nI_leI, nI_eq, nI_add, pk_sub, pk_mul, pk_div, nI_nm1, nI_nm1p, Nat.add_sub_cancel, Nat.add_sub_cancel_left, false_or, or_false, true_or, or_true, not_true_eq_false, not_false_eq_true, and_true, true_and, and_false, false_and, if_true, if_false, if_pos, if_neg]
          exact e1
    · rw [e3 _ _ _ z1 (by omega), pI1, if_neg (by omega)]
    · by_cases hk : k = i
      · subst hk
        rw [e3 _ _ _ (by omega) (by omega), pI1, if_pos (by omega)]
      · have q : ∀ v, (pI st 30 37 (8 * f + i) v).1 30 38 k = st.1 30 38 k := fun v => by simp (disch := omega) only [if_pos, if_neg, pI1, pI2, pQ1, pQ2, true_and, and_true, false_and, and_false, true_or, or_true, false_or, or_false, if_true, if_false, Nat.reduceEqDiff, and_self, not_true_eq_false, not_false_eq_true]
        rw [e7 k (by omega) z2, q]
