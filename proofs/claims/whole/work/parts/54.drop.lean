/-! Dropping, by both. -/
def shC (mo i j : Nat) (q : Nat → Nat → Nat) : Nat → Nat → Nat := fun a x => if a = 0 ∧ x = mo then j else if a = 0 ∧ i ≤ x ∧ x < mo then q 0 (x + 1) else q a x
theorem c_dropL {N mo j : Nat} (hmo : mo ≤ 20) : ∀ d k fuel (st : xSt), k + d = mo → d < fuel → st.1 7 0 0 = nI mo → (∀ x, x ≤ mo → st.2 0 x ≤ mo) →
    ∃ s', fX7_dropAt_b9 N mo fuel j (nI k) st = some s' ∧ s'.2 = shC mo k j st.2 ∧ s'.1 = (pI (pI (pI st 3 j 3 0) 7 0 3 (st.1 7 0 3 - 1)) 20 0 1 (st.1 20 0 1 + 1)).1 := by
  intro d
  induction d with
  | zero =>
    intro k fuel st h1 h2 h3 h4
    obtain ⟨fuel, rfl⟩ : ∃ z, fuel = z + 1 := ⟨fuel - 1, by omega⟩
    have : k = mo := by omega
    subst this
    unfold fX7_dropAt_b9
    simp (disch := omega) only [h3, Nat.reduceEqDiff, and_self, nm, bd, Option.bind_some, pI1, pI2, pQ1, pQ2, li_0, li_1, li_2, li_3, li_4, li_5, li_6, li_7, li_8, li_9, li_10, li_11, li_12, li_13, li_14, li_15, li_16, li_60, li_64, li_128, li_136, li_144, li_256, li_400, li_500, li_1020, li_1024, nI_neg1, nI_clamp, nI_ltI, nI_leI, nI_eq, nI_add, pk_sub, pk_mul, pk_div, nI_nm1, nI_nm1p, Nat.add_sub_cancel, Nat.add_sub_cancel_left, false_or, or_false, true_or, or_true, not_true_eq_false, not_false_eq_true, and_true, true_and, and_false, false_and, if_true, if_false, if_pos, if_neg]
    refine ⟨_, rfl, ?_, rfl⟩
    funext a x
    simp only [pI2, pQ2, shC]
    by_cases h : a = 0 ∧ x = k
    · rw [if_pos h, if_pos h]
    · rw [if_neg h, if_neg h, if_neg (by omega)]
  | succ d ih =>
    intro k fuel st h1 h2 h3 h4
    obtain ⟨fuel, rfl⟩ : ∃ z, fuel = z + 1 := ⟨fuel - 1, by omega⟩
    have hmin : min (st.2 0 (k + 1)) mo = st.2 0 (k + 1) := Nat.min_eq_left (h4 _ (by omega))
    obtain ⟨s', e1, e2, e3⟩ := ih (k + 1) fuel (pQ st 0 k (st.2 0 (k + 1))) (by omega) (by omega) h3 (fun x hx => by
      rw [pQ2]
      split
      · exact h4 _ (by omega)
      · exact h4 x hx)
    refine ⟨s', ?_, ?_, e3⟩
    · unfold fX7_dropAt_b9
      simp (disch := omega) only [h3, hmin, nm, bd, Option.bind_some, pI1, pI2, pQ1, pQ2, li_0, li_1, li_2, li_3, li_4, li_5, li_6, li_7, li_8, li_9, li_10, li_11, li_12, li_13, li_14, li_15, li_16, li_60, li_64, li_128, li_136, li_144, li_256, li_400, li_500, li_1020, li_1024, nI_neg1, nI_clamp, nI_ltI, nI_leI, nI_eq, nI_add, pk_sub, pk_mul, pk_div, nI_nm1, nI_nm1p, Nat.add_sub_cancel, Nat.add_sub_cancel_left, false_or, or_false, true_or, or_true, not_true_eq_false, not_false_eq_true, and_true, true_and, and_false, false_and, if_true, if_false, if_pos, if_neg]
      exact e1
    · rw [e2]
      funext a x
      unfold shC
      by_cases h : a = 0 ∧ x = mo
      · rw [if_pos h, if_pos h]
      · rw [if_neg h, if_neg h]
        by_cases h5 : a = 0 ∧ k + 1 ≤ x ∧ x < mo
        · rw [if_pos h5, if_pos (by omega), pQ2, if_neg (by omega)]
        · rw [if_neg h5, pQ2]
          by_cases h6 : a = 0 ∧ x = k
          · rw [if_pos h6, if_pos (by omega), h6.2]
          · rw [if_neg h6, if_neg (by omega)]
theorem c_dropAt {N mo i : Nat} {st : xSt} (hN : 30 < N) (hmo : mo ≤ 20) (hi : i ≤ mo) (h3 : st.1 7 0 0 = nI mo) (h4 : ∀ x, x ≤ mo → st.2 0 x ≤ mo) :
    ∃ s', fX7_dropAt N mo (nI i) st = some s' ∧ s'.2 = shC mo i (st.2 0 i) st.2 ∧ s'.1 = (pI (pI (pI st 3 (st.2 0 i) 3 0) 7 0 3 (st.1 7 0 3 - 1)) 20 0 1 (st.1 20 0 1 + 1)).1 := by
  obtain ⟨s', e1, e2, e3⟩ := c_dropL (N := N) (j := st.2 0 i) hmo (mo - i) i N st (by omega) (by omega) h3 h4
  refine ⟨s', ?_, e2, e3⟩
  have hmin : min (st.2 0 i) mo = st.2 0 i := Nat.min_eq_left (h4 _ hi)
  unfold fX7_dropAt
  simp (disch := omega) only [hmin, nm, bd, Option.bind_some, pI1, pI2, pQ1, pQ2, li_0, li_1, li_2, li_3, li_4, li_5, li_6, li_7, li_8, li_9, li_10, li_11, li_12, li_13, li_14, li_15, li_16, li_60, li_64, li_128, li_136, li_144, li_256, li_400, li_500, li_1020, li_1024, nI_neg1, nI_clamp, nI_ltI, nI_leI, nI_eq, nI_add, pk_sub, pk_mul, pk_div, nI_nm1, nI_nm1p, Nat.add_sub_cancel, Nat.add_sub_cancel_left, false_or, or_false, true_or, or_true, not_true_eq_false, not_false_eq_true, and_true, true_and, and_false, false_and, if_true, if_false, if_pos, if_neg]
  exact e1
def shM (i m : Nat) (g : Nat → Nat → Nat → Int32) : Nat → Nat → Nat → Int32 := fun c a x => if c = 30 ∧ (a = 7 ∨ a = 8 ∨ a = 9) ∧ i ≤ x ∧ x < m then g c a (x + 1) else g c a x
theorem m_awayL {N m : Nat} (hm : m ≤ 20) : ∀ d k fuel (st : xSt), k + d = m → d < fuel → st.1 9 0 6 = nI m → ∃ s', fX9_away_b22 N fuel (nI k) st = some s' ∧ s'.2 = st.2 ∧ s'.1 = shM k m st.1 := by
  intro d
  induction d with
  | zero =>
    intro k fuel st h1 h2 h3
    obtain ⟨fuel, rfl⟩ : ∃ z, fuel = z + 1 := ⟨fuel - 1, by omega⟩
    unfold fX9_away_b22
    simp (disch := omega) only [h3, nm, bd, Option.bind_some, pI1, pI2, pQ1, pQ2, li_0, li_1, li_2, li_3, li_4, li_5, li_6, li_7, li_8, li_9, li_10, li_11, li_12, li_13, li_14, li_15, li_16, li_60, li_64, li_128, li_136, li_144, li_256, li_400, li_500, li_1020, li_1024, nI_neg1, nI_clamp, nI_ltI, nI_leI, nI_eq, nI_add, pk_sub, pk_mul, pk_div, nI_nm1, nI_nm1p, Nat.add_sub_cancel, Nat.add_sub_cancel_left, false_or, or_false, true_or, or_true, not_true_eq_false, not_false_eq_true, and_true, true_and, and_false, false_and, if_true, if_false, if_pos, if_neg]
    refine ⟨_, rfl, rfl, ?_⟩
    funext c a x
    unfold shM
    rw [if_neg (by omega)]
  | succ d ih =>
    intro k fuel st h1 h2 h3
    obtain ⟨fuel, rfl⟩ : ∃ z, fuel = z + 1 := ⟨fuel - 1, by omega⟩
    obtain ⟨s', e1, e2, e3⟩ := ih (k + 1) fuel (pI (pI (pI st 30 7 k (st.1 30 7 (k + 1))) 30 8 k (st.1 30 8 (k + 1))) 30 9 k (st.1 30 9 (k + 1))) (by omega) (by omega) (by simp only [pI1]; rw [if_neg (by omega), if_neg (by omega), if_neg (by omega)]; exact h3)
    refine ⟨s', ?_, by rw [e2]; rfl, ?_⟩
    · unfold fX9_away_b22
      simp (disch := omega) only [h3, nm, bd, Option.bind_some, pI1, pI2, pQ1, pQ2, li_0, li_1, li_2, li_3, li_4, li_5, li_6, li_7, li_8, li_9, li_10, li_11, li_12, li_13, li_14, li_15, li_16, li_60, li_64, li_128, li_136, li_144, li_256, li_400, li_500, li_1020, li_1024, nI_neg1, nI_clamp, nI_ltI, nI_leI, nI_eq, nI_add, pk_sub, pk_mul, pk_div, nI_nm1, nI_nm1p, Nat.add_sub_cancel, Nat.add_sub_cancel_left, false_or, or_false, true_or, or_true, not_true_eq_false, not_false_eq_true, and_true, true_and, and_false, false_and, if_true, if_false, if_pos, if_neg]
      exact e1
    · rw [e3]
      funext c a x
      unfold shM
      by_cases h5 : c = 30 ∧ (a = 7 ∨ a = 8 ∨ a = 9) ∧ k + 1 ≤ x ∧ x < m
      · rw [if_pos h5, if_pos (by omega)]
        simp only [pI1]
        rw [if_neg (by omega), if_neg (by omega), if_neg (by omega)]
      · rw [if_neg h5]
        simp only [pI1]
        by_cases h6 : c = 30 ∧ (a = 7 ∨ a = 8 ∨ a = 9) ∧ x = k
        · obtain ⟨rfl, h7, rfl⟩ := h6
          rcases h7 with rfl | rfl | rfl
          · simp (disch := omega) only [if_pos, if_neg, pI1, pI2, pQ1, pQ2, true_and, and_true, false_and, and_false, true_or, or_true, false_or, or_false, if_true, if_false, Nat.reduceEqDiff, and_self, not_true_eq_false, not_false_eq_true]
          · simp (disch := omega) only [if_pos, if_neg, pI1, pI2, pQ1, pQ2, true_and, and_true, false_and, and_false, true_or, or_true, false_or, or_false, if_true, if_false, Nat.reduceEqDiff, and_self, not_true_eq_false, not_false_eq_true]
          · simp (disch := omega) only [if_pos, if_neg, pI1, pI2, pQ1, pQ2, true_and, and_true, false_and, and_false, true_or, or_true, false_or, or_false, if_true, if_false, Nat.reduceEqDiff, and_self, not_true_eq_false, not_false_eq_true]
        · rw [if_neg (by omega), if_neg (by omega), if_neg (by omega), if_neg (by omega)]
theorem m_away {N n i : Nat} {st : xSt} (hN : 30 < N) (hn : n ≤ 20) (hi : i < n) (h3 : st.1 9 0 6 = nI n) : ∃ s', fX9_away N (nI i) st = some s' ∧ s'.2 = st.2 ∧ s'.1 = shM i (n - 1) (pI (pI st 9 0 6 (nI (n - 1))) 9 0 12 (st.1 9 0 12 + 1)).1 := by
  obtain ⟨s', e1, e2, e3⟩ := m_awayL (N := N) (m := n - 1) (by omega) (n - 1 - i) i N (pI (pI st 9 0 6 (nI (n - 1))) 9 0 12 (st.1 9 0 12 + 1)) (by omega) (by omega) (by simp [pI1])
  refine ⟨s', ?_, by rw [e2]; rfl, e3⟩
  unfold fX9_away
  simp (disch := omega) only [h3, nm, bd, Option.bind_some, pI1, pI2, pQ1, pQ2, li_0, li_1, li_2, li_3, li_4, li_5, li_6, li_7, li_8, li_9, li_10, li_11, li_12, li_13, li_14, li_15, li_16, li_60, li_64, li_128, li_136, li_144, li_256, li_400, li_500, li_1020, li_1024, nI_neg1, nI_clamp, nI_ltI, nI_leI, nI_eq, nI_add, pk_sub, pk_mul, pk_div, nI_nm1, nI_nm1p, Nat.add_sub_cancel, Nat.add_sub_cancel_left, false_or, or_false, true_or, or_true, not_true_eq_false, not_false_eq_true, and_true, true_and, and_false, false_and, if_true, if_false, if_pos, if_neg]
  exact e1
/-- what a drop leaves as it was -/
def FrC (s s' : xSt) : Prop := (∀ c i k, ¬ (c = 3 ∧ k = 3) → ¬ (c = 7 ∧ i = 0 ∧ k = 3) → ¬ (c = 20 ∧ i = 0 ∧ k = 1) → s'.1 c i k = s.1 c i k) ∧ (∀ a x, a ≠ 0 → s'.2 a x = s.2 a x)
def FrM (s s' : xSt) : Prop := (∀ c i k, ¬ (c = 9 ∧ i = 0 ∧ (k = 6 ∨ k = 12)) → ¬ (c = 30 ∧ (i = 7 ∨ i = 8 ∨ i = 9)) → s'.1 c i k = s.1 c i k) ∧ s'.2 = s.2
def KP (n n' : Nat) (sC sM sC' sM' : xSt) : Prop := ∃ φ : Nat → Nat, (∀ k, k < n' → φ k < n ∧ sC'.2 0 k = sC.2 0 (φ k) ∧ sM'.1 30 7 k = sM.1 30 7 (φ k) ∧ sM'.1 30 8 k = sM.1 30 8 (φ k) ∧ sM'.1 30 9 k = sM.1 30 9 (φ k)) ∧ (∀ k l, k < n' → l < n' → φ k = φ l → k = l)
theorem drop_one {N mo n i : Nat} {sC sM : xSt} (hN : 30 < N) (h : SR mo n sC sM) (hi : i < n) :
    ∃ sC' sM', fX7_dropAt N mo (nI i) sC = some sC' ∧ fX9_away N (nI i) sM = some sM' ∧ SR mo (n - 1) sC' sM' ∧ FrC sC sC' ∧ FrM sM sM' ∧ sC'.1 20 0 1 = sC.1 20 0 1 + 1 ∧ sM'.1 9 0 12 = sM.1 9 0 12 + 1 ∧
      (∀ k, k < n - 1 → sC'.2 0 k = sC.2 0 (if k < i then k else k + 1) ∧ sM'.1 30 7 k = sM.1 30 7 (if k < i then k else k + 1) ∧ sM'.1 30 8 k = sM.1 30 8 (if k < i then k else k + 1) ∧ sM'.1 30 9 k = sM.1 30 9 (if k < i then k else k + 1)) ∧ (∀ k, n - 1 ≤ k → k < mo → sC'.2 0 k = sC.2 0 (k + 1)) := by
  obtain ⟨s1, s2, s3, s4, s5, s6, s7, s8, s9, s10⟩ := h
  obtain ⟨sC', c1, c2, c3⟩ := c_dropAt (N := N) (i := i) hN s2 (by omega) s3 s7
  obtain ⟨sM', m1, m2, m3⟩ := m_away (N := N) hN (by omega) hi s6
  have hq : ∀ k, k < n - 1 → sC'.2 0 k = sC.2 0 (if k < i then k else k + 1) ∧ sM'.1 30 7 k = sM.1 30 7 (if k < i then k else k + 1) ∧ sM'.1 30 8 k = sM.1 30 8 (if k < i then k else k + 1) ∧ sM'.1 30 9 k = sM.1 30 9 (if k < i then k else k + 1) := by
    intro k hk
    rw [c2, m3]
    unfold shC shM
    by_cases h : k < i
    · simp (disch := omega) only [if_pos, if_neg, pI1, pI2, pQ1, pQ2, true_and, and_true, false_and, and_false, true_or, or_true, false_or, or_false, if_true, if_false, Nat.reduceEqDiff, and_self, not_true_eq_false, not_false_eq_true]
    · simp (disch := omega) only [if_pos, if_neg, pI1, pI2, pQ1, pQ2, true_and, and_true, false_and, and_false, true_or, or_true, false_or, or_false, if_true, if_false, Nat.reduceEqDiff, and_self, not_true_eq_false, not_false_eq_true]
  have hfC : FrC sC sC' := by
    refine ⟨fun c i k h1 h2 h3 => ?_, fun a x h => ?_⟩
    · rw [c3]
      simp only [pI1]
      rw [if_neg (by omega), if_neg (by omega), if_neg (by omega)]
    · rw [c2]
      unfold shC
      rw [if_neg (by omega), if_neg (by omega)]
  have hfM : FrM sM sM' := by
    refine ⟨fun c i k h1 h2 => ?_, m2⟩
    rw [m3]
    unfold shM
    rw [if_neg (by omega)]
    simp only [pI1]
    rw [if_neg (by omega), if_neg (by omega)]
  have hr : ∀ k, n - 1 ≤ k → k < mo → sC'.2 0 k = sC.2 0 (k + 1) := by
    intro k h1 h2
    rw [c2]
    unfold shC
    rw [if_neg (by omega), if_pos (by omega)]
  have hlast : sC'.2 0 mo = sC.2 0 i := by
    rw [c2]; unfold shC; rw [if_pos ⟨rfl, rfl⟩]
  have hall : ∀ k, k < mo → sC'.2 0 k = sC.2 0 (if k < i then k else k + 1) := by
    intro k hk
    rw [c2]
    unfold shC
    by_cases h : k < i
    · rw [if_neg (by omega), if_neg (by omega), if_pos h]
    · rw [if_neg (by omega), if_pos (by omega), if_neg h]
  have hk3 : ∀ j, j ≠ sC.2 0 i → sC'.1 3 j 3 = sC.1 3 j 3 := by
    intro j hj
    rw [c3]
    simp only [pI1]
    rw [if_neg (by omega), if_neg (by omega), if_neg (by omega)]
  have hk30 : sC'.1 3 (sC.2 0 i) 3 = 0 := by
    rw [c3]
    simp [pI1]
  refine ⟨sC', sM', c1, m1, ⟨by omega, s2, ?_, ?_, ?_, ?_, ?_, ?_, ?_, ?_⟩, hfC, hfM, ?_, ?_, hq, hr⟩
  · rw [hfC.1 _ _ _ (by omega) (by omega) (by omega)]; exact s3
  · rw [c3]
    simp (disch := omega) only [if_pos, if_neg, pI1, pI2, pQ1, pQ2, true_and, and_true, false_and, and_false, true_or, or_true, false_or, or_false, if_true, if_false, Nat.reduceEqDiff, and_self, not_true_eq_false, not_false_eq_true]
    rw [s4]
    exact pk_sub (b := 1) (by omega)
  · rw [hfM.1 _ _ _ (by omega) (by omega)]; exact s5
  · rw [m3]
    unfold shM
    rw [if_neg (by omega)]
    simp [pI1]
  · intro k hk
    by_cases h : k = mo
    · rw [h, hlast]; exact s7 _ (by omega)
    · rw [hall k (by omega)]
      split
      · exact s7 _ (by omega)
      · exact s7 _ (by omega)
  · intro k l hk hl e
    by_cases h : k = mo
    · by_cases h2 : l = mo
      · omega
      · rw [h, hlast, hall l (by omega)] at e
        have := s8 _ _ (by omega) (by split <;> omega) e
        split at this <;> omega
    · by_cases h2 : l = mo
      · rw [h2, hlast, hall k (by omega)] at e
        have := s8 _ _ (by split <;> omega) (by omega) e
        split at this <;> omega
      · rw [hall k (by omega), hall l (by omega)] at e
        have := s8 _ _ (by split <;> omega) (by split <;> omega) e
        split at this <;> split at this <;> omega
  · intro k hk
    obtain ⟨q1, q2, q3, q4⟩ := hq k hk
    obtain ⟨k', ek⟩ : ∃ k', k' = if k < i then k else k + 1 := ⟨_, rfl⟩
    have hk' : k' < n ∧ k' ≠ i := by rw [ek]; split <;> omega
    rw [← ek] at q1 q2 q3
    rw [q1, q2, q3]
    obtain ⟨r1, r2, r3, r4⟩ := s9 k' hk'.1
    refine ⟨?_, ?_, ?_, ?_⟩
    · rw [hk3 _ (fun e => hk'.2 (s8 _ _ (by omega) (by omega) e))]; exact r1
    · rw [hfC.1 _ _ _ (by omega) (by omega) (by omega)]; exact r2
    · rw [hfC.1 _ _ _ (by omega) (by omega) (by omega)]; exact r3
    · rw [hfC.1 _ _ _ (by omega) (by omega) (by omega)]; exact r4
  · intro j hj
    by_cases h : j = sC.2 0 i
    · left; rw [h]; exact hk30
    · rw [hk3 j h]
      rcases s10 j hj with h0 | ⟨k, hk, e⟩
      · exact Or.inl h0
      · refine Or.inr ⟨if k < i then k else k - 1, ?_, ?_⟩
        · have : k ≠ i := fun z => h (by rw [← e, z])
          split <;> omega
        · have hki : k ≠ i := fun z => h (by rw [← e, z])
          rw [hall _ (by split <;> omega), ← e]
          by_cases hk2 : k < i
          · simp (disch := omega) only [if_pos, if_neg, pI1, pI2, pQ1, pQ2, true_and, and_true, false_and, and_false, true_or, or_true, false_or, or_false, if_true, if_false, Nat.reduceEqDiff, and_self, not_true_eq_false, not_false_eq_true]
          · simp (disch := omega) only [if_pos, if_neg, pI1, pI2, pQ1, pQ2, true_and, and_true, false_and, and_false, true_or, or_true, false_or, or_false, if_true, if_false, Nat.reduceEqDiff, and_self, not_true_eq_false, not_false_eq_true]
            rw [show k - 1 + 1 = k by omega]
  · rw [c3]
    simp [pI1]
  · rw [m3]
    unfold shM
    rw [if_neg (by omega)]
    simp [pI1]
/-- a page is dropped, by both alike -/
theorem drop_pageL {N mo n0 : Nat} {g : Int32} (hN : 30 < N) {sC0 sM0 : xSt} : ∀ d fuel n (sC sM : xSt), d ≤ n → n ≤ n0 → d < fuel → SR mo n sC sM → FrC sC0 sC → FrM sM0 sM → sC.1 20 0 1 = sC0.1 20 0 1 + nI (n0 - n) → sM.1 9 0 12 = sM0.1 9 0 12 + nI (n0 - n) → KP n0 n sC0 sM0 sC sM → (∀ k, d ≤ k → k < n → g < sM.1 30 7 k / 64 ∨ sM.1 30 8 k / 64 < g) →
    ∃ n' sC' sM', n' ≤ n ∧ fX7_dropPage_b9 N mo fuel g (nI (n0 - n)) (nI d - 1) sC = some (nI (n0 - n'), sC') ∧ fX9_dropPage_b12 N fuel g (nI n0) (nI d - 1) sM = some (nI (n0 - n'), sM') ∧ SR mo n' sC' sM' ∧ FrC sC0 sC' ∧ FrM sM0 sM' ∧ sC'.1 20 0 1 = sC0.1 20 0 1 + nI (n0 - n') ∧ sM'.1 9 0 12 = sM0.1 9 0 12 + nI (n0 - n') ∧ KP n0 n' sC0 sM0 sC' sM' ∧ (∀ k, k < n' → g < sM'.1 30 7 k / 64 ∨ sM'.1 30 8 k / 64 < g) := by
  intro d
  induction d with
  | zero =>
    intro fuel n sC sM h1 h2 h3 h4 h5 h6 h7 h8 h9 h10
    obtain ⟨fuel, rfl⟩ : ∃ z, fuel = z + 1 := ⟨fuel - 1, by omega⟩
    have hlt : (nI 0 - 1 : Int32) < 0 := by decide
    have hsz := h4.2.2.2.2.2.1
    refine ⟨n, sC, sM, by omega, ?_, ?_, h4, h5, h6, h7, h8, h9, fun k hk => h10 k (by omega) hk⟩
    · unfold fX7_dropPage_b9
      rw [if_pos hlt]
    · unfold fX9_dropPage_b12
      rw [if_pos hlt, hsz, pk_sub h2]
  | succ d ih =>
    intro fuel n sC sM h1 h2 h3 h4 h5 h6 h7 h8 h9 h10
    obtain ⟨fuel, rfl⟩ : ∃ z, fuel = z + 1 := ⟨fuel - 1, by omega⟩
    have hmo := h4.2.1
    have hnm := h4.1
    have hmin : min (sC.2 0 d) mo = sC.2 0 d := Nat.min_eq_left (h4.2.2.2.2.2.2.1 _ (by omega))
    obtain ⟨r1, r2, r3, r4⟩ := h4.2.2.2.2.2.2.2.2.1 d (by omega)
    have hd : nI (d + 1) - 1 = nI d := nI_pred d
    have hin21 : ¬ (nI d < 0 ∨ 21 ≤ d) := fun h => h.elim (nI_pos (by omega)) (by omega)
    have hd' : nI d + (-1 : Int32) = nI d - 1 := by
      rw [Int32.sub_eq_add_neg]
    by_cases ha : g < sM.1 30 7 d / 64
    · obtain ⟨n', sC', sM', e0, e1, e2, e3⟩ := ih fuel n sC sM (by omega) h2 (by omega) h4 h5 h6 h7 h8 h9 (fun k hk1 hk2 => by
        by_cases hk : k = d
        · rw [hk]; exact Or.inl ha
        · exact h10 k (by omega) hk2)
      refine ⟨n', sC', sM', e0, ?_, ?_, e3⟩
      · unfold fX7_dropPage_b9 fX2_hasPage fX7_dropPage_b34
        rw [hd, if_neg (nI_pos (by omega)), if_neg (nI_in (c := d) (N := mo + 1) (by omega) (by omega))]
        simp only [nm]
        rw [nI_clamp (by omega), hmin, r3, if_pos ha]
        simp only [bd]
        rw [if_pos trivial, hd']
        exact e1
      · unfold fX9_dropPage_b12 fX9_dropPage_b47
        rw [hd, if_neg (nI_pos (by omega)), if_neg (nI_in (c := d) (N := 21) (by omega) (by omega)), nI_clamp (by omega), if_pos ha]
        simp only [nm]
        rw [hd']
        exact e2
    · by_cases hb : sM.1 30 8 d / 64 < g
      · obtain ⟨n', sC', sM', e0, e1, e2, e3⟩ := ih fuel n sC sM (by omega) h2 (by omega) h4 h5 h6 h7 h8 h9 (fun k hk1 hk2 => by
          by_cases hk : k = d
          · rw [hk]; exact Or.inr hb
          · exact h10 k (by omega) hk2)
        refine ⟨n', sC', sM', e0, ?_, ?_, e3⟩
        · unfold fX7_dropPage_b9 fX2_hasPage fX7_dropPage_b34
          rw [hd, if_neg (nI_pos (by omega)), if_neg (nI_in (c := d) (N := mo + 1) (by omega) (by omega))]
          simp only [nm]
          rw [nI_clamp (by omega), hmin, r3, r4, if_neg ha, if_pos hb]
          simp only [bd]
          rw [if_pos trivial, hd']
          exact e1
        · unfold fX9_dropPage_b12 fX9_dropPage_b47
          rw [hd, if_neg (nI_pos (by omega)), if_neg (nI_in (c := d) (N := 21) (by omega) (by omega)), nI_clamp (by omega), if_neg ha, if_neg hin21, if_pos hb]
          simp only [nm]
          rw [hd']
          exact e2
      · obtain ⟨tC, tM, f1, f2, f3, f4, f5, f6, f7, f8, f9⟩ := drop_one (N := N) hN h4 (i := d) (by omega)
        have w1 : nI (n0 - n) + 1 = nI (n0 - (n - 1)) := by rw [nI_1]; exact congrArg nI (by omega)
        obtain ⟨n', sC', sM', e0, e1, e2, e3⟩ := ih fuel (n - 1) tC tM (by omega) (by omega) (by omega) f3 ⟨fun c i k z1 z2 z3 => by rw [f4.1 c i k z1 z2 z3, h5.1 c i k z1 z2 z3], fun a x z => by rw [f4.2 a x z, h5.2 a x z]⟩ ⟨fun c i k z1 z2 => by rw [f5.1 c i k z1 z2, h6.1 c i k z1 z2], by rw [f5.2, h6.2]⟩ (by rw [f6, h7, Int32.add_assoc, w1]) (by rw [f7, h8, Int32.add_assoc, w1]) (by
          obtain ⟨φ, p1, p2⟩ := h9
          refine ⟨fun k => φ (if k < d then k else k + 1), fun k hk => ?_, fun k l hk hl e => ?_⟩
          · obtain ⟨q1, q2, q3, q4⟩ := f8 k hk
            rw [q1, q2, q3, q4]
            exact p1 _ (by split <;> omega)
          · have := p2 _ _ (by split <;> omega) (by split <;> omega) e
            split at this <;> split at this <;> omega) (by
          intro k hk1 hk2
          obtain ⟨q1, q2, q3, q4⟩ := f8 k hk2
          rw [q2, q3, if_neg (by omega)]
          exact h10 (k + 1) (by omega) (by omega))
        refine ⟨n', sC', sM', by omega, ?_, ?_, e3⟩
        · unfold fX7_dropPage_b9 fX2_hasPage fX7_dropPage_b34
          rw [hd, if_neg (nI_pos (by omega)), if_neg (nI_in (c := d) (N := mo + 1) (by omega) (by omega))]
          simp only [nm]
          rw [nI_clamp (by omega), hmin, r3, r4, if_neg ha, if_neg hb]
          simp only [bd]
          rw [if_neg (by decide), f1]
          simp only [Option.bind_some]
          rw [hd', w1]
          exact e1
        · unfold fX9_dropPage_b12 fX9_dropPage_b47
          rw [hd, if_neg (nI_pos (by omega)), if_neg (nI_in (c := d) (N := 21) (by omega) (by omega)), nI_clamp (by omega), if_neg ha, if_neg hin21, if_neg hb, f2]
          simp only [Option.bind_some, nm]
          rw [hd']
          exact e2
theorem drop_page {N mo n : Nat} {g : Int32} (hN : 30 < N) {sC sM : xSt} (h : SR mo n sC sM) :
    ∃ n' sC' sM', n' ≤ n ∧ fX7_dropPage N mo g sC = some (nI (n - n'), sC') ∧ fX9_dropPage N g sM = some (nI (n - n'), sM') ∧ SR mo n' sC' sM' ∧ FrC sC sC' ∧ FrM sM sM' ∧ sC'.1 20 0 1 = sC.1 20 0 1 + nI (n - n') ∧ sM'.1 9 0 12 = sM.1 9 0 12 + nI (n - n') ∧ KP n n' sC sM sC' sM' ∧ (∀ k, k < n' → g < sM'.1 30 7 k / 64 ∨ sM'.1 30 8 k / 64 < g) := by
  have z : nI (n - n) = 0 := by rw [Nat.sub_self]; rfl
  obtain ⟨n', sC', sM', e0, e1, e2, e3⟩ := drop_pageL (N := N) (mo := mo) (g := g) hN (n0 := n) n N n sC sM (Nat.le_refl _) (Nat.le_refl _) (by have := h.1; have := h.2.1; omega) h ⟨fun _ _ _ _ _ _ => rfl, fun _ _ _ => rfl⟩ ⟨fun _ _ _ _ _ => rfl, rfl⟩ (by rw [z, Int32.add_zero]) (by rw [z, Int32.add_zero]) ⟨id, fun k hk => ⟨hk, rfl, rfl, rfl, rfl⟩, fun _ _ _ _ h => h⟩ (fun k h1 h2 => by omega)
  refine ⟨n', sC', sM', e0, ?_, ?_, e3⟩
  · unfold fX7_dropPage
    simp only [nm]
    rw [h.2.2.2.1]
    rw [z] at e1
    exact e1
  · unfold fX9_dropPage
    simp only [nm]
    rw [h.2.2.2.2.2.1]
    exact e2
