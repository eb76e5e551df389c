def AhC (j : Nat) (s0 s : xSt) : Prop := s.2 = s0.2 ∧ ∀ c i k, ¬ (c = 22 ∧ i = j) → ¬ (c = 3 ∧ i = j ∧ (k = 1 ∨ k = 4 ∨ k = 5)) → s.1 c i k = s0.1 c i k
def AhM (s0 s : xSt) : Prop := s.2 = s0.2 ∧ ∀ c i k, ¬ (c = 9 ∧ i = 0 ∧ (k = 19 ∨ k = 20 ∨ k = 21 ∨ k = 23 ∨ k = 24 ∨ k = 27)) → ¬ (c = 30 ∧ (i = 22 ∨ i = 25 ∨ i = 26)) → s.1 c i k = s0.1 c i k
def AhR (B : Nat → Nat) (a j i : Nat) (sC sM : xSt) : Prop := ∀ x, x < i → (dec B (a + ofs B a (B a) x) (B a)).1 = 0 ∧ sC.1 22 j (x * 11 + 9) = nI (ofs B a (B a) x) ∧ (∀ k, k < (dec B (a + ofs B a (B a) x) (B a)).2 → sC.1 22 j (x * 11 + k) = nI (B (a + ofs B a (B a) x + k))) ∧ sC.1 22 j (x * 11 + 8) = nI (dec B (a + ofs B a (B a) x) (B a)).2 ∧ sM.1 30 25 x = nI (ofs B a (B a) x) ∧ sM.1 30 26 x = tgv B (a + ofs B a (B a) x)
def AhE (B : Nat → Nat) (a j : Nat) (v : Int32) (sC sM : xSt) : Prop := (∃ q, q < 2000 ∧ v = nI q) ∨ (v = -1 ∧ ∃ sz, 1 ≤ sz ∧ sz ≤ 60 ∧ sC.1 3 j 1 = nI sz ∧ sM.1 9 0 27 = nI sz ∧ sM.1 30 25 (sz - 1) = nI (ofs B a (B a) (sz - 1)) ∧ sC.1 3 j 4 = nI (a / 64) ∧ sC.1 3 j 5 = nI ((a + ofs B a (B a) (sz - 1)) / 64) ∧ Rw B (nI sz) (sC.1 22 j) a (a + ofs B a (B a) (sz - 1)))
theorem m_goes {N a i p loc : Nat} {B : Nat → Nat} {s0 st : xSt} {k11 : Int32 → Int32 → Int32 → xSt → Option (Int32 × xSt)} (hB : ∀ k, k < 1024 → B k < 256) (h0 : (dec B p loc).1 = 0) (h19 : st.1 9 0 19 = nI (B p)) (h23 : st.1 9 0 23 = nI ((dec B p loc).2 - 1)) (hop : ∀ i, i + 1 < (dec B p loc).2 → st.1 30 22 i = nI (B (p + 1 + i))) (h27 : st.1 9 0 27 = nI i) :
    (if (st.1 9 0 19) = (9 : Int32) then fX9_failsAt_b103 N k11 (nI a) st else if (st.1 9 0 19) = (10 : Int32) then fX9_failsAt_b103 N k11 (nI a) st else if (st.1 9 0 19) = (11 : Int32) then fX9_failsAt_b103 N k11 (nI a) st else if (st.1 9 0 19) = (14 : Int32) then if (st.1 30 22 0) = (0 : Int32) then fX9_failsAt_b107 N k11 (nI a) st else fX9_failsAt_b103 N k11 (nI a) st else fX9_failsAt_b107 N k11 (nI a) st) = fX9_failsAt_b138 N k11 (nI a) (tgv B p) (nI i) st := by
  have hl := dec_len h0
  have hd := (dec_p (B := B) (loc := loc) (p := p)).2.2 h0
  have yes : colO (B p) ≠ 0 → ¬ (B p = 14 ∧ B (p + 1) = 0) → fX9_failsAt_b103 N k11 (nI a) st = fX9_failsAt_b138 N k11 (nI a) (tgv B p) (nI i) st := by
    intro h1 h2
    have ht : tgv B p = nI (B (p + colO (B p))) := by unfold tgv; rw [if_pos ⟨h1, h2⟩]
    have hc : colO (B p) + 1 = (dec B p loc).2 := by
      rcases colO_n h1 with ⟨z1, z2⟩ | ⟨z1, z2⟩
      · have := hl.2.2.1 z1; omega
      · have := hl.2.2.2 z1; omega
    have ho := hop (colO (B p) - 1) (by omega)
    rw [show p + 1 + (colO (B p) - 1) = p + colO (B p) by omega] at ho
    have h23' : st.1 9 0 23 = nI (colO (B p)) := by rw [h23]; exact congrArg nI (by omega)
    have hcl : colO (B p) ≤ 3 := by rcases colO_c (B p) with z | z | z <;> omega
    rw [ht]
    unfold fX9_failsAt_b103 fX9_failsAt_b108
    simp (disch := omega) only [h23', ho, h27, nm, bd, Option.bind_some, pI1, pI2, pQ1, pQ2, li_0, li_1, li_2, li_3, li_4, li_5, li_6, li_7, li_8, li_9, li_10, li_11, li_12, li_13, li_14, li_15, li_16, li_60, li_64, li_128, li_136, li_144, li_256, li_400, li_500, li_1020, li_1024, nI_neg1, nI_clamp, nI_ltI, nI_leI, nI_eq, nI_add, pk_sub, pk_mul, pk_div, nI_nm1, nI_nm1p, Nat.add_sub_cancel, Nat.add_sub_cancel_left, false_or, or_false, true_or, or_true, not_true_eq_false, not_false_eq_true, and_true, true_and, and_false, false_and, if_true, if_false, if_pos, if_neg]
  have no : colO (B p) = 0 ∨ (B p = 14 ∧ B (p + 1) = 0) → fX9_failsAt_b107 N k11 (nI a) st = fX9_failsAt_b138 N k11 (nI a) (tgv B p) (nI i) st := by
    intro h1
    have ht : tgv B p = -1 := by unfold tgv; rw [if_neg (fun z => h1.elim z.1 z.2)]
    rw [ht]
    unfold fX9_failsAt_b107 fX9_failsAt_b108
    rw [if_pos rfl, h27]
  rw [h19]
  by_cases c9 : B p = 9
  · have y := yes (by rw [c9]; decide) (by omega)
    simp (disch := omega) only [c9, y, nm, bd, Option.bind_some, pI1, pI2, pQ1, pQ2, li_0, li_1, li_2, li_3, li_4, li_5, li_6, li_7, li_8, li_9, li_10, li_11, li_12, li_13, li_14, li_15, li_16, li_60, li_64, li_128, li_136, li_144, li_256, li_400, li_500, li_1020, li_1024, nI_neg1, nI_clamp, nI_ltI, nI_leI, nI_eq, nI_add, pk_sub, pk_mul, pk_div, nI_nm1, nI_nm1p, Nat.add_sub_cancel, Nat.add_sub_cancel_left, false_or, or_false, true_or, or_true, not_true_eq_false, not_false_eq_true, and_true, true_and, and_false, false_and, if_true, if_false, if_pos, if_neg]
  · by_cases c10 : B p = 10
    · have y := yes (by rw [c10]; decide) (by omega)
      simp (disch := omega) only [c10, y, nm, bd, Option.bind_some, pI1, pI2, pQ1, pQ2, li_0, li_1, li_2, li_3, li_4, li_5, li_6, li_7, li_8, li_9, li_10, li_11, li_12, li_13, li_14, li_15, li_16, li_60, li_64, li_128, li_136, li_144, li_256, li_400, li_500, li_1020, li_1024, nI_neg1, nI_clamp, nI_ltI, nI_leI, nI_eq, nI_add, pk_sub, pk_mul, pk_div, nI_nm1, nI_nm1p, Nat.add_sub_cancel, Nat.add_sub_cancel_left, false_or, or_false, true_or, or_true, not_true_eq_false, not_false_eq_true, and_true, true_and, and_false, false_and, if_true, if_false, if_pos, if_neg]
    · by_cases c11 : B p = 11
      · have y := yes (by rw [c11]; decide) (by omega)
        simp (disch := omega) only [c11, y, nm, bd, Option.bind_some, pI1, pI2, pQ1, pQ2, li_0, li_1, li_2, li_3, li_4, li_5, li_6, li_7, li_8, li_9, li_10, li_11, li_12, li_13, li_14, li_15, li_16, li_60, li_64, li_128, li_136, li_144, li_256, li_400, li_500, li_1020, li_1024, nI_neg1, nI_clamp, nI_ltI, nI_leI, nI_eq, nI_add, pk_sub, pk_mul, pk_div, nI_nm1, nI_nm1p, Nat.add_sub_cancel, Nat.add_sub_cancel_left, false_or, or_false, true_or, or_true, not_true_eq_false, not_false_eq_true, and_true, true_and, and_false, false_and, if_true, if_false, if_pos, if_neg]
      · by_cases c14 : B p = 14
        · have hb := hop 0 (by have := hl.2.2.1 (by omega); omega)
          have hb1 := hB (p + 1) (by have := hl.2.2.1 (by omega); omega)
          rw [Nat.add_zero] at hb
          by_cases hz : B (p + 1) = 0
          · have y := no (Or.inr ⟨c14, hz⟩)
            simp (disch := omega) only [hb, hz, y, nm, bd, Option.bind_some, pI1, pI2, pQ1, pQ2, li_0, li_1, li_2, li_3, li_4, li_5, li_6, li_7, li_8, li_9, li_10, li_11, li_12, li_13, li_14, li_15, li_16, li_60, li_64, li_128, li_136, li_144, li_256, li_400, li_500, li_1020, li_1024, nI_neg1, nI_clamp, nI_ltI, nI_leI, nI_eq, nI_add, pk_sub, pk_mul, pk_div, nI_nm1, nI_nm1p, Nat.add_sub_cancel, Nat.add_sub_cancel_left, false_or, or_false, true_or, or_true, not_true_eq_false, not_false_eq_true, and_true, true_and, and_false, false_and, if_true, if_false, if_pos, if_neg]
          · have y := yes (by rw [c14]; decide) (by omega)
            simp (disch := omega) only [hb, y, nm, bd, Option.bind_some, pI1, pI2, pQ1, pQ2, li_0, li_1, li_2, li_3, li_4, li_5, li_6, li_7, li_8, li_9, li_10, li_11, li_12, li_13, li_14, li_15, li_16, li_60, li_64, li_128, li_136, li_144, li_256, li_400, li_500, li_1020, li_1024, nI_neg1, nI_clamp, nI_ltI, nI_leI, nI_eq, nI_add, pk_sub, pk_mul, pk_div, nI_nm1, nI_nm1p, Nat.add_sub_cancel, Nat.add_sub_cancel_left, false_or, or_false, true_or, or_true, not_true_eq_false, not_false_eq_true, and_true, true_and, and_false, false_and, if_true, if_false, if_pos, if_neg]
        · have y := no (Or.inl (by unfold colO; rw [if_neg (by omega), if_neg (by omega)]))
          simp (disch := omega) only [y, nm, bd, Option.bind_some, pI1, pI2, pQ1, pQ2, li_0, li_1, li_2, li_3, li_4, li_5, li_6, li_7, li_8, li_9, li_10, li_11, li_12, li_13, li_14, li_15, li_16, li_60, li_64, li_128, li_136, li_144, li_256, li_400, li_500, li_1020, li_1024, nI_neg1, nI_clamp, nI_ltI, nI_leI, nI_eq, nI_add, pk_sub, pk_mul, pk_div, nI_nm1, nI_nm1p, Nat.add_sub_cancel, Nat.add_sub_cancel_left, false_or, or_false, true_or, or_true, not_true_eq_false, not_false_eq_true, and_true, true_and, and_false, false_and, if_true, if_false, if_pos, if_neg]
theorem c_ah0 {N mo j a x i l e fC : Nat} {sC t6 : xSt} (hi : i < 60) (ha : a ≤ 1020) (hx : a + x ≤ 1024) (he : e ≠ 0) (he7 : e ≤ 7) (hca : sC.1 20 3 a = nI l) (f6 : fX3_read N mo (nI (a + x)) (nI l) (j + 1) (nI (i * 11)) sC = some (nI e, t6)) : fX2_readAhead_b15 N mo (fC + 1) j (nI a) (nI x) (nI i) sC = some (nI x, t6) := by
  rw [fX2_readAhead_b15]
  simp (disch := omega) only [hca, f6, nm, bd, Option.bind_some, pI1, pI2, pQ1, pQ2, li_0, li_1, li_2, li_3, li_4, li_5, li_6, li_7, li_8, li_9, li_10, li_11, li_12, li_13, li_14, li_15, li_16, li_60, li_64, li_128, li_136, li_144, li_256, li_400, li_500, li_1020, li_1024, nI_neg1, nI_clamp, nI_ltI, nI_leI, nI_eq, nI_add, pk_sub, pk_mul, pk_div, nI_nm1, nI_nm1p, Nat.add_sub_cancel, Nat.add_sub_cancel_left, false_or, or_false, true_or, or_true, not_true_eq_false, not_false_eq_true, and_true, true_and, and_false, false_and, if_true, if_false, if_pos, if_neg]
theorem c_ah1 {N mo j a x i l fC : Nat} {v : Int32} {sC t6 sC' : xSt} (hi : i < 60) (ha : a ≤ 1020) (hx : a + x ≤ 1024) (hca : sC.1 20 3 a = nI l) (f6 : fX3_read N mo (nI (a + x)) (nI l) (j + 1) (nI (i * 11)) sC = some (nI 0, t6)) (t0 : t6.1 22 j (i * 11) = nI 15) (l1 : fX2_linkTargets N mo j (pI (pI (pI (pI t6 22 j (i * 11 + 9) (nI x)) 3 j 1 (nI (i + 1))) 3 j 4 (nI (a / 64))) 3 j 5 (nI ((a + x) / 64))) = some (v, sC')) : fX2_readAhead_b15 N mo (fC + 1) j (nI a) (nI x) (nI i) sC = some (v, sC') := by
  rw [fX2_readAhead_b15]
  simp (disch := omega) only [hca, f6, t0, l1, nm, bd, Option.bind_some, pI1, pI2, pQ1, pQ2, li_0, li_1, li_2, li_3, li_4, li_5, li_6, li_7, li_8, li_9, li_10, li_11, li_12, li_13, li_14, li_15, li_16, li_60, li_64, li_128, li_136, li_144, li_256, li_400, li_500, li_1020, li_1024, nI_neg1, nI_clamp, nI_ltI, nI_leI, nI_eq, nI_add, pk_sub, pk_mul, pk_div, nI_nm1, nI_nm1p, Nat.add_sub_cancel, Nat.add_sub_cancel_left, false_or, or_false, true_or, or_true, not_true_eq_false, not_false_eq_true, and_true, true_and, and_false, false_and, if_true, if_false, if_pos, if_neg]
theorem c_ah2 {N mo j a x i l b len fC : Nat} {sC t6 : xSt} (hi : i < 60) (ha : a ≤ 1020) (hx : a + x ≤ 1024) (hca : sC.1 20 3 a = nI l) (f6 : fX3_read N mo (nI (a + x)) (nI l) (j + 1) (nI (i * 11)) sC = some (nI 0, t6)) (t0 : t6.1 22 j (i * 11) = nI b) (hb : b < 15) (t8 : t6.1 22 j (i * 11 + 8) = nI len) : fX2_readAhead_b15 N mo (fC + 1) j (nI a) (nI x) (nI i) sC = fX2_readAhead_b15 N mo fC j (nI a) (nI (x + len)) (nI (i + 1)) (pI t6 22 j (i * 11 + 9) (nI x)) := by
  rw [fX2_readAhead_b15]
  simp (disch := omega) only [hca, f6, t0, t8, nm, bd, Option.bind_some, pI1, pI2, pQ1, pQ2, li_0, li_1, li_2, li_3, li_4, li_5, li_6, li_7, li_8, li_9, li_10, li_11, li_12, li_13, li_14, li_15, li_16, li_60, li_64, li_128, li_136, li_144, li_256, li_400, li_500, li_1020, li_1024, nI_neg1, nI_clamp, nI_ltI, nI_leI, nI_eq, nI_add, pk_sub, pk_mul, pk_div, nI_nm1, nI_nm1p, Nat.add_sub_cancel, Nat.add_sub_cancel_left, false_or, or_false, true_or, or_true, not_true_eq_false, not_false_eq_true, and_true, true_and, and_false, false_and, if_true, if_false, if_pos, if_neg]
theorem m_ah0 {N a x l e fM : Nat} {sM s5 : xSt} (ha : a ≤ 1020) (hx : a + x ≤ 1024) (he7 : e ≤ 7) (h27 : e = 0 → s5.1 9 0 27 = nI 60) (hma : sM.1 30 1 a = nI l) (e5 : fX9_readAt N (nI (a + x)) (nI l) sM = some s5) (h20 : s5.1 9 0 20 = nI e) : fX9_failsAt_b11 N (fM + 1) (nI a) (nI (a + x)) (nI 0) sM = some (nI x, s5) := by
  rw [fX9_failsAt_b11, if_pos nI_0, if_neg (nI_in (c := a) (N := 1024) (by omega) (by omega)), nI_clamp (by omega), hma, e5]
  simp only [Option.bind_some]
  by_cases h : e = 0
  · rw [h20, h, if_pos nI_0, h27 h, if_pos li_60.symm, pk_sub (by omega), Nat.add_sub_cancel_left]
  · rw [h20, if_neg (nI_ne0 (by omega) (by omega)), pk_sub (by omega), Nat.add_sub_cancel_left]
theorem m_ah1 {N a x l i fM loc : Nat} {B : Nat → Nat} {sM s5 : xSt} (ha : a ≤ 1020) (hx : a + x ≤ 1024) (hi : i < 60) (hma : sM.1 30 1 a = nI l) (e5 : fX9_readAt N (nI (a + x)) (nI l) sM = some s5) (h20 : s5.1 9 0 20 = nI 0) (h27 : s5.1 9 0 27 = nI i)
    (hB : ∀ k, k < 1024 → B k < 256) (h0 : (dec B (a + x) loc).1 = 0) (h19 : s5.1 9 0 19 = nI (B (a + x))) (h23 : s5.1 9 0 23 = nI ((dec B (a + x) loc).2 - 1)) (hop : ∀ i, i + 1 < (dec B (a + x) loc).2 → s5.1 30 22 i = nI (B (a + x + 1 + i))) : fX9_failsAt_b11 N (fM + 1) (nI a) (nI (a + x)) (nI 0) sM = fX9_failsAt_b138 N (fX9_failsAt_b11 N fM) (nI a) (tgv B (a + x)) (nI i) (pI s5 30 25 i (nI x)) := by
  have hgo := m_goes (N := N) (a := a) (i := i) (p := a + x) (loc := loc) (st := pI s5 30 25 i (nI x)) (s0 := sM) (k11 := fX9_failsAt_b11 N fM) hB h0 (by simp (disch := omega) only [if_pos, if_neg, pI1, pI2, pQ1, pQ2, true_and, and_true, false_and, and_false, true_or, or_true, false_or, or_false, if_true, if_false, Nat.reduceEqDiff, and_self, not_true_eq_false, not_false_eq_true]; exact h19) (by simp (disch := omega) only [if_pos, if_neg, pI1, pI2, pQ1, pQ2, true_and, and_true, false_and, and_false, true_or, or_true, false_or, or_false, if_true, if_false, Nat.reduceEqDiff, and_self, not_true_eq_false, not_false_eq_true]; exact h23) (fun i' hi' => by rw [pI1, if_neg (by omega)]; exact hop i' hi') (by simp (disch := omega) only [if_pos, if_neg, pI1, pI2, pQ1, pQ2, true_and, and_true, false_and, and_false, true_or, or_true, false_or, or_false, if_true, if_false, Nat.reduceEqDiff, and_self, not_true_eq_false, not_false_eq_true]; exact h27)
  rw [← hgo, fX9_failsAt_b11, if_pos nI_0, if_neg (nI_in (c := a) (N := 1024) (by omega) (by omega)), nI_clamp (by omega), hma, e5]
  simp only [Option.bind_some]
  rw [h20, if_pos nI_0, h27, if_neg (fun z => by rw [li_60, nI_eq (by omega) (by omega)] at z; omega), if_neg (nI_in (c := i) (N := 61) (by omega) (by omega)), nI_clamp (by omega), pk_sub (by omega), Nat.add_sub_cancel_left]
  simp only [nm]
theorem m_ah2 {N a p i len b fM : Nat} {tv : Int32} {s10 : xSt} {k11 : Int32 → Int32 → Int32 → xSt → Option (Int32 × xSt)} (hi : i < 60) (hb : b ≤ 15) (h27 : s10.1 9 0 27 = nI i) (h19 : s10.1 9 0 19 = nI b) (h21 : s10.1 9 0 21 = nI (p + len)) : fX9_failsAt_b138 N k11 (nI a) tv (nI i) s10 = k11 (nI a) (nI (p + len)) (nI (if b = 15 then 1 else 0)) (pI (pI s10 30 26 i tv) 9 0 27 (nI (i + 1))) := by
  unfold fX9_failsAt_b138 fX9_failsAt_b163
  by_cases h15 : b = 15
  · simp (disch := omega) only [h27, h19, h21, nm, bd, Option.bind_some, pI1, pI2, pQ1, pQ2, li_0, li_1, li_2, li_3, li_4, li_5, li_6, li_7, li_8, li_9, li_10, li_11, li_12, li_13, li_14, li_15, li_16, li_60, li_64, li_128, li_136, li_144, li_256, li_400, li_500, li_1020, li_1024, nI_neg1, nI_clamp, nI_ltI, nI_leI, nI_eq, nI_add, pk_sub, pk_mul, pk_div, nI_nm1, nI_nm1p, Nat.add_sub_cancel, Nat.add_sub_cancel_left, false_or, or_false, true_or, or_true, not_true_eq_false, not_false_eq_true, and_true, true_and, and_false, false_and, if_true, if_false, if_pos, if_neg]
  · simp (disch := omega) only [h27, h19, h21, nm, bd, Option.bind_some, pI1, pI2, pQ1, pQ2, li_0, li_1, li_2, li_3, li_4, li_5, li_6, li_7, li_8, li_9, li_10, li_11, li_12, li_13, li_14, li_15, li_16, li_60, li_64, li_128, li_136, li_144, li_256, li_400, li_500, li_1020, li_1024, nI_neg1, nI_clamp, nI_ltI, nI_leI, nI_eq, nI_add, pk_sub, pk_mul, pk_div, nI_nm1, nI_nm1p, Nat.add_sub_cancel, Nat.add_sub_cancel_left, false_or, or_false, true_or, or_true, not_true_eq_false, not_false_eq_true, and_true, true_and, and_false, false_and, if_true, if_false, if_pos, if_neg]
theorem ofs_up {B : Nat → Nat} {a l : Nat} : ∀ y z, y ≤ z → ofs B a l y ≤ ofs B a l z := by
  intro y z hyz
  induction z with
  | zero => rw [Nat.le_zero.mp hyz]; exact Nat.le_refl _
  | succ z ihz =>
    by_cases e : y = z + 1
    · rw [e]; exact Nat.le_refl _
    · exact Nat.le_trans (ihz (by omega)) (Nat.le_add_right _ _)
set_option maxHeartbeats 8000000 in
theorem ahead_sim {N mo j a : Nat} {B : Nat → Nat} {sC0 sM0 : xSt} (hN : 200 < N) (hj : j ≤ mo) (ha : a ≤ 1020) (hBa : B a ≤ 8) (hB : ∀ k, k < 1024 → B k < 256) (hmC : ∀ k, k < 1024 → sC0.1 20 3 k = nI (B k)) (hmM : ∀ k, k < 1024 → sM0.1 30 1 k = nI (B k)) :
    ∀ d i fC fM (sC sM : xSt), i + d = 60 → d + 1 < fC → d + 2 < fM → AhC j sC0 sC → AhM sM0 sM → sM.1 9 0 27 = nI i → AhR B a j i sC sM → (∀ x, x < i → B (a + ofs B a (B a) x) ≠ 15) → a + ofs B a (B a) i ≤ 1024 →
      ∃ v sC' sM', fX2_readAhead_b15 N mo fC j (nI a) (nI (ofs B a (B a) i)) (nI i) sC = some (v, sC') ∧ fX9_failsAt_b11 N fM (nI a) (nI (a + ofs B a (B a) i)) (nI 0) sM = some (v, sM') ∧ AhC j sC0 sC' ∧ AhM sM0 sM' ∧ AhE B a j v sC' sM' := by
  have hrC : rwC (j + 1) = 22 := by unfold rwC; rw [if_neg (by omega)]
  have hrI : rwI mo (j + 1) = j := by unfold rwI; rw [if_neg (by omega)]; omega
  have hrN : rwN (j + 1) = 660 := by unfold rwN; rw [if_neg (by omega)]
  intro d
  induction d with
  | zero =>
    intro i fC fM sC sM h1 h2 h3 h4 h5 h6 h7 h8 h9
    obtain ⟨fC, rfl⟩ : ∃ z, fC = z + 1 := ⟨fC - 1, by omega⟩
    obtain ⟨fM, rfl⟩ : ∃ z, fM = z + 1 := ⟨fM - 1, by omega⟩
    have hi : i = 60 := by omega
    subst hi
    have hma : sM.1 30 1 a = nI (B a) := by rw [h5.2 _ _ _ (by omega) (by omega)]; exact hmM a (by omega)
    obtain ⟨s5, e5, r5⟩ := m_read (N := N) (loc := B a) (p := a + ofs B a (B a) 60) (B := B) (s0 := sM) (by omega) hB (fun k hk => by rw [h5.2 _ _ _ (by omega) (by omega)]; exact hmM k hk) hBa (by omega)
    have h27 : s5.1 9 0 27 = nI 60 := by rw [r5.2.1 _ _ _ (by omega) (by omega)]; exact h6
    refine ⟨nI (ofs B a (B a) 60), sC, s5, ?_, ?_, h4, ⟨by rw [r5.1, h5.1], fun c i k z1 z2 => by rw [r5.2.1 _ _ _ (by omega) (by omega)]; exact h5.2 c i k z1 z2⟩, Or.inl ⟨_, by omega, rfl⟩⟩
    · unfold fX2_readAhead_b15
      simp (disch := omega) only [nm, bd, Option.bind_some, pI1, pI2, pQ1, pQ2, li_0, li_1, li_2, li_3, li_4, li_5, li_6, li_7, li_8, li_9, li_10, li_11, li_12, li_13, li_14, li_15, li_16, li_60, li_64, li_128, li_136, li_144, li_256, li_400, li_500, li_1020, li_1024, nI_neg1, nI_clamp, nI_ltI, nI_leI, nI_eq, nI_add, pk_sub, pk_mul, pk_div, nI_nm1, nI_nm1p, Nat.add_sub_cancel, Nat.add_sub_cancel_left, false_or, or_false, true_or, or_true, not_true_eq_false, not_false_eq_true, and_true, true_and, and_false, false_and, if_true, if_false, if_pos, if_neg]
    · exact m_ah0 ha h9 (dec_p (B := B) (loc := B a) (p := a + ofs B a (B a) 60)).1 (fun _ => h27) hma e5 r5.2.2.2.1
  | succ d ih =>
    intro i fC fM sC sM h1 h2 h3 h4 h5 h6 h7 h8 h9
    obtain ⟨fC, rfl⟩ : ∃ z, fC = z + 1 := ⟨fC - 1, by omega⟩
    obtain ⟨fM, rfl⟩ : ∃ z, fM = z + 1 := ⟨fM - 1, by omega⟩
    obtain ⟨x, ex⟩ : ∃ x, x = ofs B a (B a) i := ⟨_, rfl⟩
    rw [← ex] at h9 ⊢
    have hma : sM.1 30 1 a = nI (B a) := by rw [h5.2 _ _ _ (by omega) (by omega)]; exact hmM a (by omega)
    have hca : sC.1 20 3 a = nI (B a) := by rw [h4.2 _ _ _ (by omega) (by omega)]; exact hmC a (by omega)
    obtain ⟨s5, e5, r5⟩ := m_read (N := N) (loc := B a) (p := a + x) (B := B) (s0 := sM) (by omega) hB (fun k hk => by rw [h5.2 _ _ _ (by omega) (by omega)]; exact hmM k hk) hBa (by omega)
    obtain ⟨t6, f6, g1, g2, g3⟩ := c_read (N := N) (mo := mo) (q := j + 1) (base := i * 11) (loc := B a) (p := a + x) (B := B) (st := sC) (by omega) (by rw [hrC]; omega) hBa (by omega) hB (by rw [hrN]; omega) (by rw [hrN]; omega) (fun k hk => by rw [h4.2 _ _ _ (by omega) (by omega)]; exact hmC k hk)
    rw [hrC, hrI] at g2 g3
    have h27 : s5.1 9 0 27 = nI i := by rw [r5.2.1 _ _ _ (by omega) (by omega)]; exact h6
    have h5' : AhM sM0 s5 := ⟨by rw [r5.1, h5.1], fun c i k z1 z2 => by rw [r5.2.1 _ _ _ (by omega) (by omega)]; exact h5.2 c i k z1 z2⟩
    have h20 := r5.2.2.2.1
    have hdp := dec_p (B := B) (loc := B a) (p := a + x)
    by_cases hf : (dec B (a + x) (B a)).1 = 0
    · rw [hf] at h20 f6
      obtain ⟨g4, g5⟩ := g3 hf
      obtain ⟨r6, r7, r8⟩ := r5.2.2.2.2.2 hf
      obtain ⟨d1, d2, d3⟩ := hdp.2.2 hf
      have h19 : s5.1 9 0 19 = nI (B (a + x)) := by rw [r5.2.2.1, if_pos (by omega)]
      have hl := dec_len hf
      have hstep := m_ah1 (N := N) (fM := fM) (loc := B a) (B := B) ha h9 (by omega) hma e5 h20 h27 hB hf h19 r7 r8
      rw [hstep]
      clear hstep
      generalize el : (dec B (a + x) (B a)).2 = len at *
      generalize ht11 : pI t6 22 j (i * 11 + 9) (nI x) = t11
      generalize hs10 : pI s5 30 25 i (nI x) = s10
      have h10_27 : s10.1 9 0 27 = nI i := by rw [← hs10]; simp (disch := omega) only [if_pos, if_neg, pI1, pI2, pQ1, pQ2, true_and, and_true, false_and, and_false, true_or, or_true, false_or, or_false, if_true, if_false, Nat.reduceEqDiff, and_self, not_true_eq_false, not_false_eq_true]; exact h27
      have h10_19 : s10.1 9 0 19 = nI (B (a + x)) := by rw [← hs10]; simp (disch := omega) only [if_pos, if_neg, pI1, pI2, pQ1, pQ2, true_and, and_true, false_and, and_false, true_or, or_true, false_or, or_false, if_true, if_false, Nat.reduceEqDiff, and_self, not_true_eq_false, not_false_eq_true]; exact h19
      have h10_21 : s10.1 9 0 21 = nI (a + x + len) := by rw [← hs10]; simp (disch := omega) only [if_pos, if_neg, pI1, pI2, pQ1, pQ2, true_and, and_true, false_and, and_false, true_or, or_true, false_or, or_false, if_true, if_false, Nat.reduceEqDiff, and_self, not_true_eq_false, not_false_eq_true]; exact r6
      have t0 : t11.1 22 j (i * 11) = nI (B (a + x)) := by
        rw [← ht11, pI1, if_neg (by omega)]; exact g5 0 (by omega)
      have t8 : t11.1 22 j (i * 11 + 8) = nI len := by
        rw [← ht11, pI1, if_neg (by omega)]; exact g4
      have t9 : t11.1 22 j (i * 11 + 9) = nI x := by
        rw [← ht11, pI1, if_pos (by omega)]
      have tF : AhC j sC0 t11 := ⟨by rw [← ht11, pI2, g1, h4.1], fun c i k z1 z2 => by rw [← ht11, pI1, if_neg (by omega), g2 _ _ _ (by omega)]; exact h4.2 c i k z1 z2⟩
      -- rows and offsets, one more
      generalize hs31 : pI (pI s10 30 26 i (tgv B (a + x))) 9 0 27 (nI (i + 1)) = s31
      have sF : AhM sM0 s31 := ⟨by rw [← hs31, pI2, pI2, ← hs10, pI2]; exact h5'.1, fun c i k z1 z2 => by rw [← hs31, pI1, if_neg (by omega), pI1, if_neg (by omega), ← hs10, pI1, if_neg (by omega)]; exact h5'.2 c i k z1 z2⟩
      have h31_27 : s31.1 9 0 27 = nI (i + 1) := by rw [← hs31]; simp (disch := omega) only [if_pos, if_neg, pI1, pI2, pQ1, pQ2, true_and, and_true, false_and, and_false, true_or, or_true, false_or, or_false, if_true, if_false, Nat.reduceEqDiff, and_self, not_true_eq_false, not_false_eq_true]
      have h31_19 : s31.1 9 0 19 = nI (B (a + x)) := by rw [← hs31]; simp (disch := omega) only [if_pos, if_neg, pI1, pI2, pQ1, pQ2, true_and, and_true, false_and, and_false, true_or, or_true, false_or, or_false, if_true, if_false, Nat.reduceEqDiff, and_self, not_true_eq_false, not_false_eq_true]; exact h10_19
      have h31_21 : s31.1 9 0 21 = nI (a + x + len) := by rw [← hs31]; simp (disch := omega) only [if_pos, if_neg, pI1, pI2, pQ1, pQ2, true_and, and_true, false_and, and_false, true_or, or_true, false_or, or_false, if_true, if_false, Nat.reduceEqDiff, and_self, not_true_eq_false, not_false_eq_true]; exact h10_21
      have hR' : AhR B a j (i + 1) t11 s31 := by
        intro r hr
        by_cases hri : r = i
        · subst hri
          rw [← ex]
          refine ⟨hf, t9, fun k hk => ?_, by rw [el]; exact t8, ?_, ?_⟩
          · rw [← ht11, pI1, if_neg (by omega)]; exact g5 k (by omega)
          · rw [← hs31, pI1, if_neg (by omega), pI1, if_neg (by omega), ← hs10, pI1, if_pos (by omega)]
          · rw [← hs31, pI1, if_neg (by omega), pI1, if_pos (by omega)]
        · obtain ⟨q1, q2, q3, q4, q5, q6⟩ := h7 r (by omega)
          have q8 := (dec_p (B := B) (loc := B a) (p := a + ofs B a (B a) r)).2.1
          refine ⟨q1, ?_, fun k hk => ?_, ?_, ?_, ?_⟩
          · rw [← ht11, pI1, if_neg (by omega), g2 _ _ _ (by omega)]; exact q2
          · rw [← ht11, pI1, if_neg (by omega), g2 _ _ _ (by omega)]; exact q3 k hk
          · rw [← ht11, pI1, if_neg (by omega), g2 _ _ _ (by omega)]; exact q4
          · rw [← hs31, pI1, if_neg (by omega), pI1, if_neg (by omega), ← hs10, pI1, if_neg (by omega), r5.2.1 _ _ _ (by omega) (by omega)]; exact q5
          · rw [← hs31, pI1, if_neg (by omega), pI1, if_neg (by omega), ← hs10, pI1, if_neg (by omega), r5.2.1 _ _ _ (by omega) (by omega)]; exact q6
      have hst := m_ah2 (N := N) (a := a) (p := a + x) (i := i) (len := len) (b := B (a + x)) (fM := fM) (tv := tgv B (a + x)) (k11 := fX9_failsAt_b11 N fM) (by omega) (by omega) h10_27 h10_19 h10_21
      rw [hs31] at hst
      rw [hst]
      clear hst
      by_cases h15 : B (a + x) = 15
      · -- the end
          rw [if_pos h15]
          obtain ⟨fM, rfl⟩ : ∃ z, fM = z + 1 := ⟨fM - 1, by omega⟩
          generalize ht19 : pI (pI (pI t11 3 j 1 (nI (i + 1))) 3 j 4 (nI (a / 64))) 3 j 5 (nI ((a + x) / 64)) = t19
          have t22 : ∀ k, t19.1 22 j k = t11.1 22 j k := fun k => by rw [← ht19]; simp (disch := omega) only [if_pos, if_neg, pI1, pI2, pQ1, pQ2, true_and, and_true, false_and, and_false, true_or, or_true, false_or, or_false, if_true, if_false, Nat.reduceEqDiff, and_self, not_true_eq_false, not_false_eq_true]
          have hlk := link_sim (N := N) (mo := mo) (j := j) (sz := i + 1) (a := a) (loc := B a) (B := B) (sC0 := t19) (sM := s31) (by omega) (by omega) hB (by rw [← ht19]; simp (disch := omega) only [if_pos, if_neg, pI1, pI2, pQ1, pQ2, true_and, and_true, false_and, and_false, true_or, or_true, false_or, or_false, if_true, if_false, Nat.reduceEqDiff, and_self, not_true_eq_false, not_false_eq_true]) (fun r hr => ⟨(hR' r hr).1, by rw [t22]; exact (hR' r hr).2.1, fun k hk => by rw [t22]; exact (hR' r hr).2.2.1 k hk⟩) h31_27 (fun r hr => (hR' r hr).2.2.2.2) (i + 1) 0 N N t19 (by omega) (by omega) (by omega) ⟨rfl, fun _ _ _ _ => rfl⟩ (fun r hr => by omega)
          obtain ⟨v, sC', l1, l2, l3, l4⟩ := hlk
          refine ⟨v, sC', s31, ?_, ?_, ⟨?_, fun c i' k z1 z2 => ?_⟩, sF, ?_⟩
          · refine c_ah1 (by omega) ha h9 hca f6 (by rw [show t6.1 22 j (i * 11) = nI (B (a + x)) from g5 0 (by omega), h15]) ?_
            rw [ht11, ht19]
            exact l1
          · rw [fX9_failsAt_b11, if_neg (by decide)]
            exact l2
          · rw [l3.1, ← ht19]; exact tF.1
          · rw [l3.2 _ _ _ (by omega), ← ht19, pI1, if_neg (by omega), pI1, if_neg (by omega), pI1, if_neg (by omega)]
            exact tF.2 c i' k z1 z2
          · rcases l4 with ⟨l5, l6⟩ | ⟨q, q1, q2⟩
            · refine Or.inr ⟨l5, i + 1, by omega, by omega, ?_, h31_27, ?_, ?_, ?_, ha, hBa, ?_, by omega, i + 1, ofs B a (B a), rfl, by omega, by omega, rfl, rfl, fun r hr => ?_⟩
              · rw [l3.2 _ _ _ (by omega), ← ht19]; simp (disch := omega) only [if_pos, if_neg, pI1, pI2, pQ1, pQ2, true_and, and_true, false_and, and_false, true_or, or_true, false_or, or_false, if_true, if_false, Nat.reduceEqDiff, and_self, not_true_eq_false, not_false_eq_true]
              · exact (hR' i (by omega)).2.2.2.2.1
              · rw [l3.2 _ _ _ (by omega), ← ht19]; simp (disch := omega) only [if_pos, if_neg, pI1, pI2, pQ1, pQ2, true_and, and_true, false_and, and_false, true_or, or_true, false_or, or_false, if_true, if_false, Nat.reduceEqDiff, and_self, not_true_eq_false, not_false_eq_true]
              · rw [l3.2 _ _ _ (by omega), ← ht19, Nat.add_sub_cancel, ← ex]; simp (disch := omega) only [if_pos, if_neg, pI1, pI2, pQ1, pQ2, true_and, and_true, false_and, and_false, true_or, or_true, false_or, or_false, if_true, if_false, Nat.reduceEqDiff, and_self, not_true_eq_false, not_false_eq_true]
              · rw [Nat.add_sub_cancel, ← ex]; omega
              · obtain ⟨q1, q2, q3, q4, q5, q6⟩ := hR' r hr
                have q8 := (dec_p (B := B) (loc := B a) (p := a + ofs B a (B a) r)).2.1
                have hle := ofs_up (B := B) (a := a) (l := B a) r i (by omega)
                rw [Nat.add_sub_cancel]
                refine ⟨?_, by omega, q1, ?_, fun k hk => ?_, ?_, fun h15' => ?_, fun hc => ?_⟩
                · rw [l3.2 _ _ _ (by omega), t22]; exact q2
                · rw [l3.2 _ _ _ (by omega), t22]; exact q4
                · rw [l3.2 _ _ _ (by omega), t22]; exact q3 k hk
                · by_cases hri : r = i
                  · subst hri
                    rw [← ex]
                    have := hl.2.1 h15
                    omega
                  · have := ofs_up (B := B) (a := a) (l := B a) (r + 1) i (by omega)
                    have e9 : ofs B a (B a) (r + 1) = ofs B a (B a) r + (dec B (a + ofs B a (B a) r) (B a)).2 := rfl
                    omega
                · refine ⟨?_, rfl⟩
                  by_cases hri : r = i
                  · rw [hri, ← ex] at h15'; exact absurd h15 h15'
                  · omega
                · exact l6 r hr hc
            · exact Or.inl ⟨q, q1, q2⟩
      · rw [if_neg h15]
        have en : ofs B a (B a) (i + 1) = x + len := by
          show ofs B a (B a) i + (dec B (a + ofs B a (B a) i) (B a)).2 = _
          rw [← ex, el]
        obtain ⟨v, sC', sM', e1, e2, e3⟩ := ih (i + 1) fC fM t11 s31 (by omega) (by omega) (by omega) tF sF h31_27 hR' (fun r hr => by
          by_cases hri : r = i
          · rw [hri, ← ex]; exact h15
          · exact h8 r (by omega)) (by rw [en]; omega)
        rw [en] at e1 e2
        refine ⟨v, sC', sM', ?_, ?_, e3⟩
        · rw [c_ah2 (len := len) (by omega) ha h9 hca f6 (g5 0 (by omega)) (by rw [Nat.add_zero]; omega) g4, ht11]
          exact e1
        · rw [Nat.add_assoc]; exact e2
    · refine ⟨nI x, t6, s5, ?_, ?_, ⟨by rw [g1, h4.1], fun c i k z1 z2 => by rw [g2 _ _ _ (by omega)]; exact h4.2 c i k z1 z2⟩, h5', Or.inl ⟨x, by omega, rfl⟩⟩
      · exact c_ah0 (by omega) ha h9 hf hdp.1 hca f6
      · exact m_ah0 ha h9 hdp.1 (fun z => absurd z hf) hma e5 h20
