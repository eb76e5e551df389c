section BI
variable {N mo g : Nat} {sC sM : xSt}
theorem bi_sum (hg : g ≤ 4) (h39 : sM.1 9 0 39 = nI g) (hh : ∀ i, i < g → sC.1 20 5 i = sM.1 30 38 i) : ∀ d i fC fM (v : Int32), i + d = g → d < fC → d < fM → ∃ w, fX6_sumOfHanded_b4 N mo fC (nI g) v (nI i) sC = some (w, sC) ∧ fX9_builtIn_b30 N fM v (nI i) sM = some (w, sM) := by
  intro d
  induction d with
  | zero =>
    intro i fC fM v h1 h2 h3
    obtain ⟨fC, rfl⟩ : ∃ z, fC = z + 1 := ⟨fC - 1, by omega⟩
    obtain ⟨fM, rfl⟩ : ∃ z, fM = z + 1 := ⟨fM - 1, by omega⟩
    unfold fX6_sumOfHanded_b4 fX9_builtIn_b30
    rw [h39, if_pos (nI_le (by omega) (by omega)), if_pos (nI_le (by omega) (by omega))]
    exact ⟨v, rfl, rfl⟩
  | succ d ih =>
    intro i fC fM v h1 h2 h3
    obtain ⟨fC, rfl⟩ : ∃ z, fC = z + 1 := ⟨fC - 1, by omega⟩
    obtain ⟨fM, rfl⟩ : ∃ z, fM = z + 1 := ⟨fM - 1, by omega⟩
    have e := hh i (by omega)
    obtain ⟨w, e1, e2⟩ := ih (i + 1) fC fM (v + sM.1 30 38 i) (by omega) (by omega) (by omega)
    refine ⟨w, ?_, ?_⟩
    · unfold fX6_sumOfHanded_b4
      simp (disch := omega) only [e, nm, bd, Option.bind_some, pI1, pI2, pQ1, pQ2, li_0, li_1, li_2, li_3, li_4, li_5, li_6, li_7, li_8, li_9, li_10, li_11, li_12, li_13, li_14, li_15, li_16, li_60, li_64, li_128, li_136, li_144, li_256, li_400, li_500, li_1020, li_1024, nI_neg1, nI_clamp, nI_ltI, nI_leI, nI_eq, nI_add, pk_sub, pk_mul, pk_div, nI_nm1, nI_nm1p, Nat.add_sub_cancel, Nat.add_sub_cancel_left, false_or, or_false, true_or, or_true, not_true_eq_false, not_false_eq_true, and_true, true_and, and_false, false_and, if_true, if_false, if_pos, if_neg]
      exact e1
    · unfold fX9_builtIn_b30
      simp (disch := omega) only [h39, nm, bd, Option.bind_some, pI1, pI2, pQ1, pQ2, li_0, li_1, li_2, li_3, li_4, li_5, li_6, li_7, li_8, li_9, li_10, li_11, li_12, li_13, li_14, li_15, li_16, li_60, li_64, li_128, li_136, li_144, li_256, li_400, li_500, li_1020, li_1024, nI_neg1, nI_clamp, nI_ltI, nI_leI, nI_eq, nI_add, pk_sub, pk_mul, pk_div, nI_nm1, nI_nm1p, Nat.add_sub_cancel, Nat.add_sub_cancel_left, false_or, or_false, true_or, or_true, not_true_eq_false, not_false_eq_true, and_true, true_and, and_false, false_and, if_true, if_false, if_pos, if_neg]
      exact e2
theorem bi_max (hg : g ≤ 4) (h39 : sM.1 9 0 39 = nI g) (hh : ∀ i, i < g → sC.1 20 5 i = sM.1 30 38 i) : ∀ d i fC fM (v : Int32), i + d = g → d < fC → d < fM → 1 ≤ i → ∃ w, fX6_greatestOfHanded_b17 N mo fC (nI g) v (nI i) sC = some (w, sC) ∧ fX9_builtIn_b57 N fM v (nI i) sM = some (w, sM) := by
  intro d
  induction d with
  | zero =>
    intro i fC fM v h1 h2 h3 h4
    obtain ⟨fC, rfl⟩ : ∃ z, fC = z + 1 := ⟨fC - 1, by omega⟩
    obtain ⟨fM, rfl⟩ : ∃ z, fM = z + 1 := ⟨fM - 1, by omega⟩
    unfold fX6_greatestOfHanded_b17 fX9_builtIn_b57
    rw [h39, if_pos (nI_le (by omega) (by omega)), if_pos (nI_le (by omega) (by omega))]
    exact ⟨v, rfl, rfl⟩
  | succ d ih =>
    intro i fC fM v h1 h2 h3 h4
    obtain ⟨fC, rfl⟩ : ∃ z, fC = z + 1 := ⟨fC - 1, by omega⟩
    obtain ⟨fM, rfl⟩ : ∃ z, fM = z + 1 := ⟨fM - 1, by omega⟩
    have e := hh i (by omega)
    by_cases hv : v < sM.1 30 38 i
    · obtain ⟨w, e1, e2⟩ := ih (i + 1) fC fM (sM.1 30 38 i) (by omega) (by omega) (by omega) (by omega)
      have hv2 : ¬ sM.1 30 38 i ≤ v := by rw [Int32.not_le]; exact hv
      refine ⟨w, ?_, ?_⟩
      · unfold fX6_greatestOfHanded_b17
        simp (disch := omega) only [e, hv, nm, bd, Option.bind_some, pI1, pI2, pQ1, pQ2, li_0, li_1, li_2, li_3, li_4, li_5, li_6, li_7, li_8, li_9, li_10, li_11, li_12, li_13, li_14, li_15, li_16, li_60, li_64, li_128, li_136, li_144, li_256, li_400, li_500, li_1020, li_1024, nI_neg1, nI_clamp, nI_ltI, nI_leI, nI_eq, nI_add, pk_sub, pk_mul, pk_div, nI_nm1, nI_nm1p, Nat.add_sub_cancel, Nat.add_sub_cancel_left, false_or, or_false, true_or, or_true, not_true_eq_false, not_false_eq_true, and_true, true_and, and_false, false_and, if_true, if_false, if_pos, if_neg]
        exact e1
      · unfold fX9_builtIn_b57 fX9_builtIn_b79 fX9_builtIn_b89
        simp (disch := omega) only [h39, hv2, nm, bd, Option.bind_some, pI1, pI2, pQ1, pQ2, li_0, li_1, li_2, li_3, li_4, li_5, li_6, li_7, li_8, li_9, li_10, li_11, li_12, li_13, li_14, li_15, li_16, li_60, li_64, li_128, li_136, li_144, li_256, li_400, li_500, li_1020, li_1024, nI_neg1, nI_clamp, nI_ltI, nI_leI, nI_eq, nI_add, pk_sub, pk_mul, pk_div, nI_nm1, nI_nm1p, Nat.add_sub_cancel, Nat.add_sub_cancel_left, false_or, or_false, true_or, or_true, not_true_eq_false, not_false_eq_true, and_true, true_and, and_false, false_and, if_true, if_false, if_pos, if_neg]
        exact e2
    · obtain ⟨w, e1, e2⟩ := ih (i + 1) fC fM v (by omega) (by omega) (by omega) (by omega)
      have hv2 : sM.1 30 38 i ≤ v := by rw [Int32.not_lt] at hv; exact hv
      refine ⟨w, ?_, ?_⟩
      · unfold fX6_greatestOfHanded_b17
        simp (disch := omega) only [e, hv, nm, bd, Option.bind_some, pI1, pI2, pQ1, pQ2, li_0, li_1, li_2, li_3, li_4, li_5, li_6, li_7, li_8, li_9, li_10, li_11, li_12, li_13, li_14, li_15, li_16, li_60, li_64, li_128, li_136, li_144, li_256, li_400, li_500, li_1020, li_1024, nI_neg1, nI_clamp, nI_ltI, nI_leI, nI_eq, nI_add, pk_sub, pk_mul, pk_div, nI_nm1, nI_nm1p, Nat.add_sub_cancel, Nat.add_sub_cancel_left, false_or, or_false, true_or, or_true, not_true_eq_false, not_false_eq_true, and_true, true_and, and_false, false_and, if_true, if_false, if_pos, if_neg]
        exact e1
      · unfold fX9_builtIn_b57 fX9_builtIn_b79 fX9_builtIn_b89
        simp (disch := omega) only [h39, hv2, nm, bd, Option.bind_some, pI1, pI2, pQ1, pQ2, li_0, li_1, li_2, li_3, li_4, li_5, li_6, li_7, li_8, li_9, li_10, li_11, li_12, li_13, li_14, li_15, li_16, li_60, li_64, li_128, li_136, li_144, li_256, li_400, li_500, li_1020, li_1024, nI_neg1, nI_clamp, nI_ltI, nI_leI, nI_eq, nI_add, pk_sub, pk_mul, pk_div, nI_nm1, nI_nm1p, Nat.add_sub_cancel, Nat.add_sub_cancel_left, false_or, or_false, true_or, or_true, not_true_eq_false, not_false_eq_true, and_true, true_and, and_false, false_and, if_true, if_false, if_pos, if_neg]
        exact e2
theorem bi_nz (hg : g ≤ 4) (h39 : sM.1 9 0 39 = nI g) (hh : ∀ i, i < g → sC.1 20 5 i = sM.1 30 38 i) : ∀ d i fC fM (v : Int32), i + d = g → d < fC → d < fM → ∃ w, fX6_handedNotZero_b4 N mo fC (nI g) v (nI i) sC = some (w, sC) ∧ fX9_builtIn_b100 N fM v (nI i) sM = some (w, sM) := by
  intro d
  induction d with
  | zero =>
    intro i fC fM v h1 h2 h3
    obtain ⟨fC, rfl⟩ : ∃ z, fC = z + 1 := ⟨fC - 1, by omega⟩
    obtain ⟨fM, rfl⟩ : ∃ z, fM = z + 1 := ⟨fM - 1, by omega⟩
    unfold fX6_handedNotZero_b4 fX9_builtIn_b100
    rw [h39, if_pos (nI_le (by omega) (by omega)), if_pos (nI_le (by omega) (by omega))]
    exact ⟨v, rfl, rfl⟩
  | succ d ih =>
    intro i fC fM v h1 h2 h3
    obtain ⟨fC, rfl⟩ : ∃ z, fC = z + 1 := ⟨fC - 1, by omega⟩
    obtain ⟨fM, rfl⟩ : ∃ z, fM = z + 1 := ⟨fM - 1, by omega⟩
    have e := hh i (by omega)
    by_cases hv : sM.1 30 38 i = nI 0
    · obtain ⟨w, e1, e2⟩ := ih (i + 1) fC fM v (by omega) (by omega) (by omega)
      have z0 : v + nI 0 = v := Int32.add_zero v
      refine ⟨w, ?_, ?_⟩
      · unfold fX6_handedNotZero_b4 fX6_handedNotZero_b21
        simp (disch := omega) only [e, hv, nm, bd, Option.bind_some, pI1, pI2, pQ1, pQ2, li_0, li_1, li_2, li_3, li_4, li_5, li_6, li_7, li_8, li_9, li_10, li_11, li_12, li_13, li_14, li_15, li_16, li_60, li_64, li_128, li_136, li_144, li_256, li_400, li_500, li_1020, li_1024, nI_neg1, nI_clamp, nI_ltI, nI_leI, nI_eq, nI_add, pk_sub, pk_mul, pk_div, nI_nm1, nI_nm1p, Nat.add_sub_cancel, Nat.add_sub_cancel_left, false_or, or_false, true_or, or_true, not_true_eq_false, not_false_eq_true, and_true, true_and, and_false, false_and, if_true, if_false, if_pos, if_neg]
        exact e1
      · unfold fX9_builtIn_b100 fX9_builtIn_b123
        simp (disch := omega) only [h39, hv, z0, nm, bd, Option.bind_some, pI1, pI2, pQ1, pQ2, li_0, li_1, li_2, li_3, li_4, li_5, li_6, li_7, li_8, li_9, li_10, li_11, li_12, li_13, li_14, li_15, li_16, li_60, li_64, li_128, li_136, li_144, li_256, li_400, li_500, li_1020, li_1024, nI_neg1, nI_clamp, nI_ltI, nI_leI, nI_eq, nI_add, pk_sub, pk_mul, pk_div, nI_nm1, nI_nm1p, Nat.add_sub_cancel, Nat.add_sub_cancel_left, false_or, or_false, true_or, or_true, not_true_eq_false, not_false_eq_true, and_true, true_and, and_false, false_and, if_true, if_false, if_pos, if_neg]
        exact e2
    · obtain ⟨w, e1, e2⟩ := ih (i + 1) fC fM (v + nI 1) (by omega) (by omega) (by omega)
      refine ⟨w, ?_, ?_⟩
      · unfold fX6_handedNotZero_b4 fX6_handedNotZero_b21
        simp (disch := omega) only [e, hv, nm, bd, Option.bind_some, pI1, pI2, pQ1, pQ2, li_0, li_1, li_2, li_3, li_4, li_5, li_6, li_7, li_8, li_9, li_10, li_11, li_12, li_13, li_14, li_15, li_16, li_60, li_64, li_128, li_136, li_144, li_256, li_400, li_500, li_1020, li_1024, nI_neg1, nI_clamp, nI_ltI, nI_leI, nI_eq, nI_add, pk_sub, pk_mul, pk_div, nI_nm1, nI_nm1p, Nat.add_sub_cancel, Nat.add_sub_cancel_left, false_or, or_false, true_or, or_true, not_true_eq_false, not_false_eq_true, and_true, true_and, and_false, false_and, if_true, if_false, if_pos, if_neg]
        exact e1
      · unfold fX9_builtIn_b100 fX9_builtIn_b123
        simp (disch := omega) only [h39, hv, nm, bd, Option.bind_some, pI1, pI2, pQ1, pQ2, li_0, li_1, li_2, li_3, li_4, li_5, li_6, li_7, li_8, li_9, li_10, li_11, li_12, li_13, li_14, li_15, li_16, li_60, li_64, li_128, li_136, li_144, li_256, li_400, li_500, li_1020, li_1024, nI_neg1, nI_clamp, nI_ltI, nI_leI, nI_eq, nI_add, pk_sub, pk_mul, pk_div, nI_nm1, nI_nm1p, Nat.add_sub_cancel, Nat.add_sub_cancel_left, false_or, or_false, true_or, or_true, not_true_eq_false, not_false_eq_true, and_true, true_and, and_false, false_and, if_true, if_false, if_pos, if_neg]
        exact e2
end BI
theorem c_place8 {N mo : Nat} {a : Int32} {st : xSt} : fX8_isPlace N mo a st = some (if okB a then nI 1 else nI 0, st) := by
  unfold fX8_isPlace
  by_cases h1 : a < 0
  · rw [if_pos h1, if_neg (fun z => z.1 h1)]; rfl
  · rw [if_neg h1]
    by_cases h2 : (1024 : Int32) ≤ a
    · rw [if_pos h2, if_neg (fun z => z.2 h2)]; rfl
    · rw [if_neg h2, if_pos ⟨h1, h2⟩]; rfl
/-- what a built-in one gives -/
theorem bi_sim {N mo n mk g : Nat} {w : Int32} {B : Nat → Nat} {sC sM : xSt} (hN : 10 < N) (hC : Cor mo n mk B sC sM) (hO : Out sC sM) (hH : Hr sC sM) (hg : g ≤ 4) (h39 : sM.1 9 0 39 = nI g) (hh : ∀ i, i < g → sC.1 20 5 i = sM.1 30 38 i) :
    (∃ v, (if w = (1 : Int32) then bd (fX6_sumOfHanded N mo (nI g) sC) (fun v8 st6 => some (v8, st6)) else if w = (2 : Int32) then bd (fX6_greatestOfHanded N mo (nI g) sC) (fun v12 st10 => some (v12, st10)) else if w = (3 : Int32) then bd (fX6_handedNotZero N mo (nI g) sC) (fun v16 st14 => some (v16, st14)) else bd (fX6_byteAtFirstHanded N mo (nI g) sC) (fun v19 st17 => some (v19, st17))) = some (v, sC) ∧ fX9_builtIn N w sM = some (v, sM)) ∨
    (∃ sC' sM', (if w = (1 : Int32) then bd (fX6_sumOfHanded N mo (nI g) sC) (fun v8 st6 => some (v8, st6)) else if w = (2 : Int32) then bd (fX6_greatestOfHanded N mo (nI g) sC) (fun v12 st10 => some (v12, st10)) else if w = (3 : Int32) then bd (fX6_handedNotZero N mo (nI g) sC) (fun v16 st14 => some (v16, st14)) else bd (fX6_byteAtFirstHanded N mo (nI g) sC) (fun v19 st17 => some (v19, st17))) = some (0, sC') ∧ fX9_builtIn N w sM = some (0, sM') ∧ Fin mo mk sC' sM' ∧ sC'.1 5 0 1 = nI 1 ∧ sM'.1 9 0 40 = nI 1) := by
  unfold fX9_builtIn
  by_cases w1 : w = 1
  · rw [if_pos w1, if_pos w1]
    obtain ⟨v, e1, e2⟩ := bi_sum (N := N) (mo := mo) hg h39 hh g 0 N N (nI 0) (by omega) (by omega) (by omega)
    have e1' : fX6_sumOfHanded N mo (nI g) sC = some (v, sC) := e1
    exact Or.inl ⟨v, by rw [e1']; rfl, e2⟩
  · rw [if_neg w1, if_neg w1]
    by_cases w2 : w = 2
    · rw [if_pos w2, if_pos w2]
      by_cases h0 : g = 0
      · subst h0
        refine Or.inl ⟨0, ?_, ?_⟩
        · obtain ⟨N, rfl⟩ : ∃ z, N = z + 1 := ⟨N - 1, by omega⟩
          rfl
        · obtain ⟨N, rfl⟩ : ∃ z, N = z + 1 := ⟨N - 1, by omega⟩
          unfold fX9_builtIn_b57
          rw [h39, if_pos (by decide)]
      · obtain ⟨N', rfl⟩ : ∃ z, N = z + 1 := ⟨N - 1, by omega⟩
        obtain ⟨v, e1, e2⟩ := bi_max (N := N' + 1) (mo := mo) hg h39 hh (g - 1) 1 (N' + 1) N' (sM.1 30 38 0) (by omega) (by omega) (by omega) (by omega)
        refine Or.inl ⟨v, ?_, ?_⟩
        · unfold fX6_greatestOfHanded fX6_greatestOfHanded_b14
          rw [if_neg (nI_ne0 (by omega) (by omega)), hh 0 (by omega)]
          have e1' : fX6_greatestOfHanded_b17 (N' + 1) mo (N' + 1) (nI g) (sM.1 30 38 0) (1 : Int32) sC = some (v, sC) := e1
          rw [e1']
          rfl
        · rw [fX9_builtIn_b57]
          unfold fX9_builtIn_b79 fX9_builtIn_b89
          simp (disch := omega) only [h39, nm, bd, Option.bind_some, pI1, pI2, pQ1, pQ2, li_0, li_1, li_2, li_3, li_4, li_5, li_6, li_7, li_8, li_9, li_10, li_11, li_12, li_13, li_14, li_15, li_16, li_60, li_64, li_128, li_136, li_144, li_256, li_400, li_500, li_1020, li_1024, nI_neg1, nI_clamp, nI_ltI, nI_leI, nI_eq, nI_add, pk_sub, pk_mul, pk_div, nI_nm1, nI_nm1p, Nat.add_sub_cancel, Nat.add_sub_cancel_left, false_or, or_false, true_or, or_true, not_true_eq_false, not_false_eq_true, and_true, true_and, and_false, false_and, if_true, if_false, if_pos, if_neg]
          exact e2
    · rw [if_neg w2, if_neg w2]
      by_cases w3 : w = 3
      · rw [if_pos w3, if_pos w3]
        obtain ⟨v, e1, e2⟩ := bi_nz (N := N) (mo := mo) hg h39 hh g 0 N N (nI 0) (by omega) (by omega) (by omega)
        have e1' : fX6_handedNotZero N mo (nI g) sC = some (v, sC) := e1
        exact Or.inl ⟨v, by rw [e1']; rfl, e2⟩
      · rw [if_neg w3, if_neg w3, h39]
        have bad : ∃ sC' sM', fX6_byteAtFirstHanded_b16 N mo sC = some (0, sC') ∧ fX9_builtIn_b153 N sM = some (0, sM') ∧ Fin mo mk sC' sM' ∧ sC'.1 5 0 1 = nI 1 ∧ sM'.1 9 0 40 = nI 1 := by
          obtain ⟨sC', sM', f1, f2, f3⟩ := fail_sim (N := N) (e := 1) hC hO hH (by omega)
          refine ⟨sC', sM', ?_, ?_, f3⟩
          · unfold fX6_byteAtFirstHanded_b16
            rw [li_1, f1]; rfl
          · unfold fX9_builtIn_b153
            rw [li_1, f2]; rfl
        unfold fX6_byteAtFirstHanded
        by_cases h0 : g = 0
        · subst h0
          rw [if_pos nI_0, if_pos nI_0]
          obtain ⟨sC', sM', f1, f2, f3⟩ := bad
          exact Or.inr ⟨sC', sM', by rw [f1]; rfl, f2, f3⟩
        · rw [if_neg (nI_ne0 (by omega) (by omega)), if_neg (nI_ne0 (by omega) (by omega)), hh 0 (by omega), c_place8, m_place]
          by_cases hk : okB (sM.1 30 38 0)
          · rw [if_pos hk]
            obtain ⟨p, hp, ep⟩ := okB_nI hk
            obtain ⟨q1, q2, q3⟩ := hC.2.2.1 p hp
            refine Or.inl ⟨nI (B p), ?_, ?_⟩
            · simp only [bd]
              rw [if_neg (by decide), hh 0 (by omega), ep, if_neg (nI_in (c := p) (N := 1024) (by omega) (by omega)), nI_clamp (by omega), q2]
            · simp only [bd]
              rw [if_neg (by decide), ep, if_neg (nI_in (c := p) (N := 1024) (by omega) (by omega)), nI_clamp (by omega), q3]
          · rw [if_neg hk]
            obtain ⟨sC', sM', f1, f2, f3⟩ := bad
            refine Or.inr ⟨sC', sM', ?_, ?_, f3⟩
            · simp only [bd]
              rw [if_pos nI_0, f1]
            · simp only [bd]
              rw [if_pos nI_0, f2]
