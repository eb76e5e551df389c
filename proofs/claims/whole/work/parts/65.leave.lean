theorem leave_sim {N mo n mk d q : Nat} {v : Int32} {B : Nat → Nat} {sC sM : xSt} (h : Run mo n mk (d - 1) d q B sC sM) (h1d : 1 ≤ d) (hI : ∀ g, g + 1 < d → I0r sC sM g) : ∃ sC' sM', fX6_leave N mo v sC = some sC' ∧ fX9_ends N v sM = some sM' ∧ ((1 ≤ d - 1 ∧ Run mo n mk (d - 1) (d - 1) q B sC' sM') ∨ Fin mo mk sC' sM') := by
  obtain ⟨h1, h2, h3, h4, h5, h6, h7, h8, h9, h10⟩ := id h
  by_cases hd : d = 1
  · subst hd
    refine ⟨pI (pI sC 6 0 10 (nI 0)) 5 0 0 v, pI (pI sM 9 0 29 (nI 0)) 9 0 44 v, ?_, ?_, Or.inr ⟨n, B, Cor_c h1 (fun c i k z => by simp (disch := omega) only [if_pos, if_neg, pI1, pI2, pQ1, pQ2, true_and, and_true, false_and, and_false, true_or, or_true, false_or, or_false, if_true, if_false, Nat.reduceEqDiff, and_self, not_true_eq_false, not_false_eq_true]) (fun k => rfl) (fun c i k z => by simp (disch := omega) only [if_pos, if_neg, pI1, pI2, pQ1, pQ2, true_and, and_true, false_and, and_false, true_or, or_true, false_or, or_false, if_true, if_false, Nat.reduceEqDiff, and_self, not_true_eq_false, not_false_eq_true]), by simp (disch := omega) only [if_pos, if_neg, pI1, pI2, pQ1, pQ2, true_and, and_true, false_and, and_false, true_or, or_true, false_or, or_false, if_true, if_false, Nat.reduceEqDiff, and_self, not_true_eq_false, not_false_eq_true], by simp (disch := omega) only [if_pos, if_neg, pI1, pI2, pQ1, pQ2, true_and, and_true, false_and, and_false, true_or, or_true, false_or, or_false, if_true, if_false, Nat.reduceEqDiff, and_self, not_true_eq_false, not_false_eq_true]; exact h10.2.2.2.2.1, by simp (disch := omega) only [if_pos, if_neg, pI1, pI2, pQ1, pQ2, true_and, and_true, false_and, and_false, true_or, or_true, false_or, or_false, if_true, if_false, Nat.reduceEqDiff, and_self, not_true_eq_false, not_false_eq_true]; exact h10.2.2.2.2.2.1, by simp (disch := omega) only [if_pos, if_neg, pI1, pI2, pQ1, pQ2, true_and, and_true, false_and, and_false, true_or, or_true, false_or, or_false, if_true, if_false, Nat.reduceEqDiff, and_self, not_true_eq_false, not_false_eq_true]; exact h10.2.2.2.2.2.2, Or.inl ⟨by simp (disch := omega) only [if_pos, if_neg, pI1, pI2, pQ1, pQ2, true_and, and_true, false_and, and_false, true_or, or_true, false_or, or_false, if_true, if_false, Nat.reduceEqDiff, and_self, not_true_eq_false, not_false_eq_true], by simp (disch := omega) only [if_pos, if_neg, pI1, pI2, pQ1, pQ2, true_and, and_true, false_and, and_false, true_or, or_true, false_or, or_false, if_true, if_false, Nat.reduceEqDiff, and_self, not_true_eq_false, not_false_eq_true]; exact h10.2.2.1, by simp (disch := omega) only [if_pos, if_neg, pI1, pI2, pQ1, pQ2, true_and, and_true, false_and, and_false, true_or, or_true, false_or, or_false, if_true, if_false, Nat.reduceEqDiff, and_self, not_true_eq_false, not_false_eq_true]; exact h10.2.2.2.1, by simp (disch := omega) only [if_pos, if_neg, pI1, pI2, pQ1, pQ2, true_and, and_true, false_and, and_false, true_or, or_true, false_or, or_false, if_true, if_false, Nat.reduceEqDiff, and_self, not_true_eq_false, not_false_eq_true]; exact h10.1, by simp (disch := omega) only [if_pos, if_neg, pI1, pI2, pQ1, pQ2, true_and, and_true, false_and, and_false, true_or, or_true, false_or, or_false, if_true, if_false, Nat.reduceEqDiff, and_self, not_true_eq_false, not_false_eq_true]⟩⟩⟩
    · unfold fX6_leave fX6_give
      simp (disch := omega) only [h5, Nat.sub_self, nm, bd, Option.bind_some, pI1, pI2, pQ1, pQ2, li_0, li_1, li_2, li_3, li_4, li_5, li_6, li_7, li_8, li_9, li_10, li_11, li_12, li_13, li_14, li_15, li_16, li_60, li_64, li_128, li_136, li_144, li_256, li_400, li_500, li_1020, li_1024, nI_neg1, nI_clamp, nI_ltI, nI_leI, nI_eq, nI_add, pk_sub, pk_mul, pk_div, nI_nm1, nI_nm1p, Nat.add_sub_cancel, Nat.add_sub_cancel_left, false_or, or_false, true_or, or_true, not_true_eq_false, not_false_eq_true, and_true, true_and, and_false, false_and, if_true, if_false, if_pos, if_neg]
    · unfold fX9_ends
      simp (disch := omega) only [h6, Nat.sub_self, nm, bd, Option.bind_some, pI1, pI2, pQ1, pQ2, li_0, li_1, li_2, li_3, li_4, li_5, li_6, li_7, li_8, li_9, li_10, li_11, li_12, li_13, li_14, li_15, li_16, li_60, li_64, li_128, li_136, li_144, li_256, li_400, li_500, li_1020, li_1024, nI_neg1, nI_clamp, nI_ltI, nI_leI, nI_eq, nI_add, pk_sub, pk_mul, pk_div, nI_nm1, nI_nm1p, Nat.add_sub_cancel, Nat.add_sub_cancel_left, false_or, or_false, true_or, or_true, not_true_eq_false, not_false_eq_true, and_true, true_and, and_false, false_and, if_true, if_false, if_pos, if_neg]
  · obtain ⟨u, u1, u2, u3, u4⟩ := hI (d - 2) (by omega)
    rw [show d - 2 + 1 = d - 1 by omega] at u4
    have hr : Run mo n mk (d - 1) (d - 1) q B (pI sC 6 0 10 (nI (d - 1))) (pI sM 9 0 29 (nI (d - 1))) := by
      refine ⟨Cor_c h1 (fun c i k z => by simp (disch := omega) only [if_pos, if_neg, pI1, pI2, pQ1, pQ2, true_and, and_true, false_and, and_false, true_or, or_true, false_or, or_false, if_true, if_false, Nat.reduceEqDiff, and_self, not_true_eq_false, not_false_eq_true]) (fun k => rfl) (fun c i k z => by simp (disch := omega) only [if_pos, if_neg, pI1, pI2, pQ1, pQ2, true_and, and_true, false_and, and_false, true_or, or_true, false_or, or_false, if_true, if_false, Nat.reduceEqDiff, and_self, not_true_eq_false, not_false_eq_true]), FR_c h2 (fun i k z => by simp (disch := omega) only [if_pos, if_neg, pI1, pI2, pQ1, pQ2, true_and, and_true, false_and, and_false, true_or, or_true, false_or, or_false, if_true, if_false, Nat.reduceEqDiff, and_self, not_true_eq_false, not_false_eq_true]) (fun i k z1 z2 => by simp (disch := omega) only [if_pos, if_neg, pI1, pI2, pQ1, pQ2, true_and, and_true, false_and, and_false, true_or, or_true, false_or, or_false, if_true, if_false, Nat.reduceEqDiff, and_self, not_true_eq_false, not_false_eq_true]) (fun i k => by simp (disch := omega) only [if_pos, if_neg, pI1, pI2, pQ1, pQ2, true_and, and_true, false_and, and_false, true_or, or_true, false_or, or_false, if_true, if_false, Nat.reduceEqDiff, and_self, not_true_eq_false, not_false_eq_true]) (fun i k => by simp (disch := omega) only [if_pos, if_neg, pI1, pI2, pQ1, pQ2, true_and, and_true, false_and, and_false, true_or, or_true, false_or, or_false, if_true, if_false, Nat.reduceEqDiff, and_self, not_true_eq_false, not_false_eq_true]) (fun k => rfl) (fun k z => rfl) (fun i k z1 z2 z3 => by simp (disch := omega) only [if_pos, if_neg, pI1, pI2, pQ1, pQ2, true_and, and_true, false_and, and_false, true_or, or_true, false_or, or_false, if_true, if_false, Nat.reduceEqDiff, and_self, not_true_eq_false, not_false_eq_true]) (fun k z => by simp (disch := omega) only [if_pos, if_neg, pI1, pI2, pQ1, pQ2, true_and, and_true, false_and, and_false, true_or, or_true, false_or, or_false, if_true, if_false, Nat.reduceEqDiff, and_self, not_true_eq_false, not_false_eq_true]) (fun k => by simp (disch := omega) only [if_pos, if_neg, pI1, pI2, pQ1, pQ2, true_and, and_true, false_and, and_false, true_or, or_true, false_or, or_false, if_true, if_false, Nat.reduceEqDiff, and_self, not_true_eq_false, not_false_eq_true]), by omega, h4, by simp (disch := omega) only [if_pos, if_neg, pI1, pI2, pQ1, pQ2, true_and, and_true, false_and, and_false, true_or, or_true, false_or, or_false, if_true, if_false, Nat.reduceEqDiff, and_self, not_true_eq_false, not_false_eq_true], by simp (disch := omega) only [if_pos, if_neg, pI1, pI2, pQ1, pQ2, true_and, and_true, false_and, and_false, true_or, or_true, false_or, or_false, if_true, if_false, Nat.reduceEqDiff, and_self, not_true_eq_false, not_false_eq_true], by simp (disch := omega) only [if_pos, if_neg, pI1, pI2, pQ1, pQ2, true_and, and_true, false_and, and_false, true_or, or_true, false_or, or_false, if_true, if_false, Nat.reduceEqDiff, and_self, not_true_eq_false, not_false_eq_true]; exact h7, by simp (disch := omega) only [if_pos, if_neg, pI1, pI2, pQ1, pQ2, true_and, and_true, false_and, and_false, true_or, or_true, false_or, or_false, if_true, if_false, Nat.reduceEqDiff, and_self, not_true_eq_false, not_false_eq_true]; exact h8, by simp (disch := omega) only [if_pos, if_neg, pI1, pI2, pQ1, pQ2, true_and, and_true, false_and, and_false, true_or, or_true, false_or, or_false, if_true, if_false, Nat.reduceEqDiff, and_self, not_true_eq_false, not_false_eq_true]; exact h9, Out_c h10 (fun c i k z => by simp (disch := omega) only [if_pos, if_neg, pI1, pI2, pQ1, pQ2, true_and, and_true, false_and, and_false, true_or, or_true, false_or, or_false, if_true, if_false, Nat.reduceEqDiff, and_self, not_true_eq_false, not_false_eq_true]) (fun k z => by simp (disch := omega) only [if_pos, if_neg, pI1, pI2, pQ1, pQ2, true_and, and_true, false_and, and_false, true_or, or_true, false_or, or_false, if_true, if_false, Nat.reduceEqDiff, and_self, not_true_eq_false, not_false_eq_true])⟩
    obtain ⟨sC', sM', e1, e2, e3, e4⟩ := set_sim (N := N) (v := v) (u := u) (f := d - 2) hr ⟨u1, u2⟩ (by omega)
    have hd1 : d - 1 - 1 = d - 2 := by omega
    refine ⟨sC', sM', ?_, ?_, Or.inl ⟨by omega, e3⟩⟩
    · unfold fX6_leave fX6_give
      simp (disch := omega) only [h5, hd1, u3, e1, nm, bd, Option.bind_some, pI1, pI2, pQ1, pQ2, li_0, li_1, li_2, li_3, li_4, li_5, li_6, li_7, li_8, li_9, li_10, li_11, li_12, li_13, li_14, li_15, li_16, li_60, li_64, li_128, li_136, li_144, li_256, li_400, li_500, li_1020, li_1024, nI_neg1, nI_clamp, nI_ltI, nI_leI, nI_eq, nI_add, pk_sub, pk_mul, pk_div, nI_nm1, nI_nm1p, Nat.add_sub_cancel, Nat.add_sub_cancel_left, false_or, or_false, true_or, or_true, not_true_eq_false, not_false_eq_true, and_true, true_and, and_false, false_and, if_true, if_false, if_pos, if_neg]
    · unfold fX9_ends
      simp (disch := omega) only [h6, u4, e2, nm, bd, Option.bind_some, pI1, pI2, pQ1, pQ2, li_0, li_1, li_2, li_3, li_4, li_5, li_6, li_7, li_8, li_9, li_10, li_11, li_12, li_13, li_14, li_15, li_16, li_60, li_64, li_128, li_136, li_144, li_256, li_400, li_500, li_1020, li_1024, nI_neg1, nI_clamp, nI_ltI, nI_leI, nI_eq, nI_add, pk_sub, pk_mul, pk_div, nI_nm1, nI_nm1p, Nat.add_sub_cancel, Nat.add_sub_cancel_left, false_or, or_false, true_or, or_true, not_true_eq_false, not_false_eq_true, and_true, true_and, and_false, false_and, if_true, if_false, if_pos, if_neg]
theorem m_madeL {N n f : Nat} {sM : xSt} (hn : n ≤ 20) (hf : f < 12) (h6 : sM.1 9 0 6 = nI n) (hd : sM.1 9 0 29 = nI (f + 1)) : ∀ d i fuel, i + d = n → d < fuel → (∃ x, i ≤ x ∧ x < n ∧ sM.1 30 9 x = sM.1 30 36 f ∧ fX9_isMade_b2 N fuel (nI i) sM = some (nI 1, sM)) ∨ ((∀ x, i ≤ x → x < n → sM.1 30 9 x ≠ sM.1 30 36 f) ∧ fX9_isMade_b2 N fuel (nI i) sM = some (nI 0, sM)) := by
  intro d
  induction d with
  | zero =>
    intro i fuel h1 h2
    obtain ⟨fuel, rfl⟩ : ∃ z, fuel = z + 1 := ⟨fuel - 1, by omega⟩
    refine Or.inr ⟨fun x z1 z2 => by omega, ?_⟩
    unfold fX9_isMade_b2
    rw [h6, if_pos (nI_le (by omega) (by omega))]
    rfl
  | succ d ih =>
    intro i fuel h1 h2
    obtain ⟨fuel, rfl⟩ : ∃ z, fuel = z + 1 := ⟨fuel - 1, by omega⟩
    have hst : fX9_isMade_b2 N (fuel + 1) (nI i) sM = if sM.1 30 9 i = sM.1 30 36 f then some (1, sM) else fX9_isMade_b2 N fuel (nI (i + 1)) sM := by
      rw [fX9_isMade_b2, h6, if_neg (nI_ge (by omega) (by omega)), if_neg (nI_in (c := i) (N := 21) (by omega) (by omega)), hd, nI_pred, if_neg (nI_in (c := f) (N := 12) (by omega) (by omega)), nI_clamp (by omega), nI_clamp (by omega)]
      simp only [nm]
      rw [nI_1]
    rw [hst]
    by_cases e : sM.1 30 9 i = sM.1 30 36 f
    · rw [if_pos e]
      exact Or.inl ⟨i, Nat.le_refl _, by omega, e, rfl⟩
    · rw [if_neg e]
      rcases ih (i + 1) fuel (by omega) (by omega) with ⟨x, x1, x2, x3⟩ | ⟨y1, y2⟩
      · exact Or.inl ⟨x, by omega, x2, x3⟩
      · refine Or.inr ⟨fun x z1 z2 => ?_, y2⟩
        by_cases hx : x = i
        · rw [hx]; exact e
        · exact y1 x (by omega) z2
theorem made_sim {N mo n f : Nat} {B : Nat → Nat} {sC sM : xSt} (hN : 30 < N) (hS : SR mo n sC sM) (hf : f < 12) (hq : sC.2 1 f ≤ mo + 1) (hF : F1r n B sC sM f) (hd : sM.1 9 0 29 = nI (f + 1)) : (∃ k, k < n ∧ sC.2 1 f = sC.2 0 k + 1 ∧ fX1_goesByMade N mo f sC = some (nI 1, sC) ∧ fX9_isMade N sM = some (nI 1, sM)) ∨ ((∀ k, k < n → sC.2 1 f ≠ sC.2 0 k + 1) ∧ fX1_goesByMade N mo f sC = some (nI 0, sC) ∧ fX9_isMade N sM = some (nI 0, sM)) := by
  obtain ⟨s1, s2, s3, s4, s5, s6, s7, s8, s9, s10⟩ := hS
  have hm : fX9_isMade N sM = fX9_isMade_b2 N N (nI 0) sM := rfl
  rcases m_madeL (N := N) (n := n) (f := f) (sM := sM) (by omega) hf s6 hd n 0 N (by omega) (by omega) with ⟨x, x1, x2, x3, x4⟩ | ⟨y1, y2⟩
  · have hx := ((hF x x2).1).mp x3
    obtain ⟨_, sz, r, l1, l2, l3, l4, l5, l6⟩ := (hF x x2).2 hx
    refine Or.inl ⟨x, x2, hx, ?_, by rw [hm]; exact x4⟩
    have hmin : min (sC.2 0 x + 1 - 1) mo = sC.2 0 x := by rw [Nat.add_sub_cancel]; exact Nat.min_eq_left (s7 _ (by omega))
    have hk := (s9 x x2).1
    unfold fX1_goesByMade
    rw [hx, hmin, hk, l1, l4, if_neg (by omega), if_neg (by omega), if_neg (by decide), if_neg (nI_pos (by omega)), if_neg (by omega), if_neg (nI_ge (by omega) (by omega))]
    rfl
  · have hno : ∀ k, k < n → sC.2 1 f ≠ sC.2 0 k + 1 := fun k hk z => y1 k (by omega) hk (((hF k hk).1).mpr z)
    refine Or.inr ⟨hno, ?_, by rw [hm]; exact y2⟩
    unfold fX1_goesByMade
    by_cases h0 : sC.2 1 f = 0
    · rw [if_pos h0]; rfl
    · have hz : sC.1 3 (min (sC.2 1 f - 1) mo) 3 = 0 := by
        rw [Nat.min_eq_left (by omega)]
        rcases s10 (sC.2 1 f - 1) (by omega) with z | ⟨k, k1, k2⟩
        · exact z
        · exact absurd (show sC.2 1 f = sC.2 0 k + 1 by omega) (hno k k1)
      rw [if_neg h0, if_neg h0, hz, if_pos rfl]
      rfl
