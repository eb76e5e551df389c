theorem find_sim {N mo n : Nat} {a : Int32} {sC sM : xSt} (h : SR mo n sC sM) : ∀ d k fC fM, k + d = n → d < fC → d < fM → (∃ x, k ≤ x ∧ x < n ∧ sM.1 30 7 x = a ∧ fX7_find_b2 N mo fC a (nI k) sC = some (sC.2 0 x + 1, sC) ∧ fX9_keptOf_b2 N fM a (nI k) sM = some (nI x, sM)) ∨ ((∀ x, k ≤ x → x < n → sM.1 30 7 x ≠ a) ∧ fX7_find_b2 N mo fC a (nI k) sC = some (0, sC) ∧ fX9_keptOf_b2 N fM a (nI k) sM = some (-1, sM)) := by
  obtain ⟨s1, s2, s3, s4, s5, s6, s7, s8, s9, s10⟩ := h
  intro d
  induction d with
  | zero =>
    intro k fC fM h1 h2 h3
    obtain ⟨fC, rfl⟩ : ∃ z, fC = z + 1 := ⟨fC - 1, by omega⟩
    obtain ⟨fM, rfl⟩ : ∃ z, fM = z + 1 := ⟨fM - 1, by omega⟩
    refine Or.inr ⟨fun x z1 z2 => by omega, ?_, ?_⟩
    · unfold fX7_find_b2
      rw [s4, if_pos (nI_le (by omega) (by omega))]
    · unfold fX9_keptOf_b2
      rw [s6, if_pos (nI_le (by omega) (by omega))]
  | succ d ih =>
    intro k fC fM h1 h2 h3
    obtain ⟨fC, rfl⟩ : ∃ z, fC = z + 1 := ⟨fC - 1, by omega⟩
    obtain ⟨fM, rfl⟩ : ∃ z, fM = z + 1 := ⟨fM - 1, by omega⟩
    have hmin : min (sC.2 0 k) mo = sC.2 0 k := Nat.min_eq_left (s7 _ (by omega))
    have had := (s9 k (by omega)).2.1
    have stepC : fX7_find_b2 N mo (fC + 1) a (nI k) sC = if sM.1 30 7 k = a then some (sC.2 0 k + 1, sC) else fX7_find_b2 N mo fC a (nI (k + 1)) sC := by
      rw [fX7_find_b2, s4, if_neg (nI_ge (by omega) (by omega)), if_neg (nI_in (c := k) (N := mo + 1) (by omega) (by omega))]
      simp only [nm]
      have hin : ¬ (nI k < 0 ∨ mo + 1 ≤ k) := fun z => z.elim (nI_pos (by omega)) (by omega)
      rw [nI_clamp (by omega), hmin, had, if_neg hin, nI_1]
    have stepM : fX9_keptOf_b2 N (fM + 1) a (nI k) sM = if sM.1 30 7 k = a then some (nI k, sM) else fX9_keptOf_b2 N fM a (nI (k + 1)) sM := by
      rw [fX9_keptOf_b2, s6, if_neg (nI_ge (by omega) (by omega)), if_neg (nI_in (c := k) (N := 21) (by omega) (by omega)), nI_clamp (by omega)]
      simp only [nm]
      rw [nI_1]
    rw [stepC, stepM]
    by_cases e : sM.1 30 7 k = a
    · rw [if_pos e, if_pos e]
      exact Or.inl ⟨k, Nat.le_refl _, by omega, e, rfl, rfl⟩
    · rw [if_neg e, if_neg e]
      rcases ih (k + 1) fC fM (by omega) (by omega) (by omega) with ⟨x, x1, x2, x3⟩ | ⟨y1, y2⟩
      · exact Or.inl ⟨x, by omega, x2, x3⟩
      · refine Or.inr ⟨fun x z1 z2 => ?_, y2⟩
        by_cases hx : x = k
        · rw [hx]; exact e
        · exact y1 x (by omega) z2
theorem SR_d {mo n j : Nat} {sC sC' sM sM' : xSt} (h : SR mo n sC sM) (hj : ∀ k, k < n → sC.2 0 k ≠ j) (h1 : ∀ i k, i ≠ j → sC'.1 3 i k = sC.1 3 i k) (h13 : sC'.1 3 j 3 = sC.1 3 j 3) (h2 : ∀ k, sC'.1 7 0 k = sC.1 7 0 k) (h3 : ∀ k, sC'.2 0 k = sC.2 0 k) (m1 : sM'.1 9 0 5 = sM.1 9 0 5) (m2 : sM'.1 9 0 6 = sM.1 9 0 6) (m3 : ∀ k, sM'.1 30 7 k = sM.1 30 7 k) (m4 : ∀ k, sM'.1 30 8 k = sM.1 30 8 k) : SR mo n sC' sM' := by
  obtain ⟨s1, s2, s3, s4, s5, s6, s7, s8, s9, s10⟩ := h
  refine ⟨s1, s2, by rw [h2]; exact s3, by rw [h2]; exact s4, by rw [m1]; exact s5, by rw [m2]; exact s6, fun k hk => by rw [h3]; exact s7 k hk, fun k l hk hl e => by rw [h3, h3] at e; exact s8 k l hk hl e, fun k hk => ?_, fun i hi => ?_⟩
  · rw [h3, m3, m4, h1 _ _ (hj k hk), h1 _ _ (hj k hk), h1 _ _ (hj k hk), h1 _ _ (hj k hk)]
    exact s9 k hk
  · have e : sC'.1 3 i 3 = sC.1 3 i 3 := by
      by_cases hij : i = j
      · rw [hij]; exact h13
      · exact h1 i 3 hij
    rw [e]
    rcases s10 i hi with z | ⟨k, k1, k2⟩
    · exact Or.inl z
    · exact Or.inr ⟨k, k1, by rw [h3]; exact k2⟩
theorem KR_d {n j : Nat} {B : Nat → Nat} {sC sC' sM sM' : xSt} (h : KR n B sC sM) (hj : ∀ k, k < n → sC.2 0 k ≠ j) (h1 : ∀ i k, i ≠ j → sC'.1 3 i k = sC.1 3 i k) (h2 : ∀ i k, i ≠ j → sC'.1 22 i k = sC.1 22 i k) (h3 : ∀ k, sC'.2 0 k = sC.2 0 k) (m3 : ∀ k, sM'.1 30 7 k = sM.1 30 7 k) (m4 : ∀ k, sM'.1 30 8 k = sM.1 30 8 k) : KR n B sC' sM' := by
  intro k hk
  have h2' : sC'.1 22 (sC.2 0 k) = sC.1 22 (sC.2 0 k) := funext fun k' => h2 _ k' (hj k hk)
  rw [h3, m3, m4, h1 _ _ (hj k hk), h2']
  exact h k hk
/-- one more is kept -/
theorem keep_add {N mo n mk a e j : Nat} {B : Nat → Nat} {sC sM : xSt} (h : Cor mo n mk B sC sM) (hn : n < mo) (hj : sC.2 0 n = j) (hmk : mk < 600) (ha : a ≤ 1020) (c2 : sC.1 3 j 2 = nI a) (c4 : sC.1 3 j 4 = nI (a / 64)) (c5 : sC.1 3 j 5 = nI (e / 64)) (hr : Rw B (sC.1 3 j 1) (sC.1 22 j) a e) (sz : Nat) (hsz : 1 ≤ sz ∧ sz ≤ 60) (m27 : sM.1 9 0 27 = nI sz) (m25 : nI a + sM.1 30 25 (sz - 1) = nI e) :
    ∃ sC' sM', fX7_keepDraft_b16 N mo sC = some sC' ∧ fX9_make_b88 N (nI a) sM = some (nI sz, sM') ∧ Cor mo (n + 1) (mk + 1) B sC' sM' ∧ (∀ c i k, c = 5 ∨ (c = 20 ∧ i = 0 ∧ k = 6) ∨ (c = 3 ∧ k = 1) → sC'.1 c i k = sC.1 c i k) ∧ (∀ k, k = 17 ∨ 40 ≤ k → sM'.1 9 0 k = sM.1 9 0 k) := by
  obtain ⟨⟨s1, s2, s3, s4, s5, s6, s7, s8, s9, s10⟩, ⟨n1, n2, n3⟩, hMm, ⟨k1, k2, k3, k4, k5, k6, k7⟩, ⟨o1, o2, o3, o4⟩, hK⟩ := h
  have hmin : min (sC.2 0 n) mo = j := by rw [hj]; exact Nat.min_eq_left (by rw [← hj]; exact s7 _ (by omega))
  have hjk : ∀ k, k < n → sC.2 0 k ≠ j := fun k hk e => by
    have := s8 k n (by omega) (by omega) (by rw [e, hj])
    omega
  have hjm : j ≤ mo := by rw [← hj]; exact s7 _ (by omega)
  have eC : fX7_keepDraft_b16 N mo sC = some (pI (pI (pI sC 3 j 3 (nI 1)) 7 0 3 (nI (n + 1))) 20 0 0 (sC.1 20 0 0 + nI 1)) := by
    unfold fX7_keepDraft_b16
    simp (disch := omega) only [s4, hmin, nm, bd, Option.bind_some, pI1, pI2, pQ1, pQ2, li_0, li_1, li_2, li_3, li_4, li_5, li_6, li_7, li_8, li_9, li_10, li_11, li_12, li_13, li_14, li_15, li_16, li_60, li_64, li_128, li_136, li_144, li_256, li_400, li_500, li_1020, li_1024, nI_neg1, nI_clamp, nI_ltI, nI_leI, nI_eq, nI_add, pk_sub, pk_mul, pk_div, nI_nm1, nI_nm1p, Nat.add_sub_cancel, Nat.add_sub_cancel_left, false_or, or_false, true_or, or_true, not_true_eq_false, not_false_eq_true, and_true, true_and, and_false, false_and, if_true, if_false, if_pos, if_neg]
  have eM : fX9_make_b88 N (nI a) sM = some (nI sz, pI (pI (pI (pI (pI sM 30 7 n (nI a)) 30 8 n (nI e)) 30 9 n (nI mk)) 9 0 6 (nI (n + 1))) 9 0 11 (nI (mk + 1))) := by
    unfold fX9_make_b88
    simp (disch := omega) only [s6, m27, m25, n1, nm, bd, Option.bind_some, pI1, pI2, pQ1, pQ2, li_0, li_1, li_2, li_3, li_4, li_5, li_6, li_7, li_8, li_9, li_10, li_11, li_12, li_13, li_14, li_15, li_16, li_60, li_64, li_128, li_136, li_144, li_256, li_400, li_500, li_1020, li_1024, nI_neg1, nI_clamp, nI_ltI, nI_leI, nI_eq, nI_add, pk_sub, pk_mul, pk_div, nI_nm1, nI_nm1p, Nat.add_sub_cancel, Nat.add_sub_cancel_left, false_or, or_false, true_or, or_true, not_true_eq_false, not_false_eq_true, and_true, true_and, and_false, false_and, if_true, if_false, if_pos, if_neg]
  generalize hC : pI (pI (pI sC 3 j 3 (nI 1)) 7 0 3 (nI (n + 1))) 20 0 0 (sC.1 20 0 0 + nI 1) = sC' at eC
  generalize hM : pI (pI (pI (pI (pI sM 30 7 n (nI a)) 30 8 n (nI e)) 30 9 n (nI mk)) 9 0 6 (nI (n + 1))) 9 0 11 (nI (mk + 1)) = sM' at eM
  have fC : ∀ c i k, ¬ (c = 3 ∧ i = j ∧ k = 3) → ¬ (c = 7 ∧ i = 0 ∧ k = 3) → ¬ (c = 20 ∧ i = 0 ∧ k = 0) → sC'.1 c i k = sC.1 c i k := fun c i k z1 z2 z3 => by
    rw [← hC, pI1, if_neg (by omega), pI1, if_neg (by omega), pI1, if_neg (by omega)]
  have fQ : ∀ a k, sC'.2 a k = sC.2 a k := fun a k => by rw [← hC]; rfl
  have fM : ∀ c i k, ¬ (c = 30 ∧ (i = 7 ∨ i = 8 ∨ i = 9) ∧ k = n) → ¬ (c = 9 ∧ i = 0 ∧ (k = 6 ∨ k = 11)) → sM'.1 c i k = sM.1 c i k := fun c i k z1 z2 => by
    rw [← hM, pI1, if_neg (by omega), pI1, if_neg (by omega), pI1, if_neg (by omega), pI1, if_neg (by omega), pI1, if_neg (by omega)]
  have g3 : sC'.1 3 j 3 = nI 1 := by rw [← hC]; simp (disch := omega) only [if_pos, if_neg, pI1, pI2, pQ1, pQ2, true_and, and_true, false_and, and_false, true_or, or_true, false_or, or_false, if_true, if_false, Nat.reduceEqDiff, and_self, not_true_eq_false, not_false_eq_true]
  have g7 : sM'.1 30 7 n = nI a := by rw [← hM]; simp (disch := omega) only [if_pos, if_neg, pI1, pI2, pQ1, pQ2, true_and, and_true, false_and, and_false, true_or, or_true, false_or, or_false, if_true, if_false, Nat.reduceEqDiff, and_self, not_true_eq_false, not_false_eq_true]
  have g8 : sM'.1 30 8 n = nI e := by rw [← hM]; simp (disch := omega) only [if_pos, if_neg, pI1, pI2, pQ1, pQ2, true_and, and_true, false_and, and_false, true_or, or_true, false_or, or_false, if_true, if_false, Nat.reduceEqDiff, and_self, not_true_eq_false, not_false_eq_true]
  have g9 : sM'.1 30 9 n = nI mk := by rw [← hM]; simp (disch := omega) only [if_pos, if_neg, pI1, pI2, pQ1, pQ2, true_and, and_true, false_and, and_false, true_or, or_true, false_or, or_false, if_true, if_false, Nat.reduceEqDiff, and_self, not_true_eq_false, not_false_eq_true]
  have h22 : sC'.1 22 = sC.1 22 := funext fun i => funext fun k => fC 22 i k (by omega) (by omega) (by omega)
  have e64 : ∀ x, x < 2000 → nI x / (64 : Int32) = nI (x / 64) := fun x hx => pk_div (d := 64) (by omega) (by omega) (by omega)
  refine ⟨sC', sM', eC, eM, ⟨⟨by omega, s2, ?_, ?_, ?_, ?_, fun k hk => ?_, fun k l hk hl e => ?_, fun k hk => ?_, fun i hi => ?_⟩, ⟨?_, fun k hk => ?_, fun k l hk hl e => ?_⟩, fun k hk => ?_, ⟨?_, ?_, ?_, ?_, ?_, ?_, ?_⟩, ⟨fun k hk => ?_, fun k hk => ?_, fun k hk => ?_, ?_⟩, fun k hk => ?_⟩, fun c i k z => fC _ _ _ (by omega) (by omega) (by omega), fun k z => fM _ _ _ (by omega) (by omega)⟩
  · rw [fC _ _ _ (by omega) (by omega) (by omega)]; exact s3
  · rw [← hC]; simp (disch := omega) only [if_pos, if_neg, pI1, pI2, pQ1, pQ2, true_and, and_true, false_and, and_false, true_or, or_true, false_or, or_false, if_true, if_false, Nat.reduceEqDiff, and_self, not_true_eq_false, not_false_eq_true]
  · rw [fM _ _ _ (by omega) (by omega)]; exact s5
  · rw [← hM]; simp (disch := omega) only [if_pos, if_neg, pI1, pI2, pQ1, pQ2, true_and, and_true, false_and, and_false, true_or, or_true, false_or, or_false, if_true, if_false, Nat.reduceEqDiff, and_self, not_true_eq_false, not_false_eq_true]
  · rw [fQ]; exact s7 k hk
  · rw [fQ, fQ] at e; exact s8 k l hk hl e
  · by_cases hkn : k = n
    · subst hkn
      rw [fQ, hj, g7, g8, fC 3 j 2 (by omega) (by omega) (by omega), fC 3 j 4 (by omega) (by omega) (by omega), fC 3 j 5 (by omega) (by omega) (by omega), e64 a (by omega), e64 e (by have := hr.2.2.1; omega)]
      exact ⟨g3, c2, c4, c5⟩
    · have hne := hjk k (by omega)
      rw [fQ, fM 30 7 k (by omega) (by omega), fM 30 8 k (by omega) (by omega), fC _ _ _ (by omega) (by omega) (by omega), fC _ _ _ (by omega) (by omega) (by omega), fC _ _ _ (by omega) (by omega) (by omega), fC _ _ _ (by omega) (by omega) (by omega)]
      exact s9 k (by omega)
  · by_cases hij : i = j
    · exact Or.inr ⟨n, by omega, by rw [fQ, hij]; exact hj⟩
    · rw [fC _ _ _ (by omega) (by omega) (by omega)]
      rcases s10 i hi with z | ⟨k, z1, z2⟩
      · exact Or.inl z
      · exact Or.inr ⟨k, by omega, by rw [fQ]; exact z2⟩
  · rw [← hM]; simp (disch := omega) only [if_pos, if_neg, pI1, pI2, pQ1, pQ2, true_and, and_true, false_and, and_false, true_or, or_true, false_or, or_false, if_true, if_false, Nat.reduceEqDiff, and_self, not_true_eq_false, not_false_eq_true]
  · by_cases hkn : k = n
    · subst hkn
      exact ⟨mk, by omega, g9⟩
    · obtain ⟨u, u1, u2⟩ := n2 k (by omega)
      refine ⟨u, by omega, ?_⟩
      rw [fM 30 9 k (by omega) (by omega)]; exact u2
  · have lt : ∀ x, x < n → ¬ nI mk = sM.1 30 9 x := fun x hx z => by
      obtain ⟨u, u1, u2⟩ := n2 x hx
      rw [u2, nI_eq (by omega) (by omega)] at z
      omega
    by_cases hkn : k = n
    · by_cases hln : l = n
      · omega
      · rw [hkn, g9, fM 30 9 l (by omega) (by omega)] at e
        exact absurd e (lt l (by omega))
    · by_cases hln : l = n
      · rw [hln, g9, fM 30 9 k (by omega) (by omega)] at e
        exact absurd e.symm (lt k (by omega))
      · rw [fM 30 9 k (by omega) (by omega), fM 30 9 l (by omega) (by omega)] at e
        exact n3 k l (by omega) (by omega) e
  · rw [fC 20 3 k (by omega) (by omega) (by omega), fM 30 1 k (by omega) (by omega)]; exact hMm k hk
  · rw [← hC, ← hM]; simp (disch := omega) only [if_pos, if_neg, pI1, pI2, pQ1, pQ2, true_and, and_true, false_and, and_false, true_or, or_true, false_or, or_false, if_true, if_false, Nat.reduceEqDiff, and_self, not_true_eq_false, not_false_eq_true]; rw [k1, n1, nI_add]
  · rw [fC _ _ _ (by omega) (by omega) (by omega), fM _ _ _ (by omega) (by omega)]; exact k2
  · rw [fC _ _ _ (by omega) (by omega) (by omega), fM _ _ _ (by omega) (by omega)]; exact k3
  · rw [fC _ _ _ (by omega) (by omega) (by omega), fM _ _ _ (by omega) (by omega)]; exact k4
  · rw [fC _ _ _ (by omega) (by omega) (by omega), fM _ _ _ (by omega) (by omega)]; exact k5
  · rw [fC _ _ _ (by omega) (by omega) (by omega), fM _ _ _ (by omega) (by omega)]; exact k6
  · rw [fC _ _ _ (by omega) (by omega) (by omega), fM _ _ _ (by omega) (by omega)]; exact k7
  · rw [fC _ _ _ (by omega) (by omega) (by omega), fM _ _ _ (by omega) (by omega)]; exact o1 k hk
  · rw [fC _ _ _ (by omega) (by omega) (by omega), fM _ _ _ (by omega) (by omega)]; exact o2 k hk
  · rw [fC _ _ _ (by omega) (by omega) (by omega), fM _ _ _ (by omega) (by omega)]; exact o3 k hk
  · rw [fC _ _ _ (by omega) (by omega) (by omega), fM _ _ _ (by omega) (by omega)]; exact o4
  · by_cases hkn : k = n
    · subst hkn
      refine ⟨a, e, g7, g8, ?_⟩
      rw [fQ, hj, fC 3 j 1 (by omega) (by omega) (by omega), h22]
      exact hr
    · rw [fQ, fM 30 7 k (by omega) (by omega), fM 30 8 k (by omega) (by omega), fC _ _ _ (by omega) (by omega) (by omega), h22]
      exact hK k (by omega)
theorem Cor_d {mo n mk j : Nat} {B : Nat → Nat} {sC sC' sM sM' : xSt} (h : Cor mo n mk B sC sM) (hj : sC.2 0 n = j) (hC : ∀ c i k, ¬ (c = 22 ∧ i = j) → ¬ (c = 3 ∧ i = j ∧ k ≠ 3) → ¬ (c = 8 ∧ i = 0 ∧ k = 6) → sC'.1 c i k = sC.1 c i k) (hQ : sC'.2 = sC.2) (hM : ∀ c i k, ¬ (c = 9 ∧ i = 0 ∧ (k = 0 ∨ k = 10 ∨ (19 ≤ k ∧ k ≤ 27))) → ¬ (c = 30 ∧ (i = 22 ∨ i = 25 ∨ i = 26)) → sM'.1 c i k = sM.1 c i k) (hp : sC'.1 8 0 6 = sM'.1 9 0 10) : Cor mo n mk B sC' sM' := by
  obtain ⟨hS, hR, hMm, ⟨k1, k2, k3, k4, k5, k6, k7⟩, ⟨o1, o2, o3, o4⟩, hK⟩ := h
  have hjk : ∀ k, k < n → sC.2 0 k ≠ j := fun k hk e => by
    have := hS.2.2.2.2.2.2.2.1 k n (by have := hS.1; omega) (by have := hS.1; omega) (by rw [e, hj])
    omega
  refine ⟨SR_d hS hjk (fun i k hi => hC _ _ _ (by omega) (by omega) (by omega)) (hC _ _ _ (by omega) (by omega) (by omega)) (fun k => hC _ _ _ (by omega) (by omega) (by omega)) (fun k => by rw [hQ]) (hM _ _ _ (by omega) (by omega)) (hM _ _ _ (by omega) (by omega)) (fun k => hM _ _ _ (by omega) (by omega)) (fun k => hM _ _ _ (by omega) (by omega)), NR_c hR (hM _ _ _ (by omega) (by omega)) (fun k => hM _ _ _ (by omega) (by omega)), fun k hk => ?_, ⟨?_, ?_, ?_, ?_, ?_, ?_, ?_⟩, ⟨fun k hk => ?_, fun k hk => ?_, fun k hk => ?_, hp⟩, KR_d hK hjk (fun i k hi => hC _ _ _ (by omega) (by omega) (by omega)) (fun i k hi => hC _ _ _ (by omega) (by omega) (by omega)) (fun k => by rw [hQ]) (fun k => hM _ _ _ (by omega) (by omega)) (fun k => hM _ _ _ (by omega) (by omega))⟩
  · rw [hC 20 3 k (by omega) (by omega) (by omega), hM 30 1 k (by omega) (by omega)]; exact hMm k hk
  · rw [hC _ _ _ (by omega) (by omega) (by omega), hM _ _ _ (by omega) (by omega)]; exact k1
  · rw [hC _ _ _ (by omega) (by omega) (by omega), hM _ _ _ (by omega) (by omega)]; exact k2
  · rw [hC _ _ _ (by omega) (by omega) (by omega), hM _ _ _ (by omega) (by omega)]; exact k3
  · rw [hC _ _ _ (by omega) (by omega) (by omega), hM _ _ _ (by omega) (by omega)]; exact k4
  · rw [hC _ _ _ (by omega) (by omega) (by omega), hM _ _ _ (by omega) (by omega)]; exact k5
  · rw [hC _ _ _ (by omega) (by omega) (by omega), hM _ _ _ (by omega) (by omega)]; exact k6
  · rw [hC _ _ _ (by omega) (by omega) (by omega), hM _ _ _ (by omega) (by omega)]; exact k7
  · rw [hC _ _ _ (by omega) (by omega) (by omega), hM _ _ _ (by omega) (by omega)]; exact o1 k hk
  · rw [hC _ _ _ (by omega) (by omega) (by omega), hM _ _ _ (by omega) (by omega)]; exact o2 k hk
  · rw [hC _ _ _ (by omega) (by omega) (by omega), hM _ _ _ (by omega) (by omega)]; exact o3 k hk
section CM
variable {N mo x n j b : Nat} {v : Int32} {sC sC' : xSt}
theorem c_mk0 (hx : x < 2 ^ 31) (h : ¬ isAd x) : fX8_make N mo (nI x) sC = some (-2, pI sC 8 0 6 (-1)) := by
  unfold fX8_make
  simp only [nm]
  rw [c_addr hx, if_neg h]
  rfl
theorem c_mk1 (h : isAd x) (hb : 8 < b ∧ b < 256) (hB : sC.1 20 3 x = nI b) : fX8_make N mo (nI x) sC = some (-2, pI sC 8 0 6 (-1)) := by
  have hB' : (pI sC 8 0 6 (-1)).1 20 3 x = nI b := by rw [pI1, if_neg (by omega)]; exact hB
  unfold fX8_make fX3_hasRoutine
  simp only [nm]
  rw [c_addr (by omega), if_pos h]
  simp only [bd]
  rw [if_neg (by decide), if_neg (nI_in (c := x) (N := 1024) (by omega) (by omega)), nI_clamp (by omega), hB', if_pos (show (8 : Int32) < nI b from nI_lt (a := 8) (by omega) (by omega))]
  rfl
theorem c_mk2 (h : isAd x) (hb : b ≤ 8) (hB : sC.1 20 3 x = nI b) (h7 : sC.1 7 0 3 = nI n) (hn : n ≤ mo ∧ mo ≤ 20) (hmin : min (sC.2 0 n) mo = j) (hj : j ≤ mo) (hr : fX2_readAhead N mo j (nI x) (pI sC 8 0 6 (-1)) = some (v, sC')) : fX8_make N mo (nI x) sC = (if v = (-1 : Int32) then bd (fX7_find N mo (nI x) (pI sC' 8 0 6 v)) (fun v21 st19 => if v21 = 0 then if (st19.1 7 0 0) = (0 : Int32) then some ((-3 : Int32), st19) else Option.bind (fX7_keepDraft N mo st19) (fun st24 => some ((st24.1 3 j 1), st24)) else some ((-4 : Int32), st19)) else some ((-2 : Int32), pI sC' 8 0 6 v)) := by
  have hB' : (pI sC 8 0 6 (-1)).1 20 3 x = nI b := by rw [pI1, if_neg (by omega)]; exact hB
  have h7' : (pI sC 8 0 6 (-1)).1 7 0 3 = nI n := by rw [pI1, if_neg (by omega)]; exact h7
  have hv : (pI sC' 8 0 6 v).1 8 0 6 = v := by rw [pI1, if_pos (by omega)]
  unfold fX8_make fX3_hasRoutine fX7_draft
  simp only [nm]
  rw [c_addr (by omega), if_pos h]
  simp only [bd]
  rw [if_neg (by decide), if_neg (nI_in (c := x) (N := 1024) (by omega) (by omega)), nI_clamp (by omega), hB', if_neg (show ¬ (8 : Int32) < nI b from nI_nlt (a := 8) (by omega) (by omega))]
  simp only []
  rw [if_neg (by decide), h7', if_neg (nI_in (c := n) (N := mo + 1) (by omega) (by omega)), nI_clamp (by omega), pI2, hmin]
  simp only []
  rw [if_neg (by omega), Nat.add_sub_cancel, Nat.min_eq_left hj, hr]
  simp only []
  rw [hv]
end CM
section MM
variable {N mo x n b : Nat} {v : Int32} {sM sM' : xSt}
theorem m_mk0 (hx : x < 2 ^ 31) (h : ¬ isAd x) : fX9_make N (nI x) sM = some (-2, pI (pI sM 9 0 0 0) 9 0 10 (-1)) := by
  unfold fX9_make
  simp only [nm]
  rw [m_addr hx, if_neg h]
  rfl
theorem m_mk1 (h : isAd x) (hb : 8 < b ∧ b < 256) (hB : sM.1 30 1 x = nI b) : fX9_make N (nI x) sM = some (-2, pI (pI sM 9 0 0 0) 9 0 10 (-1)) := by
  have hB' : (pI (pI sM 9 0 0 0) 9 0 10 (-1)).1 30 1 x = nI b := by rw [pI1, if_neg (by omega), pI1, if_neg (by omega)]; exact hB
  unfold fX9_make
  simp only [nm]
  rw [m_addr (by omega), if_pos h]
  simp only [bd]
  rw [if_neg (by decide), if_neg (nI_in (c := x) (N := 1024) (by omega) (by omega)), nI_clamp (by omega), hB', if_neg (show ¬ nI b ≤ (8 : Int32) from nI_ge (b := b) (a := 8) (by omega) (by omega))]
theorem m_mk2 (h : isAd x) (hb : b ≤ 8) (hB : sM.1 30 1 x = nI b) (hr : fX9_failsAt N (nI x) (pI (pI sM 9 0 0 0) 9 0 10 (-1)) = some (v, sM')) : fX9_make N (nI x) sM = (if v = (-1 : Int32) then bd (fX9_keptOf N (nI x) sM') (fun v15 st13 => if v15 = (-1 : Int32) then if (st13.1 9 0 5) = (0 : Int32) then some ((-3 : Int32), st13) else if (st13.1 9 0 6) = (st13.1 9 0 5) then Option.bind (fX9_away N (0 : Int32) st13) (fun st19 => fX9_make_b88 N (nI x) st19) else fX9_make_b88 N (nI x) st13 else some ((-4 : Int32), st13)) else some ((-2 : Int32), pI sM' 9 0 10 v)) := by
  have hB' : (pI (pI sM 9 0 0 0) 9 0 10 (-1)).1 30 1 x = nI b := by rw [pI1, if_neg (by omega), pI1, if_neg (by omega)]; exact hB
  unfold fX9_make
  simp only [nm]
  rw [m_addr (by omega), if_pos h]
  simp only [bd]
  rw [if_neg (by decide), if_neg (nI_in (c := x) (N := 1024) (by omega) (by omega)), nI_clamp (by omega), hB', if_pos (show nI b ≤ (8 : Int32) from nI_le (b := 8) (by omega) (by omega)), hr]
end MM
set_option maxHeartbeats 4000000 in
theorem op_make {N mo t : Nat} {sC sM : xSt} (hN : 200 < N) (ht : t < 512) (h : Sim mo t sC sM) (a : Int32) : ∃ r sC' sM', fX8_make N mo a sC = some (r, sC') ∧ fX9_make N a sM = some (r, sM') ∧ Sim mo (t + 1) sC' sM' := by
  obtain ⟨n, mk, B, h1, h2, h3, h4, h5, h6, h7⟩ := h
  have hS := h2.1
  have hMm := h2.2.2.1
  have hB : ∀ k, k < 1024 → B k < 256 := fun k hk => (hMm k hk).1
  have nomo : Sim mo (t + 1) (pI sC 8 0 6 (-1)) (pI (pI sM 9 0 0 0) 9 0 10 (-1)) := by
    refine ⟨n, mk, B, by omega, Cor_d h2 rfl (fun c i k z1 z2 z3 => by rw [pI1, if_neg (by omega)]) rfl (fun c i k z1 z2 => by rw [pI1, if_neg (by omega), pI1, if_neg (by omega)]) (by simp (disch := omega) only [if_pos, if_neg, pI1, pI2, pQ1, pQ2, true_and, and_true, false_and, and_false, true_or, or_true, false_or, or_false, if_true, if_false, Nat.reduceEqDiff, and_self, not_true_eq_false, not_false_eq_true]), ?_, ?_, ?_, ?_, ?_⟩
    · simp (disch := omega) only [if_pos, if_neg, pI1, pI2, pQ1, pQ2, true_and, and_true, false_and, and_false, true_or, or_true, false_or, or_false, if_true, if_false, Nat.reduceEqDiff, and_self, not_true_eq_false, not_false_eq_true]; exact h3
    · simp (disch := omega) only [if_pos, if_neg, pI1, pI2, pQ1, pQ2, true_and, and_true, false_and, and_false, true_or, or_true, false_or, or_false, if_true, if_false, Nat.reduceEqDiff, and_self, not_true_eq_false, not_false_eq_true]; exact h4
    · simp (disch := omega) only [if_pos, if_neg, pI1, pI2, pQ1, pQ2, true_and, and_true, false_and, and_false, true_or, or_true, false_or, or_false, if_true, if_false, Nat.reduceEqDiff, and_self, not_true_eq_false, not_false_eq_true]; exact h5
    · simp (disch := omega) only [if_pos, if_neg, pI1, pI2, pQ1, pQ2, true_and, and_true, false_and, and_false, true_or, or_true, false_or, or_false, if_true, if_false, Nat.reduceEqDiff, and_self, not_true_eq_false, not_false_eq_true]; exact h6
    · simp (disch := omega) only [if_pos, if_neg, pI1, pI2, pQ1, pQ2, true_and, and_true, false_and, and_false, true_or, or_true, false_or, or_false, if_true, if_false, Nat.reduceEqDiff, and_self, not_true_eq_false, not_false_eq_true]; exact h7
  by_cases h0 : a < 0
  · refine ⟨-2, _, _, ?_, ?_, nomo⟩
    · unfold fX8_make
      simp only [nm]
      rw [c_addrN h0]
      rfl
    · unfold fX9_make
      simp only [nm]
      rw [m_addrN h0]
      rfl
  · obtain ⟨x, hx, rfl⟩ := nI_of h0
    by_cases hax : isAd x
    · obtain ⟨q1, q2, q3⟩ := hMm x (by omega)
      by_cases hb : B x ≤ 8
      · generalize hj : sC.2 0 n = j
        have hjm : j ≤ mo := by rw [← hj]; exact hS.2.2.2.2.2.2.1 _ hS.1
        have hjk : ∀ k, k < n → sC.2 0 k ≠ j := fun k hk e => by
          have := hS.2.2.2.2.2.2.2.1 k n (by have := hS.1; omega) (by have := hS.1; omega) (by rw [e, hj])
          omega
        have hah := ahead_sim (N := N) (mo := mo) (j := j) (a := x) (B := B) (sC0 := pI (pI (pI sC 8 0 6 (-1)) 3 j 2 (nI x)) 3 j 1 0) (sM0 := pI (pI (pI sM 9 0 0 0) 9 0 10 (-1)) 9 0 27 0) hN hjm hax.1 hb hB (fun k hk => by simp (disch := omega) only [if_pos, if_neg, pI1, pI2, pQ1, pQ2, true_and, and_true, false_and, and_false, true_or, or_true, false_or, or_false, if_true, if_false, Nat.reduceEqDiff, and_self, not_true_eq_false, not_false_eq_true]; exact (hMm k hk).2.1) (fun k hk => by simp (disch := omega) only [if_pos, if_neg, pI1, pI2, pQ1, pQ2, true_and, and_true, false_and, and_false, true_or, or_true, false_or, or_false, if_true, if_false, Nat.reduceEqDiff, and_self, not_true_eq_false, not_false_eq_true]; exact (hMm k hk).2.2) 60 0 N N _ _ (by omega) (by omega) (by omega) ⟨rfl, fun _ _ _ _ _ => rfl⟩ ⟨rfl, fun _ _ _ _ _ => rfl⟩ (by simp (disch := omega) only [if_pos, if_neg, pI1, pI2, pQ1, pQ2, true_and, and_true, false_and, and_false, true_or, or_true, false_or, or_false, if_true, if_false, Nat.reduceEqDiff, and_self, not_true_eq_false, not_false_eq_true]; rfl) (fun r hr => by omega) (fun r hr => by omega) (by have : ofs B x (B x) 0 = 1 := rfl; omega)
        obtain ⟨v, tC, tM, e1, e2, e3, e4, e5⟩ := hah
        have e1' : fX2_readAhead N mo j (nI x) (pI sC 8 0 6 (-1)) = some (v, tC) := e1
        have e2' : fX9_failsAt N (nI x) (pI (pI sM 9 0 0 0) 9 0 10 (-1)) = some (v, tM) := by
          unfold fX9_failsAt
          simp only [nm]
          rw [nI_1]
          exact e2
        rw [c_mk2 (n := n) hax hb q2 hS.2.2.2.1 ⟨hS.1, hS.2.1⟩ (by rw [hj]; exact Nat.min_eq_left hjm) hjm e1', m_mk2 hax hb q3 e2']
        have cC : ∀ c i k, ¬ (c = 22 ∧ i = j) → ¬ (c = 3 ∧ i = j ∧ k ≠ 3) → ¬ (c = 8 ∧ i = 0 ∧ k = 6) → tC.1 c i k = sC.1 c i k := fun c i k z1 z2 z3 => by
          rw [e3.2 _ _ _ z1 (by omega), pI1, if_neg (by omega), pI1, if_neg (by omega), pI1, if_neg (by omega)]
        have cM : ∀ c i k, ¬ (c = 9 ∧ i = 0 ∧ (k = 0 ∨ k = 10 ∨ (19 ≤ k ∧ k ≤ 27))) → ¬ (c = 30 ∧ (i = 22 ∨ i = 25 ∨ i = 26)) → tM.1 c i k = sM.1 c i k := fun c i k z1 z2 => by
          rw [e4.2 _ _ _ (by omega) (by omega), pI1, if_neg (by omega), pI1, if_neg (by omega), pI1, if_neg (by omega)]
        have cq : tC.2 = sC.2 := e3.1
        -- a place is told
        have told : ∀ w : Int32, ∀ uM : xSt, (∀ c i k, ¬ (c = 9 ∧ i = 0 ∧ k = 10) → uM.1 c i k = tM.1 c i k) → uM.1 9 0 10 = w → Cor mo n mk B (pI tC 8 0 6 w) uM := fun w uM z1 z2 => by
          refine Cor_d h2 hj (fun c i k y1 y2 y3 => ?_) cq (fun c i k y1 y2 => ?_) (by rw [z2]; simp (disch := omega) only [if_pos, if_neg, pI1, pI2, pQ1, pQ2, true_and, and_true, false_and, and_false, true_or, or_true, false_or, or_false, if_true, if_false, Nat.reduceEqDiff, and_self, not_true_eq_false, not_false_eq_true])
          · rw [pI1, if_neg (by omega)]; exact cC c i k y1 y2 y3
          · rw [z1 _ _ _ (by omega)]; exact cM c i k y1 y2
        have rest : ∀ w : Int32, ∀ uM : xSt, (∀ c i k, ¬ (c = 9 ∧ i = 0 ∧ k = 10) → uM.1 c i k = tM.1 c i k) → uM.1 9 0 10 = w → Sim mo (t + 1) (pI tC 8 0 6 w) uM := fun w uM z1 z2 => by
          refine ⟨n, mk, B, by omega, told w uM z1 z2, ?_, ?_, ?_, ?_, ?_⟩
          · rw [pI1, if_neg (by omega), cC _ _ _ (by omega) (by omega) (by omega), z1 _ _ _ (by omega), cM _ _ _ (by omega) (by omega)]; exact h3
          · rw [pI1, if_neg (by omega), cC _ _ _ (by omega) (by omega) (by omega), z1 _ _ _ (by omega), cM _ _ _ (by omega) (by omega)]; exact h4
          · rw [pI1, if_neg (by omega), cC _ _ _ (by omega) (by omega) (by omega), z1 _ _ _ (by omega), cM _ _ _ (by omega) (by omega)]; exact h5
          · rw [pI1, if_neg (by omega), cC _ _ _ (by omega) (by omega) (by omega), z1 _ _ _ (by omega), cM _ _ _ (by omega) (by omega)]; exact h6
          · rw [pI1, if_neg (by omega), cC _ _ _ (by omega) (by omega) (by omega), z1 _ _ _ (by omega), cM _ _ _ (by omega) (by omega)]; exact h7
        rcases e5 with ⟨q, hq, rfl⟩ | ⟨rfl, sz, z1, z2, z3, z4, z5, z6, z7, z8⟩
        · have hne : ¬ nI q = -1 := fun z => (nI_nm1 (by omega)).mp z
          rw [if_neg hne, if_neg hne]
          exact ⟨_, _, _, rfl, rfl, rest _ _ (fun c i k z => by rw [pI1, if_neg (by omega)]) (by simp (disch := omega) only [if_pos, if_neg, pI1, pI2, pQ1, pQ2, true_and, and_true, false_and, and_false, true_or, or_true, false_or, or_false, if_true, if_false, Nat.reduceEqDiff, and_self, not_true_eq_false, not_false_eq_true])⟩
        · rw [if_pos rfl, if_pos rfl]
          have hm10 : tM.1 9 0 10 = -1 := by
            rw [e4.2 _ _ _ (by omega) (by omega)]; simp (disch := omega) only [if_pos, if_neg, pI1, pI2, pQ1, pQ2, true_and, and_true, false_and, and_false, true_or, or_true, false_or, or_false, if_true, if_false, Nat.reduceEqDiff, and_self, not_true_eq_false, not_false_eq_true]
          have hC2 := told (-1) tM (fun _ _ _ _ => rfl) hm10
          have hR2 := rest (-1) tM (fun _ _ _ _ => rfl) hm10
          have hfs : fX7_find N mo (nI x) (pI tC 8 0 6 (-1)) = fX7_find_b2 N mo N (nI x) (nI 0) (pI tC 8 0 6 (-1)) := rfl
          have hks : fX9_keptOf N (nI x) tM = fX9_keptOf_b2 N N (nI x) (nI 0) tM := rfl
          rw [hfs, hks]
          generalize hU : pI tC 8 0 6 (-1) = uC at *
          have u3 : ∀ k, uC.1 3 j k = tC.1 3 j k := fun k => by rw [← hU]; simp (disch := omega) only [if_pos, if_neg, pI1, pI2, pQ1, pQ2, true_and, and_true, false_and, and_false, true_or, or_true, false_or, or_false, if_true, if_false, Nat.reduceEqDiff, and_self, not_true_eq_false, not_false_eq_true]
          have u22 : uC.1 22 j = tC.1 22 j := funext fun k => by rw [← hU]; simp (disch := omega) only [if_pos, if_neg, pI1, pI2, pQ1, pQ2, true_and, and_true, false_and, and_false, true_or, or_true, false_or, or_false, if_true, if_false, Nat.reduceEqDiff, and_self, not_true_eq_false, not_false_eq_true]
          have uq : uC.2 = sC.2 := by rw [← hU]; exact cq
          have hS2 := hC2.1
          have hno := hS2.1
          have hmo := hS2.2.1
          rcases find_sim (N := N) (a := nI x) hS2 n 0 N N (by omega) (by omega) (by omega) with ⟨y, y1, y2, y3, y4, y5⟩ | ⟨y1, y2, y3⟩
          · rw [y4, y5]
            simp only [bd]
            rw [if_neg (by omega), if_neg (fun z => (nI_nm1 (by omega)).mp z)]
            exact ⟨_, _, _, rfl, rfl, hR2⟩
          · rw [y2, y3]
            simp only [bd]
            rw [if_pos trivial, if_pos trivial, hS2.2.2.1, hS2.2.2.2.2.1, hS2.2.2.2.2.2.1]
            by_cases hm0 : mo = 0
            · rw [hm0, if_pos nI_0, if_pos nI_0]
              rw [hm0] at hR2
              exact ⟨_, _, _, rfl, rfl, hR2⟩
            · rw [if_neg (nI_ne0 (by omega) (by omega)), if_neg (nI_ne0 (by omega) (by omega))]
              have k2 : tC.1 3 j 2 = nI x := by rw [e3.2 _ _ _ (by omega) (by omega)]; simp (disch := omega) only [if_pos, if_neg, pI1, pI2, pQ1, pQ2, true_and, and_true, false_and, and_false, true_or, or_true, false_or, or_false, if_true, if_false, Nat.reduceEqDiff, and_self, not_true_eq_false, not_false_eq_true]
              have kd : fX7_keepDraft N mo uC = if nI n = nI mo then Option.bind (fX7_dropAt N mo (0 : Int32) uC) (fun st2 => fX7_keepDraft_b16 N mo st2) else fX7_keepDraft_b16 N mo uC := by
                unfold fX7_keepDraft
                rw [hS2.2.2.2.1, hS2.2.2.1]
              rw [kd]
              have fin : ∀ (m : Nat) (wC wM : xSt), m < mo → Cor mo m mk B wC wM → wC.2 0 m = j → (∀ k, k ≠ 3 → wC.1 3 j k = tC.1 3 j k) → wC.1 22 j = tC.1 22 j → wM.1 9 0 27 = nI sz → wM.1 30 25 (sz - 1) = tM.1 30 25 (sz - 1) → (∀ c i k, c = 5 ∨ (c = 20 ∧ i = 0 ∧ k = 6) → wC.1 c i k = uC.1 c i k) → (∀ k, k = 17 ∨ 40 ≤ k → wM.1 9 0 k = tM.1 9 0 k) → ∃ r sC' sM', (Option.bind (fX7_keepDraft_b16 N mo wC) (fun st24 => some ((st24.1 3 j 1), st24))) = some (r, sC') ∧ fX9_make_b88 N (nI x) wM = some (r, sM') ∧ Sim mo (t + 1) sC' sM' := by
                intro m wC wM w1 w2 w3 w4 w5 w6 w7 w8 w9
                obtain ⟨sC', sM', k1, k2', k3, k4, k5⟩ := keep_add (N := N) (a := x) (e := x + ofs B x (B x) (sz - 1)) (j := j) w2 w1 w3 (by omega) hax.1 (by rw [w4 2 (by omega)]; exact k2) (by rw [w4 4 (by omega)]; exact z6) (by rw [w4 5 (by omega)]; exact z7) (by rw [w4 1 (by omega), z3, w5]; exact z8) sz ⟨z1, z2⟩ w6 (by rw [w7, z5, nI_add])
                rw [k1, k2']
                refine ⟨_, _, _, rfl, ?_, m + 1, mk + 1, B, by omega, k3, ?_, ?_, ?_, ?_, ?_⟩
                · rw [k4 3 j 1 (by omega), w4 1 (by omega), z3]
                · rw [k4 _ _ _ (by omega), w8 _ _ _ (by omega), k5 _ (by omega), w9 _ (by omega)]; obtain ⟨_, _, _, _, _, g3, g4, g5, g6, g7⟩ := hR2; exact g3
                · rw [k4 _ _ _ (by omega), w8 _ _ _ (by omega), k5 _ (by omega), w9 _ (by omega)]; obtain ⟨_, _, _, _, _, g3, g4, g5, g6, g7⟩ := hR2; exact g4
                · rw [k4 _ _ _ (by omega), w8 _ _ _ (by omega), k5 _ (by omega), w9 _ (by omega)]; obtain ⟨_, _, _, _, _, g3, g4, g5, g6, g7⟩ := hR2; exact g5
                · rw [k4 _ _ _ (by omega), w8 _ _ _ (by omega), k5 _ (by omega), w9 _ (by omega)]; obtain ⟨_, _, _, _, _, g3, g4, g5, g6, g7⟩ := hR2; exact g6
                · rw [k4 _ _ _ (by omega), w8 _ _ _ (by omega), k5 _ (by omega), w9 _ (by omega)]; obtain ⟨_, _, _, _, _, g3, g4, g5, g6, g7⟩ := hR2; exact g7
              by_cases hnm : n = mo
              · rw [if_pos (by rw [hnm]), if_pos (by rw [hnm])]
                obtain ⟨wC, wM, f1, f2, f3, f4, f5, f6, f7, f8, f9⟩ := drop_one (N := N) (by omega) hS2 (i := 0) (by omega)
                have f1' : fX7_dropAt N mo (0 : Int32) uC = some wC := f1
                have f2' : fX9_away N (0 : Int32) tM = some wM := f2
                rw [f1', f2']
                simp only [Option.bind_some]
                have hw22 : wC.1 22 = uC.1 22 := funext fun i => funext fun k => f4.1 22 i k (by omega) (by omega) (by omega)
                have hCw : Cor mo (n - 1) mk B wC wM := by
                  obtain ⟨_, ⟨r1, r2, r3⟩, hMm', ⟨k1, k2, k3, k4, k5, k6, k7⟩, ⟨o1, o2, o3, o4⟩, hK'⟩ := hC2
                  refine ⟨f3, ⟨?_, fun k hk => ?_, fun k l hk hl e => ?_⟩, fun k hk => ?_, ⟨?_, ?_, ?_, ?_, ?_, ?_, ?_⟩, ⟨fun k hk => ?_, fun k hk => ?_, fun k hk => ?_, ?_⟩, fun k hk => ?_⟩
                  · rw [f5.1 _ _ _ (by omega) (by omega)]; exact r1
                  · rw [(f8 k hk).2.2.2, if_neg (by omega)]; exact r2 _ (by omega)
                  · rw [(f8 k hk).2.2.2, (f8 l hl).2.2.2, if_neg (by omega), if_neg (by omega)] at e
                    have := r3 _ _ (by omega) (by omega) e
                    omega
                  · rw [f4.1 _ _ _ (by omega) (by omega) (by omega), f5.1 _ _ _ (by omega) (by omega)]; exact hMm' k hk
                  · rw [f4.1 _ _ _ (by omega) (by omega) (by omega), f5.1 _ _ _ (by omega) (by omega)]; exact k1
                  · rw [f6, f7, k2]
                  · rw [f4.1 _ _ _ (by omega) (by omega) (by omega), f5.1 _ _ _ (by omega) (by omega)]; exact k3
                  · rw [f4.1 _ _ _ (by omega) (by omega) (by omega), f5.1 _ _ _ (by omega) (by omega)]; exact k4
                  · rw [f4.1 _ _ _ (by omega) (by omega) (by omega), f5.1 _ _ _ (by omega) (by omega)]; exact k5
                  · rw [f4.1 _ _ _ (by omega) (by omega) (by omega), f5.1 _ _ _ (by omega) (by omega)]; exact k6
                  · rw [f4.1 _ _ _ (by omega) (by omega) (by omega), f5.1 _ _ _ (by omega) (by omega)]; exact k7
                  · rw [f4.1 _ _ _ (by omega) (by omega) (by omega), f5.1 _ _ _ (by omega) (by omega)]; exact o1 k hk
                  · rw [f4.1 _ _ _ (by omega) (by omega) (by omega), f5.1 _ _ _ (by omega) (by omega)]; exact o2 k hk
                  · rw [f4.1 _ _ _ (by omega) (by omega) (by omega), f5.1 _ _ _ (by omega) (by omega)]; exact o3 k hk
                  · rw [f4.1 _ _ _ (by omega) (by omega) (by omega), f5.1 _ _ _ (by omega) (by omega)]; exact o4
                  · obtain ⟨y1, y2, y3, y4⟩ := f8 k hk
                    rw [y1, y2, y3, if_neg (by omega), f4.1 _ _ _ (by omega) (by omega) (by omega), hw22]
                    exact hK' _ (by omega)
                exact fin (n - 1) wC wM (by omega) hCw (by rw [f9 _ (Nat.le_refl _) (by omega), uq, show n - 1 + 1 = n by omega]; exact hj) (fun k hk => by rw [f4.1 _ _ _ (by omega) (by omega) (by omega)]; exact u3 k) (by rw [hw22]; exact u22) (by rw [f5.1 _ _ _ (by omega) (by omega)]; exact z4) (f5.1 _ _ _ (by omega) (by omega)) (fun c i k z => f4.1 _ _ _ (by omega) (by omega) (by omega)) (fun k z => f5.1 _ _ _ (by omega) (by omega))
              · have hne : ¬ nI n = nI mo := fun z => hnm ((nI_eq (by omega) (by omega)).mp z)
                rw [if_neg hne, if_neg hne]
                exact fin n uC tM (by omega) hC2 (by rw [uq]; exact hj) (fun k _ => u3 k) u22 z4 rfl (fun _ _ _ _ => rfl) (fun _ _ => rfl)
      · exact ⟨-2, _, _, c_mk1 (b := B x) hax (by omega) q2, m_mk1 (b := B x) hax (by omega) q3, nomo⟩
    · exact ⟨-2, _, _, c_mk0 hx hax, m_mk0 hx hax, nomo⟩
