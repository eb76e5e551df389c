def End (mo mk : Nat) (sC sM : xSt) : Prop := ∃ n B, Cor mo n mk B sC sM ∧ sC.1 20 0 6 = sM.1 9 0 17 ∧ sC.1 5 0 0 = sM.1 9 0 44 ∧ sC.1 5 0 2 = sM.1 9 0 41 ∧ sC.1 5 0 3 = sM.1 9 0 42 ∧ sC.1 5 0 4 = sM.1 9 0 43
section RN
variable {N mo mk : Nat} {sC sM : xSt}
theorem run_exit {r : Int32} {fC fM : Nat} (h : Fin mo mk sC sM) : ∃ v sM', fX6_run_b68 N mo (fC + 1) r sC = some (v, sC) ∧ fX9_goes_b127 N (fM + 1) sM = some (v, sM') ∧ End mo mk sC sM' := by
  obtain ⟨n, B, g1, g2, g3, g4, g5, g6⟩ := h
  have eC : fX6_run_b68 N mo (fC + 1) r sC = fX6_run_b117 N mo sC := by
    rw [fX6_run_b68, g2, if_pos (show nI 0 ≤ (0 : Int32) by decide), ite_self]
  rw [eC]
  rcases g6 with ⟨a1, a2, a3, a4, a5⟩ | ⟨e, a1, a2, a3, a4, a5, a6⟩
  · refine ⟨0, sM, ?_, ?_, n, B, g1, a4, a5, g3, g4, g5⟩
    · unfold fX6_run_b117
      rw [a2, if_pos nI_0]
    · rw [fX9_goes_b127, a1, if_pos (show nI 0 ≤ (0 : Int32) by decide)]
      unfold fX9_goes_b148
      rw [a3, if_pos nI_0]
  · have eM : fX9_goes_b127 N (fM + 1) sM = fX9_goes_b148 N sM := by
      rw [fX9_goes_b127, a4, if_neg (nI_ne0 (by omega) (by omega)), ite_self]
    have y1 : (pI sM 9 0 44 0).1 9 0 17 = sM.1 9 0 17 := by simp (disch := omega) only [if_pos, if_neg, pI1, pI2, pQ1, pQ2, true_and, and_true, false_and, and_false, true_or, or_true, false_or, or_false, if_true, if_false, Nat.reduceEqDiff, and_self, not_true_eq_false, not_false_eq_true]
    have y2 : (pI (pI sM 9 0 44 0) 9 0 17 (sM.1 9 0 17 + 1)).1 9 0 40 = nI e := by simp (disch := omega) only [if_pos, if_neg, pI1, pI2, pQ1, pQ2, true_and, and_true, false_and, and_false, true_or, or_true, false_or, or_false, if_true, if_false, Nat.reduceEqDiff, and_self, not_true_eq_false, not_false_eq_true]; exact a4
    refine ⟨(-10 : Int32) - nI e, pI (pI sM 9 0 44 0) 9 0 17 (sM.1 9 0 17 + 1), ?_, ?_, n, B, Cor_c g1 (fun _ _ _ _ => rfl) (fun _ => rfl) (fun c i k z => by simp (disch := omega) only [if_pos, if_neg, pI1, pI2, pQ1, pQ2, true_and, and_true, false_and, and_false, true_or, or_true, false_or, or_false, if_true, if_false, Nat.reduceEqDiff, and_self, not_true_eq_false, not_false_eq_true]), by simp (disch := omega) only [if_pos, if_neg, pI1, pI2, pQ1, pQ2, true_and, and_true, false_and, and_false, true_or, or_true, false_or, or_false, if_true, if_false, Nat.reduceEqDiff, and_self, not_true_eq_false, not_false_eq_true]; exact a5, by simp (disch := omega) only [if_pos, if_neg, pI1, pI2, pQ1, pQ2, true_and, and_true, false_and, and_false, true_or, or_true, false_or, or_false, if_true, if_false, Nat.reduceEqDiff, and_self, not_true_eq_false, not_false_eq_true]; exact a6, by simp (disch := omega) only [if_pos, if_neg, pI1, pI2, pQ1, pQ2, true_and, and_true, false_and, and_false, true_or, or_true, false_or, or_false, if_true, if_false, Nat.reduceEqDiff, and_self, not_true_eq_false, not_false_eq_true]; exact g3, by simp (disch := omega) only [if_pos, if_neg, pI1, pI2, pQ1, pQ2, true_and, and_true, false_and, and_false, true_or, or_true, false_or, or_false, if_true, if_false, Nat.reduceEqDiff, and_self, not_true_eq_false, not_false_eq_true]; exact g4, by simp (disch := omega) only [if_pos, if_neg, pI1, pI2, pQ1, pQ2, true_and, and_true, false_and, and_false, true_or, or_true, false_or, or_false, if_true, if_false, Nat.reduceEqDiff, and_self, not_true_eq_false, not_false_eq_true]; exact g5⟩
    · unfold fX6_run_b117
      rw [a3, if_neg (nI_ne0 (by omega) (by omega))]
    · rw [eM]
      unfold fX9_goes_b148
      rw [a4, if_neg (nI_ne0 (by omega) (by omega))]
      simp only [nm]
      rw [y1, y2]
theorem run_loop (hN : 30 < N) (hmk : mk < 2 ^ 31) : ∀ k n d q r fC fM B (sC sM : xSt), 400 - q ≤ k → Run mo n mk d d q B sC sM → 1 ≤ d → r ≤ q → 400 - q + 1 < fC → 400 - q + 1 < fM → ∃ v sC' sM', fX6_run_b68 N mo fC (nI r) sC = some (v, sC') ∧ fX9_goes_b127 N fM sM = some (v, sM') ∧ End mo mk sC' sM' := by
  intro k
  induction k with
  | zero =>
    intro n d q r fC fM B sC sM hk h hd hr hfC hfM
    have hq4 := h.2.2.2.1
    have hd12 := h.2.2.1
    obtain ⟨fC, rfl⟩ : ∃ z, fC = z + 1 + 1 := ⟨fC - 2, by omega⟩
    obtain ⟨fM, rfl⟩ : ∃ z, fM = z + 1 + 1 := ⟨fM - 2, by omega⟩
    rcases fetch_sim hN h hd with ⟨sC', sM', e1, e2, e3⟩ | ⟨sC', sM', p, len, e1, e2, e3⟩
    · obtain ⟨v, tM, x1, x2, x3⟩ := run_exit (N := N) (r := nI r + 1) (fC := fC) (fM := fM) e3
      refine ⟨v, sC', tM, ?_, ?_, x3⟩
      · rw [fX6_run_b68, if_neg (show ¬ (400 : Int32) < nI r from nI_nlt (a := 400) (by omega) (by omega)), h.2.2.2.2.1, if_neg (nI_nle (by omega) (by omega)), show nI d - (1 : Int32) = nI (d - 1) from pk_sub (b := 1) (by omega), if_neg (nI_in (c := d - 1) (N := 12) (by omega) (by omega)), nI_clamp (by omega)]
        simp only [nm]
        rw [e1]
        simp only [bd]
        rw [if_pos nI_0]
        exact x1
      · rw [fX9_goes_b127, h.2.2.2.2.2.1, if_neg (nI_nle (by omega) (by omega)), h.2.2.2.2.2.2.2.2.2.2.2.2.1, if_pos nI_0, e2]
        exact x2
    · have := e3.1.2.2.2.1
      omega
  | succ k ih =>
    intro n d q r fC fM B sC sM hk h hd hr hfC hfM
    have hq4 := h.2.2.2.1
    have hd12 := h.2.2.1
    obtain ⟨fC, rfl⟩ : ∃ z, fC = z + 1 + 1 := ⟨fC - 2, by omega⟩
    obtain ⟨fM, rfl⟩ : ∃ z, fM = z + 1 + 1 := ⟨fM - 2, by omega⟩
    have stC : ∀ v tC, fX6_fetch N mo (d - 1) sC = some (v, tC) → fX6_run_b68 N mo (fC + 1 + 1) (nI r) sC = if v = (0 : Int32) then fX6_run_b68 N mo (fC + 1) (nI (r + 1)) tC else Option.bind (fX6_carryOut N mo (d - 1) tC) (fun st24 => fX6_run_b68 N mo (fC + 1) (nI (r + 1)) st24) := by
      intro v tC e1
      rw [fX6_run_b68, if_neg (show ¬ (400 : Int32) < nI r from nI_nlt (a := 400) (by omega) (by omega)), h.2.2.2.2.1, if_neg (nI_nle (by omega) (by omega)), show nI d - (1 : Int32) = nI (d - 1) from pk_sub (b := 1) (by omega), if_neg (nI_in (c := d - 1) (N := 12) (by omega) (by omega)), nI_clamp (by omega)]
      unfold fX6_run_b111
      simp only [nm]
      rw [e1]
      simp only [bd]
      rw [nI_1]
    have stM : fX9_goes_b127 N (fM + 1 + 1) sM = Option.bind (fX9_one N sM) (fun st30 => fX9_goes_b127 N (fM + 1) st30) := by
      rw [fX9_goes_b127, h.2.2.2.2.2.1, if_neg (nI_nle (by omega) (by omega)), h.2.2.2.2.2.2.2.2.2.2.2.2.1, if_pos nI_0]
    rcases fetch_sim hN h hd with ⟨sC', sM', e1, e2, e3⟩ | ⟨sC1, sM1, p, len, e1, e2, e3⟩
    · obtain ⟨v, tM, x1, x2, x3⟩ := run_exit (N := N) (r := nI (r + 1)) (fC := fC) (fM := fM) e3
      refine ⟨v, sC', tM, ?_, ?_, x3⟩
      · rw [stC _ _ e1, if_pos nI_0]; exact x1
      · rw [stM, e2]; exact x2
    · have hq1 := e3.1.2.2.2.1
      obtain ⟨sC', sM', f1, f2, f3⟩ := do_any hN hmk e3 hd
      have eM : fX9_goes_b127 N (fM + 1 + 1) sM = fX9_goes_b127 N (fM + 1) sM' := by
        rw [stM, e2, f2]; rfl
      have eC : fX6_run_b68 N mo (fC + 1 + 1) (nI r) sC = fX6_run_b68 N mo (fC + 1) (nI (r + 1)) sC' := by
        rw [stC _ _ e1, if_neg (by decide), f1]; rfl
      rw [eC, eM]
      rcases f3 with ⟨n', d', q', B', z1, z2, z3⟩ | f
      · exact ih n' d' q' (r + 1) (fC + 1) (fM + 1) B' sC' sM' (by omega) z3 z1 (by omega) (by omega) (by omega)
      · obtain ⟨v, tM, x1, x2, x3⟩ := run_exit (N := N) (r := nI (r + 1)) (fC := fC) (fM := fM) f
        exact ⟨v, sC', tM, x1, x2, x3⟩
theorem c_argL {g : Nat} {A : Int32} (hg : g ≤ 4) : ∀ dd i fuel (tC : xSt), i + dd = g → dd < fuel → (∀ k, k < i → tC.1 20 5 k = tC.1 20 2 k) → ∃ uC, fX6_run_b36 N mo fuel A (nI g) (nI i) tC = Option.bind (fX6_enter N mo A (nI g) uC) (fun st10 => fX6_run_b68 N mo N (0 : Int32) st10) ∧ uC.2 = tC.2 ∧ (∀ c j k, ¬ (c = 20 ∧ j = 5) → uC.1 c j k = tC.1 c j k) ∧ (∀ k, k < g → uC.1 20 5 k = tC.1 20 2 k) := by
  intro dd
  induction dd with
  | zero =>
    intro i fuel tC h1 h2 h3
    obtain ⟨fuel, rfl⟩ : ∃ z, fuel = z + 1 := ⟨fuel - 1, by omega⟩
    refine ⟨tC, ?_, rfl, fun _ _ _ _ => rfl, fun k hk => h3 k (by omega)⟩
    rw [fX6_run_b36, if_pos (nI_le (by omega) (by omega))]
  | succ dd ih =>
    intro i fuel tC h1 h2 h3
    obtain ⟨fuel, rfl⟩ : ∃ z, fuel = z + 1 := ⟨fuel - 1, by omega⟩
    obtain ⟨uC, e1, e2, e3, e4⟩ := ih (i + 1) fuel (pI tC 20 5 i (tC.1 20 2 i)) (by omega) (by omega) (fun k hk => by
      by_cases hki : k = i
      · rw [pI1, if_pos (by omega), pI1, if_neg (by omega), hki]
      · rw [pI1, if_neg (by omega), pI1, if_neg (by omega)]; exact h3 k (by omega))
    refine ⟨uC, ?_, e2, fun c j k z => by rw [e3 _ _ _ z, pI1, if_neg (by omega)], fun k hk => by rw [e4 k hk, pI1, if_neg (by omega)]⟩
    have hin : ¬ (nI i < 0 ∨ 4 ≤ i) := fun z => z.elim (nI_pos (by omega)) (by omega)
    rw [fX6_run_b36, if_neg (nI_ge (by omega) (by omega)), nI_clamp (by omega), if_neg hin, if_neg hin]
    simp only [nm]
    rw [nI_1]
    exact e1
theorem m_argL {g : Nat} {A : Int32} (hg : g ≤ 4) : ∀ dd i fuel (tM : xSt), i + dd = g → dd < fuel → (∀ k, k < i → tM.1 30 38 k = tM.1 30 3 k) → ∃ uM, fX9_goes_b95 N fuel A (nI g) (nI i) tM = Option.bind (fX9_go N A (-1 : Int32) uM) (fun st22 => fX9_goes_b127 N N st22) ∧ uM.2 = tM.2 ∧ (∀ c j k, ¬ (c = 30 ∧ j = 38) → uM.1 c j k = tM.1 c j k) ∧ (∀ k, k < g → uM.1 30 38 k = tM.1 30 3 k) := by
  intro dd
  induction dd with
  | zero =>
    intro i fuel tM h1 h2 h3
    obtain ⟨fuel, rfl⟩ : ∃ z, fuel = z + 1 := ⟨fuel - 1, by omega⟩
    refine ⟨tM, ?_, rfl, fun _ _ _ _ => rfl, fun k hk => h3 k (by omega)⟩
    rw [fX9_goes_b95, if_pos (nI_le (by omega) (by omega))]
  | succ dd ih =>
    intro i fuel tM h1 h2 h3
    obtain ⟨fuel, rfl⟩ : ∃ z, fuel = z + 1 := ⟨fuel - 1, by omega⟩
    obtain ⟨uM, e1, e2, e3, e4⟩ := ih (i + 1) fuel (pI tM 30 38 i (tM.1 30 3 i)) (by omega) (by omega) (fun k hk => by
      by_cases hki : k = i
      · rw [pI1, if_pos (by omega), pI1, if_neg (by omega), hki]
      · rw [pI1, if_neg (by omega), pI1, if_neg (by omega)]; exact h3 k (by omega))
    refine ⟨uM, ?_, e2, fun c j k z => by rw [e3 _ _ _ z, pI1, if_neg (by omega)], fun k hk => by rw [e4 k hk, pI1, if_neg (by omega)]⟩
    have hin : ¬ (nI i < 0 ∨ 4 ≤ i) := fun z => z.elim (nI_pos (by omega)) (by omega)
    rw [fX9_goes_b95, if_neg (nI_ge (by omega) (by omega)), nI_clamp (by omega), if_neg hin, if_neg hin]
    simp only [nm]
    rw [nI_1]
    exact e1
end RN
section OC
variable {N mo t : Nat} {sC sM : xSt}
theorem op_run {fl : Int32} (hN : 500 < N) (ht : t < 512) (hfl : fl = 0 ∨ fl = 1) (h : Sim mo t sC sM) (a b : Int32) : ∃ r sC' sM', bd (fX8_refusalOf N mo a b sC) (fun v3 st1 => if v3 = (0 : Int32) then bd (fX6_run N mo a b fl st1) (fun v7 st5 => some (v7, st5)) else some (v3, st1)) = some (r, sC') ∧ fX9_goes N a b fl sM = some (r, sM') ∧ Sim mo (t + 1) sC' sM' := by
  have hs := Sim_mono _ _ _ _ (Sim_0 (v := 0) h)
  unfold fX8_refusalOf fX9_goes
  simp only [nm]
  by_cases c1 : b < 0
  · rw [if_pos c1, if_pos c1]; exact ⟨-2, _, _, rfl, rfl, hs⟩
  · rw [if_neg c1, if_neg c1]
    by_cases c2 : (4 : Int32) < b
    · rw [if_pos c2, if_pos c2]; exact ⟨-2, _, _, rfl, rfl, hs⟩
    · rw [if_neg c2, if_neg c2]
      obtain ⟨g, hg, rfl⟩ := nI_of c1
      rw [li_4, nI_ltI (by omega) (by omega)] at c2
      by_cases c3 : a < 0
      · rw [c_addrN c3, m_addrN c3]; exact ⟨-2, _, _, rfl, rfl, hs⟩
      · obtain ⟨x, hx, rfl⟩ := nI_of c3
        rw [c_addr hx, m_addr hx]
        by_cases had : isAd x
        · rw [if_pos had]
          obtain ⟨n, mk, B, h1, h2, h3, h4, h5, h6, h7⟩ := h
          have y17 : (pI sM 9 0 0 0).1 9 0 17 = sM.1 9 0 17 := by simp (disch := omega) only [if_pos, if_neg, pI1, pI2, pQ1, pQ2, true_and, and_true, false_and, and_false, true_or, or_true, false_or, or_false, if_true, if_false, Nat.reduceEqDiff, and_self, not_true_eq_false, not_false_eq_true]
          simp only [bd]
          rw [if_neg (show ¬ nI 1 = (0 : Int32) by decide), if_neg (show ¬ nI 1 = (0 : Int32) by decide), y17, h3]
          by_cases c4 : sM.1 9 0 17 < (500 : Int32)
          · rw [if_pos c4, if_pos c4, if_neg (show ¬ ¬ (fl = 0 ∨ fl = 1) from fun z => z hfl)]
            simp only []
            rw [if_pos trivial]
            -- the class begins
            have eC : fX6_run N mo (nI x) (nI g) fl sC = fX6_run_b36 N mo N (nI x) (nI g) (0 : Int32) (pI (pI (pI (pI (pI (pI (pI (pI (pI (pI sC 5 0 0 0) 5 0 1 0) 5 0 2 (-1)) 5 0 3 (-1)) 5 0 4 0) 6 0 9 fl) 6 0 10 0) 6 0 11 0) 6 0 14 (nI x)) 6 0 15 0) := by
              unfold fX6_run fX4_clear
              simp only [nm, Option.bind_some]
              rw [if_neg (show ¬ ¬ (fl = 0 ∨ fl = 1) from fun z => z hfl)]
            rw [eC]
            generalize htC : pI (pI (pI (pI (pI (pI (pI (pI (pI (pI sC 5 0 0 0) 5 0 1 0) 5 0 2 (-1)) 5 0 3 (-1)) 5 0 4 0) 6 0 9 fl) 6 0 10 0) 6 0 11 0) 6 0 14 (nI x)) 6 0 15 0 = tC
            generalize htM : pI (pI (pI (pI (pI (pI (pI (pI (pI (pI (pI (pI sM 9 0 0 0) 9 0 30 fl) 9 0 28 0) 9 0 29 0) 9 0 40 0) 9 0 41 (-1)) 9 0 42 (-1)) 9 0 43 0) 9 0 44 0) 9 0 45 (nI x)) 9 0 46 0) 9 0 39 (nI g) = tM
            have fC : ∀ c i k, ¬ (c = 5 ∧ i = 0) → ¬ (c = 6 ∧ i = 0) → tC.1 c i k = sC.1 c i k := fun c i k z1 z2 => by rw [← htC]; simp (disch := omega) only [if_pos, if_neg, pI1, pI2, pQ1, pQ2, true_and, and_true, false_and, and_false, true_or, or_true, false_or, or_false, if_true, if_false, Nat.reduceEqDiff, and_self, not_true_eq_false, not_false_eq_true]
            have fM : ∀ c i k, ¬ (c = 9 ∧ i = 0 ∧ (k = 0 ∨ 28 ≤ k)) → tM.1 c i k = sM.1 c i k := fun c i k z1 => by rw [← htM]; simp (disch := omega) only [if_pos, if_neg, pI1, pI2, pQ1, pQ2, true_and, and_true, false_and, and_false, true_or, or_true, false_or, or_false, if_true, if_false, Nat.reduceEqDiff, and_self, not_true_eq_false, not_false_eq_true]
            obtain ⟨uC, a1, a2, a3, a4⟩ := c_argL (N := N) (mo := mo) (A := nI x) (g := g) (by omega) g 0 N tC (by omega) (by omega) (fun k hk => by omega)
            obtain ⟨uM, b1, b2, b3, b4⟩ := m_argL (N := N) (A := nI x) (g := g) (by omega) g 0 N tM (by omega) (by omega) (fun k hk => by omega)
            have hR : Run mo n mk 0 0 0 B uC uM := by
              refine ⟨Cor_c h2 (fun c i k z => by rw [a3 _ _ _ (by omega)]; exact fC _ _ _ (by omega) (by omega)) (fun k => by rw [a2, ← htC]; rfl) (fun c i k z => by rw [b3 _ _ _ (by omega)]; exact fM _ _ _ (by omega)), FR_0, by omega, by omega, ?_, ?_, ?_, ?_, ?_, ?_, ?_, ?_, ?_, ?_, ?_, ?_⟩
              · rw [a3 _ _ _ (by omega), ← htC]; simp (disch := omega) only [if_pos, if_neg, pI1, pI2, pQ1, pQ2, true_and, and_true, false_and, and_false, true_or, or_true, false_or, or_false, if_true, if_false, Nat.reduceEqDiff, and_self, not_true_eq_false, not_false_eq_true]; rfl
              · rw [b3 _ _ _ (by omega), ← htM]; simp (disch := omega) only [if_pos, if_neg, pI1, pI2, pQ1, pQ2, true_and, and_true, false_and, and_false, true_or, or_true, false_or, or_false, if_true, if_false, Nat.reduceEqDiff, and_self, not_true_eq_false, not_false_eq_true]; rfl
              · rw [a3 _ _ _ (by omega), ← htC]; simp (disch := omega) only [if_pos, if_neg, pI1, pI2, pQ1, pQ2, true_and, and_true, false_and, and_false, true_or, or_true, false_or, or_false, if_true, if_false, Nat.reduceEqDiff, and_self, not_true_eq_false, not_false_eq_true]; rfl
              · rw [b3 _ _ _ (by omega), ← htM]; simp (disch := omega) only [if_pos, if_neg, pI1, pI2, pQ1, pQ2, true_and, and_true, false_and, and_false, true_or, or_true, false_or, or_false, if_true, if_false, Nat.reduceEqDiff, and_self, not_true_eq_false, not_false_eq_true]; rfl
              · rw [a3 _ _ _ (by omega), b3 _ _ _ (by omega), ← htC, ← htM]; simp (disch := omega) only [if_pos, if_neg, pI1, pI2, pQ1, pQ2, true_and, and_true, false_and, and_false, true_or, or_true, false_or, or_false, if_true, if_false, Nat.reduceEqDiff, and_self, not_true_eq_false, not_false_eq_true]
              · rw [a3 _ _ _ (by omega), b3 _ _ _ (by omega), fC _ _ _ (by omega) (by omega), fM _ _ _ (by omega)]; exact h3
              · rw [a3 _ _ _ (by omega), ← htC]; simp (disch := omega) only [if_pos, if_neg, pI1, pI2, pQ1, pQ2, true_and, and_true, false_and, and_false, true_or, or_true, false_or, or_false, if_true, if_false, Nat.reduceEqDiff, and_self, not_true_eq_false, not_false_eq_true]; rfl
              · rw [a3 _ _ _ (by omega), ← htC]; simp (disch := omega) only [if_pos, if_neg, pI1, pI2, pQ1, pQ2, true_and, and_true, false_and, and_false, true_or, or_true, false_or, or_false, if_true, if_false, Nat.reduceEqDiff, and_self, not_true_eq_false, not_false_eq_true]; rfl
              · rw [b3 _ _ _ (by omega), ← htM]; simp (disch := omega) only [if_pos, if_neg, pI1, pI2, pQ1, pQ2, true_and, and_true, false_and, and_false, true_or, or_true, false_or, or_false, if_true, if_false, Nat.reduceEqDiff, and_self, not_true_eq_false, not_false_eq_true]; rfl
              · rw [a3 _ _ _ (by omega), b3 _ _ _ (by omega), ← htC, ← htM]; simp (disch := omega) only [if_pos, if_neg, pI1, pI2, pQ1, pQ2, true_and, and_true, false_and, and_false, true_or, or_true, false_or, or_false, if_true, if_false, Nat.reduceEqDiff, and_self, not_true_eq_false, not_false_eq_true]
              · rw [a3 _ _ _ (by omega), b3 _ _ _ (by omega), ← htC, ← htM]; simp (disch := omega) only [if_pos, if_neg, pI1, pI2, pQ1, pQ2, true_and, and_true, false_and, and_false, true_or, or_true, false_or, or_false, if_true, if_false, Nat.reduceEqDiff, and_self, not_true_eq_false, not_false_eq_true]
              · rw [a3 _ _ _ (by omega), b3 _ _ _ (by omega), ← htC, ← htM]; simp (disch := omega) only [if_pos, if_neg, pI1, pI2, pQ1, pQ2, true_and, and_true, false_and, and_false, true_or, or_true, false_or, or_false, if_true, if_false, Nat.reduceEqDiff, and_self, not_true_eq_false, not_false_eq_true]
            have hH : Hr uC uM := ⟨by rw [a3 _ _ _ (by omega), b3 _ _ _ (by omega), ← htC, ← htM]; simp (disch := omega) only [if_pos, if_neg, pI1, pI2, pQ1, pQ2, true_and, and_true, false_and, and_false, true_or, or_true, false_or, or_false, if_true, if_false, Nat.reduceEqDiff, and_self, not_true_eq_false, not_false_eq_true], by rw [a3 _ _ _ (by omega), b3 _ _ _ (by omega), ← htC, ← htM]; simp (disch := omega) only [if_pos, if_neg, pI1, pI2, pQ1, pQ2, true_and, and_true, false_and, and_false, true_or, or_true, false_or, or_false, if_true, if_false, Nat.reduceEqDiff, and_self, not_true_eq_false, not_false_eq_true]⟩
            obtain ⟨sC', sM', e1, e2, e3⟩ := enter_sim (N := N) (A := nI x) (into := -1) (g := g) (by omega) (by omega) hR hH (by omega) (by rw [b3 _ _ _ (by omega), ← htM]; simp (disch := omega) only [if_pos, if_neg, pI1, pI2, pQ1, pQ2, true_and, and_true, false_and, and_false, true_or, or_true, false_or, or_false, if_true, if_false, Nat.reduceEqDiff, and_self, not_true_eq_false, not_false_eq_true]) (fun i hi => by
              rw [a4 i hi, b4 i hi, fC _ _ _ (by omega) (by omega), fM _ _ _ (by omega)]
              exact h2.2.2.2.2.1.2.1 i (by omega)) (Or.inr ⟨x, had, rfl⟩) (Or.inl ⟨rfl, rfl⟩)
            have a1' : fX6_run_b36 N mo N (nI x) (nI g) (0 : Int32) tC = fX6_run_b68 N mo N (0 : Int32) sC' := by
              rw [show fX6_run_b36 N mo N (nI x) (nI g) (0 : Int32) tC = _ from a1, e1]; rfl
            have b1' : fX9_goes_b95 N N (nI x) (nI g) (0 : Int32) tM = fX9_goes_b127 N N sM' := by
              rw [show fX9_goes_b95 N N (nI x) (nI g) (0 : Int32) tM = _ from b1, e2]; rfl
            rw [a1', b1']
            have fin : ∀ tC' tM', End mo mk tC' tM' → Sim mo (t + 1) tC' tM' := by
              intro tC' tM' z3
              obtain ⟨n', B', y1, y2, y3, y4, y5, y6⟩ := z3
              exact ⟨n', mk, B', by omega, y1, y2, y3, y4, y5, y6⟩
            rcases e3 with e | ⟨e, _⟩ | e
            · obtain ⟨v, tC', tM', z1, z2, z3⟩ := run_loop (N := N) (mo := mo) (mk := mk) (by omega) (by omega) 400 n 1 0 0 N N B sC' sM' (by omega) e (by omega) (by omega) (by omega) (by omega)
              have z1' : fX6_run_b68 N mo N (0 : Int32) sC' = some (v, tC') := z1
              rw [z1', z2]
              exact ⟨v, tC', tM', rfl, rfl, fin _ _ z3⟩
            · omega
            · obtain ⟨N', rfl⟩ : ∃ z, N = z + 1 := ⟨N - 1, by omega⟩
              obtain ⟨v, tM', z1, z2, z3⟩ := run_exit (N := N' + 1) (r := (0 : Int32)) (fC := N') (fM := N') e
              rw [z1, z2]
              exact ⟨v, sC', tM', rfl, rfl, fin _ _ z3⟩
          · rw [if_neg c4, if_neg c4]
            exact ⟨-3, _, _, rfl, rfl, hs⟩
        · rw [if_neg had]; exact ⟨-2, _, _, rfl, rfl, hs⟩
end OC
theorem sim_ops : xOps 1000 Sim := by
  intro mo t sC sM hmo ht h
  refine ⟨fun a b => op_poke (by omega) h a b, fun a => op_peek h a, fun a b => op_global h a b, fun a b w => op_feed (by omega) h a b w, fun a => op_make (by omega) ht h a, op_place h, fun a b => op_argument h a b, fun a b => ?_, fun a b => ?_, op_result h, fun a => op_fault h a, fun a b => op_accelerate h a b, fun a => op_kept h a, fun a => op_drop (by omega) h a, fun a => op_count h a⟩
  · obtain ⟨r, sC', sM', e1, e2, e3⟩ := op_run (N := 1000) (fl := 1) (by omega) ht (Or.inr rfl) h a b
    refine ⟨r, sC', sM', e1, ?_, e3⟩
    unfold fX9_call
    rw [e2]
    rfl
  · obtain ⟨r, sC', sM', e1, e2, e3⟩ := op_run (N := 1000) (fl := 0) (by omega) ht (Or.inl rfl) h a b
    refine ⟨r, sC', sM', e1, ?_, e3⟩
    unfold fX9_walk
    rw [e2]
    rfl
theorem sim_start {mo : Nat} (hmo : mo ≤ 20) : Sim mo 0 (c0St mo) (m0St mo) := by
  refine ⟨0, 0, fun _ => 0, by omega, ⟨⟨by omega, hmo, ?_, ?_, ?_, ?_, fun k hk => ?_, fun k l hk hl e => ?_, fun k hk => by omega, fun j hj => Or.inl ?_⟩, ⟨?_, fun k hk => by omega, fun k l hk => by omega⟩, fun k hk => ⟨by show (0 : Nat) < 256; omega, ?_, ?_⟩, ⟨?_, ?_, ?_, ?_, ?_, ?_, ?_⟩, ⟨fun k hk => ?_, fun k hk => ?_, fun k hk => ?_, ?_⟩, fun k hk => by omega⟩, ?_, ?_, ?_, ?_, ?_⟩
  all_goals first
    | (simp [c0St, m0St]; done)
    | (simp [c0St, m0St] at *; omega)
    | (simp [c0St, m0St]; rfl)
    | rfl
