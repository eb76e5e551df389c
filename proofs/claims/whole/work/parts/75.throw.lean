section TH
variable {N mo n mk d q p len : Nat} {B : Nat → Nat} {sC sM : xSt}
theorem throwL {w : Int32} (hR : Run mo n mk d d q B sC sM) (hH : Hr sC sM) : ∀ k fC fM (tM : xSt), k < d → k < fC → k < fM → tM.2 = sM.2 → (∀ c i j, ¬ (c = 9 ∧ i = 0 ∧ j = 29) → tM.1 c i j = sM.1 c i j) → tM.1 9 0 29 = nI k →
    ∃ sC' sM', fX6_throwOut_b7 N mo fC w (nI k - 1) sC = some sC' ∧ fX9_throwing_b10 N fM w tM = some sM' ∧ ((∃ d', 1 ≤ d' ∧ Run mo n mk d' d' q B sC' sM') ∨ Fin mo mk sC' sM') := by
  obtain ⟨h1, h2, h3, h4, h5, h6, h7, h8, h9, h10⟩ := id hR
  intro k
  induction k with
  | zero =>
    intro fC fM tM hk hfC hfM t1 t2 t3
    obtain ⟨fC, rfl⟩ : ∃ z, fC = z + 1 := ⟨fC - 1, by omega⟩
    obtain ⟨fM, rfl⟩ : ∃ z, fM = z + 1 := ⟨fM - 1, by omega⟩
    have c6 : fX6_throwOut_b7 N mo (fC + 1) w (nI 0 - 1) sC = Option.bind (fX6_fail N mo (nI 6) (pI sC 5 0 4 w)) (fun s => some s) := by
      rw [fX6_throwOut_b7, if_pos (by decide)]; rfl
    have m6 : fX9_throwing_b10 N (fM + 1) w tM = Option.bind (fX9_fails N (nI 6) tM) (fun st14 => some (pI st14 9 0 43 w)) := by
      rw [fX9_throwing_b10, t3, if_pos (by decide)]
      unfold fX9_throwing_b44
      rw [t3, if_pos nI_0]
      rfl
    refine ⟨_, _, c6.trans rfl, m6.trans rfl, ?_⟩
    refine Or.inr ⟨n, B, Cor_c h1 (fun c i j z => by simp (disch := omega) only [if_pos, if_neg, pI1, pI2, pQ1, pQ2, true_and, and_true, false_and, and_false, true_or, or_true, false_or, or_false, if_true, if_false, Nat.reduceEqDiff, and_self, not_true_eq_false, not_false_eq_true]) (fun k => rfl) (fun c i j z => by simp (disch := omega) only [if_pos, if_neg, pI1, pI2, pQ1, pQ2, true_and, and_true, false_and, and_false, true_or, or_true, false_or, or_false, if_true, if_false, Nat.reduceEqDiff, and_self, not_true_eq_false, not_false_eq_true]; exact t2 _ _ _ (by omega)), by simp (disch := omega) only [if_pos, if_neg, pI1, pI2, pQ1, pQ2, true_and, and_true, false_and, and_false, true_or, or_true, false_or, or_false, if_true, if_false, Nat.reduceEqDiff, and_self, not_true_eq_false, not_false_eq_true]; rfl, by simp (disch := omega) only [if_pos, if_neg, pI1, pI2, pQ1, pQ2, true_and, and_true, false_and, and_false, true_or, or_true, false_or, or_false, if_true, if_false, Nat.reduceEqDiff, and_self, not_true_eq_false, not_false_eq_true]; rw [t2 _ _ _ (by omega)]; exact hH.1, by simp (disch := omega) only [if_pos, if_neg, pI1, pI2, pQ1, pQ2, true_and, and_true, false_and, and_false, true_or, or_true, false_or, or_false, if_true, if_false, Nat.reduceEqDiff, and_self, not_true_eq_false, not_false_eq_true]; rw [t2 _ _ _ (by omega)]; exact hH.2, by simp (disch := omega) only [if_pos, if_neg, pI1, pI2, pQ1, pQ2, true_and, and_true, false_and, and_false, true_or, or_true, false_or, or_false, if_true, if_false, Nat.reduceEqDiff, and_self, not_true_eq_false, not_false_eq_true], Or.inr ⟨6, by omega, by omega, by simp (disch := omega) only [if_pos, if_neg, pI1, pI2, pQ1, pQ2, true_and, and_true, false_and, and_false, true_or, or_true, false_or, or_false, if_true, if_false, Nat.reduceEqDiff, and_self, not_true_eq_false, not_false_eq_true], by simp (disch := omega) only [if_pos, if_neg, pI1, pI2, pQ1, pQ2, true_and, and_true, false_and, and_false, true_or, or_true, false_or, or_false, if_true, if_false, Nat.reduceEqDiff, and_self, not_true_eq_false, not_false_eq_true], by simp (disch := omega) only [if_pos, if_neg, pI1, pI2, pQ1, pQ2, true_and, and_true, false_and, and_false, true_or, or_true, false_or, or_false, if_true, if_false, Nat.reduceEqDiff, and_self, not_true_eq_false, not_false_eq_true]; rw [t2 _ _ _ (by omega), h10.1], by simp (disch := omega) only [if_pos, if_neg, pI1, pI2, pQ1, pQ2, true_and, and_true, false_and, and_false, true_or, or_true, false_or, or_false, if_true, if_false, Nat.reduceEqDiff, and_self, not_true_eq_false, not_false_eq_true]; exact h10.2.1⟩⟩
  | succ k ih =>
    intro fC fM tM hk hfC hfM t1 t2 t3
    obtain ⟨fC, rfl⟩ : ∃ z, fC = z + 1 := ⟨fC - 1, by omega⟩
    obtain ⟨fM, rfl⟩ : ∃ z, fM = z + 1 := ⟨fM - 1, by omega⟩
    obtain ⟨⟨⟨a, x, hh, ct, g1, g2, g3, g4, g5, g6, g7, g8, g9, g10, g11, g12⟩, g13, g14⟩, hF1⟩ := h2.1 k (by omega)
    have hpr : nI (k + 1) - (1 : Int32) = nI k := nI_pred k
    have hin : ¬ (nI k < 0 ∨ 12 ≤ k) := fun z => z.elim (nI_pos (by omega)) (by omega)
    have m34 : tM.1 30 34 k = nI ct := by rw [t2 _ _ _ (by omega)]; exact g12
    by_cases hct : ct = 0
    · subst hct
      obtain ⟨sC', sM', e1, e2, e3⟩ := ih fC fM (pI tM 9 0 29 (nI k)) (by omega) (by omega) (by omega) t1 (fun c i j z => by rw [pI1, if_neg (by omega)]; exact t2 c i j z) (by simp (disch := omega) only [if_pos, if_neg, pI1, pI2, pQ1, pQ2, true_and, and_true, false_and, and_false, true_or, or_true, false_or, or_false, if_true, if_false, Nat.reduceEqDiff, and_self, not_true_eq_false, not_false_eq_true])
      refine ⟨sC', sM', ?_, ?_, e3⟩
      · rw [fX6_throwOut_b7, hpr, if_neg (nI_pos (by omega)), nI_clamp (by omega), if_neg hin]
        simp only [nm]
        rw [g11, if_pos nI_0, show nI k + (-1 : Int32) = nI k - 1 by rw [Int32.sub_eq_add_neg]]
        exact e1
      · rw [fX9_throwing_b10, t3, if_neg (show ¬ nI (k + 1) ≤ (0 : Int32) from nI_nle (by omega) (by omega)), hpr, nI_clamp (by omega), if_neg hin, m34, if_pos nI_0]
        exact e2
    · -- caught here
      have hne : ¬ nI ct = 0 := nI_ne0 (by omega) (by omega)
      have eC : fX6_throwOut_b7 N mo (fC + 1) w (nI (k + 1) - 1) sC = some (pI (pI (pI (pI (pI sC 6 0 10 (nI (k + 1))) 2 k 3 (nI ct)) 2 k 5 (sC.1 2 k 7)) 20 1 7 w) 20 0 7 (sC.1 20 0 7 + 1)) := by
        have y1 : (pI sC 6 0 10 (nI (k + 1))).1 2 k 6 = nI ct := by simp (disch := omega) only [if_pos, if_neg, pI1, pI2, pQ1, pQ2, true_and, and_true, false_and, and_false, true_or, or_true, false_or, or_false, if_true, if_false, Nat.reduceEqDiff, and_self, not_true_eq_false, not_false_eq_true]; exact g11
        have y2 : (pI (pI sC 6 0 10 (nI (k + 1))) 2 k 3 (nI ct)).1 2 k 7 = sC.1 2 k 7 := by simp (disch := omega) only [if_pos, if_neg, pI1, pI2, pQ1, pQ2, true_and, and_true, false_and, and_false, true_or, or_true, false_or, or_false, if_true, if_false, Nat.reduceEqDiff, and_self, not_true_eq_false, not_false_eq_true]
        have y3 : (pI (pI (pI (pI sC 6 0 10 (nI (k + 1))) 2 k 3 (nI ct)) 2 k 5 (sC.1 2 k 7)) 20 1 7 w).1 20 0 7 = sC.1 20 0 7 := by simp (disch := omega) only [if_pos, if_neg, pI1, pI2, pQ1, pQ2, true_and, and_true, false_and, and_false, true_or, or_true, false_or, or_false, if_true, if_false, Nat.reduceEqDiff, and_self, not_true_eq_false, not_false_eq_true]
        rw [fX6_throwOut_b7, hpr, if_neg (nI_pos (by omega)), nI_clamp (by omega), if_neg hin]
        simp only [nm]
        rw [g11, if_neg hne, nI_1, y1, y2, y3]
      have eM : fX9_throwing_b10 N (fM + 1) w tM = some (pI (pI (pI tM 9 0 18 (tM.1 9 0 18 + 1)) 30 2 7 w) 30 32 k (nI (a + ct))) := by
        have y1 : (pI (pI tM 9 0 18 (tM.1 9 0 18 + 1)) 30 2 7 w).1 9 0 29 = nI (k + 1) := by simp (disch := omega) only [if_pos, if_neg, pI1, pI2, pQ1, pQ2, true_and, and_true, false_and, and_false, true_or, or_true, false_or, or_false, if_true, if_false, Nat.reduceEqDiff, and_self, not_true_eq_false, not_false_eq_true]; exact t3
        have y2 : (pI (pI tM 9 0 18 (tM.1 9 0 18 + 1)) 30 2 7 w).1 30 31 k = nI a := by simp (disch := omega) only [if_pos, if_neg, pI1, pI2, pQ1, pQ2, true_and, and_true, false_and, and_false, true_or, or_true, false_or, or_false, if_true, if_false, Nat.reduceEqDiff, and_self, not_true_eq_false, not_false_eq_true]; rw [t2 _ _ _ (by omega)]; exact g6
        have y3 : (pI (pI tM 9 0 18 (tM.1 9 0 18 + 1)) 30 2 7 w).1 30 34 k = nI ct := by simp (disch := omega) only [if_pos, if_neg, pI1, pI2, pQ1, pQ2, true_and, and_true, false_and, and_false, true_or, or_true, false_or, or_false, if_true, if_false, Nat.reduceEqDiff, and_self, not_true_eq_false, not_false_eq_true]; exact m34
        rw [fX9_throwing_b10, t3, if_neg (show ¬ nI (k + 1) ≤ (0 : Int32) from nI_nle (by omega) (by omega)), hpr, nI_clamp (by omega), if_neg hin, m34, if_neg hne]
        unfold fX9_throwing_b44
        rw [t3, if_neg (nI_ne0 (by omega) (by omega))]
        simp only [nm]
        rw [y1, hpr, nI_clamp (by omega), if_neg hin, if_neg hin, y2, y3, if_neg hin, nI_add]
      refine ⟨_, _, eC, eM, Or.inl ⟨k + 1, by omega, ?_⟩⟩
      -- first the depth, the number, the count
      have hA : Run mo n mk (k + 1) (k + 1) q B (pI (pI (pI sC 6 0 10 (nI (k + 1))) 20 1 7 w) 20 0 7 (sC.1 20 0 7 + 1)) (pI (pI tM 9 0 18 (tM.1 9 0 18 + 1)) 30 2 7 w) := by
        obtain ⟨c1, c2, c3, c4, c5, c6, c7⟩ := h1.2.2.2.1
        obtain ⟨o1, o2, o3, o4⟩ := h1.2.2.2.2.1
        have tt : ∀ c i j, ¬ (c = 9 ∧ i = 0 ∧ (j = 29 ∨ j = 18)) → ¬ (c = 30 ∧ i = 2 ∧ j = 7) → (pI (pI tM 9 0 18 (tM.1 9 0 18 + 1)) 30 2 7 w).1 c i j = sM.1 c i j := fun c i j z1 z2 => by
          rw [pI1, if_neg (by omega), pI1, if_neg (by omega)]; exact t2 _ _ _ (by omega)
        have tc : ∀ c i j, ¬ (c = 6 ∧ i = 0 ∧ j = 10) → ¬ (c = 20 ∧ i = 1 ∧ j = 7) → ¬ (c = 20 ∧ i = 0 ∧ j = 7) → (pI (pI (pI sC 6 0 10 (nI (k + 1))) 20 1 7 w) 20 0 7 (sC.1 20 0 7 + 1)).1 c i j = sC.1 c i j := fun c i j z1 z2 z3 => by
          rw [pI1, if_neg (by omega), pI1, if_neg (by omega), pI1, if_neg (by omega)]
        refine ⟨Cor_g h1 (fun c i j z => tc _ _ _ (by omega) (by omega) (by omega)) (fun k => rfl) (fun c i j z => tt _ _ _ (by omega) (by omega)) ⟨?_, ?_, ?_, ?_, ?_, ?_, ?_⟩ ⟨fun j hj => ?_, fun j hj => ?_, fun j hj => ?_, ?_⟩, FR_c ⟨fun f hf => h2.1 f (by omega), fun f hf => h2.2 f (by omega)⟩ (fun i j z => tc _ _ _ (by omega) (by omega) (by omega)) (fun i j z1 z2 => tc _ _ _ (by omega) (by omega) (by omega)) (fun i j => tc _ _ _ (by omega) (by omega) (by omega)) (fun i j => tc _ _ _ (by omega) (by omega) (by omega)) (fun k => rfl) (fun k z => rfl) (fun i j z1 z2 z3 => tt _ _ _ (by omega) (by omega)) (fun j z => tt _ _ _ (by omega) (by omega)) (fun j => tt _ _ _ (by omega) (by omega)), by omega, h4, by simp (disch := omega) only [if_pos, if_neg, pI1, pI2, pQ1, pQ2, true_and, and_true, false_and, and_false, true_or, or_true, false_or, or_false, if_true, if_false, Nat.reduceEqDiff, and_self, not_true_eq_false, not_false_eq_true], by simp (disch := omega) only [if_pos, if_neg, pI1, pI2, pQ1, pQ2, true_and, and_true, false_and, and_false, true_or, or_true, false_or, or_false, if_true, if_false, Nat.reduceEqDiff, and_self, not_true_eq_false, not_false_eq_true]; exact t3, ?_, ?_, ?_, Out_c h10 (fun c i j z => tc _ _ _ (by omega) (by omega) (by omega)) (fun j z => tt _ _ _ (by omega) (by omega))⟩
        · rw [tc _ _ _ (by omega) (by omega) (by omega), tt _ _ _ (by omega) (by omega)]; exact c1
        · rw [tc _ _ _ (by omega) (by omega) (by omega), tt _ _ _ (by omega) (by omega)]; exact c2
        · rw [tc _ _ _ (by omega) (by omega) (by omega), tt _ _ _ (by omega) (by omega)]; exact c3
        · rw [tc _ _ _ (by omega) (by omega) (by omega), tt _ _ _ (by omega) (by omega)]; exact c4
        · rw [tc _ _ _ (by omega) (by omega) (by omega), tt _ _ _ (by omega) (by omega)]; exact c5
        · rw [tc _ _ _ (by omega) (by omega) (by omega), tt _ _ _ (by omega) (by omega)]; exact c6
        · simp (disch := omega) only [if_pos, if_neg, pI1, pI2, pQ1, pQ2, true_and, and_true, false_and, and_false, true_or, or_true, false_or, or_false, if_true, if_false, Nat.reduceEqDiff, and_self, not_true_eq_false, not_false_eq_true]; rw [c7, t2 _ _ _ (by omega)]
        · by_cases e : j = 7
          · rw [e]; simp (disch := omega) only [if_pos, if_neg, pI1, pI2, pQ1, pQ2, true_and, and_true, false_and, and_false, true_or, or_true, false_or, or_false, if_true, if_false, Nat.reduceEqDiff, and_self, not_true_eq_false, not_false_eq_true]
          · rw [tc _ _ _ (by omega) (by omega) (by omega), tt _ _ _ (by omega) (by omega)]; exact o1 j hj
        · rw [tc _ _ _ (by omega) (by omega) (by omega), tt _ _ _ (by omega) (by omega)]; exact o2 j hj
        · rw [tc _ _ _ (by omega) (by omega) (by omega), tt _ _ _ (by omega) (by omega)]; exact o3 j hj
        · rw [tc _ _ _ (by omega) (by omega) (by omega), tt _ _ _ (by omega) (by omega)]; exact o4
        · rw [tc _ _ _ (by omega) (by omega) (by omega)]; exact h7
        · rw [tt _ _ _ (by omega) (by omega)]; exact h8
        · rw [tc _ _ _ (by omega) (by omega) (by omega), tt _ _ _ (by omega) (by omega)]; exact h9
      refine top_c (f := k) (a := a) (x' := ct) (ct' := ct) hA (by omega) (fun c i j z => by simp (disch := omega) only [if_pos, if_neg, pI1, pI2, pQ1, pQ2, true_and, and_true, false_and, and_false, true_or, or_true, false_or, or_false, if_true, if_false, Nat.reduceEqDiff, and_self, not_true_eq_false, not_false_eq_true]) rfl (fun c i j z => by simp (disch := omega) only [if_pos, if_neg, pI1, pI2, pQ1, pQ2, true_and, and_true, false_and, and_false, true_or, or_true, false_or, or_false, if_true, if_false, Nat.reduceEqDiff, and_self, not_true_eq_false, not_false_eq_true]) (by simp (disch := omega) only [if_pos, if_neg, pI1, pI2, pQ1, pQ2, true_and, and_true, false_and, and_false, true_or, or_true, false_or, or_false, if_true, if_false, Nat.reduceEqDiff, and_self, not_true_eq_false, not_false_eq_true]; exact g5) g1 (by omega) g4 (by simp (disch := omega) only [if_pos, if_neg, pI1, pI2, pQ1, pQ2, true_and, and_true, false_and, and_false, true_or, or_true, false_or, or_false, if_true, if_false, Nat.reduceEqDiff, and_self, not_true_eq_false, not_false_eq_true]) (by simp (disch := omega) only [if_pos, if_neg, pI1, pI2, pQ1, pQ2, true_and, and_true, false_and, and_false, true_or, or_true, false_or, or_false, if_true, if_false, Nat.reduceEqDiff, and_self, not_true_eq_false, not_false_eq_true]) (by simp (disch := omega) only [if_pos, if_neg, pI1, pI2, pQ1, pQ2, true_and, and_true, false_and, and_false, true_or, or_true, false_or, or_false, if_true, if_false, Nat.reduceEqDiff, and_self, not_true_eq_false, not_false_eq_true]; exact g11) (by simp (disch := omega) only [if_pos, if_neg, pI1, pI2, pQ1, pQ2, true_and, and_true, false_and, and_false, true_or, or_true, false_or, or_false, if_true, if_false, Nat.reduceEqDiff, and_self, not_true_eq_false, not_false_eq_true]; exact m34) (fun k' hk' hq' => ?_)
      obtain ⟨_, sz, r, l1, l2, l3, l4, l5, l6⟩ := (hF1 k' hk').2 hq'
      rcases l6 with l6 | ⟨r', l7, l8, l9⟩
      · rw [g11, nI_eq (by omega) (by omega)] at l6
        exact absurd l6 hct
      · have z3 : (pI (pI (pI sC 6 0 10 (nI (k + 1))) 20 1 7 w) 20 0 7 (sC.1 20 0 7 + 1)).2 0 k' = sC.2 0 k' := rfl
        rw [z3]
        refine ⟨sz, r', by simp (disch := omega) only [if_pos, if_neg, pI1, pI2, pQ1, pQ2, true_and, and_true, false_and, and_false, true_or, or_true, false_or, or_false, if_true, if_false, Nat.reduceEqDiff, and_self, not_true_eq_false, not_false_eq_true]; exact l1, l2, l7, by simp (disch := omega) only [if_pos, if_neg, pI1, pI2, pQ1, pQ2, true_and, and_true, false_and, and_false, true_or, or_true, false_or, or_false, if_true, if_false, Nat.reduceEqDiff, and_self, not_true_eq_false, not_false_eq_true]; exact l8, by simp (disch := omega) only [if_pos, if_neg, pI1, pI2, pQ1, pQ2, true_and, and_true, false_and, and_false, true_or, or_true, false_or, or_false, if_true, if_false, Nat.reduceEqDiff, and_self, not_true_eq_false, not_false_eq_true]; rw [l9]; exact g11, Or.inr ⟨r', l7, by simp (disch := omega) only [if_pos, if_neg, pI1, pI2, pQ1, pQ2, true_and, and_true, false_and, and_false, true_or, or_true, false_or, or_false, if_true, if_false, Nat.reduceEqDiff, and_self, not_true_eq_false, not_false_eq_true]; exact l8, by simp (disch := omega) only [if_pos, if_neg, pI1, pI2, pQ1, pQ2, true_and, and_true, false_and, and_false, true_or, or_true, false_or, or_false, if_true, if_false, Nat.reduceEqDiff, and_self, not_true_eq_false, not_false_eq_true]; rw [l9]; exact g11⟩⟩
theorem do_throw (hN : 30 < N) (h : Post mo n mk d q p len B sC sM) (hd : 1 ≤ d) (hc : B p = 13) : Did N mo mk q (d - 1) sC sM := by
  obtain ⟨wa, wb, e1, e2, e3⟩ := doIt_pre (N := N) h hd
  have hR := Post_run h hd (by omega)
  obtain ⟨_, p2, p3, p4, p5, ⟨loc, hl, hdec⟩, ⟨Q, bs, k1, k2, k3, k4, k5, k6⟩, q1, q2, q3⟩ := id h
  obtain ⟨hlen, o1⟩ := dk1 (k := 1) (by omega) (by omega) (by omega) (dec_rd hc hdec)
  have v1 := e2 (by omega) (okV o1 hl)
  have r0 := k5 0 (by omega)
  have r1 := k5 1 (by omega)
  rw [hc] at q1
  rw [Nat.add_zero, Nat.add_zero, hc] at r0
  have hd12 := hR.2.2.1
  have h10 : sC.1 6 0 10 = nI d := hR.2.2.2.2.1
  have h29 : sM.1 9 0 29 = nI d := hR.2.2.2.2.2.1
  have hp1 : nI d - (1 : Int32) = nI (d - 1) := pk_sub (b := 1) (by omega)
  obtain ⟨sC', sM', f1, f2, f3⟩ := throwL (N := N) (w := wa) hR p5 (d - 1) N N (pI sM 9 0 29 (nI (d - 1))) (by omega) (by omega) (by omega) rfl (fun c i j z => by rw [pI1, if_neg (by omega)]) (by simp (disch := omega) only [if_pos, if_neg, pI1, pI2, pQ1, pQ2, true_and, and_true, false_and, and_false, true_or, or_true, false_or, or_false, if_true, if_false, Nat.reduceEqDiff, and_self, not_true_eq_false, not_false_eq_true])
  have hsub : nI d - (2 : Int32) = nI (d - 1) - 1 := by
    by_cases h1 : d = 1
    · rw [h1]; decide
    · rw [li_2, li_1, pk_sub (by omega), pk_sub (by omega)]
      exact congrArg nI (by omega)
  have f1' : fX6_throwOut N mo wa sC = some sC' := by
    unfold fX6_throwOut
    rw [h10, hsub]
    exact f1
  have f2' : fX9_throwing N wa sM = some sM' := by
    unfold fX9_throwing
    rw [h29, hp1]
    exact f2
  refine Did_of (sC' := sC') (sM' := sM') ?_ ?_ ?_
  · unfold fX6_carryOut
    simp +decide (disch := omega) only [↓reduceIte, k1, k2, r0, r1, v1, f1', nm, bd, Option.bind_some, pI1, pI2, pQ1, pQ2, li_0, li_1, li_2, li_3, li_4, li_5, li_6, li_7, li_8, li_9, li_10, li_11, li_12, li_13, li_14, li_15, li_16, li_60, li_64, li_128, li_136, li_144, li_256, li_400, li_500, li_1020, li_1024, nI_neg1, nI_clamp, nI_ltI, nI_leI, nI_eq, nI_add, pk_sub, pk_mul, pk_div, nI_nm1, nI_nm1p, Nat.add_sub_cancel, Nat.add_sub_cancel_left, false_or, or_false, true_or, or_true, not_true_eq_false, not_false_eq_true, and_true, true_and, and_false, false_and, if_true, if_false, if_pos, if_neg]
  · rw [e1]
    unfold fX9_doIt_b68
    simp +decide (disch := omega) only [↓reduceIte, q1, f2', nm, bd, Option.bind_some, pI1, pI2, pQ1, pQ2, li_0, li_1, li_2, li_3, li_4, li_5, li_6, li_7, li_8, li_9, li_10, li_11, li_12, li_13, li_14, li_15, li_16, li_60, li_64, li_128, li_136, li_144, li_256, li_400, li_500, li_1020, li_1024, nI_neg1, nI_clamp, nI_ltI, nI_leI, nI_eq, nI_add, pk_sub, pk_mul, pk_div, nI_nm1, nI_nm1p, Nat.add_sub_cancel, Nat.add_sub_cancel_left, false_or, or_false, true_or, or_true, not_true_eq_false, not_false_eq_true, and_true, true_and, and_false, false_and, if_true, if_false, if_pos, if_neg]
  · rcases f3 with ⟨d', z1, z2⟩ | f
    · exact Or.inl ⟨n, d', q, B, z1, Nat.le_refl _, z2⟩
    · exact Or.inr f
theorem do_any (hN : 30 < N) (hmk : mk < 2 ^ 31) (h : Post mo n mk d q p len B sC sM) (hd : 1 ≤ d) : Did N mo mk q (d - 1) sC sM := by
  have hp : B p ≤ 15 := by
    obtain ⟨_, _, _, _, _, ⟨loc, hl, hdec⟩, _⟩ := h
    have hp := (dec_p (B := B) (loc := loc) (p := p)).2.2 (by rw [hdec])
    exact hp.2.2
  have hcs : B p = 0 ∨ B p = 1 ∨ (2 ≤ B p ∧ B p ≤ 6) ∨ B p = 7 ∨ B p = 8 ∨ B p = 9 ∨ B p = 10 ∨ B p = 11 ∨ B p = 12 ∨ B p = 13 ∨ B p = 14 ∨ B p = 15 := by omega
  rcases hcs with z | z | z | z | z | z | z | z | z | z | z | z
  · exact do_ret h hd z
  · exact do_set h hd z
  · exact do_reckon h hd rfl z
  · exact do_load h hd z
  · exact do_store hN h hd z
  · exact do_jump h hd z
  · exact do_less h hd z
  · exact do_alike h hd z
  · exact do_call hN hmk h hd z
  · exact do_throw hN h hd z
  · exact do_catch h hd z
  · exact do_end h hd z
end TH
