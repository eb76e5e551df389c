section EN
variable {N mo n mk d q g : Nat} {A into w : Int32} {B : Nat → Nat} {sC sM : xSt}
theorem enter_bad (h : Run mo n mk d d q B sC sM) (hH : Hr sC sM) : ∃ sC' sM', fX6_enter N mo (-1) (nI g) sC = some sC' ∧ fX9_go N (-1) into sM = some sM' ∧ Fin mo mk sC' sM' := by
  obtain ⟨h1, h2, h3, h4, h5, h6, h7, h8, h9, h10⟩ := id h
  have eC : fX6_enter N mo (-1) (nI g) sC = Option.bind (fX6_fail N mo (nI (if d < 12 then 3 else 4)) sC) (fun s => some s) := by
    unfold fX6_enter fX6_enter_b17 fX6_enter_b78
    rw [if_pos rfl, if_pos rfl, h5]
    by_cases hd : d < 12
    · rw [if_pos (show nI d < (12 : Int32) from nI_lt (b := 12) hd (by omega)), if_pos rfl, if_pos hd]; rfl
    · rw [if_neg (show ¬ nI d < (12 : Int32) from nI_nlt (b := 12) (by omega) (by omega)), if_neg hd]; rfl
  have eM : fX9_go N (-1) into sM = Option.bind (fX9_fails N (nI (if d < 12 then 3 else 4)) sM) (fun s => some s) := by
    unfold fX9_go fX9_go_b73 fX9_go_b106
    rw [m_addrN (by decide)]
    simp only [bd]
    rw [if_pos nI_0, h6]
    by_cases hd : d < 12
    · rw [if_neg (fun z => by rw [li_12, nI_eq (by omega) (by omega)] at z; omega), m_addrN (by decide)]
      simp only []
      rw [if_pos nI_0, if_pos hd]; rfl
    · rw [if_pos (show nI d = (12 : Int32) by rw [show d = 12 by omega]; rfl), if_neg hd]; rfl
  obtain ⟨sC', sM', f1, f2, f3, _⟩ := fail_sim (N := N) (e := if d < 12 then 3 else 4) h1 h10 hH (by split <;> omega)
  exact ⟨sC', sM', by rw [eC, f1]; rfl, by rw [eM, f2]; rfl, f3⟩
theorem c_enterB {a : Nat} (had : isAd a) (hw : sC.1 20 4 (a / 4) = w) (hw0 : ¬ w = 0) : fX6_enter N mo (nI a) (nI g) sC = bd (fX6_valueOfBuiltIn N mo w (nI g) sC) (fun v24 st22 => if (st22.1 5 0 1) = (0 : Int32) then Option.bind (fX6_give N mo v24 st22) (fun st26 => some st26) else some st22) := by
  unfold fX6_enter fX6_enter_b17
  rw [if_neg (fun z => (nI_nm1 (by omega)).mp z), show nI a / (4 : Int32) = nI (a / 4) from pk_div (d := 4) (by omega) (by omega) (by omega), if_neg (nI_in (c := a / 4) (N := 256) (by omega) (by omega)), nI_clamp (by omega), hw, if_neg hw0]
theorem m_goB {a : Nat} (had : isAd a) (hw : sM.1 30 4 (a / 4) = w) (hw0 : ¬ w = 0) : fX9_go N (nI a) into sM = bd (fX9_step N sM) (fun v9 st7 => if v9 = (0 : Int32) then some st7 else bd (fX9_builtIn N (st7.1 30 4 (a / 4)) st7) (fun v14 st12 => if (st12.1 9 0 40) = (0 : Int32) then if into = (-1 : Int32) then fX9_go_b56 N v14 st12 else Option.bind (fX9_becomes N into v14 st12) (fun st17 => fX9_go_b56 N v14 st17) else fX9_go_b56 N v14 st12)) := by
  have hin : ¬ (nI (a / 4) < 0 ∨ 256 ≤ a / 4) := fun z => z.elim (nI_pos (by omega)) (by omega)
  unfold fX9_go
  rw [m_addr (by omega), if_pos had]
  simp only [bd]
  rw [if_neg (by decide), show nI a / (4 : Int32) = nI (a / 4) from pk_div (d := 4) (by omega) (by omega) (by omega), nI_clamp (by omega), if_neg hin, hw, if_neg hw0]
  simp only [if_neg hin]
theorem enter_bi {a : Nat} (hN : 10 < N) (h : Run mo n mk d d q B sC sM) (hH : Hr sC sM) (hg : g ≤ 4) (h39 : sM.1 9 0 39 = nI g) (hh : ∀ i, i < g → sC.1 20 5 i = sM.1 30 38 i) (had : isAd a) (hw : sM.1 30 4 (a / 4) = w) (hw0 : ¬ w = 0) (hinto : (d = 0 ∧ into = -1) ∨ (1 ≤ d ∧ ∃ u, 128 ≤ u ∧ u < 144 ∧ into = nI u ∧ sC.1 2 (d - 1) 8 = nI u)) :
    ∃ sC' sM', fX6_enter N mo (nI a) (nI g) sC = some sC' ∧ fX9_go N (nI a) into sM = some sM' ∧ ((1 ≤ d ∧ Run mo n mk d d (q + 1) B sC' sM') ∨ Fin mo mk sC' sM') := by
  have hwC : sC.1 20 4 (a / 4) = w := by rw [h.1.2.2.2.2.1.2.2.1 _ (by omega)]; exact hw
  rw [c_enterB had hwC hw0, m_goB had hw hw0]
  unfold fX6_valueOfBuiltIn
  rcases spend_sim (N := N) h hH with ⟨hq, e1, e2, e3⟩ | ⟨sC', sM', e1, e2, e3, e4, e5⟩
  · have x1 : ∀ i, i < g → (pI (pI sC 6 0 11 (nI (q + 1))) 20 0 2 (sC.1 20 0 2 + 1)).1 20 5 i = (pI (pI sM 9 0 28 (nI (q + 1))) 9 0 13 (sM.1 9 0 13 + 1)).1 30 38 i := fun i hi => by simp (disch := omega) only [if_pos, if_neg, pI1, pI2, pQ1, pQ2, true_and, and_true, false_and, and_false, true_or, or_true, false_or, or_false, if_true, if_false, Nat.reduceEqDiff, and_self, not_true_eq_false, not_false_eq_true]; exact hh i hi
    have x2 : (pI (pI sM 9 0 28 (nI (q + 1))) 9 0 13 (sM.1 9 0 13 + 1)).1 9 0 39 = nI g := by simp (disch := omega) only [if_pos, if_neg, pI1, pI2, pQ1, pQ2, true_and, and_true, false_and, and_false, true_or, or_true, false_or, or_false, if_true, if_false, Nat.reduceEqDiff, and_self, not_true_eq_false, not_false_eq_true]; exact h39
    have x3 : Hr (pI (pI sC 6 0 11 (nI (q + 1))) 20 0 2 (sC.1 20 0 2 + 1)) (pI (pI sM 9 0 28 (nI (q + 1))) 9 0 13 (sM.1 9 0 13 + 1)) := ⟨by simp (disch := omega) only [if_pos, if_neg, pI1, pI2, pQ1, pQ2, true_and, and_true, false_and, and_false, true_or, or_true, false_or, or_false, if_true, if_false, Nat.reduceEqDiff, and_self, not_true_eq_false, not_false_eq_true]; exact hH.1, by simp (disch := omega) only [if_pos, if_neg, pI1, pI2, pQ1, pQ2, true_and, and_true, false_and, and_false, true_or, or_true, false_or, or_false, if_true, if_false, Nat.reduceEqDiff, and_self, not_true_eq_false, not_false_eq_true]; exact hH.2⟩
    have x4 : (pI (pI sM 9 0 28 (nI (q + 1))) 9 0 13 (sM.1 9 0 13 + 1)).1 30 4 (a / 4) = w := by simp (disch := omega) only [if_pos, if_neg, pI1, pI2, pQ1, pQ2, true_and, and_true, false_and, and_false, true_or, or_true, false_or, or_false, if_true, if_false, Nat.reduceEqDiff, and_self, not_true_eq_false, not_false_eq_true]; exact hw
    have x5 : (pI (pI sC 6 0 11 (nI (q + 1))) 20 0 2 (sC.1 20 0 2 + 1)).1 2 (d - 1) 8 = sC.1 2 (d - 1) 8 := by simp (disch := omega) only [if_pos, if_neg, pI1, pI2, pQ1, pQ2, true_and, and_true, false_and, and_false, true_or, or_true, false_or, or_false, if_true, if_false, Nat.reduceEqDiff, and_self, not_true_eq_false, not_false_eq_true]
    rw [e1, e2]
    generalize pI (pI sC 6 0 11 (nI (q + 1))) 20 0 2 (sC.1 20 0 2 + 1) = tC at *
    generalize pI (pI sM 9 0 28 (nI (q + 1))) 9 0 13 (sM.1 9 0 13 + 1) = tM at *
    have hv := bi_sim (N := N) (w := w) hN e3.1 e3.2.2.2.2.2.2.2.2.2 x3 hg x2 x1
    obtain ⟨h1, h2, h3, h4, h5, h6, h7, h8, h9, h10⟩ := id e3
    simp only [bd] at hv ⊢
    rw [if_neg (show ¬ nI 1 = (0 : Int32) by decide), if_neg (show ¬ nI 1 = (0 : Int32) by decide), x4]
    rcases hv with ⟨v, v1, v2⟩ | ⟨sC', sM', v1, v2, v3, v4, v5⟩
    · rw [v1, v2]
      simp only []
      rw [if_pos (show tC.1 5 0 1 = (0 : Int32) from h10.2.2.1), if_pos (show tM.1 9 0 40 = (0 : Int32) from h10.2.2.2.1)]
      unfold fX6_give
      rw [h5]
      rcases hinto with ⟨z1, z2⟩ | ⟨z1, u, u1, u2, u3, u4⟩
      · subst z1
        rw [if_pos nI_0, if_pos z2]
        refine ⟨pI tC 5 0 0 v, pI tM 9 0 44 v, rfl, ?_, Or.inr ⟨n, B, Cor_c h1 (fun c i k z => by simp (disch := omega) only [if_pos, if_neg, pI1, pI2, pQ1, pQ2, true_and, and_true, false_and, and_false, true_or, or_true, false_or, or_false, if_true, if_false, Nat.reduceEqDiff, and_self, not_true_eq_false, not_false_eq_true]) (fun k => rfl) (fun c i k z => by simp (disch := omega) only [if_pos, if_neg, pI1, pI2, pQ1, pQ2, true_and, and_true, false_and, and_false, true_or, or_true, false_or, or_false, if_true, if_false, Nat.reduceEqDiff, and_self, not_true_eq_false, not_false_eq_true]), by simp (disch := omega) only [if_pos, if_neg, pI1, pI2, pQ1, pQ2, true_and, and_true, false_and, and_false, true_or, or_true, false_or, or_false, if_true, if_false, Nat.reduceEqDiff, and_self, not_true_eq_false, not_false_eq_true]; exact h5, by simp (disch := omega) only [if_pos, if_neg, pI1, pI2, pQ1, pQ2, true_and, and_true, false_and, and_false, true_or, or_true, false_or, or_false, if_true, if_false, Nat.reduceEqDiff, and_self, not_true_eq_false, not_false_eq_true]; exact h10.2.2.2.2.1, by simp (disch := omega) only [if_pos, if_neg, pI1, pI2, pQ1, pQ2, true_and, and_true, false_and, and_false, true_or, or_true, false_or, or_false, if_true, if_false, Nat.reduceEqDiff, and_self, not_true_eq_false, not_false_eq_true]; exact h10.2.2.2.2.2.1, by simp (disch := omega) only [if_pos, if_neg, pI1, pI2, pQ1, pQ2, true_and, and_true, false_and, and_false, true_or, or_true, false_or, or_false, if_true, if_false, Nat.reduceEqDiff, and_self, not_true_eq_false, not_false_eq_true]; exact h10.2.2.2.2.2.2, Or.inl ⟨by simp (disch := omega) only [if_pos, if_neg, pI1, pI2, pQ1, pQ2, true_and, and_true, false_and, and_false, true_or, or_true, false_or, or_false, if_true, if_false, Nat.reduceEqDiff, and_self, not_true_eq_false, not_false_eq_true]; exact h6, by simp (disch := omega) only [if_pos, if_neg, pI1, pI2, pQ1, pQ2, true_and, and_true, false_and, and_false, true_or, or_true, false_or, or_false, if_true, if_false, Nat.reduceEqDiff, and_self, not_true_eq_false, not_false_eq_true]; exact h10.2.2.1, by simp (disch := omega) only [if_pos, if_neg, pI1, pI2, pQ1, pQ2, true_and, and_true, false_and, and_false, true_or, or_true, false_or, or_false, if_true, if_false, Nat.reduceEqDiff, and_self, not_true_eq_false, not_false_eq_true]; exact h10.2.2.2.1, by simp (disch := omega) only [if_pos, if_neg, pI1, pI2, pQ1, pQ2, true_and, and_true, false_and, and_false, true_or, or_true, false_or, or_false, if_true, if_false, Nat.reduceEqDiff, and_self, not_true_eq_false, not_false_eq_true]; exact h10.1, by simp (disch := omega) only [if_pos, if_neg, pI1, pI2, pQ1, pQ2, true_and, and_true, false_and, and_false, true_or, or_true, false_or, or_false, if_true, if_false, Nat.reduceEqDiff, and_self, not_true_eq_false, not_false_eq_true]⟩⟩⟩
        unfold fX9_go_b56
        rw [if_pos (show tM.1 9 0 40 = (0 : Int32) from h10.2.2.2.1)]
        rfl
      · have hnm : ¬ into = -1 := by rw [u3]; exact fun z => (nI_nm1 (by omega)).mp z
        obtain ⟨sC', sM', s1, s2, s3, s4⟩ := set_sim (N := N) (v := v) (u := u) (f := d - 1) e3 ⟨u1, u2⟩ (by omega)
        have hp1 : nI d - (1 : Int32) = nI (d - 1) := pk_sub (b := 1) (by omega)
        rw [if_neg (nI_ne0 (by omega) (by omega)), hp1, if_neg (nI_in (c := d - 1) (N := 12) (by omega) (by omega)), nI_clamp (by omega), if_neg hnm, u3, s2]
        refine ⟨sC', pI sM' 9 0 44 v, ?_, ?_, Or.inl ⟨z1, Run_c s3 (fun _ _ _ _ => rfl) (fun _ _ _ => rfl) (fun c i k z => by simp (disch := omega) only [if_pos, if_neg, pI1, pI2, pQ1, pQ2, true_and, and_true, false_and, and_false, true_or, or_true, false_or, or_false, if_true, if_false, Nat.reduceEqDiff, and_self, not_true_eq_false, not_false_eq_true])⟩⟩
        · simp only [nm]
          rw [x5, u4, s1]
          rfl
        · unfold fX9_go_b56
          simp only [Option.bind_some]
          rw [if_pos (show sM'.1 9 0 40 = (0 : Int32) by rw [s4]; exact h10.2.2.2.1)]
          rfl
    · rw [v1, v2]
      simp only []
      rw [if_neg (show ¬ sC'.1 5 0 1 = (0 : Int32) by rw [v4]; decide), if_neg (show ¬ sM'.1 9 0 40 = (0 : Int32) by rw [v5]; decide)]
      refine ⟨sC', pI sM' 9 0 44 0, rfl, ?_, Or.inr (fin_44 v3 v5 (by omega))⟩
      unfold fX9_go_b56
      rw [if_neg (show ¬ sM'.1 9 0 40 = (0 : Int32) by rw [v5]; decide)]
      rfl
  · rw [e1, e2]
    simp only [bd]
    rw [if_pos nI_0, if_pos nI_0]
    simp only []
    rw [if_neg (show ¬ sC'.1 5 0 1 = (0 : Int32) by rw [e4]; decide)]
    exact ⟨sC', sM', rfl, rfl, Or.inr e3⟩
theorem enter_no {a e : Nat} (h : Run mo n mk d d q B sC sM) (hH : Hr sC sM) (had : isAd a) (hw : sM.1 30 4 (a / 4) = nI 0) (he : (d = 12 ∧ e = 4) ∨ (d < 12 ∧ 8 < B a ∧ e = 3)) : ∃ sC' sM', fX6_enter N mo (nI a) (nI g) sC = some sC' ∧ fX9_go N (nI a) into sM = some sM' ∧ Fin mo mk sC' sM' := by
  obtain ⟨h1, h2, h3, h4, h5, h6, h7, h8, h9, h10⟩ := id h
  obtain ⟨q1, q2, q3⟩ := h1.2.2.1 a (by omega)
  have hwC : sC.1 20 4 (a / 4) = nI 0 := by rw [h1.2.2.2.2.1.2.2.1 _ (by omega)]; exact hw
  have hin : ¬ (nI a < 0 ∨ 1024 ≤ a) := fun z => z.elim (nI_pos (by omega)) (by omega)
  have eC : fX6_enter N mo (nI a) (nI g) sC = Option.bind (fX6_fail N mo (nI e) sC) (fun s => some s) := by
    unfold fX6_enter fX6_enter_b17 fX6_enter_b78 fX3_hasRoutine
    rw [if_neg (fun z => (nI_nm1 (by omega)).mp z), show nI a / (4 : Int32) = nI (a / 4) from pk_div (d := 4) (by omega) (by omega) (by omega), if_neg (nI_in (c := a / 4) (N := 256) (by omega) (by omega)), nI_clamp (by omega), hwC, if_pos nI_0, h5]
    rcases he with ⟨z1, z2⟩ | ⟨z1, z2, z3⟩
    · rw [z1, z2, if_neg (by decide)]; rfl
    · rw [if_pos (show nI d < (12 : Int32) from nI_lt (b := 12) z1 (by omega)), if_neg (fun z => (nI_nm1 (by omega)).mp z), nI_clamp (by omega), if_neg hin, q2, if_pos (show (8 : Int32) < nI (B a) from nI_lt (a := 8) z2 (by omega))]
      simp only [bd]
      rw [z3, if_pos trivial]; rfl
  have eM : fX9_go N (nI a) into sM = Option.bind (fX9_fails N (nI e) sM) (fun s => some s) := by
    unfold fX9_go fX9_go_b73 fX9_go_b106
    rw [m_addr (by omega), if_pos had]
    simp only [bd]
    rw [if_neg (by decide), show nI a / (4 : Int32) = nI (a / 4) from pk_div (d := 4) (by omega) (by omega) (by omega), if_neg (nI_in (c := a / 4) (N := 256) (by omega) (by omega)), nI_clamp (by omega), hw, if_pos nI_0, h6]
    rcases he with ⟨z1, z2⟩ | ⟨z1, z2, z3⟩
    · rw [z1, z2, if_pos (by decide)]; rfl
    · rw [if_neg (fun z => by rw [li_12, nI_eq (by omega) (by omega)] at z; omega), m_addr (by omega), if_pos had]
      simp only []
      rw [if_neg (by decide), nI_clamp (by omega), if_neg hin, q3, if_neg (show ¬ nI (B a) ≤ (8 : Int32) from nI_ge (a := 8) z2 (by omega)), z3]; rfl
  obtain ⟨sC', sM', f1, f2, f3, _⟩ := fail_sim (N := N) (e := e) h1 h10 hH (by omega)
  exact ⟨sC', sM', by rw [eC, f1]; rfl, by rw [eM, f2]; rfl, f3⟩
theorem enter_sim (hN : 30 < N) (hmk : mk < 2 ^ 31) (h : Run mo n mk d d q B sC sM) (hH : Hr sC sM) (hg : g ≤ 4) (h39 : sM.1 9 0 39 = nI g) (hh : ∀ i, i < g → sC.1 20 5 i = sM.1 30 38 i) (hA : A = -1 ∨ ∃ a, isAd a ∧ A = nI a) (hinto : (d = 0 ∧ into = -1) ∨ (1 ≤ d ∧ ∃ u, 128 ≤ u ∧ u < 144 ∧ into = nI u ∧ sC.1 2 (d - 1) 8 = nI u)) :
    ∃ sC' sM', fX6_enter N mo A (nI g) sC = some sC' ∧ fX9_go N A into sM = some sM' ∧ (Run mo n mk (d + 1) (d + 1) q B sC' sM' ∨ (1 ≤ d ∧ Run mo n mk d d (q + 1) B sC' sM') ∨ Fin mo mk sC' sM') := by
  rcases hA with rfl | ⟨a, had, rfl⟩
  · obtain ⟨sC', sM', e1, e2, e3⟩ := enter_bad (N := N) (g := g) (into := into) h hH
    exact ⟨sC', sM', e1, e2, Or.inr (Or.inr e3)⟩
  · by_cases hw : sM.1 30 4 (a / 4) = nI 0
    · have hd12 := h.2.2.1
      by_cases hd : d < 12
      · by_cases hb : B a ≤ 8
        · obtain ⟨h1, h2, h3, h4, h5, h6, h7, h8, h9, h10⟩ := id h
          obtain ⟨q1, q2, q3⟩ := h1.2.2.1 a (by omega)
          have hwC : sC.1 20 4 (a / 4) = nI 0 := by rw [h1.2.2.2.2.1.2.2.1 _ (by omega)]; exact hw
          obtain ⟨s14, c0, c1, c2, c3, c4, c5, c6, c7, c8, c9⟩ := c_enterN (N := N) (mo := mo) (g := g) (by omega) hwC h5 hd had hb hg q2
          obtain ⟨s36, m0, m1, m2, m3, m4, m5, m6, m7⟩ := m_goN (N := N) (into := into) hw h6 hd had hb q3
          have hfin := fun qv kv nv hl => enter_fin (N := N) (qv := qv) (kv := kv) (nv := nv) (into := into) (by omega) hmk h hd had rfl hb hg h39 hh (fun z => by
            rcases hinto with ⟨z1, _⟩ | ⟨_, z2⟩
            · omega
            · exact z2) c1 c2 c3 c4 c5 c6 c7 c8 c9 m1 m2 m3 m4 m5 m6 m7 hl
          have f9 : s14.1 6 0 9 = s36.1 9 0 30 := by rw [c2 _ _ _ (by omega) (by omega) (by omega), m2 _ _ _ (by omega)]; exact h9
          rw [c0, m0, f9]
          by_cases hfl : s36.1 9 0 30 = 0
          · rw [if_pos hfl, if_pos hfl]
            obtain ⟨sC', sM', e1, e2, e3⟩ := hfin 0 (-1) (-1) (Or.inl ⟨rfl, rfl, rfl⟩)
            exact ⟨sC', sM', e1, e2, Or.inl e3⟩
          · rw [if_neg hfl, if_neg hfl]
            have hS' : SR mo n s14 s36 := SR_c h1.1 (fun i k => c2 _ _ _ (by omega) (by omega) (by omega)) (fun k => c2 _ _ _ (by omega) (by omega) (by omega)) (fun k => by rw [c1]) (m2 _ _ _ (by omega)) (m2 _ _ _ (by omega)) (fun k => m2 _ _ _ (by omega)) (fun k => m2 _ _ _ (by omega))
            have hfs : fX7_find N mo (nI a) s14 = fX7_find_b2 N mo N (nI a) (nI 0) s14 := rfl
            have hks : fX9_keptOf N (nI a) s36 = fX9_keptOf_b2 N N (nI a) (nI 0) s36 := rfl
            have hn20 : n ≤ 20 := by have := h1.1.1; have := h1.1.2.1; omega
            rw [hfs, hks]
            rcases find_sim (N := N) (a := nI a) hS' n 0 N N (by omega) (by omega) (by omega) with ⟨y, y1, y2, y3, y4, y5⟩ | ⟨y1, y2, y3⟩
            · rw [y4, y5]
              simp only [bd]
              obtain ⟨sC', sM', e1, e2, e3⟩ := hfin (s14.2 0 y + 1) (nI y) (sM.1 30 9 y) (Or.inr ⟨y, y2, by rw [← m2 30 7 y (by omega)]; exact y3, by rw [c1], rfl, rfl⟩)
              exact ⟨sC', sM', e1, e2, Or.inl e3⟩
            · rw [y2, y3]
              simp only [bd]
              obtain ⟨sC', sM', e1, e2, e3⟩ := hfin 0 (-1) (-1) (Or.inl ⟨rfl, rfl, rfl⟩)
              exact ⟨sC', sM', e1, e2, Or.inl e3⟩
        · have hb2 := (h.1.2.2.1 a (by omega)).1
          obtain ⟨sC', sM', e1, e2, e3⟩ := enter_no (N := N) (g := g) (into := into) (e := 3) h hH had hw (Or.inr ⟨hd, by omega, rfl⟩)
          exact ⟨sC', sM', e1, e2, Or.inr (Or.inr e3)⟩
      · obtain ⟨sC', sM', e1, e2, e3⟩ := enter_no (N := N) (g := g) (into := into) (e := 4) h hH had hw (Or.inl ⟨by omega, rfl⟩)
        exact ⟨sC', sM', e1, e2, Or.inr (Or.inr e3)⟩
    · obtain ⟨sC', sM', e1, e2, e3⟩ := enter_bi (N := N) (w := sM.1 30 4 (a / 4)) (by omega) h hH hg h39 hh had rfl hw hinto
      exact ⟨sC', sM', e1, e2, Or.inr e3⟩
end EN
