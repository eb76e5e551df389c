/-! Each instruction, done by both. -/
section CO
variable {N mo n mk d q p len : Nat} {B : Nat → Nat} {sC sM : xSt}
/-- what a step's doing is to give -/
def Did (N mo mk q f : Nat) (sC sM : xSt) : Prop := ∃ sC' sM', fX6_carryOut N mo f sC = some sC' ∧ fX9_doIt N sM = some sM' ∧ ((∃ n d q' B, 1 ≤ d ∧ q ≤ q' ∧ Run mo n mk d d q' B sC' sM') ∨ Fin mo mk sC' sM')
theorem Did_of {f : Nat} {sC' sM' : xSt} (e1 : fX6_carryOut N mo f sC = some sC') (e2 : fX9_doIt N sM = some sM') (h : (∃ n d q' B, 1 ≤ d ∧ q ≤ q' ∧ Run mo n mk d d q' B sC' sM') ∨ Fin mo mk sC' sM') : Did N mo mk q f sC sM := ⟨sC', sM', e1, e2, h⟩
theorem do_ret (h : Post mo n mk d q p len B sC sM) (hd : 1 ≤ d) (hc : B p = 0) : Did N mo mk q (d - 1) sC sM := by
  obtain ⟨wa, wb, e1, e2, e3⟩ := doIt_pre (N := N) h hd
  obtain ⟨hR, p2, p3, p4, p5, ⟨loc, hl, hdec⟩, ⟨Q, bs, k1, k2, k3, k4, k5, k6⟩, q1, q2, q3⟩ := id h
  obtain ⟨hlen, o1⟩ := dk1 (k := 1) (by omega) (by omega) (by omega) (dec_rd hc hdec)
  have v1 := e2 (by omega) (okV o1 hl)
  have r0 := k5 0 (by omega)
  have r1 := k5 1 (by omega)
  rw [hc] at q1
  rw [Nat.add_zero, Nat.add_zero, hc] at r0
  obtain ⟨sC', sM', f1, f2, f3⟩ := leave_sim (N := N) (v := wa) hR hd p4
  refine Did_of (sC' := sC') (sM' := sM') ?_ ?_ ?_
  · unfold fX6_carryOut
    simp +decide (disch := omega) only [↓reduceIte, k1, k2, r0, r1, v1, f1, nm, bd, Option.bind_some, pI1, pI2, pQ1, pQ2, li_0, li_1, li_2, li_3, li_4, li_5, li_6, li_7, li_8, li_9, li_10, li_11, li_12, li_13, li_14, li_15, li_16, li_60, li_64, li_128, li_136, li_144, li_256, li_400, li_500, li_1020, li_1024, nI_neg1, nI_clamp, nI_ltI, nI_leI, nI_eq, nI_add, pk_sub, pk_mul, pk_div, nI_nm1, nI_nm1p, Nat.add_sub_cancel, Nat.add_sub_cancel_left, false_or, or_false, true_or, or_true, not_true_eq_false, not_false_eq_true, and_true, true_and, and_false, false_and, if_true, if_false, if_pos, if_neg]
  · rw [e1]
    unfold fX9_doIt_b68
    simp +decide (disch := omega) only [↓reduceIte, q1, f2, nm, bd, Option.bind_some, pI1, pI2, pQ1, pQ2, li_0, li_1, li_2, li_3, li_4, li_5, li_6, li_7, li_8, li_9, li_10, li_11, li_12, li_13, li_14, li_15, li_16, li_60, li_64, li_128, li_136, li_144, li_256, li_400, li_500, li_1020, li_1024, nI_neg1, nI_clamp, nI_ltI, nI_leI, nI_eq, nI_add, pk_sub, pk_mul, pk_div, nI_nm1, nI_nm1p, Nat.add_sub_cancel, Nat.add_sub_cancel_left, false_or, or_false, true_or, or_true, not_true_eq_false, not_false_eq_true, and_true, true_and, and_false, false_and, if_true, if_false, if_pos, if_neg]
  · rcases f3 with ⟨g1, g2⟩ | g
    · exact Or.inl ⟨n, d - 1, q, B, g1, Nat.le_refl _, g2⟩
    · exact Or.inr g
theorem do_end (h : Post mo n mk d q p len B sC sM) (hd : 1 ≤ d) (hc : B p = 15) : Did N mo mk q (d - 1) sC sM := by
  obtain ⟨wa, wb, e1, e2, e3⟩ := doIt_pre (N := N) h hd
  obtain ⟨hR, p2, p3, p4, p5, ⟨loc, hl, hdec⟩, ⟨Q, bs, k1, k2, k3, k4, k5, k6⟩, q1, q2, q3⟩ := id h
  have hp := (dec_p (B := B) (loc := loc) (p := p)).2.2 (by rw [hdec])
  rw [hdec] at hp
  have r0 := k5 0 hp.1
  rw [hc] at q1
  rw [Nat.add_zero, Nat.add_zero, hc] at r0
  obtain ⟨sC', sM', f1, f2, f3⟩ := leave_sim (N := N) (v := nI 0) hR hd p4
  refine Did_of (sC' := sC') (sM' := sM') ?_ ?_ ?_
  · unfold fX6_carryOut
    simp +decide (disch := omega) only [↓reduceIte, k1, k2, r0, f1, nm, bd, Option.bind_some, pI1, pI2, pQ1, pQ2, li_0, li_1, li_2, li_3, li_4, li_5, li_6, li_7, li_8, li_9, li_10, li_11, li_12, li_13, li_14, li_15, li_16, li_60, li_64, li_128, li_136, li_144, li_256, li_400, li_500, li_1020, li_1024, nI_neg1, nI_clamp, nI_ltI, nI_leI, nI_eq, nI_add, pk_sub, pk_mul, pk_div, nI_nm1, nI_nm1p, Nat.add_sub_cancel, Nat.add_sub_cancel_left, false_or, or_false, true_or, or_true, not_true_eq_false, not_false_eq_true, and_true, true_and, and_false, false_and, if_true, if_false, if_pos, if_neg]
  · rw [e1]
    unfold fX9_doIt_b68
    simp +decide (disch := omega) only [↓reduceIte, q1, f2, nm, bd, Option.bind_some, pI1, pI2, pQ1, pQ2, li_0, li_1, li_2, li_3, li_4, li_5, li_6, li_7, li_8, li_9, li_10, li_11, li_12, li_13, li_14, li_15, li_16, li_60, li_64, li_128, li_136, li_144, li_256, li_400, li_500, li_1020, li_1024, nI_neg1, nI_clamp, nI_ltI, nI_leI, nI_eq, nI_add, pk_sub, pk_mul, pk_div, nI_nm1, nI_nm1p, Nat.add_sub_cancel, Nat.add_sub_cancel_left, false_or, or_false, true_or, or_true, not_true_eq_false, not_false_eq_true, and_true, true_and, and_false, false_and, if_true, if_false, if_pos, if_neg]
  · rcases f3 with ⟨g1, g2⟩ | g
    · exact Or.inl ⟨n, d - 1, q, B, g1, Nat.le_refl _, g2⟩
    · exact Or.inr g
theorem do_set (h : Post mo n mk d q p len B sC sM) (hd : 1 ≤ d) (hc : B p = 1) : Did N mo mk q (d - 1) sC sM := by
  obtain ⟨wa, wb, e1, e2, e3⟩ := doIt_pre (N := N) h hd
  have hR := Post_run h hd (by omega)
  obtain ⟨_, p2, p3, p4, p5, ⟨loc, hl, hdec⟩, ⟨Q, bs, k1, k2, k3, k4, k5, k6⟩, q1, q2, q3⟩ := id h
  obtain ⟨hlen, o1, o2⟩ := dk2 (k := 2) (l := 1) (by omega) (by omega) (by omega) (by omega) (by omega) (by omega) (dec_rd hc hdec)
  have v2 := e3 (by omega) (okV o2 hl)
  have r0 := k5 0 (by omega)
  have r1 := k5 1 (by omega)
  have r2 := k5 2 (by omega)
  have m0 : sM.1 30 22 0 = nI (B (p + 1)) := q3 0 (by omega)
  rw [hc] at q1
  rw [Nat.add_zero, Nat.add_zero, hc] at r0
  obtain ⟨sC', sM', f1, f2, f3, _⟩ := set_sim (N := N) (v := wb) (u := B (p + 1)) (f := d - 1) hR (okC o1 hl) (by omega)
  refine Did_of (sC' := sC') (sM' := sM') ?_ ?_ (Or.inl ⟨n, d, q, B, hd, Nat.le_refl _, f3⟩)
  · unfold fX6_carryOut
    simp +decide (disch := omega) only [↓reduceIte, k1, k2, r0, r1, r2, v2, f1, nm, bd, Option.bind_some, pI1, pI2, pQ1, pQ2, li_0, li_1, li_2, li_3, li_4, li_5, li_6, li_7, li_8, li_9, li_10, li_11, li_12, li_13, li_14, li_15, li_16, li_60, li_64, li_128, li_136, li_144, li_256, li_400, li_500, li_1020, li_1024, nI_neg1, nI_clamp, nI_ltI, nI_leI, nI_eq, nI_add, pk_sub, pk_mul, pk_div, nI_nm1, nI_nm1p, Nat.add_sub_cancel, Nat.add_sub_cancel_left, false_or, or_false, true_or, or_true, not_true_eq_false, not_false_eq_true, and_true, true_and, and_false, false_and, if_true, if_false, if_pos, if_neg]
  · rw [e1]
    unfold fX9_doIt_b68
    simp +decide (disch := omega) only [↓reduceIte, q1, m0, f2, nm, bd, Option.bind_some, pI1, pI2, pQ1, pQ2, li_0, li_1, li_2, li_3, li_4, li_5, li_6, li_7, li_8, li_9, li_10, li_11, li_12, li_13, li_14, li_15, li_16, li_60, li_64, li_128, li_136, li_144, li_256, li_400, li_500, li_1020, li_1024, nI_neg1, nI_clamp, nI_ltI, nI_leI, nI_eq, nI_add, pk_sub, pk_mul, pk_div, nI_nm1, nI_nm1p, Nat.add_sub_cancel, Nat.add_sub_cancel_left, false_or, or_false, true_or, or_true, not_true_eq_false, not_false_eq_true, and_true, true_and, and_false, false_and, if_true, if_false, if_pos, if_neg]
theorem do_load (h : Post mo n mk d q p len B sC sM) (hd : 1 ≤ d) (hc : B p = 7) : Did N mo mk q (d - 1) sC sM := by
  obtain ⟨wa, wb, e1, e2, e3⟩ := doIt_pre (N := N) h hd
  have hR := Post_run h hd (by omega)
  obtain ⟨_, p2, p3, p4, p5, ⟨loc, hl, hdec⟩, ⟨Q, bs, k1, k2, k3, k4, k5, k6⟩, q1, q2, q3⟩ := id h
  obtain ⟨hlen, o1, o2⟩ := dk2 (k := 2) (l := 1) (by omega) (by omega) (by omega) (by omega) (by omega) (by omega) (dec_rd hc hdec)
  have v2 := e3 (by omega) (okV o2 hl)
  have r0 := k5 0 (by omega)
  have r1 := k5 1 (by omega)
  have r2 := k5 2 (by omega)
  have m0 : sM.1 30 22 0 = nI (B (p + 1)) := q3 0 (by omega)
  rw [hc] at q1
  rw [Nat.add_zero, Nat.add_zero, hc] at r0
  by_cases hk : okB wb
  · obtain ⟨x, hx, rfl⟩ := okB_nI hk
    obtain ⟨b1, b2, b3⟩ := hR.1.2.2.1 x hx
    obtain ⟨sC', sM', f1, f2, f3, _⟩ := set_sim (N := N) (v := nI (B x)) (u := B (p + 1)) (f := d - 1) hR (okC o1 hl) (by omega)
    have hin : ¬ (nI x < 0 ∨ 1024 ≤ x) := fun z => z.elim (nI_pos (by omega)) (by omega)
    have hld : fX6_load N mo (d - 1) (nI (B (p + 1))) (nI x) sC = some sC' := by
      unfold fX6_load
      rw [c_place8, if_pos hk]
      simp only [bd]
      rw [if_neg (by decide), nI_clamp (by omega), if_neg hin, b2, f1]
      rfl
    refine Did_of (sC' := sC') (sM' := sM') ?_ ?_ (Or.inl ⟨n, d, q, B, hd, Nat.le_refl _, f3⟩)
    · unfold fX6_carryOut
      simp +decide (disch := omega) only [↓reduceIte, k1, k2, r0, r1, r2, v2, hld, nm, bd, Option.bind_some, pI1, pI2, pQ1, pQ2, li_0, li_1, li_2, li_3, li_4, li_5, li_6, li_7, li_8, li_9, li_10, li_11, li_12, li_13, li_14, li_15, li_16, li_60, li_64, li_128, li_136, li_144, li_256, li_400, li_500, li_1020, li_1024, nI_neg1, nI_clamp, nI_ltI, nI_leI, nI_eq, nI_add, pk_sub, pk_mul, pk_div, nI_nm1, nI_nm1p, Nat.add_sub_cancel, Nat.add_sub_cancel_left, false_or, or_false, true_or, or_true, not_true_eq_false, not_false_eq_true, and_true, true_and, and_false, false_and, if_true, if_false, if_pos, if_neg]
    · rw [e1]
      unfold fX9_doIt_b68
      simp only [nm]
      rw [q1, if_neg (by decide), if_neg (by decide), if_neg (by decide), if_neg (by decide), if_neg (by decide), if_neg (by decide), if_neg (by decide), if_pos (by decide), m_place, if_pos hk]
      simp only [bd]
      rw [if_neg (by decide), nI_clamp (by omega), if_neg hin, m0, b3, f2]
      rfl
  · obtain ⟨sC', sM', f1, f2, f3, _⟩ := fail_sim (N := N) (e := 1) hR.1 hR.2.2.2.2.2.2.2.2.2 p5 (by omega)
    have hld : fX6_load N mo (d - 1) (nI (B (p + 1))) wb sC = some sC' := by
      unfold fX6_load
      rw [c_place8, if_neg hk]
      simp only [bd]
      rw [if_pos nI_0, li_1, f1]
      rfl
    refine Did_of (sC' := sC') (sM' := sM') ?_ ?_ (Or.inr f3)
    · unfold fX6_carryOut
      simp +decide (disch := omega) only [↓reduceIte, k1, k2, r0, r1, r2, v2, hld, nm, bd, Option.bind_some, pI1, pI2, pQ1, pQ2, li_0, li_1, li_2, li_3, li_4, li_5, li_6, li_7, li_8, li_9, li_10, li_11, li_12, li_13, li_14, li_15, li_16, li_60, li_64, li_128, li_136, li_144, li_256, li_400, li_500, li_1020, li_1024, nI_neg1, nI_clamp, nI_ltI, nI_leI, nI_eq, nI_add, pk_sub, pk_mul, pk_div, nI_nm1, nI_nm1p, Nat.add_sub_cancel, Nat.add_sub_cancel_left, false_or, or_false, true_or, or_true, not_true_eq_false, not_false_eq_true, and_true, true_and, and_false, false_and, if_true, if_false, if_pos, if_neg]
    · rw [e1]
      unfold fX9_doIt_b68
      simp only [nm]
      rw [q1, if_neg (by decide), if_neg (by decide), if_neg (by decide), if_neg (by decide), if_neg (by decide), if_neg (by decide), if_neg (by decide), if_pos (by decide), m_place, if_neg hk]
      simp only [bd]
      rw [if_pos nI_0, li_1, f2]
      rfl
theorem do_store (hN : 30 < N) (h : Post mo n mk d q p len B sC sM) (hd : 1 ≤ d) (hc : B p = 8) : Did N mo mk q (d - 1) sC sM := by
  obtain ⟨wa, wb, e1, e2, e3⟩ := doIt_pre (N := N) h hd
  have hR := Post_run h hd (by omega)
  obtain ⟨_, p2, p3, p4, p5, ⟨loc, hl, hdec⟩, ⟨Q, bs, k1, k2, k3, k4, k5, k6⟩, q1, q2, q3⟩ := id h
  obtain ⟨hlen, o1, o2⟩ := dk2 (k := 1) (l := 1) (by omega) (by omega) (by omega) (by omega) (by omega) (by omega) (dec_rd hc hdec)
  have v1 := e2 (by omega) (okV o1 hl)
  have v2 := e3 (by omega) (okV o2 hl)
  have r0 := k5 0 (by omega)
  have r1 := k5 1 (by omega)
  have r2 := k5 2 (by omega)
  rw [hc] at q1
  rw [Nat.add_zero, Nat.add_zero, hc] at r0
  by_cases hk : okB wa
  · obtain ⟨x, hx, rfl⟩ := okB_nI hk
    obtain ⟨n', B', dr, sC', sM', w0, w1, w2, w3, w4, w5, w6⟩ := wrote (N := N) (d := d) (vC := wb) (vM := wb) hN hx rfl hR.1 hR.2.1
    have hst : fX6_store N mo (nI x) wb sC = some sC' := by
      unfold fX6_store
      rw [c_place8, if_pos hk]
      simp only [bd]
      rw [if_neg (by decide), w1]
    obtain ⟨h1, h2, h3, h4, h5, h6, h7, h8, h9, h10⟩ := hR
    refine Did_of (sC' := sC') (sM' := sM') ?_ ?_ (Or.inl ⟨n', d, q, B', hd, Nat.le_refl _, w3, w4, h3, h4, ?_, ?_, ?_, ?_, ?_, Out_c h10 (fun c i k z => w5.1 _ _ _ (by omega) (by omega) (by omega) (by omega)) (fun k z => w6.1 _ _ _ (by omega) (by omega))⟩)
    · unfold fX6_carryOut
      simp +decide (disch := omega) only [↓reduceIte, k1, k2, r0, r1, r2, v1, v2, hst, nm, bd, Option.bind_some, pI1, pI2, pQ1, pQ2, li_0, li_1, li_2, li_3, li_4, li_5, li_6, li_7, li_8, li_9, li_10, li_11, li_12, li_13, li_14, li_15, li_16, li_60, li_64, li_128, li_136, li_144, li_256, li_400, li_500, li_1020, li_1024, nI_neg1, nI_clamp, nI_ltI, nI_leI, nI_eq, nI_add, pk_sub, pk_mul, pk_div, nI_nm1, nI_nm1p, Nat.add_sub_cancel, Nat.add_sub_cancel_left, false_or, or_false, true_or, or_true, not_true_eq_false, not_false_eq_true, and_true, true_and, and_false, false_and, if_true, if_false, if_pos, if_neg]
    · rw [e1]
      unfold fX9_doIt_b68
      simp only [nm]
      rw [q1, if_neg (by decide), if_neg (by decide), if_neg (by decide), if_neg (by decide), if_neg (by decide), if_neg (by decide), if_neg (by decide), if_neg (by decide), if_pos (by decide), m_place, if_pos hk]
      simp only [bd]
      rw [if_neg (by decide), w2]
    · rw [w5.1 _ _ _ (by omega) (by omega) (by omega) (by omega)]; exact h5
    · rw [w6.1 _ _ _ (by omega) (by omega)]; exact h6
    · rw [w5.1 _ _ _ (by omega) (by omega) (by omega) (by omega)]; exact h7
    · rw [w6.1 _ _ _ (by omega) (by omega)]; exact h8
    · rw [w5.1 _ _ _ (by omega) (by omega) (by omega) (by omega), w6.1 _ _ _ (by omega) (by omega)]; exact h9
  · obtain ⟨sC', sM', f1, f2, f3, _⟩ := fail_sim (N := N) (e := 1) hR.1 hR.2.2.2.2.2.2.2.2.2 p5 (by omega)
    have hst : fX6_store N mo wa wb sC = some sC' := by
      unfold fX6_store
      rw [c_place8, if_neg hk]
      simp only [bd]
      rw [if_pos nI_0, li_1, f1]
      rfl
    refine Did_of (sC' := sC') (sM' := sM') ?_ ?_ (Or.inr f3)
    · unfold fX6_carryOut
      simp +decide (disch := omega) only [↓reduceIte, k1, k2, r0, r1, r2, v1, v2, hst, nm, bd, Option.bind_some, pI1, pI2, pQ1, pQ2, li_0, li_1, li_2, li_3, li_4, li_5, li_6, li_7, li_8, li_9, li_10, li_11, li_12, li_13, li_14, li_15, li_16, li_60, li_64, li_128, li_136, li_144, li_256, li_400, li_500, li_1020, li_1024, nI_neg1, nI_clamp, nI_ltI, nI_leI, nI_eq, nI_add, pk_sub, pk_mul, pk_div, nI_nm1, nI_nm1p, Nat.add_sub_cancel, Nat.add_sub_cancel_left, false_or, or_false, true_or, or_true, not_true_eq_false, not_false_eq_true, and_true, true_and, and_false, false_and, if_true, if_false, if_pos, if_neg]
    · rw [e1]
      unfold fX9_doIt_b68
      simp only [nm]
      rw [q1, if_neg (by decide), if_neg (by decide), if_neg (by decide), if_neg (by decide), if_neg (by decide), if_neg (by decide), if_neg (by decide), if_neg (by decide), if_pos (by decide), m_place, if_neg hk]
      simp only [bd]
      rw [if_pos nI_0, li_1, f2]
      rfl
/-- a jump to t, by both -/
theorem jump_sim (h : Post mo n mk d q p len B sC sM) (hd : 1 ≤ d) (h15 : B p ≠ 15) (hcol : colO (B p) ≠ 0) (h14 : B p ≠ 14) : ∃ sC' sM', fX6_jump N mo (d - 1) (nI (B (p + colO (B p)))) sC = some sC' ∧ fX9_jump N 1 (nI (B (p + colO (B p)))) sM = some sM' ∧ Run mo n mk d d q B sC' sM' := by
  have hR := Post_run h hd h15
  obtain ⟨_, p2, p3, p4, p5, ⟨loc, hl, hdec⟩, ⟨Q, bs, k1, k2, k3, k4, k5, k6⟩, q1, q2, q3⟩ := id h
  have hrc := rwC_c Q
  have hd12 := hR.2.2.1
  have hl1 := dec_len (B := B) (p := p) (loc := loc) (by rw [hdec])
  rw [hdec] at hl1
  have hp := (dec_p (B := B) (loc := loc) (p := p)).2.2 (by rw [hdec])
  rw [hdec] at hp
  have hp' : 1 ≤ len ∧ p + len ≤ 1024 ∧ B p ≤ 15 := hp
  have hl1' : colO (B p) < len := hl1.1
  have ht : B (p + colO (B p)) < 256 := (hR.1.2.2.1 _ (by omega)).1
  generalize et : B (p + colO (B p)) = t at *
  obtain ⟨⟨a, x, hh, ct, g1, g2, g3, g4, g5, g6, g7, g8, g9, g10, g11, g12⟩, g13, g14⟩ := p2
  have hdM : sM.1 9 0 29 = nI d := hR.2.2.2.2.2.1
  have hp1 : nI d - (1 : Int32) = nI (d - 1) := pk_sub (b := 1) (by omega)
  generalize e10 : sC.1 (rwC Q) (rwI mo Q) (bs + 10) = w10 at *
  refine ⟨pI (pI sC 2 (d - 1) 3 (nI t)) 2 (d - 1) 5 w10, pI sM 30 32 (d - 1) (nI (a + t)), ?_, ?_, top_c (f := d - 1) (a := a) (x' := t) (ct' := ct) hR (by omega) (fun c i k z => by simp (disch := omega) only [if_pos, if_neg, pI1, pI2, pQ1, pQ2, true_and, and_true, false_and, and_false, true_or, or_true, false_or, or_false, if_true, if_false, Nat.reduceEqDiff, and_self, not_true_eq_false, not_false_eq_true]) rfl (fun c i k z => by simp (disch := omega) only [if_pos, if_neg, pI1, pI2, pQ1, pQ2, true_and, and_true, false_and, and_false, true_or, or_true, false_or, or_false, if_true, if_false, Nat.reduceEqDiff, and_self, not_true_eq_false, not_false_eq_true]) g5 g1 (by omega) g4 (by simp (disch := omega) only [if_pos, if_neg, pI1, pI2, pQ1, pQ2, true_and, and_true, false_and, and_false, true_or, or_true, false_or, or_false, if_true, if_false, Nat.reduceEqDiff, and_self, not_true_eq_false, not_false_eq_true]) (by simp (disch := omega) only [if_pos, if_neg, pI1, pI2, pQ1, pQ2, true_and, and_true, false_and, and_false, true_or, or_true, false_or, or_false, if_true, if_false, Nat.reduceEqDiff, and_self, not_true_eq_false, not_false_eq_true]) (by simp (disch := omega) only [if_pos, if_neg, pI1, pI2, pQ1, pQ2, true_and, and_true, false_and, and_false, true_or, or_true, false_or, or_false, if_true, if_false, Nat.reduceEqDiff, and_self, not_true_eq_false, not_false_eq_true]; exact g11) (by simp (disch := omega) only [if_pos, if_neg, pI1, pI2, pQ1, pQ2, true_and, and_true, false_and, and_false, true_or, or_true, false_or, or_false, if_true, if_false, Nat.reduceEqDiff, and_self, not_true_eq_false, not_false_eq_true]; exact g12) (fun k hk hq => ?_)⟩
  · unfold fX6_jump
    simp (disch := omega) only [k1, k2, e10, nm, bd, Option.bind_some, pI1, pI2, pQ1, pQ2, li_0, li_1, li_2, li_3, li_4, li_5, li_6, li_7, li_8, li_9, li_10, li_11, li_12, li_13, li_14, li_15, li_16, li_60, li_64, li_128, li_136, li_144, li_256, li_400, li_500, li_1020, li_1024, nI_neg1, nI_clamp, nI_ltI, nI_leI, nI_eq, nI_add, pk_sub, pk_mul, pk_div, nI_nm1, nI_nm1p, Nat.add_sub_cancel, Nat.add_sub_cancel_left, false_or, or_false, true_or, or_true, not_true_eq_false, not_false_eq_true, and_true, true_and, and_false, false_and, if_true, if_false, if_pos, if_neg]
  · have hin : ¬ (nI (d - 1) < 0 ∨ 12 ≤ d - 1) := fun z => z.elim (nI_pos (by omega)) (by omega)
    unfold fX9_jump
    rw [if_neg (by decide), hdM, hp1, nI_clamp (by omega), if_neg hin, if_neg hin, g6, nI_add]
    rfl
  · rcases k6 k hk hq hcol with ⟨y, sz, y1, y2, y3, y4, y5⟩ | ⟨z, _⟩
    · refine ⟨sz, y, y3, y2, y1, by simp (disch := omega) only [if_pos, if_neg, pI1, pI2, pQ1, pQ2, true_and, and_true, false_and, and_false, true_or, or_true, false_or, or_false, if_true, if_false, Nat.reduceEqDiff, and_self, not_true_eq_false, not_false_eq_true]; exact y5, y4, ?_⟩
      obtain ⟨_, sz', r, l1, l2, l3, l4, l5, l6⟩ := ((p3 h15) k hk).2 hq
      have esz : sz' = sz := by rw [y3, nI_eq (by omega) (by omega)] at l1; exact l1.symm
      subst esz
      rcases l6 with l6 | ⟨r', l7, l8, l9⟩
      · rw [g11, nI_eq (by omega) (by omega)] at l6
        exact Or.inl l6
      · exact Or.inr ⟨r', l7, by simp (disch := omega) only [if_pos, if_neg, pI1, pI2, pQ1, pQ2, true_and, and_true, false_and, and_false, true_or, or_true, false_or, or_false, if_true, if_false, Nat.reduceEqDiff, and_self, not_true_eq_false, not_false_eq_true]; exact l8, by rw [l9, g11]⟩
    · exact absurd z h14
theorem do_jump (h : Post mo n mk d q p len B sC sM) (hd : 1 ≤ d) (hc : B p = 9) : Did N mo mk q (d - 1) sC sM := by
  obtain ⟨wa, wb, e1, e2, e3⟩ := doIt_pre (N := N) h hd
  have hcl : colO (B p) = 1 := by rw [hc]; rfl
  obtain ⟨sC', sM', f1, f2, f3⟩ := jump_sim (N := N) h hd (by omega) (by omega) (by omega)
  rw [hcl] at f1 f2
  obtain ⟨_, p2, p3, p4, p5, ⟨loc, hl, hdec⟩, ⟨Q, bs, k1, k2, k3, k4, k5, k6⟩, q1, q2, q3⟩ := id h
  obtain ⟨hlen, o1⟩ := dk1 (k := 3) (by omega) (by omega) (by omega) (dec_rd hc hdec)
  have r0 := k5 0 (by omega)
  have r1 := k5 1 (by omega)
  have m0 : sM.1 30 22 0 = nI (B (p + 1)) := q3 0 (by omega)
  rw [hc] at q1
  rw [Nat.add_zero, Nat.add_zero, hc] at r0
  have f2' : fX9_jump N (nI 1) (nI (B (p + 1))) sM = some sM' := f2
  refine Did_of (sC' := sC') (sM' := sM') ?_ ?_ (Or.inl ⟨n, d, q, B, hd, Nat.le_refl _, f3⟩)
  · unfold fX6_carryOut
    simp +decide (disch := omega) only [↓reduceIte, k1, k2, r0, r1, f1, nm, bd, Option.bind_some, pI1, pI2, pQ1, pQ2, li_0, li_1, li_2, li_3, li_4, li_5, li_6, li_7, li_8, li_9, li_10, li_11, li_12, li_13, li_14, li_15, li_16, li_60, li_64, li_128, li_136, li_144, li_256, li_400, li_500, li_1020, li_1024, nI_neg1, nI_clamp, nI_ltI, nI_leI, nI_eq, nI_add, pk_sub, pk_mul, pk_div, nI_nm1, nI_nm1p, Nat.add_sub_cancel, Nat.add_sub_cancel_left, false_or, or_false, true_or, or_true, not_true_eq_false, not_false_eq_true, and_true, true_and, and_false, false_and, if_true, if_false, if_pos, if_neg]
  · rw [e1]
    unfold fX9_doIt_b68
    simp +decide (disch := omega) only [↓reduceIte, q1, m0, f2', nm, bd, Option.bind_some, pI1, pI2, pQ1, pQ2, li_0, li_1, li_2, li_3, li_4, li_5, li_6, li_7, li_8, li_9, li_10, li_11, li_12, li_13, li_14, li_15, li_16, li_60, li_64, li_128, li_136, li_144, li_256, li_400, li_500, li_1020, li_1024, nI_neg1, nI_clamp, nI_ltI, nI_leI, nI_eq, nI_add, pk_sub, pk_mul, pk_div, nI_nm1, nI_nm1p, Nat.add_sub_cancel, Nat.add_sub_cancel_left, false_or, or_false, true_or, or_true, not_true_eq_false, not_false_eq_true, and_true, true_and, and_false, false_and, if_true, if_false, if_pos, if_neg]
theorem do_less (h : Post mo n mk d q p len B sC sM) (hd : 1 ≤ d) (hc : B p = 10) : Did N mo mk q (d - 1) sC sM := by
  obtain ⟨wa, wb, e1, e2, e3⟩ := doIt_pre (N := N) h hd
  have hcl : colO (B p) = 3 := by rw [hc]; rfl
  obtain ⟨sC', sM', f1, f2, f3⟩ := jump_sim (N := N) h hd (by omega) (by omega) (by omega)
  rw [hcl] at f1 f2
  have hR := Post_run h hd (by omega)
  obtain ⟨_, p2, p3, p4, p5, ⟨loc, hl, hdec⟩, ⟨Q, bs, k1, k2, k3, k4, k5, k6⟩, q1, q2, q3⟩ := id h
  obtain ⟨hlen, o1, o2, o3⟩ := dk3 (k := 1) (l := 1) (m := 3) (by omega) (by omega) (by omega) (by omega) (by omega) (by omega) (by omega) (by omega) (by omega) (dec_rd hc hdec)
  have v1 := e2 (by omega) (okV o1 hl)
  have v2 := e3 (by omega) (okV o2 hl)
  have r0 := k5 0 (by omega)
  have r1 := k5 1 (by omega)
  have r2 := k5 2 (by omega)
  have r3 := k5 3 (by omega)
  have m2 : sM.1 30 22 2 = nI (B (p + 3)) := q3 2 (by omega)
  rw [hc] at q1
  rw [Nat.add_zero, Nat.add_zero, hc] at r0
  have f2' : fX9_jump N (nI 1) (nI (B (p + 3))) sM = some sM' := f2
  have f0 : fX9_jump N (nI 0) (nI (B (p + 3))) sM = some sM := rfl
  by_cases hlt : wb ≤ wa
  · refine Did_of (sC' := sC) (sM' := sM) ?_ ?_ (Or.inl ⟨n, d, q, B, hd, Nat.le_refl _, hR⟩)
    · unfold fX6_carryOut
      simp +decide (disch := omega) only [↓reduceIte, k1, k2, r0, r1, r2, v1, v2, hlt, nm, bd, Option.bind_some, pI1, pI2, pQ1, pQ2, li_0, li_1, li_2, li_3, li_4, li_5, li_6, li_7, li_8, li_9, li_10, li_11, li_12, li_13, li_14, li_15, li_16, li_60, li_64, li_128, li_136, li_144, li_256, li_400, li_500, li_1020, li_1024, nI_neg1, nI_clamp, nI_ltI, nI_leI, nI_eq, nI_add, pk_sub, pk_mul, pk_div, nI_nm1, nI_nm1p, Nat.add_sub_cancel, Nat.add_sub_cancel_left, false_or, or_false, true_or, or_true, not_true_eq_false, not_false_eq_true, and_true, true_and, and_false, false_and, if_true, if_false, if_pos, if_neg]
    · rw [e1]
      unfold fX9_doIt_b68 fX9_doIt_b250
      simp +decide (disch := omega) only [↓reduceIte, q1, m2, f0, hlt, nm, bd, Option.bind_some, pI1, pI2, pQ1, pQ2, li_0, li_1, li_2, li_3, li_4, li_5, li_6, li_7, li_8, li_9, li_10, li_11, li_12, li_13, li_14, li_15, li_16, li_60, li_64, li_128, li_136, li_144, li_256, li_400, li_500, li_1020, li_1024, nI_neg1, nI_clamp, nI_ltI, nI_leI, nI_eq, nI_add, pk_sub, pk_mul, pk_div, nI_nm1, nI_nm1p, Nat.add_sub_cancel, Nat.add_sub_cancel_left, false_or, or_false, true_or, or_true, not_true_eq_false, not_false_eq_true, and_true, true_and, and_false, false_and, if_true, if_false, if_pos, if_neg]
  · refine Did_of (sC' := sC') (sM' := sM') ?_ ?_ (Or.inl ⟨n, d, q, B, hd, Nat.le_refl _, f3⟩)
    · unfold fX6_carryOut
      simp +decide (disch := omega) only [↓reduceIte, k1, k2, r0, r1, r2, r3, v1, v2, hlt, f1, nm, bd, Option.bind_some, pI1, pI2, pQ1, pQ2, li_0, li_1, li_2, li_3, li_4, li_5, li_6, li_7, li_8, li_9, li_10, li_11, li_12, li_13, li_14, li_15, li_16, li_60, li_64, li_128, li_136, li_144, li_256, li_400, li_500, li_1020, li_1024, nI_neg1, nI_clamp, nI_ltI, nI_leI, nI_eq, nI_add, pk_sub, pk_mul, pk_div, nI_nm1, nI_nm1p, Nat.add_sub_cancel, Nat.add_sub_cancel_left, false_or, or_false, true_or, or_true, not_true_eq_false, not_false_eq_true, and_true, true_and, and_false, false_and, if_true, if_false, if_pos, if_neg]
    · rw [e1]
      unfold fX9_doIt_b68 fX9_doIt_b250
      simp +decide (disch := omega) only [↓reduceIte, q1, m2, f2', hlt, nm, bd, Option.bind_some, pI1, pI2, pQ1, pQ2, li_0, li_1, li_2, li_3, li_4, li_5, li_6, li_7, li_8, li_9, li_10, li_11, li_12, li_13, li_14, li_15, li_16, li_60, li_64, li_128, li_136, li_144, li_256, li_400, li_500, li_1020, li_1024, nI_neg1, nI_clamp, nI_ltI, nI_leI, nI_eq, nI_add, pk_sub, pk_mul, pk_div, nI_nm1, nI_nm1p, Nat.add_sub_cancel, Nat.add_sub_cancel_left, false_or, or_false, true_or, or_true, not_true_eq_false, not_false_eq_true, and_true, true_and, and_false, false_and, if_true, if_false, if_pos, if_neg]
theorem do_alike (h : Post mo n mk d q p len B sC sM) (hd : 1 ≤ d) (hc : B p = 11) : Did N mo mk q (d - 1) sC sM := by
  obtain ⟨wa, wb, e1, e2, e3⟩ := doIt_pre (N := N) h hd
  have hcl : colO (B p) = 3 := by rw [hc]; rfl
  obtain ⟨sC', sM', f1, f2, f3⟩ := jump_sim (N := N) h hd (by omega) (by omega) (by omega)
  rw [hcl] at f1 f2
  have hR := Post_run h hd (by omega)
  obtain ⟨_, p2, p3, p4, p5, ⟨loc, hl, hdec⟩, ⟨Q, bs, k1, k2, k3, k4, k5, k6⟩, q1, q2, q3⟩ := id h
  obtain ⟨hlen, o1, o2, o3⟩ := dk3 (k := 1) (l := 1) (m := 3) (by omega) (by omega) (by omega) (by omega) (by omega) (by omega) (by omega) (by omega) (by omega) (dec_rd hc hdec)
  have v1 := e2 (by omega) (okV o1 hl)
  have v2 := e3 (by omega) (okV o2 hl)
  have r0 := k5 0 (by omega)
  have r1 := k5 1 (by omega)
  have r2 := k5 2 (by omega)
  have r3 := k5 3 (by omega)
  have m2 : sM.1 30 22 2 = nI (B (p + 3)) := q3 2 (by omega)
  rw [hc] at q1
  rw [Nat.add_zero, Nat.add_zero, hc] at r0
  have f2' : fX9_jump N (nI 1) (nI (B (p + 3))) sM = some sM' := f2
  have f0 : fX9_jump N (nI 0) (nI (B (p + 3))) sM = some sM := rfl
  by_cases hlt : wa = wb
  · refine Did_of (sC' := sC') (sM' := sM') ?_ ?_ (Or.inl ⟨n, d, q, B, hd, Nat.le_refl _, f3⟩)
    · unfold fX6_carryOut
      simp +decide (disch := omega) only [↓reduceIte, k1, k2, r0, r1, r2, r3, v1, v2, hlt, f1, nm, bd, Option.bind_some, pI1, pI2, pQ1, pQ2, li_0, li_1, li_2, li_3, li_4, li_5, li_6, li_7, li_8, li_9, li_10, li_11, li_12, li_13, li_14, li_15, li_16, li_60, li_64, li_128, li_136, li_144, li_256, li_400, li_500, li_1020, li_1024, nI_neg1, nI_clamp, nI_ltI, nI_leI, nI_eq, nI_add, pk_sub, pk_mul, pk_div, nI_nm1, nI_nm1p, Nat.add_sub_cancel, Nat.add_sub_cancel_left, false_or, or_false, true_or, or_true, not_true_eq_false, not_false_eq_true, and_true, true_and, and_false, false_and, if_true, if_false, if_pos, if_neg]
    · rw [e1]
      unfold fX9_doIt_b68 fX9_doIt_b271
      simp +decide (disch := omega) only [↓reduceIte, q1, m2, f2', hlt, nm, bd, Option.bind_some, pI1, pI2, pQ1, pQ2, li_0, li_1, li_2, li_3, li_4, li_5, li_6, li_7, li_8, li_9, li_10, li_11, li_12, li_13, li_14, li_15, li_16, li_60, li_64, li_128, li_136, li_144, li_256, li_400, li_500, li_1020, li_1024, nI_neg1, nI_clamp, nI_ltI, nI_leI, nI_eq, nI_add, pk_sub, pk_mul, pk_div, nI_nm1, nI_nm1p, Nat.add_sub_cancel, Nat.add_sub_cancel_left, false_or, or_false, true_or, or_true, not_true_eq_false, not_false_eq_true, and_true, true_and, and_false, false_and, if_true, if_false, if_pos, if_neg]
  · refine Did_of (sC' := sC) (sM' := sM) ?_ ?_ (Or.inl ⟨n, d, q, B, hd, Nat.le_refl _, hR⟩)
    · unfold fX6_carryOut
      simp +decide (disch := omega) only [↓reduceIte, k1, k2, r0, r1, r2, v1, v2, hlt, nm, bd, Option.bind_some, pI1, pI2, pQ1, pQ2, li_0, li_1, li_2, li_3, li_4, li_5, li_6, li_7, li_8, li_9, li_10, li_11, li_12, li_13, li_14, li_15, li_16, li_60, li_64, li_128, li_136, li_144, li_256, li_400, li_500, li_1020, li_1024, nI_neg1, nI_clamp, nI_ltI, nI_leI, nI_eq, nI_add, pk_sub, pk_mul, pk_div, nI_nm1, nI_nm1p, Nat.add_sub_cancel, Nat.add_sub_cancel_left, false_or, or_false, true_or, or_true, not_true_eq_false, not_false_eq_true, and_true, true_and, and_false, false_and, if_true, if_false, if_pos, if_neg]
    · rw [e1]
      unfold fX9_doIt_b68 fX9_doIt_b271
      simp +decide (disch := omega) only [↓reduceIte, q1, m2, f0, hlt, nm, bd, Option.bind_some, pI1, pI2, pQ1, pQ2, li_0, li_1, li_2, li_3, li_4, li_5, li_6, li_7, li_8, li_9, li_10, li_11, li_12, li_13, li_14, li_15, li_16, li_60, li_64, li_128, li_136, li_144, li_256, li_400, li_500, li_1020, li_1024, nI_neg1, nI_clamp, nI_ltI, nI_leI, nI_eq, nI_add, pk_sub, pk_mul, pk_div, nI_nm1, nI_nm1p, Nat.add_sub_cancel, Nat.add_sub_cancel_left, false_or, or_false, true_or, or_true, not_true_eq_false, not_false_eq_true, and_true, true_and, and_false, false_and, if_true, if_false, if_pos, if_neg]
theorem do_catch (h : Post mo n mk d q p len B sC sM) (hd : 1 ≤ d) (hc : B p = 14) : Did N mo mk q (d - 1) sC sM := by
  obtain ⟨wa, wb, e1, e2, e3⟩ := doIt_pre (N := N) h hd
  have hR := Post_run h hd (by omega)
  obtain ⟨_, p2, p3, p4, p5, ⟨loc, hl, hdec⟩, ⟨Q, bs, k1, k2, k3, k4, k5, k6⟩, q1, q2, q3⟩ := id h
  obtain ⟨hlen, o1⟩ := dk1 (k := 3) (by omega) (by omega) (by omega) (dec_rd hc hdec)
  have hrc := rwC_c Q
  have hd12 := hR.2.2.1
  have hp := (dec_p (B := B) (loc := loc) (p := p)).2.2 (by rw [hdec])
  rw [hdec] at hp
  have hp' : 1 ≤ len ∧ p + len ≤ 1024 ∧ B p ≤ 15 := hp
  have ht : B (p + 1) < 256 := (hR.1.2.2.1 _ (by omega)).1
  have r0 := k5 0 (by omega)
  have r1 := k5 1 (by omega)
  have m0 : sM.1 30 22 0 = nI (B (p + 1)) := q3 0 (by omega)
  have hcl : colO (B p) = 1 := by rw [hc]; rfl
  rw [hcl] at k6
  have hcp := hc
  rw [hc] at q1
  rw [Nat.add_zero, Nat.add_zero, hc] at r0
  obtain ⟨⟨a, x, hh, ct, g1, g2, g3, g4, g5, g6, g7, g8, g9, g10, g11, g12⟩, g13, g14⟩ := p2
  have hdM : sM.1 9 0 29 = nI d := hR.2.2.2.2.2.1
  generalize e10 : sC.1 (rwC Q) (rwI mo Q) (bs + 10) = w10 at *
  refine Did_of (sC' := pI (pI sC 2 (d - 1) 6 (nI (B (p + 1)))) 2 (d - 1) 7 w10) (sM' := pI sM 30 34 (d - 1) (nI (B (p + 1)))) ?_ ?_ (Or.inl ⟨n, d, q, B, hd, Nat.le_refl _, top_c (f := d - 1) (a := a) (x' := x) (ct' := B (p + 1)) hR (by omega) (fun c i k z => by simp (disch := omega) only [if_pos, if_neg, pI1, pI2, pQ1, pQ2, true_and, and_true, false_and, and_false, true_or, or_true, false_or, or_false, if_true, if_false, Nat.reduceEqDiff, and_self, not_true_eq_false, not_false_eq_true]) rfl (fun c i k z => by simp (disch := omega) only [if_pos, if_neg, pI1, pI2, pQ1, pQ2, true_and, and_true, false_and, and_false, true_or, or_true, false_or, or_false, if_true, if_false, Nat.reduceEqDiff, and_self, not_true_eq_false, not_false_eq_true]) g5 g1 g2 ht (by simp (disch := omega) only [if_pos, if_neg, pI1, pI2, pQ1, pQ2, true_and, and_true, false_and, and_false, true_or, or_true, false_or, or_false, if_true, if_false, Nat.reduceEqDiff, and_self, not_true_eq_false, not_false_eq_true]; exact g7) (by simp (disch := omega) only [if_pos, if_neg, pI1, pI2, pQ1, pQ2, true_and, and_true, false_and, and_false, true_or, or_true, false_or, or_false, if_true, if_false, Nat.reduceEqDiff, and_self, not_true_eq_false, not_false_eq_true]; exact g8) (by simp (disch := omega) only [if_pos, if_neg, pI1, pI2, pQ1, pQ2, true_and, and_true, false_and, and_false, true_or, or_true, false_or, or_false, if_true, if_false, Nat.reduceEqDiff, and_self, not_true_eq_false, not_false_eq_true]) (by simp (disch := omega) only [if_pos, if_neg, pI1, pI2, pQ1, pQ2, true_and, and_true, false_and, and_false, true_or, or_true, false_or, or_false, if_true, if_false, Nat.reduceEqDiff, and_self, not_true_eq_false, not_false_eq_true]) (fun k hk hq => ?_)⟩)
  · unfold fX6_carryOut
    simp +decide (disch := omega) only [↓reduceIte, k1, k2, r0, r1, e10, nm, bd, Option.bind_some, pI1, pI2, pQ1, pQ2, li_0, li_1, li_2, li_3, li_4, li_5, li_6, li_7, li_8, li_9, li_10, li_11, li_12, li_13, li_14, li_15, li_16, li_60, li_64, li_128, li_136, li_144, li_256, li_400, li_500, li_1020, li_1024, nI_neg1, nI_clamp, nI_ltI, nI_leI, nI_eq, nI_add, pk_sub, pk_mul, pk_div, nI_nm1, nI_nm1p, Nat.add_sub_cancel, Nat.add_sub_cancel_left, false_or, or_false, true_or, or_true, not_true_eq_false, not_false_eq_true, and_true, true_and, and_false, false_and, if_true, if_false, if_pos, if_neg]
  · rw [e1]
    unfold fX9_doIt_b68
    simp +decide (disch := omega) only [↓reduceIte, q1, m0, hdM, nm, bd, Option.bind_some, pI1, pI2, pQ1, pQ2, li_0, li_1, li_2, li_3, li_4, li_5, li_6, li_7, li_8, li_9, li_10, li_11, li_12, li_13, li_14, li_15, li_16, li_60, li_64, li_128, li_136, li_144, li_256, li_400, li_500, li_1020, li_1024, nI_neg1, nI_clamp, nI_ltI, nI_leI, nI_eq, nI_add, pk_sub, pk_mul, pk_div, nI_nm1, nI_nm1p, Nat.add_sub_cancel, Nat.add_sub_cancel_left, false_or, or_false, true_or, or_true, not_true_eq_false, not_false_eq_true, and_true, true_and, and_false, false_and, if_true, if_false, if_pos, if_neg]
  · obtain ⟨_, sz', r, l1, l2, l3, l4, l5, l6⟩ := ((p3 (by omega)) k hk).2 hq
    refine ⟨sz', r, l1, l2, l3, by simp (disch := omega) only [if_pos, if_neg, pI1, pI2, pQ1, pQ2, true_and, and_true, false_and, and_false, true_or, or_true, false_or, or_false, if_true, if_false, Nat.reduceEqDiff, and_self, not_true_eq_false, not_false_eq_true]; exact l4, by rw [l5]; exact g7, ?_⟩
    rcases k6 k hk hq (by omega) with ⟨y, sz, y1, y2, y3, y4, y5⟩ | ⟨_, z⟩
    · have esz : sz' = sz := by rw [y3, nI_eq (by omega) (by omega)] at l1; exact l1.symm
      subst esz
      exact Or.inr ⟨y, y1, by simp (disch := omega) only [if_pos, if_neg, pI1, pI2, pQ1, pQ2, true_and, and_true, false_and, and_false, true_or, or_true, false_or, or_false, if_true, if_false, Nat.reduceEqDiff, and_self, not_true_eq_false, not_false_eq_true]; exact y5, y4⟩
    · exact Or.inl z
end CO
