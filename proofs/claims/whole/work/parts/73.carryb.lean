theorem i32_divm (a : Int32) : a / (-1) = -a := by
  apply Int32.toBitVec_inj.mp
  show a.toBitVec.sdiv (-1#32) = -a.toBitVec
  unfold BitVec.sdiv
  have h1 : (-1#32 : BitVec 32).msb = true := by decide
  have h2 : (-1#32 : BitVec 32).neg = 1#32 := by decide
  rw [h1]
  cases a.toBitVec.msb
  · simp only [h2]
    rw [BitVec.udiv_eq, BitVec.udiv_one]
    rfl
  · simp only [h2]
    rw [BitVec.udiv_eq, BitVec.udiv_one]
    rfl
theorem i32_remm (a : Int32) : a - a / (-1) * (-1) = 0 := by
  rw [i32_divm]
  have : -a * (-1) = a := by
    rw [Int32.mul_neg, Int32.mul_one, Int32.neg_neg]
  rw [this, Int32.sub_self]
section RK
variable {N mo n mk d q p len : Nat} {B : Nat → Nat} {sC sM : xSt}
theorem do_reckon {c : Nat} (h : Post mo n mk d q p len B sC sM) (hd : 1 ≤ d) (hc : B p = c) (hcr : 2 ≤ c ∧ c ≤ 6) : Did N mo mk q (d - 1) sC sM := by
  obtain ⟨wa, wb, e1, e2, e3⟩ := doIt_pre (N := N) h hd
  have hR := Post_run h hd (by omega)
  have hv := fun u hu => Post_val (N := N) (u := u) h hd hu
  obtain ⟨_, p2, p3, p4, p5, ⟨loc, hl, hdec⟩, ⟨Q, bs, k1, k2, k3, k4, k5, k6⟩, q1, q2, q3⟩ := id h
  have hfrm : frm c = 274 := by
    have : c = 2 ∨ c = 3 ∨ c = 4 ∨ c = 5 ∨ c = 6 := by omega
    rcases this with rfl | rfl | rfl | rfl | rfl <;> rfl
  have hrd := dec_rd hc hdec
  rw [hfrm] at hrd
  obtain ⟨hlen, o1, o2, o3⟩ := dk3 (k := 2) (l := 1) (m := 1) (by omega) (by omega) (by omega) (by omega) (by omega) (by omega) (by omega) (by omega) (by omega) hrd
  have v2 := e3 (by omega) (okV o2 hl)
  obtain ⟨w, w1, w2⟩ := hv _ (okV o3 hl)
  have r0 := k5 0 (by omega)
  have r1 := k5 1 (by omega)
  have r2 := k5 2 (by omega)
  have r3 := k5 3 (by omega)
  have m0 : sM.1 30 22 0 = nI (B (p + 1)) := q3 0 (by omega)
  have m2 : sM.1 30 22 2 = nI (B (p + 3)) := q3 2 (by omega)
  rw [hc] at q1
  rw [Nat.add_zero, Nat.add_zero, hc] at r0
  -- the two values are there
  have eC : fX6_carryOut N mo (d - 1) sC = Option.bind (if w = (0 : Int32) then if nI c = (5 : Int32) then fX6_reckon_b52 N mo sC else if nI c = (6 : Int32) then fX6_reckon_b52 N mo sC else fX6_reckon_b58 N mo (d - 1) (nI c) (nI (B (p + 1))) wb w sC else fX6_reckon_b58 N mo (d - 1) (nI c) (nI (B (p + 1))) wb w sC) (fun s => some s) := by
    have hrk : fX6_reckon N mo (d - 1) (nI c) (nI (B (p + 1))) sC = (if w = (0 : Int32) then if nI c = (5 : Int32) then fX6_reckon_b52 N mo sC else if nI c = (6 : Int32) then fX6_reckon_b52 N mo sC else fX6_reckon_b58 N mo (d - 1) (nI c) (nI (B (p + 1))) wb w sC else fX6_reckon_b58 N mo (d - 1) (nI c) (nI (B (p + 1))) wb w sC) := by
      unfold fX6_reckon
      rw [k2, k1, show nI bs + (2 : Int32) = nI (bs + 2) from nI_add bs 2, if_neg (nI_in (c := bs + 2) (N := rwN Q) (by omega) (by omega)), nI_clamp (by omega)]
      simp only [nm]
      rw [r2, v2]
      simp only [bd]
      rw [k2, k1, show nI bs + (3 : Int32) = nI (bs + 3) from nI_add bs 3, if_neg (nI_in (c := bs + 3) (N := rwN Q) (by omega) (by omega)), nI_clamp (by omega), r3, w1]
    rw [← hrk]
    have hcs : c = 2 ∨ c = 3 ∨ c = 4 ∨ c = 5 ∨ c = 6 := by omega
    clear hrk e1 e2 e3
    unfold fX6_carryOut fX6_carryOut_b338
    rcases hcs with rfl | rfl | rfl | rfl | rfl
    · simp +decide (disch := omega) only [↓reduceIte, k1, k2, r0, r1, nm, bd, Option.bind_some, pI1, pI2, pQ1, pQ2, li_0, li_1, li_2, li_3, li_4, li_5, li_6, li_7, li_8, li_9, li_10, li_11, li_12, li_13, li_14, li_15, li_16, li_60, li_64, li_128, li_136, li_144, li_256, li_400, li_500, li_1020, li_1024, nI_neg1, nI_clamp, nI_ltI, nI_leI, nI_eq, nI_add, pk_sub, pk_mul, pk_div, nI_nm1, nI_nm1p, Nat.add_sub_cancel, Nat.add_sub_cancel_left, false_or, or_false, true_or, or_true, not_true_eq_false, not_false_eq_true, and_true, true_and, and_false, false_and, if_true, if_false, if_pos, if_neg]
    · simp +decide (disch := omega) only [↓reduceIte, k1, k2, r0, r1, nm, bd, Option.bind_some, pI1, pI2, pQ1, pQ2, li_0, li_1, li_2, li_3, li_4, li_5, li_6, li_7, li_8, li_9, li_10, li_11, li_12, li_13, li_14, li_15, li_16, li_60, li_64, li_128, li_136, li_144, li_256, li_400, li_500, li_1020, li_1024, nI_neg1, nI_clamp, nI_ltI, nI_leI, nI_eq, nI_add, pk_sub, pk_mul, pk_div, nI_nm1, nI_nm1p, Nat.add_sub_cancel, Nat.add_sub_cancel_left, false_or, or_false, true_or, or_true, not_true_eq_false, not_false_eq_true, and_true, true_and, and_false, false_and, if_true, if_false, if_pos, if_neg]
    · simp +decide (disch := omega) only [↓reduceIte, k1, k2, r0, r1, nm, bd, Option.bind_some, pI1, pI2, pQ1, pQ2, li_0, li_1, li_2, li_3, li_4, li_5, li_6, li_7, li_8, li_9, li_10, li_11, li_12, li_13, li_14, li_15, li_16, li_60, li_64, li_128, li_136, li_144, li_256, li_400, li_500, li_1020, li_1024, nI_neg1, nI_clamp, nI_ltI, nI_leI, nI_eq, nI_add, pk_sub, pk_mul, pk_div, nI_nm1, nI_nm1p, Nat.add_sub_cancel, Nat.add_sub_cancel_left, false_or, or_false, true_or, or_true, not_true_eq_false, not_false_eq_true, and_true, true_and, and_false, false_and, if_true, if_false, if_pos, if_neg]
    · simp +decide (disch := omega) only [↓reduceIte, k1, k2, r0, r1, nm, bd, Option.bind_some, pI1, pI2, pQ1, pQ2, li_0, li_1, li_2, li_3, li_4, li_5, li_6, li_7, li_8, li_9, li_10, li_11, li_12, li_13, li_14, li_15, li_16, li_60, li_64, li_128, li_136, li_144, li_256, li_400, li_500, li_1020, li_1024, nI_neg1, nI_clamp, nI_ltI, nI_leI, nI_eq, nI_add, pk_sub, pk_mul, pk_div, nI_nm1, nI_nm1p, Nat.add_sub_cancel, Nat.add_sub_cancel_left, false_or, or_false, true_or, or_true, not_true_eq_false, not_false_eq_true, and_true, true_and, and_false, false_and, if_true, if_false, if_pos, if_neg]
    · simp +decide (disch := omega) only [↓reduceIte, k1, k2, r0, r1, nm, bd, Option.bind_some, pI1, pI2, pQ1, pQ2, li_0, li_1, li_2, li_3, li_4, li_5, li_6, li_7, li_8, li_9, li_10, li_11, li_12, li_13, li_14, li_15, li_16, li_60, li_64, li_128, li_136, li_144, li_256, li_400, li_500, li_1020, li_1024, nI_neg1, nI_clamp, nI_ltI, nI_leI, nI_eq, nI_add, pk_sub, pk_mul, pk_div, nI_nm1, nI_nm1p, Nat.add_sub_cancel, Nat.add_sub_cancel_left, false_or, or_false, true_or, or_true, not_true_eq_false, not_false_eq_true, and_true, true_and, and_false, false_and, if_true, if_false, if_pos, if_neg]
  have eM : fX9_doIt N sM = Option.bind (fX9_reckon N wb w sM) (fun s => some s) := by
    rw [e1]
    have hcs : c = 2 ∨ c = 3 ∨ c = 4 ∨ c = 5 ∨ c = 6 := by omega
    clear e1 e2 e3
    unfold fX9_doIt_b68 fX9_doIt_b384
    rcases hcs with rfl | rfl | rfl | rfl | rfl
    · simp +decide (disch := omega) only [↓reduceIte, q1, m2, w2, nm, bd, Option.bind_some, pI1, pI2, pQ1, pQ2, li_0, li_1, li_2, li_3, li_4, li_5, li_6, li_7, li_8, li_9, li_10, li_11, li_12, li_13, li_14, li_15, li_16, li_60, li_64, li_128, li_136, li_144, li_256, li_400, li_500, li_1020, li_1024, nI_neg1, nI_clamp, nI_ltI, nI_leI, nI_eq, nI_add, pk_sub, pk_mul, pk_div, nI_nm1, nI_nm1p, Nat.add_sub_cancel, Nat.add_sub_cancel_left, false_or, or_false, true_or, or_true, not_true_eq_false, not_false_eq_true, and_true, true_and, and_false, false_and, if_true, if_false, if_pos, if_neg]
    · simp +decide (disch := omega) only [↓reduceIte, q1, m2, w2, nm, bd, Option.bind_some, pI1, pI2, pQ1, pQ2, li_0, li_1, li_2, li_3, li_4, li_5, li_6, li_7, li_8, li_9, li_10, li_11, li_12, li_13, li_14, li_15, li_16, li_60, li_64, li_128, li_136, li_144, li_256, li_400, li_500, li_1020, li_1024, nI_neg1, nI_clamp, nI_ltI, nI_leI, nI_eq, nI_add, pk_sub, pk_mul, pk_div, nI_nm1, nI_nm1p, Nat.add_sub_cancel, Nat.add_sub_cancel_left, false_or, or_false, true_or, or_true, not_true_eq_false, not_false_eq_true, and_true, true_and, and_false, false_and, if_true, if_false, if_pos, if_neg]
    · simp +decide (disch := omega) only [↓reduceIte, q1, m2, w2, nm, bd, Option.bind_some, pI1, pI2, pQ1, pQ2, li_0, li_1, li_2, li_3, li_4, li_5, li_6, li_7, li_8, li_9, li_10, li_11, li_12, li_13, li_14, li_15, li_16, li_60, li_64, li_128, li_136, li_144, li_256, li_400, li_500, li_1020, li_1024, nI_neg1, nI_clamp, nI_ltI, nI_leI, nI_eq, nI_add, pk_sub, pk_mul, pk_div, nI_nm1, nI_nm1p, Nat.add_sub_cancel, Nat.add_sub_cancel_left, false_or, or_false, true_or, or_true, not_true_eq_false, not_false_eq_true, and_true, true_and, and_false, false_and, if_true, if_false, if_pos, if_neg]
    · simp +decide (disch := omega) only [↓reduceIte, q1, m2, w2, nm, bd, Option.bind_some, pI1, pI2, pQ1, pQ2, li_0, li_1, li_2, li_3, li_4, li_5, li_6, li_7, li_8, li_9, li_10, li_11, li_12, li_13, li_14, li_15, li_16, li_60, li_64, li_128, li_136, li_144, li_256, li_400, li_500, li_1020, li_1024, nI_neg1, nI_clamp, nI_ltI, nI_leI, nI_eq, nI_add, pk_sub, pk_mul, pk_div, nI_nm1, nI_nm1p, Nat.add_sub_cancel, Nat.add_sub_cancel_left, false_or, or_false, true_or, or_true, not_true_eq_false, not_false_eq_true, and_true, true_and, and_false, false_and, if_true, if_false, if_pos, if_neg]
    · simp +decide (disch := omega) only [↓reduceIte, q1, m2, w2, nm, bd, Option.bind_some, pI1, pI2, pQ1, pQ2, li_0, li_1, li_2, li_3, li_4, li_5, li_6, li_7, li_8, li_9, li_10, li_11, li_12, li_13, li_14, li_15, li_16, li_60, li_64, li_128, li_136, li_144, li_256, li_400, li_500, li_1020, li_1024, nI_neg1, nI_clamp, nI_ltI, nI_leI, nI_eq, nI_add, pk_sub, pk_mul, pk_div, nI_nm1, nI_nm1p, Nat.add_sub_cancel, Nat.add_sub_cancel_left, false_or, or_false, true_or, or_true, not_true_eq_false, not_false_eq_true, and_true, true_and, and_false, false_and, if_true, if_false, if_pos, if_neg]
  have st : ∀ v : Int32, ∃ sC' sM', fX6_set N mo (d - 1) (nI (B (p + 1))) v sC = some sC' ∧ fX9_becomes N (nI (B (p + 1))) v sM = some sM' ∧ Run mo n mk d d q B sC' sM' := fun v => by
    obtain ⟨sC', sM', f1, f2, f3, _⟩ := set_sim (N := N) (v := v) (u := B (p + 1)) (f := d - 1) hR (okC o1 hl) (by omega)
    exact ⟨sC', sM', f1, f2, f3⟩
  have fin : ∀ v sC' sM', fX6_set N mo (d - 1) (nI (B (p + 1))) v sC = some sC' → fX9_becomes N (nI (B (p + 1))) v sM = some sM' → Run mo n mk d d q B sC' sM' → (if w = (0 : Int32) then if nI c = (5 : Int32) then fX6_reckon_b52 N mo sC else if nI c = (6 : Int32) then fX6_reckon_b52 N mo sC else fX6_reckon_b58 N mo (d - 1) (nI c) (nI (B (p + 1))) wb w sC else fX6_reckon_b58 N mo (d - 1) (nI c) (nI (B (p + 1))) wb w sC) = some sC' → fX9_reckon N wb w sM = some sM' → Did N mo mk q (d - 1) sC sM := fun v sC' sM' f1 f2 f3 f4 f5 => Did_of (sC' := sC') (sM' := sM') (by rw [eC, f4]; rfl) (by rw [eM, f5]; rfl) (Or.inl ⟨n, d, q, B, hd, Nat.le_refl _, f3⟩)
  have hcs : c = 2 ∨ c = 3 ∨ c = 4 ∨ c = 5 ∨ c = 6 := by omega
  rcases hcs with rfl | rfl | rfl | rfl | rfl
  · obtain ⟨sC', sM', f1, f2, f3⟩ := st (wb + w)
    have b58 : fX6_reckon_b58 N mo (d - 1) (nI 2) (nI (B (p + 1))) wb w sC = some sC' := by
      unfold fX6_reckon_b58
      rw [if_pos (by decide), f1]; rfl
    refine fin _ sC' sM' f1 f2 f3 ?_ ?_
    · rw [b58, if_neg (show ¬ nI 2 = (5 : Int32) by decide), if_neg (show ¬ nI 2 = (6 : Int32) by decide), ite_self]
    · unfold fX9_reckon
      simp only [nm]
      rw [q1, if_pos (by decide), m0, f2]; rfl
  · obtain ⟨sC', sM', f1, f2, f3⟩ := st (wb - w)
    have b58 : fX6_reckon_b58 N mo (d - 1) (nI 3) (nI (B (p + 1))) wb w sC = some sC' := by
      unfold fX6_reckon_b58
      rw [if_neg (by decide), if_pos (by decide), f1]; rfl
    refine fin _ sC' sM' f1 f2 f3 ?_ ?_
    · rw [b58, if_neg (show ¬ nI 3 = (5 : Int32) by decide), if_neg (show ¬ nI 3 = (6 : Int32) by decide), ite_self]
    · unfold fX9_reckon
      simp only [nm]
      rw [q1, if_neg (by decide), if_pos (by decide), m0, f2]; rfl
  · obtain ⟨sC', sM', f1, f2, f3⟩ := st (wb * w)
    have b58 : fX6_reckon_b58 N mo (d - 1) (nI 4) (nI (B (p + 1))) wb w sC = some sC' := by
      unfold fX6_reckon_b58
      rw [if_neg (by decide), if_neg (by decide), if_pos (by decide), f1]; rfl
    refine fin _ sC' sM' f1 f2 f3 ?_ ?_
    · rw [b58, if_neg (show ¬ nI 4 = (5 : Int32) by decide), if_neg (show ¬ nI 4 = (6 : Int32) by decide), ite_self]
    · unfold fX9_reckon
      simp only [nm]
      rw [q1, if_neg (by decide), if_neg (by decide), if_pos (by decide), m0, f2]; rfl
  · by_cases hw : w = 0
    · obtain ⟨sC', sM', f1, f2, f3, _⟩ := fail_sim (N := N) (e := 2) hR.1 hR.2.2.2.2.2.2.2.2.2 p5 (by omega)
      refine Did_of (sC' := sC') (sM' := sM') ?_ ?_ (Or.inr f3)
      · rw [eC, if_pos hw, if_pos (by decide)]
        unfold fX6_reckon_b52
        rw [li_2, f1]; rfl
      · rw [eM]
        unfold fX9_reckon
        simp only [nm]
        rw [q1, if_neg (by decide), if_neg (by decide), if_neg (by decide), if_pos hw, li_2, f2]; rfl
    · obtain ⟨sC', sM', f1, f2, f3⟩ := st (wb / w)
      refine fin _ sC' sM' f1 f2 f3 ?_ ?_
      · rw [if_neg hw]
        unfold fX6_reckon_b58 fX6_reckon_b150
        rw [if_neg (by decide), if_neg (by decide), if_neg (by decide), if_pos (by decide)]
        by_cases hm : w = -1
        · rw [if_pos hm, ← i32_divm, ← hm, f1]; rfl
        · rw [if_neg hm, if_neg hw, f1]; rfl
      · unfold fX9_reckon fX9_reckon_b94
        simp only [nm]
        rw [q1, if_neg (by decide), if_neg (by decide), if_neg (by decide), if_neg hw, if_pos (by decide), if_neg hw, m0, f2]; rfl
  · by_cases hw : w = 0
    · obtain ⟨sC', sM', f1, f2, f3, _⟩ := fail_sim (N := N) (e := 2) hR.1 hR.2.2.2.2.2.2.2.2.2 p5 (by omega)
      refine Did_of (sC' := sC') (sM' := sM') ?_ ?_ (Or.inr f3)
      · rw [eC, if_pos hw, if_neg (by decide), if_pos (by decide)]
        unfold fX6_reckon_b52
        rw [li_2, f1]; rfl
      · rw [eM]
        unfold fX9_reckon
        simp only [nm]
        rw [q1, if_neg (by decide), if_neg (by decide), if_neg (by decide), if_pos hw, li_2, f2]; rfl
    · obtain ⟨sC', sM', f1, f2, f3⟩ := st (wb - wb / w * w)
      refine fin _ sC' sM' f1 f2 f3 ?_ ?_
      · rw [if_neg hw]
        unfold fX6_reckon_b58 fX6_reckon_b174
        rw [if_neg (by decide), if_neg (by decide), if_neg (by decide), if_neg (by decide)]
        by_cases hm : w = -1
        · rw [if_pos hm, ← i32_remm wb, ← hm, f1]; rfl
        · rw [if_neg hm, if_neg hw, f1]; rfl
      · unfold fX9_reckon fX9_reckon_b94
        simp only [nm]
        rw [q1, if_neg (by decide), if_neg (by decide), if_neg (by decide), if_neg hw, if_neg (by decide), if_neg hw, m0, f2]; rfl
end RK
