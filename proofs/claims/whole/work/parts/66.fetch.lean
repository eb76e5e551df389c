def Post (mo n mk d q p len : Nat) (B : Nat → Nat) (sC sM : xSt) : Prop :=
  Run mo n mk (d - 1) d q B sC sM ∧ F0r mo sC sM (d - 1) ∧ (B p ≠ 15 → F1r n B sC sM (d - 1)) ∧ (∀ g, g + 1 < d → I0r sC sM g) ∧ Hr sC sM ∧ (∃ loc, loc ≤ 8 ∧ dec B p loc = (0, len)) ∧
  (∃ Q bs, sC.2 2 0 = Q ∧ sC.1 6 0 13 = nI bs ∧ bs + 10 < rwN Q ∧ rwN Q ≤ 660 ∧ (∀ i, i < len → sC.1 (rwC Q) (rwI mo Q) (bs + i) = nI (B (p + i))) ∧ (∀ k, k < n → sC.2 1 (d - 1) = sC.2 0 k + 1 → colO (B p) ≠ 0 → (∃ y sz, y < sz ∧ sz ≤ 60 ∧ sC.1 3 (sC.2 0 k) 1 = nI sz ∧ sC.1 22 (sC.2 0 k) (y * 11 + 9) = nI (B (p + colO (B p))) ∧ sC.1 (rwC Q) (rwI mo Q) (bs + 10) = nI y) ∨ (B p = 14 ∧ B (p + 1) = 0))) ∧
  sM.1 9 0 19 = nI (B p) ∧ sM.1 9 0 23 = nI (len - 1) ∧ (∀ i, i + 1 < len → sM.1 30 22 i = nI (B (p + 1 + i)))
theorem rwC_c (Q : Nat) : rwC Q = 20 ∨ rwC Q = 22 := by unfold rwC; split <;> omega
theorem rwI_0 {mo Q : Nat} (h : rwC Q = 20) : rwI mo Q = 6 := by
  unfold rwC at h
  unfold rwI
  split at h
  · next z => rw [if_pos z]
  · omega
theorem post_of {N mo n mk d q len a x hh Q bs : Nat} {B : Nat → Nat} {sC sM sMb : xSt} (h : Run mo n mk d d q B sC sM) (hd : 1 ≤ d) (hH : Hr sC sM) (ha : a ≤ 1020) (hh8 : hh ≤ 8) (c2 : sC.1 2 (d - 1) 2 = nI a) (c3 : sC.1 2 (d - 1) 3 = nI x) (c1 : sC.1 2 (d - 1) 1 = nI hh) (hdec : dec B (a + x) hh = (0, len)) (hQ : sC.2 2 0 = Q) (hb : sC.1 6 0 13 = nI bs) (hbn : bs + 10 < rwN Q) (hrn : rwN Q ≤ 660) (hrow : ∀ i, i < len → sC.1 (rwC Q) (rwI mo Q) (bs + i) = nI (B (a + x + i))) (hl8 : sC.1 (rwC Q) (rwI mo Q) (bs + 8) = nI len) (hk : ∀ k, k < n → sC.2 1 (d - 1) = sC.2 0 k + 1 → Q = sC.2 0 k + 1 ∧ ∀ r, r < 60 → sC.1 2 (d - 1) 5 = nI r → bs = r * 11) (hMR : MR B hh (a + x) sM sMb (B (a + x)) (0, len)) :
    ∃ sCb, fX6_fetch_b117 N mo (d - 1) sC = some (nI 1, sCb) ∧ Post mo n mk d q (a + x) len B sCb (pI sMb 30 32 (d - 1) (nI (a + x + len))) := by
  obtain ⟨h1, h2, h3, h4, h5, h6, h7, h8, h9, h10⟩ := id h
  have hdp := (dec_p (B := B) (loc := hh) (p := a + x)).2.2 (by rw [hdec])
  have hdp8 := (dec_p (B := B) (loc := hh) (p := a + x)).2.1
  rw [hdec] at hdp hdp8
  have hdp1 : 1 ≤ len ∧ a + x + len ≤ 1024 ∧ B (a + x) ≤ 15 := hdp
  have hdp2 : len ≤ 8 := hdp8
  clear hdp hdp8
  obtain ⟨⟨⟨a', x', hh', ct, g1, g2, g3, g4, g5, g6, g7, g8, g9, g10, g11, g12⟩, g13, g14⟩, hF1⟩ := h2.1 (d - 1) (by omega)
  have ea : a' = a := by rw [c2, nI_eq (by omega) (by omega)] at g5; exact g5.symm
  have ex : x' = x := by rw [c3, nI_eq (by omega) (by omega)] at g7; exact g7.symm
  have eh : hh' = hh := by rw [c1, nI_eq (by omega) (by omega)] at g9; exact g9.symm
  subst ea ex eh
  have hrc := rwC_c Q
  obtain ⟨m1, m2, m3, m4, m5, m6⟩ := hMR
  obtain ⟨m7, m8, m9⟩ := m6 rfl
  have e1 : fX6_fetch_b117 N mo (d - 1) sC = some (nI 1, pI (pI sC 2 (d - 1) 3 (nI (x' + len))) 2 (d - 1) 5 (sC.1 2 (d - 1) 5 + nI 1)) := by
    unfold fX6_fetch_b117
    simp (disch := omega) only [hb, hQ, hl8, c3, nm, bd, Option.bind_some, pI1, pI2, pQ1, pQ2, li_0, li_1, li_2, li_3, li_4, li_5, li_6, li_7, li_8, li_9, li_10, li_11, li_12, li_13, li_14, li_15, li_16, li_60, li_64, li_128, li_136, li_144, li_256, li_400, li_500, li_1020, li_1024, nI_neg1, nI_clamp, nI_ltI, nI_leI, nI_eq, nI_add, pk_sub, pk_mul, pk_div, nI_nm1, nI_nm1p, Nat.add_sub_cancel, Nat.add_sub_cancel_left, false_or, or_false, true_or, or_true, not_true_eq_false, not_false_eq_true, and_true, true_and, and_false, false_and, if_true, if_false, if_pos, if_neg]
  generalize hb' : pI (pI sC 2 (d - 1) 3 (nI (x' + len))) 2 (d - 1) 5 (sC.1 2 (d - 1) 5 + nI 1) = sCb at e1
  generalize hm' : pI sMb 30 32 (d - 1) (nI (a' + x' + len)) = sMc
  have fC : ∀ c i k, ¬ (c = 2 ∧ i = d - 1 ∧ (k = 3 ∨ k = 5)) → sCb.1 c i k = sC.1 c i k := fun c i k z => by
    rw [← hb', pI1, if_neg (by omega), pI1, if_neg (by omega)]
  have fQ : sCb.2 = sC.2 := by rw [← hb']; rfl
  have fM : ∀ c i k, ¬ (c = 9 ∧ i = 0 ∧ (k = 19 ∨ k = 20 ∨ k = 21 ∨ k = 23 ∨ k = 24)) → ¬ (c = 30 ∧ i = 22) → ¬ (c = 30 ∧ i = 32 ∧ k = d - 1) → sMc.1 c i k = sM.1 c i k := fun c i k z1 z2 z3 => by
    rw [← hm', pI1, if_neg (by omega)]; exact m2 c i k z1 z2
  have fM9 : ∀ k, sMc.1 9 0 k = sMb.1 9 0 k := fun k => by rw [← hm']; simp (disch := omega) only [if_pos, if_neg, pI1, pI2, pQ1, pQ2, true_and, and_true, false_and, and_false, true_or, or_true, false_or, or_false, if_true, if_false, Nat.reduceEqDiff, and_self, not_true_eq_false, not_false_eq_true]
  have k3 : sCb.1 2 (d - 1) 3 = nI (x' + len) := by rw [← hb']; simp (disch := omega) only [if_pos, if_neg, pI1, pI2, pQ1, pQ2, true_and, and_true, false_and, and_false, true_or, or_true, false_or, or_false, if_true, if_false, Nat.reduceEqDiff, and_self, not_true_eq_false, not_false_eq_true]
  have k5 : sCb.1 2 (d - 1) 5 = sC.1 2 (d - 1) 5 + nI 1 := by rw [← hb']; simp (disch := omega) only [if_pos, if_neg, pI1, pI2, pQ1, pQ2, true_and, and_true, false_and, and_false, true_or, or_true, false_or, or_false, if_true, if_false, Nat.reduceEqDiff, and_self, not_true_eq_false, not_false_eq_true]
  have k32 : sMc.1 30 32 (d - 1) = nI (a' + x' + len) := by rw [← hm']; simp (disch := omega) only [if_pos, if_neg, pI1, pI2, pQ1, pQ2, true_and, and_true, false_and, and_false, true_or, or_true, false_or, or_false, if_true, if_false, Nat.reduceEqDiff, and_self, not_true_eq_false, not_false_eq_true]
  -- the row of a made one
  have made : ∀ k, k < n → sC.2 1 (d - 1) = sC.2 0 k + 1 → ∃ sz r, sC.1 3 (sC.2 0 k) 1 = nI sz ∧ sz ≤ 60 ∧ r < sz ∧ sC.1 2 (d - 1) 5 = nI r ∧ (B (a' + x') ≠ 15 → r + 1 < sz ∧ sC.1 22 (sC.2 0 k) ((r + 1) * 11 + 9) = nI (x' + len)) ∧ (sC.1 2 (d - 1) 6 = nI 0 ∨ ∃ r', r' < sz ∧ sC.1 2 (d - 1) 7 = nI r' ∧ sC.1 22 (sC.2 0 k) (r' * 11 + 9) = sC.1 2 (d - 1) 6) ∧ (colO (B (a' + x')) ≠ 0 → (∃ y, y < sz ∧ sC.1 22 (sC.2 0 k) (y * 11 + 9) = nI (B (a' + x' + colO (B (a' + x')))) ∧ sC.1 22 (sC.2 0 k) (r * 11 + 10) = nI y) ∨ (B (a' + x') = 14 ∧ B (a' + x' + 1) = 0)) ∧ hh' = B a' := by
    intro k hkn hkq
    obtain ⟨⟨a2, l1, l2, l3, l4⟩, sz, r, l5, l6, l7, l8, l9, l10⟩ := (hF1 k hkn).2 hkq
    have ea2 : a2 = a' := by rw [c2, nI_eq (by omega) (by omega)] at l1; exact l1.symm
    subst ea2
    have ehh : hh' = B a2 := by
      have hb8 : B a2 < 256 := (h1.2.2.1 a2 (by omega)).1
      rw [c1, nI_eq (by omega) (by omega)] at l4; exact l4
    obtain ⟨a3, e3, r1, r2, r3⟩ := h1.2.2.2.2.2 k hkn
    obtain ⟨w1, w2, w3, w4, sz', o, w5, w6, w7, w8, w9, w10⟩ := r3
    have ea3 : a3 = a2 := by
      have q := (h1.1.2.2.2.2.2.2.2.2.1 k hkn).2.1
      rw [r1, l2, nI_eq (by omega) (by omega)] at q
      exact q.symm
    subst ea3
    have esz : sz' = sz := by rw [l5, nI_eq (by omega) (by omega)] at w5; exact w5.symm
    subst esz
    obtain ⟨y1, y2, y3, y4, y5, y6, y7, y8⟩ := w10 r l7
    have eo : o r = x' := by
      rw [y1, c3, nI_eq (by omega) (by omega)] at l9
      exact l9
    rw [eo, ← ehh, hdec] at y7
    rw [eo] at y8
    refine ⟨sz', r, l5, l6, l7, l8, fun h15 => ?_, l10, fun hc => ?_, ehh⟩
    · obtain ⟨v1, v2⟩ := y7 h15
      refine ⟨v1, ?_⟩
      rw [(w10 (r + 1) v1).1, v2]
    · rcases y8 hc with ⟨y, v1, v2, v3⟩ | v
      · exact Or.inl ⟨y, v1, by rw [(w10 y v1).1, v2], v3⟩
      · exact Or.inr v
  refine ⟨sCb, e1, Run_c (e := d - 1) ⟨h1, ⟨fun f hf => h2.1 f (by omega), fun f hf => h2.2 f (by omega)⟩, h3, h4, h5, h6, h7, h8, h9, h10⟩ (fun c i k z => fC _ _ _ (by omega)) (fun a k z => by rw [fQ]) (fun c i k z => fM _ _ _ (by omega) (by omega) (by omega)), ⟨⟨a', x' + len, hh', ct, g1, by omega, g3, g4, ?_, ?_, k3, ?_, ?_, ?_, ?_, ?_⟩, fun k hk => ?_, by rw [fQ]; exact g14⟩, fun h15 k hkn => ?_, fun g hg => ?_, ⟨?_, ?_⟩, ⟨hh', hh8, hdec⟩, ⟨Q, bs, by rw [fQ]; exact hQ, ?_, hbn, hrn, fun i hi => ?_, fun k hkn hkq hc => ?_⟩, ?_, ?_, fun i hi => ?_⟩
  · rw [fC _ _ _ (by omega)]; exact c2
  · rw [fM _ _ _ (by omega) (by omega) (by omega)]; exact g6
  · rw [k32]; exact congrArg nI (by omega)
  · rw [fC _ _ _ (by omega)]; exact c1
  · rw [fM _ _ _ (by omega) (by omega) (by omega)]; exact g10
  · rw [fC _ _ _ (by omega)]; exact g11
  · rw [fM _ _ _ (by omega) (by omega) (by omega)]; exact g12
  · rw [fC _ _ _ (by omega), fM _ _ _ (by omega) (by omega) (by omega)]; exact g13 k hk
  · obtain ⟨y1, y2⟩ := hF1 k hkn
    have h22 : sCb.1 22 = sC.1 22 := funext fun i => funext fun k => fC 22 i k (by omega)
    rw [fM 30 9 k (by omega) (by omega) (by omega), fM 30 36 (d - 1) (by omega) (by omega) (by omega), fQ, fC 3 (sC.2 0 k) 1 (by omega), fC 3 (sC.2 0 k) 2 (by omega), h22]
    refine ⟨y1, fun hkq => ?_⟩
    obtain ⟨⟨a2, l1, l2, l3, l4⟩, _⟩ := y2 hkq
    obtain ⟨sz, r, v1, v2, v3, v4, v5, v6, v7, v8⟩ := made k hkn hkq
    obtain ⟨v9, v10⟩ := v5 h15
    refine ⟨⟨a2, by rw [fC _ _ _ (by omega)]; exact l1, l2, l3, by rw [fC _ _ _ (by omega)]; exact l4⟩, sz, r + 1, v1, v2, v9, by rw [k5, v4, nI_add], by rw [k3]; exact v10, ?_⟩
    rw [fC 2 (d - 1) 6 (by omega), fC 2 (d - 1) 7 (by omega)]
    exact v6
  · obtain ⟨u, u1, u2, u3, u4⟩ := h2.2 g hg
    exact ⟨u, u1, u2, by rw [fC _ _ _ (by omega)]; exact u3, by rw [fM _ _ _ (by omega) (by omega) (by omega)]; exact u4⟩
  · rw [fC _ _ _ (by omega), fM _ _ _ (by omega) (by omega) (by omega)]; exact hH.1
  · rw [fC _ _ _ (by omega), fM _ _ _ (by omega) (by omega) (by omega)]; exact hH.2
  · rw [fC _ _ _ (by omega)]; exact hb
  · rw [fC _ _ _ (by omega)]; exact hrow i hi
  · rw [fQ] at hkq
    obtain ⟨sz, r, v1, v2, v3, v4, v5, v6, v7, v8⟩ := made k hkn hkq
    obtain ⟨q1, q2⟩ := hk k hkn hkq
    have q3 := q2 r (by omega) v4
    rcases v7 hc with ⟨y, z1, z2, z3⟩ | z
    · refine Or.inl ⟨y, sz, z1, v2, ?_, ?_, ?_⟩
      · rw [fQ, fC _ _ _ (by omega)]; exact v1
      · rw [fQ, fC _ _ _ (by omega)]; exact z2
      · have hc22 : rwC Q = 22 := by unfold rwC; rw [if_neg (by omega)]
        have hci : rwI mo Q = sC.2 0 k := by
          unfold rwI
          rw [if_neg (by omega), q1, Nat.add_sub_cancel]
          exact Nat.min_eq_left (h1.1.2.2.2.2.2.2.1 _ (by have := h1.1.1; omega))
        rw [hc22, hci, q3, fC _ _ _ (by omega)]
        exact z3
    · exact Or.inr z
  · rw [fM9]; exact m3
  · rw [fM9]; exact m8
  · rw [← hm', pI1, if_neg (by omega)]
    exact m9 i hi
theorem c_fetch0 {N mo f : Nat} {sC s3 : xSt} (h : fX6_spendStep N mo (pI (pI sC 6 0 14 (sC.1 2 f 2)) 6 0 15 (sC.1 2 f 3)) = some (nI 0, s3)) : fX6_fetch N mo f sC = some (nI 0, s3) := by
  have e : (pI sC 6 0 14 (sC.1 2 f 2)).1 2 f 3 = sC.1 2 f 3 := by simp (disch := omega) only [if_pos, if_neg, pI1, pI2, pQ1, pQ2, true_and, and_true, false_and, and_false, true_or, or_true, false_or, or_false, if_true, if_false, Nat.reduceEqDiff, and_self, not_true_eq_false, not_false_eq_true]
  unfold fX6_fetch
  simp only [nm]
  rw [e, h]
  rfl
theorem c_fetch1 {N mo f k r : Nat} {sC s3 : xSt} (h : fX6_spendStep N mo (pI (pI sC 6 0 14 (sC.1 2 f 2)) 6 0 15 (sC.1 2 f 3)) = some (nI 1, s3)) (hg : fX1_goesByMade N mo f s3 = some (nI 1, s3)) (hq : s3.2 1 f = k + 1) (hk : k ≤ mo) (hr : s3.1 2 f 5 = nI r) : fX6_fetch N mo f sC = fX6_fetch_b117 N mo f (pI (pQ (pI s3 20 0 3 (s3.1 20 0 3 + 1)) 2 0 (k + 1)) 6 0 13 (nI (r * 11))) := by
  have e : (pI sC 6 0 14 (sC.1 2 f 2)).1 2 f 3 = sC.1 2 f 3 := by simp (disch := omega) only [if_pos, if_neg, pI1, pI2, pQ1, pQ2, true_and, and_true, false_and, and_false, true_or, or_true, false_or, or_false, if_true, if_false, Nat.reduceEqDiff, and_self, not_true_eq_false, not_false_eq_true]
  have e2 : (pI s3 20 0 3 (s3.1 20 0 3 + 1)).2 1 f = k + 1 := hq
  have e3 : (pQ (pI s3 20 0 3 (s3.1 20 0 3 + 1)) 2 0 (k + 1)).1 2 f 5 = nI r := by rw [pQ1]; simp (disch := omega) only [if_pos, if_neg, pI1, pI2, pQ1, pQ2, true_and, and_true, false_and, and_false, true_or, or_true, false_or, or_false, if_true, if_false, Nat.reduceEqDiff, and_self, not_true_eq_false, not_false_eq_true]; exact hr
  unfold fX6_fetch
  simp only [nm]
  rw [e, h]
  simp only [bd]
  rw [if_neg (by decide), hg]
  simp only []
  rw [if_neg (by decide), e2, if_neg (by omega), Nat.add_sub_cancel, Nat.min_eq_left hk, e3, li_11, pk_mul]
theorem c_fetch2 {N mo f a x hh e : Nat} {sC s3 t : xSt} (h : fX6_spendStep N mo (pI (pI sC 6 0 14 (sC.1 2 f 2)) 6 0 15 (sC.1 2 f 3)) = some (nI 1, s3)) (hg : fX1_goesByMade N mo f s3 = some (nI 0, s3)) (h1 : s3.1 2 f 1 = nI hh) (h2 : s3.1 2 f 2 = nI a) (h3 : s3.1 2 f 3 = nI x) (he : e ≤ 7) (hrd : fX3_read N mo (nI (a + x)) (nI hh) 0 (nI 0) (pI (pQ s3 2 0 0) 6 0 13 0) = some (nI e, t)) : fX6_fetch N mo f sC = if e = 0 then fX6_fetch_b117 N mo f t else Option.bind (fX6_fail N mo (nI e) t) (fun st17 => some ((0 : Int32), st17)) := by
  have e1 : (pI sC 6 0 14 (sC.1 2 f 2)).1 2 f 3 = sC.1 2 f 3 := by simp (disch := omega) only [if_pos, if_neg, pI1, pI2, pQ1, pQ2, true_and, and_true, false_and, and_false, true_or, or_true, false_or, or_false, if_true, if_false, Nat.reduceEqDiff, and_self, not_true_eq_false, not_false_eq_true]
  have e2 : (pI (pQ s3 2 0 0) 6 0 13 0).1 2 f 1 = nI hh := by rw [pI1, if_neg (by omega), pQ1]; exact h1
  have e3 : (pI (pQ s3 2 0 0) 6 0 13 0).1 2 f 2 = nI a := by rw [pI1, if_neg (by omega), pQ1]; exact h2
  have e4 : (pI (pQ s3 2 0 0) 6 0 13 0).1 2 f 3 = nI x := by rw [pI1, if_neg (by omega), pQ1]; exact h3
  have hrd' : fX3_read N mo (nI (a + x)) (nI hh) 0 (0 : Int32) (pI (pQ s3 2 0 0) 6 0 13 0) = some (nI e, t) := hrd
  unfold fX6_fetch
  simp only [nm]
  rw [e1, h]
  simp only [bd]
  rw [if_neg (by decide), hg]
  simp only []
  rw [if_pos nI_0, e2, e3, e4, nI_add, hrd']
  simp only []
  by_cases h0 : e = 0
  · rw [h0, if_pos nI_0, if_pos rfl]
  · rw [if_neg (nI_ne0 (by omega) (by omega)), if_neg h0]
theorem m_one0 {N f a x : Nat} {sM s7 : xSt} (hf : f < 12) (hd : sM.1 9 0 29 = nI (f + 1)) (h31 : sM.1 30 31 f = nI a) (h32 : sM.1 30 32 f = nI (a + x)) (h : fX9_step N (pI (pI sM 9 0 45 (nI a)) 9 0 46 (nI x)) = some (nI 0, s7)) : fX9_one N sM = some s7 := by
  have e1 : (pI sM 9 0 45 (nI a)).1 30 32 f = nI (a + x) := by simp (disch := omega) only [if_pos, if_neg, pI1, pI2, pQ1, pQ2, true_and, and_true, false_and, and_false, true_or, or_true, false_or, or_false, if_true, if_false, Nat.reduceEqDiff, and_self, not_true_eq_false, not_false_eq_true]; exact h32
  have e2 : (pI sM 9 0 45 (nI a)).1 30 31 f = nI a := by simp (disch := omega) only [if_pos, if_neg, pI1, pI2, pQ1, pQ2, true_and, and_true, false_and, and_false, true_or, or_true, false_or, or_false, if_true, if_false, Nat.reduceEqDiff, and_self, not_true_eq_false, not_false_eq_true]; exact h31
  have hin : ¬ (nI f < 0 ∨ 12 ≤ f) := fun z => z.elim (nI_pos (by omega)) (by omega)
  unfold fX9_one
  rw [hd, nI_pred]
  simp only [nm]
  rw [nI_clamp (by omega), if_neg hin, if_neg hin, if_neg hin, h31, e1, e2, pk_sub (by omega), Nat.add_sub_cancel_left, h]
  rfl
theorem m_one1 {N f a x hh g e : Nat} {sM s7 s9 : xSt} (hf : f < 12) (hd : sM.1 9 0 29 = nI (f + 1)) (h31 : sM.1 30 31 f = nI a) (h32 : sM.1 30 32 f = nI (a + x)) (h : fX9_step N (pI (pI sM 9 0 45 (nI a)) 9 0 46 (nI x)) = some (nI 1, s7)) (hm : fX9_isMade N s7 = some (nI g, s7)) (hg : g ≤ 1) (h33 : s7.1 30 33 f = nI hh) (h32' : s7.1 30 32 f = nI (a + x)) (hrd : fX9_readAt N (nI (a + x)) (nI hh) (pI s7 9 0 14 (s7.1 9 0 14 + nI g)) = some s9) (h20 : s9.1 9 0 20 = nI e) (he : e ≤ 7) : fX9_one N sM = if e = 0 then Option.bind (fX9_doIt N (pI s9 30 32 f (s9.1 9 0 21))) (fun s => some s) else Option.bind (fX9_fails N (nI e) s9) (fun s => some s) := by
  have e1 : (pI sM 9 0 45 (nI a)).1 30 32 f = nI (a + x) := by simp (disch := omega) only [if_pos, if_neg, pI1, pI2, pQ1, pQ2, true_and, and_true, false_and, and_false, true_or, or_true, false_or, or_false, if_true, if_false, Nat.reduceEqDiff, and_self, not_true_eq_false, not_false_eq_true]; exact h32
  have e2 : (pI sM 9 0 45 (nI a)).1 30 31 f = nI a := by simp (disch := omega) only [if_pos, if_neg, pI1, pI2, pQ1, pQ2, true_and, and_true, false_and, and_false, true_or, or_true, false_or, or_false, if_true, if_false, Nat.reduceEqDiff, and_self, not_true_eq_false, not_false_eq_true]; exact h31
  have e3 : (pI s7 9 0 14 (s7.1 9 0 14 + nI g)).1 30 32 f = nI (a + x) := by simp (disch := omega) only [if_pos, if_neg, pI1, pI2, pQ1, pQ2, true_and, and_true, false_and, and_false, true_or, or_true, false_or, or_false, if_true, if_false, Nat.reduceEqDiff, and_self, not_true_eq_false, not_false_eq_true]; exact h32'
  have e4 : (pI s7 9 0 14 (s7.1 9 0 14 + nI g)).1 30 33 f = nI hh := by simp (disch := omega) only [if_pos, if_neg, pI1, pI2, pQ1, pQ2, true_and, and_true, false_and, and_false, true_or, or_true, false_or, or_false, if_true, if_false, Nat.reduceEqDiff, and_self, not_true_eq_false, not_false_eq_true]; exact h33
  have hin : ¬ (nI f < 0 ∨ 12 ≤ f) := fun z => z.elim (nI_pos (by omega)) (by omega)
  have hb : fX9_one_b59 N (nI f) (nI g) (s7.1 9 0 14) s7 = if e = 0 then Option.bind (fX9_doIt N (pI s9 30 32 f (s9.1 9 0 21))) (fun s => some s) else Option.bind (fX9_fails N (nI e) s9) (fun s => some s) := by
    unfold fX9_one_b59
    simp only [nm]
    rw [nI_clamp (by omega), if_neg hin, if_neg hin, e3, e4, hrd]
    simp only [Option.bind_some]
    rw [h20]
    by_cases h0 : e = 0
    · rw [h0, if_pos nI_0, if_pos rfl, if_neg hin]
    · rw [if_neg (nI_ne0 (by omega) (by omega)), if_neg h0]
  rw [← hb]
  unfold fX9_one
  rw [hd, nI_pred]
  simp only [nm]
  rw [nI_clamp (by omega), if_neg hin, if_neg hin, if_neg hin, h31, e1, e2, pk_sub (by omega), Nat.add_sub_cancel_left, h]
  simp only [bd]
  rw [if_neg (by decide), hm]
  simp only []
  by_cases h0 : g = 0
  · rw [h0, if_pos nI_0]; rfl
  · have : g = 1 := by omega
    rw [this, if_neg (by decide)]; rfl
theorem cnt_run {mo n mk e d q g : Nat} {B : Nat → Nat} {sC sM : xSt} (h : Run mo n mk e d q B sC sM) : Run mo n mk e d q B (pI sC 20 0 3 (sC.1 20 0 3 + nI g)) (pI sM 9 0 14 (sM.1 9 0 14 + nI g)) := by
  obtain ⟨h1, h2, h3, h4, h5, h6, h7, h8, h9, h10⟩ := h
  refine ⟨Cor_g h1 (fun c i k z => by simp (disch := omega) only [if_pos, if_neg, pI1, pI2, pQ1, pQ2, true_and, and_true, false_and, and_false, true_or, or_true, false_or, or_false, if_true, if_false, Nat.reduceEqDiff, and_self, not_true_eq_false, not_false_eq_true]) (fun k => rfl) (fun c i k z => by simp (disch := omega) only [if_pos, if_neg, pI1, pI2, pQ1, pQ2, true_and, and_true, false_and, and_false, true_or, or_true, false_or, or_false, if_true, if_false, Nat.reduceEqDiff, and_self, not_true_eq_false, not_false_eq_true]) ?_ (Oth_c h1.2.2.2.2.1 (fun c i k z => by simp (disch := omega) only [if_pos, if_neg, pI1, pI2, pQ1, pQ2, true_and, and_true, false_and, and_false, true_or, or_true, false_or, or_false, if_true, if_false, Nat.reduceEqDiff, and_self, not_true_eq_false, not_false_eq_true]) (fun c i k z => by simp (disch := omega) only [if_pos, if_neg, pI1, pI2, pQ1, pQ2, true_and, and_true, false_and, and_false, true_or, or_true, false_or, or_false, if_true, if_false, Nat.reduceEqDiff, and_self, not_true_eq_false, not_false_eq_true])), FR_c h2 (fun i k z => by simp (disch := omega) only [if_pos, if_neg, pI1, pI2, pQ1, pQ2, true_and, and_true, false_and, and_false, true_or, or_true, false_or, or_false, if_true, if_false, Nat.reduceEqDiff, and_self, not_true_eq_false, not_false_eq_true]) (fun i k z1 z2 => by simp (disch := omega) only [if_pos, if_neg, pI1, pI2, pQ1, pQ2, true_and, and_true, false_and, and_false, true_or, or_true, false_or, or_false, if_true, if_false, Nat.reduceEqDiff, and_self, not_true_eq_false, not_false_eq_true]) (fun i k => by simp (disch := omega) only [if_pos, if_neg, pI1, pI2, pQ1, pQ2, true_and, and_true, false_and, and_false, true_or, or_true, false_or, or_false, if_true, if_false, Nat.reduceEqDiff, and_self, not_true_eq_false, not_false_eq_true]) (fun i k => by simp (disch := omega) only [if_pos, if_neg, pI1, pI2, pQ1, pQ2, true_and, and_true, false_and, and_false, true_or, or_true, false_or, or_false, if_true, if_false, Nat.reduceEqDiff, and_self, not_true_eq_false, not_false_eq_true]) (fun k => rfl) (fun k z => rfl) (fun i k z1 z2 z3 => by simp (disch := omega) only [if_pos, if_neg, pI1, pI2, pQ1, pQ2, true_and, and_true, false_and, and_false, true_or, or_true, false_or, or_false, if_true, if_false, Nat.reduceEqDiff, and_self, not_true_eq_false, not_false_eq_true]) (fun k z => by simp (disch := omega) only [if_pos, if_neg, pI1, pI2, pQ1, pQ2, true_and, and_true, false_and, and_false, true_or, or_true, false_or, or_false, if_true, if_false, Nat.reduceEqDiff, and_self, not_true_eq_false, not_false_eq_true]) (fun k => by simp (disch := omega) only [if_pos, if_neg, pI1, pI2, pQ1, pQ2, true_and, and_true, false_and, and_false, true_or, or_true, false_or, or_false, if_true, if_false, Nat.reduceEqDiff, and_self, not_true_eq_false, not_false_eq_true]), h3, h4, by simp (disch := omega) only [if_pos, if_neg, pI1, pI2, pQ1, pQ2, true_and, and_true, false_and, and_false, true_or, or_true, false_or, or_false, if_true, if_false, Nat.reduceEqDiff, and_self, not_true_eq_false, not_false_eq_true]; exact h5, by simp (disch := omega) only [if_pos, if_neg, pI1, pI2, pQ1, pQ2, true_and, and_true, false_and, and_false, true_or, or_true, false_or, or_false, if_true, if_false, Nat.reduceEqDiff, and_self, not_true_eq_false, not_false_eq_true]; exact h6, by simp (disch := omega) only [if_pos, if_neg, pI1, pI2, pQ1, pQ2, true_and, and_true, false_and, and_false, true_or, or_true, false_or, or_false, if_true, if_false, Nat.reduceEqDiff, and_self, not_true_eq_false, not_false_eq_true]; exact h7, by simp (disch := omega) only [if_pos, if_neg, pI1, pI2, pQ1, pQ2, true_and, and_true, false_and, and_false, true_or, or_true, false_or, or_false, if_true, if_false, Nat.reduceEqDiff, and_self, not_true_eq_false, not_false_eq_true]; exact h8, by simp (disch := omega) only [if_pos, if_neg, pI1, pI2, pQ1, pQ2, true_and, and_true, false_and, and_false, true_or, or_true, false_or, or_false, if_true, if_false, Nat.reduceEqDiff, and_self, not_true_eq_false, not_false_eq_true]; exact h9, Out_c h10 (fun c i k z => by simp (disch := omega) only [if_pos, if_neg, pI1, pI2, pQ1, pQ2, true_and, and_true, false_and, and_false, true_or, or_true, false_or, or_false, if_true, if_false, Nat.reduceEqDiff, and_self, not_true_eq_false, not_false_eq_true]) (fun k z => by simp (disch := omega) only [if_pos, if_neg, pI1, pI2, pQ1, pQ2, true_and, and_true, false_and, and_false, true_or, or_true, false_or, or_false, if_true, if_false, Nat.reduceEqDiff, and_self, not_true_eq_false, not_false_eq_true])⟩
  obtain ⟨c1, c2, c3, c4, c5, c6, c7⟩ := h1.2.2.2.1
  exact ⟨by simp (disch := omega) only [if_pos, if_neg, pI1, pI2, pQ1, pQ2, true_and, and_true, false_and, and_false, true_or, or_true, false_or, or_false, if_true, if_false, Nat.reduceEqDiff, and_self, not_true_eq_false, not_false_eq_true]; exact c1, by simp (disch := omega) only [if_pos, if_neg, pI1, pI2, pQ1, pQ2, true_and, and_true, false_and, and_false, true_or, or_true, false_or, or_false, if_true, if_false, Nat.reduceEqDiff, and_self, not_true_eq_false, not_false_eq_true]; exact c2, by simp (disch := omega) only [if_pos, if_neg, pI1, pI2, pQ1, pQ2, true_and, and_true, false_and, and_false, true_or, or_true, false_or, or_false, if_true, if_false, Nat.reduceEqDiff, and_self, not_true_eq_false, not_false_eq_true]; exact c3, by simp (disch := omega) only [if_pos, if_neg, pI1, pI2, pQ1, pQ2, true_and, and_true, false_and, and_false, true_or, or_true, false_or, or_false, if_true, if_false, Nat.reduceEqDiff, and_self, not_true_eq_false, not_false_eq_true]; rw [c4], by simp (disch := omega) only [if_pos, if_neg, pI1, pI2, pQ1, pQ2, true_and, and_true, false_and, and_false, true_or, or_true, false_or, or_false, if_true, if_false, Nat.reduceEqDiff, and_self, not_true_eq_false, not_false_eq_true]; exact c5, by simp (disch := omega) only [if_pos, if_neg, pI1, pI2, pQ1, pQ2, true_and, and_true, false_and, and_false, true_or, or_true, false_or, or_false, if_true, if_false, Nat.reduceEqDiff, and_self, not_true_eq_false, not_false_eq_true]; exact c6, by simp (disch := omega) only [if_pos, if_neg, pI1, pI2, pQ1, pQ2, true_and, and_true, false_and, and_false, true_or, or_true, false_or, or_false, if_true, if_false, Nat.reduceEqDiff, and_self, not_true_eq_false, not_false_eq_true]; exact c7⟩
theorem MR_run {mo n mk e d q loc p cd : Nat} {B : Nat → Nat} {y : Nat × Nat} {sC sM s9 : xSt} (h : Run mo n mk e d q B sC sM) (hm : MR B loc p sM s9 cd y) : Run mo n mk e d q B sC s9 := Run_c h (fun _ _ _ _ => rfl) (fun _ _ _ => rfl) (fun c i k z => hm.2.1 _ _ _ (by omega) (by omega))
theorem fetch_sim {N mo n mk d q : Nat} {B : Nat → Nat} {sC sM : xSt} (hN : 30 < N) (h : Run mo n mk d d q B sC sM) (hd : 1 ≤ d) : (∃ sC' sM', fX6_fetch N mo (d - 1) sC = some (nI 0, sC') ∧ fX9_one N sM = some sM' ∧ Fin mo mk sC' sM') ∨ (∃ sC' sM' p len, fX6_fetch N mo (d - 1) sC = some (nI 1, sC') ∧ fX9_one N sM = Option.bind (fX9_doIt N sM') (fun s => some s) ∧ Post mo n mk d (q + 1) p len B sC' sM') := by
  have hd12 : d ≤ 12 := h.2.2.1
  obtain ⟨⟨⟨a, x, hh, ct, g1, g2, g3, g4, g5, g6, g7, g8, g9, g10, g11, g12⟩, g13, g14⟩, hF1⟩ := h.2.1.1 (d - 1) (by omega)
  have hdM : sM.1 9 0 29 = nI (d - 1 + 1) := by rw [show d - 1 + 1 = d by omega]; exact h.2.2.2.2.2.1
  have hA : Run mo n mk d d q B (pI (pI sC 6 0 14 (sC.1 2 (d - 1) 2)) 6 0 15 (sC.1 2 (d - 1) 3)) (pI (pI sM 9 0 45 (nI a)) 9 0 46 (nI x)) := Run_c h (fun c i k z => by simp (disch := omega) only [if_pos, if_neg, pI1, pI2, pQ1, pQ2, true_and, and_true, false_and, and_false, true_or, or_true, false_or, or_false, if_true, if_false, Nat.reduceEqDiff, and_self, not_true_eq_false, not_false_eq_true]) (fun a k z => rfl) (fun c i k z => by simp (disch := omega) only [if_pos, if_neg, pI1, pI2, pQ1, pQ2, true_and, and_true, false_and, and_false, true_or, or_true, false_or, or_false, if_true, if_false, Nat.reduceEqDiff, and_self, not_true_eq_false, not_false_eq_true])
  have hHr : Hr (pI (pI sC 6 0 14 (sC.1 2 (d - 1) 2)) 6 0 15 (sC.1 2 (d - 1) 3)) (pI (pI sM 9 0 45 (nI a)) 9 0 46 (nI x)) := ⟨by simp (disch := omega) only [if_pos, if_neg, pI1, pI2, pQ1, pQ2, true_and, and_true, false_and, and_false, true_or, or_true, false_or, or_false, if_true, if_false, Nat.reduceEqDiff, and_self, not_true_eq_false, not_false_eq_true]; exact g5, by simp (disch := omega) only [if_pos, if_neg, pI1, pI2, pQ1, pQ2, true_and, and_true, false_and, and_false, true_or, or_true, false_or, or_false, if_true, if_false, Nat.reduceEqDiff, and_self, not_true_eq_false, not_false_eq_true]; exact g7⟩
  have kC : ∀ i k, (pI (pI sC 6 0 14 (sC.1 2 (d - 1) 2)) 6 0 15 (sC.1 2 (d - 1) 3)).1 2 i k = sC.1 2 i k := fun i k => by simp (disch := omega) only [if_pos, if_neg, pI1, pI2, pQ1, pQ2, true_and, and_true, false_and, and_false, true_or, or_true, false_or, or_false, if_true, if_false, Nat.reduceEqDiff, and_self, not_true_eq_false, not_false_eq_true]
  have kM : ∀ i k, (pI (pI sM 9 0 45 (nI a)) 9 0 46 (nI x)).1 30 i k = sM.1 30 i k := fun i k => by simp (disch := omega) only [if_pos, if_neg, pI1, pI2, pQ1, pQ2, true_and, and_true, false_and, and_false, true_or, or_true, false_or, or_false, if_true, if_false, Nat.reduceEqDiff, and_self, not_true_eq_false, not_false_eq_true]
  generalize hs1 : pI (pI sC 6 0 14 (sC.1 2 (d - 1) 2)) 6 0 15 (sC.1 2 (d - 1) 3) = sC1 at *
  generalize hm1 : pI (pI sM 9 0 45 (nI a)) 9 0 46 (nI x) = sM1 at *
  rcases spend_sim (N := N) hA hHr with ⟨hq, e1, e2, e3⟩ | ⟨sC', sM', e1, e2, e3, _⟩
  · have kC2 : ∀ i k, (pI (pI sC1 6 0 11 (nI (q + 1))) 20 0 2 (sC1.1 20 0 2 + 1)).1 2 i k = sC.1 2 i k := fun i k => by simp (disch := omega) only [if_pos, if_neg, pI1, pI2, pQ1, pQ2, true_and, and_true, false_and, and_false, true_or, or_true, false_or, or_false, if_true, if_false, Nat.reduceEqDiff, and_self, not_true_eq_false, not_false_eq_true]; exact kC i k
    have kM2 : ∀ i k, (pI (pI sM1 9 0 28 (nI (q + 1))) 9 0 13 (sM1.1 9 0 13 + 1)).1 30 i k = sM.1 30 i k := fun i k => by simp (disch := omega) only [if_pos, if_neg, pI1, pI2, pQ1, pQ2, true_and, and_true, false_and, and_false, true_or, or_true, false_or, or_false, if_true, if_false, Nat.reduceEqDiff, and_self, not_true_eq_false, not_false_eq_true]; exact kM i k
    have hHr2 : Hr (pI (pI sC1 6 0 11 (nI (q + 1))) 20 0 2 (sC1.1 20 0 2 + 1)) (pI (pI sM1 9 0 28 (nI (q + 1))) 9 0 13 (sM1.1 9 0 13 + 1)) := ⟨by simp (disch := omega) only [if_pos, if_neg, pI1, pI2, pQ1, pQ2, true_and, and_true, false_and, and_false, true_or, or_true, false_or, or_false, if_true, if_false, Nat.reduceEqDiff, and_self, not_true_eq_false, not_false_eq_true]; exact hHr.1, by simp (disch := omega) only [if_pos, if_neg, pI1, pI2, pQ1, pQ2, true_and, and_true, false_and, and_false, true_or, or_true, false_or, or_false, if_true, if_false, Nat.reduceEqDiff, and_self, not_true_eq_false, not_false_eq_true]; exact hHr.2⟩
    generalize hs2 : pI (pI sC1 6 0 11 (nI (q + 1))) 20 0 2 (sC1.1 20 0 2 + 1) = sC2 at *
    generalize hm2 : pI (pI sM1 9 0 28 (nI (q + 1))) 9 0 13 (sM1.1 9 0 13 + 1) = sM2 at *
    obtain ⟨⟨_, g13', g14'⟩, hF2⟩ := e3.2.1.1 (d - 1) (by omega)
    have hdM2 : sM2.1 9 0 29 = nI (d - 1 + 1) := by rw [show d - 1 + 1 = d by omega]; exact e3.2.2.2.2.2.1
    have hCor := e3.1
    have hB : ∀ k, k < 1024 → B k < 256 := fun k hk => (hCor.2.2.1 k hk).1
    have c1 : sC2.1 2 (d - 1) 1 = nI hh := by rw [kC2]; exact g9
    have c2 : sC2.1 2 (d - 1) 2 = nI a := by rw [kC2]; exact g5
    have c3 : sC2.1 2 (d - 1) 3 = nI x := by rw [kC2]; exact g7
    have w33 : sM2.1 30 33 (d - 1) = nI hh := by rw [kM2]; exact g10
    have w32 : sM2.1 30 32 (d - 1) = nI (a + x) := by rw [kM2]; exact g8
    rcases made_sim hN hCor.1 (by omega) g14' hF2 hdM2 with ⟨k, hk, hkq, m1, m2⟩ | ⟨hno, m1, m2⟩
    · obtain ⟨⟨a2, l1, l2, l3, l4⟩, sz, r, l5, l6, l7, l8, l9, l10⟩ := (hF2 k hk).2 hkq
      have ea2 : a2 = a := by rw [c2, nI_eq (by omega) (by omega)] at l1; exact l1.symm
      subst ea2
      have ehh : hh = B a2 := by
        have hb8 : B a2 < 256 := hB a2 (by omega)
        rw [c1, nI_eq (by omega) (by omega)] at l4; exact l4
      obtain ⟨a3, e4, r1, r2, r3⟩ := hCor.2.2.2.2.2 k hk
      obtain ⟨w1, w2, w3, w4, sz', o, w5, w6, w7, w8, w9, w10⟩ := r3
      have ea3 : a3 = a2 := by
        have q := (hCor.1.2.2.2.2.2.2.2.2.1 k hk).2.1
        rw [r1, l2, nI_eq (by omega) (by omega)] at q
        exact q.symm
      subst ea3
      have esz : sz' = sz := by rw [l5, nI_eq (by omega) (by omega)] at w5; exact w5.symm
      subst esz
      obtain ⟨y1, y2, y3, y4, y5, y6, _, _⟩ := w10 r l7
      have eo : o r = x := by
        rw [y1, c3, nI_eq (by omega) (by omega)] at l9
        exact l9
      rw [eo, ← ehh] at y3 y4 y5
      obtain ⟨len, el⟩ : ∃ len, len = (dec B (a3 + x) hh).2 := ⟨_, rfl⟩
      rw [← el] at y4 y5
      have hdec : dec B (a3 + x) hh = (0, len) := by rw [el, ← y3]
      have hlt := (dec_p (B := B) (loc := hh) (p := a3 + x)).2.2 y3
      have hjm : sC2.2 0 k ≤ mo := hCor.1.2.2.2.2.2.2.1 _ (by have := hCor.1.1; omega)
      generalize hj : sC2.2 0 k = j at *
      have hcf := c_fetch1 (N := N) (mo := mo) (f := d - 1) (k := j) (r := r) (sC := sC) (s3 := sC2) (by rw [hs1]; exact e1) m1 hkq hjm l8
      obtain ⟨s9, hrd, hmr⟩ := m_read (N := N) (loc := hh) (p := a3 + x) (B := B) (s0 := pI sM2 9 0 14 (sM2.1 9 0 14 + nI 1)) (by omega) hB (fun k hk => by simp (disch := omega) only [if_pos, if_neg, pI1, pI2, pQ1, pQ2, true_and, and_true, false_and, and_false, true_or, or_true, false_or, or_false, if_true, if_false, Nat.reduceEqDiff, and_self, not_true_eq_false, not_false_eq_true]; exact (hCor.2.2.1 k hk).2.2) g3 (by omega)
      rw [if_pos (by omega), hdec] at hmr
      have hmo := m_one1 (N := N) (f := d - 1) (a := a3) (x := x) (hh := hh) (g := 1) (e := 0) (sM := sM) (s7 := sM2) (s9 := s9) (by omega) hdM g6 g8 (by rw [hm1]; exact e2) m2 (by omega) w33 w32 hrd hmr.2.2.2.1 (by omega)
      rw [if_pos rfl, (hmr.2.2.2.2.2 rfl).1] at hmo
      have hc22 : rwC (j + 1) = 22 := by unfold rwC; rw [if_neg (by omega)]
      have hci : rwI mo (j + 1) = j := by unfold rwI; rw [if_neg (by omega), Nat.add_sub_cancel]; exact Nat.min_eq_left hjm
      have hcn : rwN (j + 1) = 660 := by unfold rwN; rw [if_neg (by omega)]
      have hRun : Run mo n mk d d (q + 1) B (pI (pQ (pI sC2 20 0 3 (sC2.1 20 0 3 + 1)) 2 0 (j + 1)) 6 0 13 (nI (r * 11))) (pI sM2 9 0 14 (sM2.1 9 0 14 + nI 1)) := Run_c (cnt_run (g := 1) e3) (fun c i k z => by rw [pI1, if_neg (by omega), pQ1]; rfl) (fun a k z => by rw [pI2, pQ2, if_neg (by omega)]; rfl) (fun _ _ _ _ => rfl)
      obtain ⟨sCb, p1, p2⟩ := post_of (N := N) (len := len) (a := a3) (x := x) (hh := hh) (Q := j + 1) (bs := r * 11) (sMb := s9) hRun hd ⟨by simp (disch := omega) only [if_pos, if_neg, pI1, pI2, pQ1, pQ2, true_and, and_true, false_and, and_false, true_or, or_true, false_or, or_false, if_true, if_false, Nat.reduceEqDiff, and_self, not_true_eq_false, not_false_eq_true]; exact hHr2.1, by simp (disch := omega) only [if_pos, if_neg, pI1, pI2, pQ1, pQ2, true_and, and_true, false_and, and_false, true_or, or_true, false_or, or_false, if_true, if_false, Nat.reduceEqDiff, and_self, not_true_eq_false, not_false_eq_true]; exact hHr2.2⟩ g1 g3 (by simp (disch := omega) only [if_pos, if_neg, pI1, pI2, pQ1, pQ2, true_and, and_true, false_and, and_false, true_or, or_true, false_or, or_false, if_true, if_false, Nat.reduceEqDiff, and_self, not_true_eq_false, not_false_eq_true]; exact c2) (by simp (disch := omega) only [if_pos, if_neg, pI1, pI2, pQ1, pQ2, true_and, and_true, false_and, and_false, true_or, or_true, false_or, or_false, if_true, if_false, Nat.reduceEqDiff, and_self, not_true_eq_false, not_false_eq_true]; exact c3) (by simp (disch := omega) only [if_pos, if_neg, pI1, pI2, pQ1, pQ2, true_and, and_true, false_and, and_false, true_or, or_true, false_or, or_false, if_true, if_false, Nat.reduceEqDiff, and_self, not_true_eq_false, not_false_eq_true]; exact c1) hdec (by simp (disch := omega) only [if_pos, if_neg, pI1, pI2, pQ1, pQ2, true_and, and_true, false_and, and_false, true_or, or_true, false_or, or_false, if_true, if_false, Nat.reduceEqDiff, and_self, not_true_eq_false, not_false_eq_true]) (by simp (disch := omega) only [if_pos, if_neg, pI1, pI2, pQ1, pQ2, true_and, and_true, false_and, and_false, true_or, or_true, false_or, or_false, if_true, if_false, Nat.reduceEqDiff, and_self, not_true_eq_false, not_false_eq_true]) (by rw [hcn]; omega) (by rw [hcn]; omega) (fun i hi => by rw [hc22, hci]; simp (disch := omega) only [if_pos, if_neg, pI1, pI2, pQ1, pQ2, true_and, and_true, false_and, and_false, true_or, or_true, false_or, or_false, if_true, if_false, Nat.reduceEqDiff, and_self, not_true_eq_false, not_false_eq_true]; exact y5 i hi) (by rw [hc22, hci]; simp (disch := omega) only [if_pos, if_neg, pI1, pI2, pQ1, pQ2, true_and, and_true, false_and, and_false, true_or, or_true, false_or, or_false, if_true, if_false, Nat.reduceEqDiff, and_self, not_true_eq_false, not_false_eq_true]; exact y4) (fun k' hk' hq' => by
        have hq2 : sC2.2 1 (d - 1) = sC2.2 0 k' + 1 := hq'
        refine ⟨?_, fun r' hr' z => ?_⟩
        · rw [← hkq]; exact hq2
        · have z2 : sC2.1 2 (d - 1) 5 = nI r' := by
            rw [← z]; simp (disch := omega) only [if_pos, if_neg, pI1, pI2, pQ1, pQ2, true_and, and_true, false_and, and_false, true_or, or_true, false_or, or_false, if_true, if_false, Nat.reduceEqDiff, and_self, not_true_eq_false, not_false_eq_true]
          rw [l8, nI_eq (by omega) (by omega)] at z2
          rw [z2]) hmr
      exact Or.inr ⟨sCb, _, a3 + x, len, by rw [hcf]; exact p1, hmo, p2⟩
    · obtain ⟨t, hrd, t1, t2, t3⟩ := c_read (N := N) (mo := mo) (q := 0) (base := 0) (loc := hh) (p := a + x) (B := B) (st := pI (pQ sC2 2 0 0) 6 0 13 0) (by omega) (fun z => absurd z.2 (by show ¬ 3 = 6; omega)) g3 (by omega) hB (by decide) (by decide) (fun k hk => by simp (disch := omega) only [if_pos, if_neg, pI1, pI2, pQ1, pQ2, true_and, and_true, false_and, and_false, true_or, or_true, false_or, or_false, if_true, if_false, Nat.reduceEqDiff, and_self, not_true_eq_false, not_false_eq_true]; exact (hCor.2.2.1 k hk).2.1)
      have hc20 : rwC 0 = 20 := rfl
      have hci : rwI mo 0 = 6 := rfl
      rw [hc20, hci] at t2 t3
      have hcf := c_fetch2 (N := N) (mo := mo) (f := d - 1) (a := a) (x := x) (hh := hh) (sC := sC) (s3 := sC2) (t := t) (by rw [hs1]; exact e1) m1 c1 c2 c3 (dec_p (B := B) (loc := hh) (p := a + x)).1 hrd
      obtain ⟨s9, hrdM, hmr⟩ := m_read (N := N) (loc := hh) (p := a + x) (B := B) (s0 := pI sM2 9 0 14 (sM2.1 9 0 14 + nI 0)) (by omega) hB (fun k hk => by simp (disch := omega) only [if_pos, if_neg, pI1, pI2, pQ1, pQ2, true_and, and_true, false_and, and_false, true_or, or_true, false_or, or_false, if_true, if_false, Nat.reduceEqDiff, and_self, not_true_eq_false, not_false_eq_true]; exact (hCor.2.2.1 k hk).2.2) g3 (by omega)
      have hmo := m_one1 (N := N) (f := d - 1) (a := a) (x := x) (hh := hh) (g := 0) (sM := sM) (s7 := sM2) (s9 := s9) (by omega) hdM g6 g8 (by rw [hm1]; exact e2) m2 (by omega) w33 w32 hrdM hmr.2.2.2.1 (dec_p (B := B) (loc := hh) (p := a + x)).1
      have z14 : sM2.1 9 0 14 + nI 0 = sM2.1 9 0 14 := Int32.add_zero _
      have hRun : Run mo n mk d d (q + 1) B t (pI sM2 9 0 14 (sM2.1 9 0 14 + nI 0)) := Run_c e3 (fun c i k z => by rw [t2 _ _ _ (by omega), pI1, if_neg (by omega), pQ1]) (fun a k z => by rw [t1, pI2, pQ2, if_neg (by omega)]) (fun c i k z => by
        rw [z14, pI1]
        split
        · next z => rw [z.1, z.2.1, z.2.2]
        · rfl)
      have hHr3 : Hr t (pI sM2 9 0 14 (sM2.1 9 0 14 + nI 0)) := ⟨by rw [t2 _ _ _ (by omega)]; simp (disch := omega) only [if_pos, if_neg, pI1, pI2, pQ1, pQ2, true_and, and_true, false_and, and_false, true_or, or_true, false_or, or_false, if_true, if_false, Nat.reduceEqDiff, and_self, not_true_eq_false, not_false_eq_true]; exact hHr2.1, by rw [t2 _ _ _ (by omega)]; simp (disch := omega) only [if_pos, if_neg, pI1, pI2, pQ1, pQ2, true_and, and_true, false_and, and_false, true_or, or_true, false_or, or_false, if_true, if_false, Nat.reduceEqDiff, and_self, not_true_eq_false, not_false_eq_true]; exact hHr2.2⟩
      have tt : ∀ k, t.1 2 (d - 1) k = sC2.1 2 (d - 1) k := fun k => by rw [t2 _ _ _ (by omega)]; simp (disch := omega) only [if_pos, if_neg, pI1, pI2, pQ1, pQ2, true_and, and_true, false_and, and_false, true_or, or_true, false_or, or_false, if_true, if_false, Nat.reduceEqDiff, and_self, not_true_eq_false, not_false_eq_true]
      by_cases hf : (dec B (a + x) hh).1 = 0
      · have hlt := (dec_p (B := B) (loc := hh) (p := a + x)).2.2 hf
        obtain ⟨len, el⟩ : ∃ len, len = (dec B (a + x) hh).2 := ⟨_, rfl⟩
        have hdec : dec B (a + x) hh = (0, len) := by rw [el, ← hf]
        obtain ⟨t4, t5⟩ := t3 hf
        rw [hdec] at t4 t5
        rw [if_pos (by omega), hdec] at hmr
        rw [hf, if_pos rfl] at hcf
        rw [hf, if_pos rfl, (hmr.2.2.2.2.2 rfl).1] at hmo
        obtain ⟨sCb, p1, p2⟩ := post_of (N := N) (len := len) (a := a) (x := x) (hh := hh) (Q := 0) (bs := 0) (sMb := s9) hRun hd hHr3 g1 g3 (by rw [tt]; exact c2) (by rw [tt]; exact c3) (by rw [tt]; exact c1) hdec (by rw [t1]; simp (disch := omega) only [if_pos, if_neg, pI1, pI2, pQ1, pQ2, true_and, and_true, false_and, and_false, true_or, or_true, false_or, or_false, if_true, if_false, Nat.reduceEqDiff, and_self, not_true_eq_false, not_false_eq_true]) (by rw [t2 _ _ _ (by omega)]; simp (disch := omega) only [if_pos, if_neg, pI1, pI2, pQ1, pQ2, true_and, and_true, false_and, and_false, true_or, or_true, false_or, or_false, if_true, if_false, Nat.reduceEqDiff, and_self, not_true_eq_false, not_false_eq_true]; rfl) (by decide) (by decide) (fun i hi => by rw [hc20, hci]; exact t5 i hi) (by rw [hc20, hci]; exact t4) (fun k' hk' hq' => by
          exfalso
          rw [t1] at hq'
          exact hno k' hk' hq') hmr
        exact Or.inr ⟨sCb, _, a + x, len, by rw [hcf]; exact p1, hmo, p2⟩
      · have hR9 := MR_run hRun hmr
        have hHr9 : Hr t s9 := ⟨by rw [hmr.2.1 _ _ _ (by omega) (by omega)]; exact hHr3.1, by rw [hmr.2.1 _ _ _ (by omega) (by omega)]; exact hHr3.2⟩
        obtain ⟨sC', sM', f1, f2, f3, _⟩ := fail_sim (N := N) (e := (dec B (a + x) hh).1) hR9.1 hR9.2.2.2.2.2.2.2.2.2 hHr9 ⟨by omega, (dec_p (B := B) (loc := hh) (p := a + x)).1⟩
        rw [if_neg hf, f1] at hcf
        rw [if_neg hf, f2] at hmo
        exact Or.inl ⟨sC', sM', hcf, hmo, f3⟩
  · exact Or.inl ⟨sC', sM', c_fetch0 (by rw [hs1]; exact e1), m_one0 (by omega) hdM g6 g8 (by rw [hm1]; exact e2), e3⟩
