section DK
variable {B : Nat → Nat} {p loc len : Nat}
theorem dk1 {k : Nat} (h1 : 1 ≤ k) (h2 : k < 16) (h4 : k ≠ 4) (h : rdL B loc p 7 k 1 = (0, len)) : len = 2 ∧ okK loc k (B (p + 1)) := by
  have e : rdL B loc p 7 k 1 = stepK B loc p k (0, 1) := (show rdL B loc p 7 k 1 = rdS B loc p 7 k (0, 1) from rfl).trans ((rdS_k k 0 h1 h2 h4).trans rdS_0)
  rw [e] at h
  have q := stepK_0 (show (stepK B loc p k (0, 1)).1 = 0 by rw [h])
  have h' := h
  rw [q.2.2.2] at h'
  exact ⟨(congrArg Prod.snd h').symm, q.2.2.1⟩
theorem dk2 {k l : Nat} (h1 : 1 ≤ k) (h2 : k < 16) (h4 : k ≠ 4) (l1 : 1 ≤ l) (l2 : l < 16) (l4 : l ≠ 4) (h : rdL B loc p 7 (k + 16 * l) 1 = (0, len)) : len = 3 ∧ okK loc k (B (p + 1)) ∧ okK loc l (B (p + 2)) := by
  have e : rdL B loc p 7 (k + 16 * l) 1 = stepK B loc p l (stepK B loc p k (0, 1)) := (show rdL B loc p 7 (k + 16 * l) 1 = rdS B loc p 7 (k + 16 * l) (0, 1) from rfl).trans ((rdS_k k l h1 h2 h4).trans ((rdS_k l 0 l1 l2 l4).trans rdS_0))
  rw [e] at h
  have q := stepK_0 (show (stepK B loc p l (stepK B loc p k (0, 1))).1 = 0 by rw [h])
  have q2 := stepK_0 q.1
  have h' := h
  rw [q.2.2.2, q2.2.2.2] at h'
  have o2 := q.2.2.1
  rw [q2.2.2.2] at o2
  exact ⟨(congrArg Prod.snd h').symm, q2.2.2.1, o2⟩
theorem dk3 {k l m : Nat} (h1 : 1 ≤ k) (h2 : k < 16) (h4 : k ≠ 4) (l1 : 1 ≤ l) (l2 : l < 16) (l4 : l ≠ 4) (m1 : 1 ≤ m) (m2 : m < 16) (m4 : m ≠ 4) (h : rdL B loc p 7 (k + 16 * (l + 16 * m)) 1 = (0, len)) : len = 4 ∧ okK loc k (B (p + 1)) ∧ okK loc l (B (p + 2)) ∧ okK loc m (B (p + 3)) := by
  have e : rdL B loc p 7 (k + 16 * (l + 16 * m)) 1 = stepK B loc p m (stepK B loc p l (stepK B loc p k (0, 1))) := (show rdL B loc p 7 (k + 16 * (l + 16 * m)) 1 = rdS B loc p 7 (k + 16 * (l + 16 * m)) (0, 1) from rfl).trans ((rdS_k k _ h1 h2 h4).trans ((rdS_k l _ l1 l2 l4).trans ((rdS_k m 0 m1 m2 m4).trans rdS_0)))
  rw [e] at h
  have q := stepK_0 (show (stepK B loc p m (stepK B loc p l (stepK B loc p k (0, 1)))).1 = 0 by rw [h])
  have q2 := stepK_0 q.1
  have q3 := stepK_0 q2.1
  have h' := h
  rw [q.2.2.2, q2.2.2.2, q3.2.2.2] at h'
  have o2 := q2.2.2.1
  rw [q3.2.2.2] at o2
  have o3 := q.2.2.1
  rw [q2.2.2.2, q3.2.2.2] at o3
  exact ⟨(congrArg Prod.snd h').symm, q3.2.2.1, o2, o3⟩
theorem rec_0 : ∀ n (x : Nat × Nat), (Nat.rec x (fun _ y => stepK B loc p 1 y) n : Nat × Nat).1 = 0 → x.1 = 0 ∧ (Nat.rec x (fun _ y => stepK B loc p 1 y) n : Nat × Nat) = (0, x.2 + n) ∧ ∀ i, i < n → okK loc 1 (B (p + x.2 + i)) := by
  intro n
  induction n with
  | zero => intro x h; exact ⟨h, Prod.ext h rfl, fun i hi => by omega⟩
  | succ n ih =>
    intro x h
    have q := stepK_0 (x := (Nat.rec x (fun _ y => stepK B loc p 1 y) n : Nat × Nat)) h
    obtain ⟨i1, i2, i3⟩ := ih x q.1
    have o := q.2.2.1
    rw [i2] at o
    refine ⟨i1, ?_, fun i hi => ?_⟩
    · exact q.2.2.2.trans (by rw [i2]; rfl)
    · by_cases hin : i = n
      · rw [hin, Nat.add_assoc]; exact o
      · exact i3 i (by omega)
theorem dk12 (h : rdL B loc p 7 1042 1 = (0, len)) : len = 4 + B (p + 3) ∧ okK loc 2 (B (p + 1)) ∧ okK loc 1 (B (p + 2)) ∧ B (p + 3) ≤ 4 ∧ ∀ i, i < B (p + 3) → okK loc 1 (B (p + 4 + i)) := by
  have e : rdL B loc p 7 1042 1 = rdS B loc p (0 + 4 + 1) 4 (stepK B loc p 1 (stepK B loc p 2 (0, 1))) := (show rdL B loc p 7 1042 1 = rdS B loc p 7 1042 (0, 1) from rfl).trans ((rdS_k 2 65 (by omega) (by omega) (by omega)).trans (rdS_k 1 4 (by omega) (by omega) (by omega)))
  rw [e, rdS_n] at h
  by_cases h0 : (stepK B loc p 4 (stepK B loc p 1 (stepK B loc p 2 (0, 1)))).1 = 0
  · rw [if_pos h0] at h
    have q := stepK_0 h0
    have q2 := stepK_0 q.1
    have q3 := stepK_0 q2.1
    obtain ⟨r1, r2, r3⟩ := rec_0 (B := B) (loc := loc) (p := p) _ _ (show _ = 0 by rw [h])
    rw [h] at r2
    have o1 := q3.2.2.1
    have o2 := q2.2.2.1
    rw [q3.2.2.2] at o2
    have o3 := q.2.2.1
    rw [q2.2.2.2, q3.2.2.2] at o3
    rw [q.2.2.2, q2.2.2.2, q3.2.2.2] at r2 r3
    have o3' : okK loc 4 (B (p + 3)) := o3
    refine ⟨(congrArg Prod.snd r2).trans rfl, o1, o2, by omega, r3⟩
  · rw [if_neg h0] at h
    exact absurd (show _ = 0 by rw [h]) h0
theorem okV {b : Nat} (h : okK loc 1 b) (hl : loc ≤ 8) : b < 144 := by omega
theorem okC {b : Nat} (h : okK loc 2 b) (hl : loc ≤ 8) : 128 ≤ b ∧ b < 144 := by omega
theorem dec_rd {c : Nat} (hc : B p = c) (h : dec B p loc = (0, len)) : rdL B loc p 7 (frm c) 1 = (0, len) := by
  have hp := (dec_p (B := B) (loc := loc) (p := p)).2.2 (by rw [h])
  rw [h] at hp
  have hp' : 1 ≤ len ∧ p + len ≤ 1024 ∧ B p ≤ 15 := hp
  rw [← h, ← hc]
  unfold dec
  rw [if_neg (by omega), if_neg (by omega)]
end DK
/-- the routine under way on top, with what comes next changed -/
theorem top_c {mo n mk e d q f a x' ct' : Nat} {B : Nat → Nat} {sC sC' sM sM' : xSt} (h : Run mo n mk e d q B sC sM) (hf : f < e) (fC : ∀ c i k, ¬ (c = 2 ∧ i = f ∧ (k = 3 ∨ k = 5 ∨ k = 6 ∨ k = 7)) → sC'.1 c i k = sC.1 c i k) (fQ : sC'.2 = sC.2) (fM : ∀ c i k, ¬ (c = 30 ∧ (i = 32 ∨ i = 34) ∧ k = f) → sM'.1 c i k = sM.1 c i k) (ha : sC.1 2 f 2 = nI a) (ha2 : a ≤ 1020) (hx : x' ≤ 1024) (hct : ct' < 256) (k3 : sC'.1 2 f 3 = nI x') (m3 : sM'.1 30 32 f = nI (a + x')) (k6 : sC'.1 2 f 6 = nI ct') (m6 : sM'.1 30 34 f = nI ct')
    (hL : ∀ k, k < n → sC.2 1 f = sC.2 0 k + 1 → ∃ sz r, sC.1 3 (sC.2 0 k) 1 = nI sz ∧ sz ≤ 60 ∧ r < sz ∧ sC'.1 2 f 5 = nI r ∧ sC.1 22 (sC.2 0 k) (r * 11 + 9) = nI x' ∧ (ct' = 0 ∨ ∃ r', r' < sz ∧ sC'.1 2 f 7 = nI r' ∧ sC.1 22 (sC.2 0 k) (r' * 11 + 9) = nI ct')) : Run mo n mk e d q B sC' sM' := by
  obtain ⟨h1, h2, h3, h4, h5, h6, h7, h8, h9, h10⟩ := h
  have h22 : sC'.1 22 = sC.1 22 := funext fun i => funext fun k => fC 22 i k (by omega)
  refine ⟨Cor_c h1 (fun c i k z => fC _ _ _ (by omega)) (fun k => by rw [fQ]) (fun c i k z => fM _ _ _ (by omega)), ⟨fun g hg => ?_, fun g hg => ?_⟩, h3, h4, by rw [fC _ _ _ (by omega)]; exact h5, by rw [fM _ _ _ (by omega)]; exact h6, by rw [fC _ _ _ (by omega)]; exact h7, by rw [fM _ _ _ (by omega)]; exact h8, by rw [fC _ _ _ (by omega), fM _ _ _ (by omega)]; exact h9, Out_c h10 (fun c i k z => fC _ _ _ (by omega)) (fun k z => fM _ _ _ (by omega))⟩
  · obtain ⟨⟨⟨a', x, hh, ct, g1, g2, g3, g4, g5, g6, g7, g8, g9, g10, g11, g12⟩, g13, g14⟩, hF1⟩ := h2.1 g hg
    by_cases hgf : g = f
    · subst hgf
      have ea : a' = a := by rw [ha, nI_eq (by omega) (by omega)] at g5; exact g5.symm
      subst ea
      refine ⟨⟨⟨a', x', hh, ct', g1, hx, g3, hct, by rw [fC _ _ _ (by omega)]; exact g5, by rw [fM _ _ _ (by omega)]; exact g6, k3, m3, by rw [fC _ _ _ (by omega)]; exact g9, by rw [fM _ _ _ (by omega)]; exact g10, k6, m6⟩, fun k hk => by rw [fC _ _ _ (by omega), fM _ _ _ (by omega)]; exact g13 k hk, by rw [fQ]; exact g14⟩, fun k hk => ?_⟩
      rw [fM 30 9 k (by omega), fM 30 36 g (by omega), fQ, fC 3 _ 1 (by omega), fC 3 _ 2 (by omega), h22]
      refine ⟨(hF1 k hk).1, fun hq => ?_⟩
      obtain ⟨⟨a2, l1, l2, l3, l4⟩, _⟩ := (hF1 k hk).2 hq
      obtain ⟨sz, r, v1, v2, v3, v4, v5, v6⟩ := hL k hk hq
      refine ⟨⟨a2, by rw [fC _ _ _ (by omega)]; exact l1, l2, l3, by rw [fC _ _ _ (by omega)]; exact l4⟩, sz, r, v1, v2, v3, v4, by rw [k3]; exact v5, ?_⟩
      rw [k6]
      rcases v6 with v6 | v6
      · exact Or.inl (by rw [v6])
      · exact Or.inr v6
    · refine ⟨⟨⟨a', x, hh, ct, g1, g2, g3, g4, by rw [fC _ _ _ (by omega)]; exact g5, by rw [fM _ _ _ (by omega)]; exact g6, by rw [fC _ _ _ (by omega)]; exact g7, by rw [fM _ _ _ (by omega)]; exact g8, by rw [fC _ _ _ (by omega)]; exact g9, by rw [fM _ _ _ (by omega)]; exact g10, by rw [fC _ _ _ (by omega)]; exact g11, by rw [fM _ _ _ (by omega)]; exact g12⟩, fun k hk => by rw [fC _ _ _ (by omega), fM _ _ _ (by omega)]; exact g13 k hk, by rw [fQ]; exact g14⟩, fun k hk => ?_⟩
      have h2g : sC'.1 2 g = sC.1 2 g := funext fun k => fC 2 g k (by omega)
      rw [fM 30 9 k (by omega), fM 30 36 g (by omega), fQ, fC 3 _ 1 (by omega), fC 3 _ 2 (by omega), h22, h2g]
      exact hF1 k hk
  · obtain ⟨u, u1, u2, u3, u4⟩ := h2.2 g hg
    exact ⟨u, u1, u2, by rw [fC _ _ _ (by omega)]; exact u3, by rw [fM _ _ _ (by omega)]; exact u4⟩
/-- out of what a step begins with: all routines are in order, if it is no END -/
theorem Post_run {mo n mk d q p len : Nat} {B : Nat → Nat} {sC sM : xSt} (h : Post mo n mk d q p len B sC sM) (hd : 1 ≤ d) (h15 : B p ≠ 15) : Run mo n mk d d q B sC sM := by
  obtain ⟨⟨h1, h2, h3⟩, p2, p3, p4, _⟩ := h
  refine ⟨h1, ⟨fun f hf => ?_, fun f hf => p4 f hf⟩, h3⟩
  by_cases hfd : f = d - 1
  · rw [hfd]; exact ⟨p2, p3 h15⟩
  · exact h2.1 f (by omega)
theorem Post_val {N mo n mk d q p len u : Nat} {B : Nat → Nat} {sC sM : xSt} (h : Post mo n mk d q p len B sC sM) (hd : 1 ≤ d) (hu : u < 144) : ∃ w, fX6_valueOf N mo (d - 1) (nI u) sC = some (w, sC) ∧ fX9_valueOf N (nI u) sM = some (w, sM) := by
  obtain ⟨⟨h1, h2, h3, h4, h5, h6, h7⟩, p2, p3, p4, _⟩ := h
  exact val_sim hu (by omega) p2.2.1 h1.2.2.2.2.1.1 (by rw [show d - 1 + 1 = d by omega]; exact h6)
theorem doIt_pre {N mo n mk d q p len : Nat} {B : Nat → Nat} {sC sM : xSt} (h : Post mo n mk d q p len B sC sM) (hd : 1 ≤ d) : ∃ wa wb, fX9_doIt N sM = fX9_doIt_b68 N wa wb sM ∧ (2 ≤ len → B (p + 1) < 144 → fX6_valueOf N mo (d - 1) (nI (B (p + 1))) sC = some (wa, sC)) ∧ (3 ≤ len → B (p + 2) < 144 → fX6_valueOf N mo (d - 1) (nI (B (p + 2))) sC = some (wb, sC)) := by
  have hv := fun u hu => Post_val (N := N) (u := u) h hd hu
  obtain ⟨⟨h1, h2, h3, h4, h5, h6, h7⟩, p2, p3, p4, p5, ⟨loc, hl, hdec⟩, p7, q1, q2, q3⟩ := h
  have hB : ∀ k, k < 1024 → B k < 256 := fun k hk => (h1.2.2.1 k hk).1
  have hp := (dec_p (B := B) (loc := loc) (p := p)).2.2 (by rw [hdec])
  have hp8 := (dec_p (B := B) (loc := loc) (p := p)).2.1
  rw [hdec] at hp hp8
  have hp' : 1 ≤ len ∧ p + len ≤ 1024 ∧ B p ≤ 15 := hp
  have hp8' : len ≤ 8 := hp8
  have second : ∀ wa, ∃ wb, fX9_doIt_b33 N wa sM = fX9_doIt_b68 N wa wb sM ∧ (3 ≤ len → B (p + 2) < 144 → fX6_valueOf N mo (d - 1) (nI (B (p + 2))) sC = some (wb, sC)) := by
    intro wa
    unfold fX9_doIt_b33 fX9_doIt_b67
    by_cases h3l : 3 ≤ len
    · have o := q3 1 (by omega)
      have hb := hB (p + 2) (by omega)
      have o' : sM.1 30 22 1 = nI (B (p + 2)) := o
      by_cases hb2 : B (p + 2) < 144
      · obtain ⟨w, w1, w2⟩ := hv _ hb2
        simp (disch := omega) only [q2, o', w2, nm, bd, Option.bind_some, pI1, pI2, pQ1, pQ2, li_0, li_1, li_2, li_3, li_4, li_5, li_6, li_7, li_8, li_9, li_10, li_11, li_12, li_13, li_14, li_15, li_16, li_60, li_64, li_128, li_136, li_144, li_256, li_400, li_500, li_1020, li_1024, nI_neg1, nI_clamp, nI_ltI, nI_leI, nI_eq, nI_add, pk_sub, pk_mul, pk_div, nI_nm1, nI_nm1p, Nat.add_sub_cancel, Nat.add_sub_cancel_left, false_or, or_false, true_or, or_true, not_true_eq_false, not_false_eq_true, and_true, true_and, and_false, false_and, if_true, if_false, if_pos, if_neg]
        exact ⟨w, rfl, fun _ _ => w1⟩
      · simp (disch := omega) only [q2, o', nm, bd, Option.bind_some, pI1, pI2, pQ1, pQ2, li_0, li_1, li_2, li_3, li_4, li_5, li_6, li_7, li_8, li_9, li_10, li_11, li_12, li_13, li_14, li_15, li_16, li_60, li_64, li_128, li_136, li_144, li_256, li_400, li_500, li_1020, li_1024, nI_neg1, nI_clamp, nI_ltI, nI_leI, nI_eq, nI_add, pk_sub, pk_mul, pk_div, nI_nm1, nI_nm1p, Nat.add_sub_cancel, Nat.add_sub_cancel_left, false_or, or_false, true_or, or_true, not_true_eq_false, not_false_eq_true, and_true, true_and, and_false, false_and, if_true, if_false, if_pos, if_neg]
        exact ⟨_, rfl, fun _ z => absurd z hb2⟩
    · simp (disch := omega) only [q2, nm, bd, Option.bind_some, pI1, pI2, pQ1, pQ2, li_0, li_1, li_2, li_3, li_4, li_5, li_6, li_7, li_8, li_9, li_10, li_11, li_12, li_13, li_14, li_15, li_16, li_60, li_64, li_128, li_136, li_144, li_256, li_400, li_500, li_1020, li_1024, nI_neg1, nI_clamp, nI_ltI, nI_leI, nI_eq, nI_add, pk_sub, pk_mul, pk_div, nI_nm1, nI_nm1p, Nat.add_sub_cancel, Nat.add_sub_cancel_left, false_or, or_false, true_or, or_true, not_true_eq_false, not_false_eq_true, and_true, true_and, and_false, false_and, if_true, if_false, if_pos, if_neg]
      exact ⟨_, rfl, fun z => by omega⟩
  unfold fX9_doIt fX9_doIt_b32
  by_cases h2l : 2 ≤ len
  · have o := q3 0 (by omega)
    have hb := hB (p + 1) (by omega)
    have o' : sM.1 30 22 0 = nI (B (p + 1)) := o
    by_cases hb2 : B (p + 1) < 144
    · obtain ⟨w, w1, w2⟩ := hv _ hb2
      obtain ⟨wb, e1, e2⟩ := second w
      simp (disch := omega) only [q2, o', w2, nm, bd, Option.bind_some, pI1, pI2, pQ1, pQ2, li_0, li_1, li_2, li_3, li_4, li_5, li_6, li_7, li_8, li_9, li_10, li_11, li_12, li_13, li_14, li_15, li_16, li_60, li_64, li_128, li_136, li_144, li_256, li_400, li_500, li_1020, li_1024, nI_neg1, nI_clamp, nI_ltI, nI_leI, nI_eq, nI_add, pk_sub, pk_mul, pk_div, nI_nm1, nI_nm1p, Nat.add_sub_cancel, Nat.add_sub_cancel_left, false_or, or_false, true_or, or_true, not_true_eq_false, not_false_eq_true, and_true, true_and, and_false, false_and, if_true, if_false, if_pos, if_neg]
      exact ⟨w, wb, e1, fun _ _ => w1, e2⟩
    · obtain ⟨wb, e1, e2⟩ := second 0
      simp (disch := omega) only [q2, o', nm, bd, Option.bind_some, pI1, pI2, pQ1, pQ2, li_0, li_1, li_2, li_3, li_4, li_5, li_6, li_7, li_8, li_9, li_10, li_11, li_12, li_13, li_14, li_15, li_16, li_60, li_64, li_128, li_136, li_144, li_256, li_400, li_500, li_1020, li_1024, nI_neg1, nI_clamp, nI_ltI, nI_leI, nI_eq, nI_add, pk_sub, pk_mul, pk_div, nI_nm1, nI_nm1p, Nat.add_sub_cancel, Nat.add_sub_cancel_left, false_or, or_false, true_or, or_true, not_true_eq_false, not_false_eq_true, and_true, true_and, and_false, false_and, if_true, if_false, if_pos, if_neg]
      exact ⟨0, wb, e1, fun _ z => absurd z hb2, e2⟩
  · obtain ⟨wb, e1, e2⟩ := second 0
    simp (disch := omega) only [q2, nm, bd, Option.bind_some, pI1, pI2, pQ1, pQ2, li_0, li_1, li_2, li_3, li_4, li_5, li_6, li_7, li_8, li_9, li_10, li_11, li_12, li_13, li_14, li_15, li_16, li_60, li_64, li_128, li_136, li_144, li_256, li_400, li_500, li_1020, li_1024, nI_neg1, nI_clamp, nI_ltI, nI_leI, nI_eq, nI_add, pk_sub, pk_mul, pk_div, nI_nm1, nI_nm1p, Nat.add_sub_cancel, Nat.add_sub_cancel_left, false_or, or_false, true_or, or_true, not_true_eq_false, not_false_eq_true, and_true, true_and, and_false, false_and, if_true, if_false, if_pos, if_neg]
    exact ⟨0, wb, e1, fun z => by omega, e2⟩
