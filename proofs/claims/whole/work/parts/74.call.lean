section CL
variable {N mo n mk d q p len : Nat} {B : Nat → Nat} {sC sM : xSt}
theorem Lk_c {mf mf' : Nat → Int32} {s32 ad : Int32} {rows : Nat → Int32} (h : Lk B mf s32 ad rows) (hm : ∀ k, k ≠ 8 → mf' k = mf k) : Lk B mf' s32 ad rows := by
  unfold Lk at h ⊢
  rw [hm 1 (by omega), hm 2 (by omega), hm 3 (by omega), hm 5 (by omega), hm 6 (by omega), hm 7 (by omega)]
  exact h
/-- the routine on top waits: where its value goes, and what it hands, is set -/
theorem wait_c {sC' sM' : xSt} (h : Run mo n mk d d q B sC sM) (fC : ∀ c i k, ¬ (c = 2 ∧ i = d - 1 ∧ k = 8) → ¬ (c = 20 ∧ i = 5) → sC'.1 c i k = sC.1 c i k) (fQ : sC'.2 = sC.2) (fM : ∀ c i k, ¬ (c = 30 ∧ i = 38) → ¬ (c = 9 ∧ i = 0 ∧ k = 39) → sM'.1 c i k = sM.1 c i k) : Run mo n mk d d q B sC' sM' := by
  obtain ⟨h1, h2, h3, h4, h5, h6, h7, h8, h9, h10⟩ := h
  have h22 : sC'.1 22 = sC.1 22 := funext fun i => funext fun k => fC 22 i k (by omega) (by omega)
  refine ⟨Cor_c h1 (fun c i k z => fC _ _ _ (by omega) (by omega)) (fun k => by rw [fQ]) (fun c i k z => fM _ _ _ (by omega) (by omega)), ⟨fun g hg => ?_, fun g hg => ?_⟩, h3, h4, by rw [fC _ _ _ (by omega) (by omega)]; exact h5, by rw [fM _ _ _ (by omega) (by omega)]; exact h6, by rw [fC _ _ _ (by omega) (by omega)]; exact h7, by rw [fM _ _ _ (by omega) (by omega)]; exact h8, by rw [fC _ _ _ (by omega) (by omega), fM _ _ _ (by omega) (by omega)]; exact h9, Out_c h10 (fun c i k z => fC _ _ _ (by omega) (by omega)) (fun k z => fM _ _ _ (by omega) (by omega))⟩
  · obtain ⟨⟨⟨a', x, hh, ct, g1, g2, g3, g4, g5, g6, g7, g8, g9, g10, g11, g12⟩, g13, g14⟩, hF1⟩ := h2.1 g hg
    refine ⟨⟨⟨a', x, hh, ct, g1, g2, g3, g4, by rw [fC _ _ _ (by omega) (by omega)]; exact g5, by rw [fM _ _ _ (by omega) (by omega)]; exact g6, by rw [fC _ _ _ (by omega) (by omega)]; exact g7, by rw [fM _ _ _ (by omega) (by omega)]; exact g8, by rw [fC _ _ _ (by omega) (by omega)]; exact g9, by rw [fM _ _ _ (by omega) (by omega)]; exact g10, by rw [fC _ _ _ (by omega) (by omega)]; exact g11, by rw [fM _ _ _ (by omega) (by omega)]; exact g12⟩, fun k hk => by rw [fC _ _ _ (by omega) (by omega), fM _ _ _ (by omega) (by omega)]; exact g13 k hk, by rw [fQ]; exact g14⟩, fun k hk => ?_⟩
    rw [fM 30 9 k (by omega) (by omega), fM 30 36 g (by omega) (by omega), fQ, fC 3 _ 1 (by omega) (by omega), fC 3 _ 2 (by omega) (by omega), h22]
    refine ⟨(hF1 k hk).1, fun hq => Lk_c ((hF1 k hk).2 hq) (fun k hk => fC _ _ _ (by omega) (by omega))⟩
  · obtain ⟨u, u1, u2, u3, u4⟩ := h2.2 g hg
    exact ⟨u, u1, u2, by rw [fC _ _ _ (by omega) (by omega)]; exact u3, by rw [fM _ _ _ (by omega) (by omega)]; exact u4⟩
theorem callL {f g u Q bs : Nat} {wb : Int32} (hg : g ≤ 4) (hf : f < 12) (k1 : sC.2 2 0 = Q) (k2 : sC.1 6 0 13 = nI bs) (k3 : bs + 10 < rwN Q) (k4 : rwN Q ≤ 660) (r1 : sC.1 (rwC Q) (rwI mo Q) (bs + 1) = nI u) (hr : ∀ i, i < g → B (p + 4 + i) < 144 ∧ sC.1 (rwC Q) (rwI mo Q) (bs + 4 + i) = nI (B (p + 4 + i)) ∧ sM.1 30 22 (3 + i) = nI (B (p + 4 + i)))
    (hl : ∀ k, k < 8 → sC.1 21 f k = sM.1 30 37 (8 * f + k)) (hgl : ∀ k, k < 8 → sC.1 20 1 k = sM.1 30 2 k) (hdM : sM.1 9 0 29 = nI (f + 1)) :
    ∀ dd i fC fM (tC tM : xSt), i + dd = g → dd < fC → dd < fM → tC.2 = sC.2 → (∀ c j k, ¬ (c = 20 ∧ j = 5) → tC.1 c j k = sC.1 c j k) → tM.2 = sM.2 → (∀ c j k, ¬ (c = 30 ∧ j = 38) → ¬ (c = 9 ∧ j = 0 ∧ k = 39) → tM.1 c j k = sM.1 c j k) → tM.1 9 0 39 = nI g → (∀ k, k < i → tC.1 20 5 k = tM.1 30 38 k) →
      ∃ uC uM, fX6_handOver_b14 N mo fC f (nI g) (nI i) tC = some (pI uC 2 f 8 (nI u)) ∧ fX9_doIt_b293 N fM wb (nI i) tM = (if wb < (0 : Int32) then fX9_doIt_b343 N uM else if (256 : Int32) ≤ wb then fX9_doIt_b343 N uM else fX9_doIt_b344 N ((4 : Int32) * wb) uM) ∧ uC.2 = sC.2 ∧ (∀ c j k, ¬ (c = 20 ∧ j = 5) → uC.1 c j k = sC.1 c j k) ∧ uM.2 = sM.2 ∧ (∀ c j k, ¬ (c = 30 ∧ j = 38) → ¬ (c = 9 ∧ j = 0 ∧ k = 39) → uM.1 c j k = sM.1 c j k) ∧ uM.1 9 0 39 = nI g ∧ (∀ k, k < g → uC.1 20 5 k = uM.1 30 38 k) := by
  have hrc := rwC_c Q
  have hr6 := fun z : rwC Q = 20 => rwI_0 (mo := mo) z
  intro dd
  induction dd with
  | zero =>
    intro i fC fM tC tM h1 h2 h3 t1 t2 t3 t4 t5 t6
    obtain ⟨fC, rfl⟩ : ∃ z, fC = z + 1 := ⟨fC - 1, by omega⟩
    obtain ⟨fM, rfl⟩ : ∃ z, fM = z + 1 := ⟨fM - 1, by omega⟩
    refine ⟨tC, tM, ?_, ?_, t1, t2, t3, t4, t5, fun k hk => t6 k (by omega)⟩
    · have q1 : tC.1 6 0 13 = nI bs := by rw [t2 _ _ _ (by omega)]; exact k2
      have q2 : tC.2 2 0 = Q := by rw [t1]; exact k1
      have q3 : tC.1 (rwC Q) (rwI mo Q) (bs + 1) = nI u := by rw [t2 _ _ _ (by omega)]; exact r1
      unfold fX6_handOver_b14 fX6_handOver_b54
      rw [if_pos (nI_le (by omega) (by omega)), q1, q2, show nI bs + (1 : Int32) = nI (bs + 1) from nI_1 bs, if_neg (nI_in (c := bs + 1) (N := rwN Q) (by omega) (by omega)), nI_clamp (by omega), q3]
      rfl
    · rw [fX9_doIt_b293, t5, if_pos (nI_le (by omega) (by omega))]
  | succ dd ih =>
    intro i fC fM tC tM h1 h2 h3 t1 t2 t3 t4 t5 t6
    obtain ⟨fC, rfl⟩ : ∃ z, fC = z + 1 := ⟨fC - 1, by omega⟩
    obtain ⟨fM, rfl⟩ : ∃ z, fM = z + 1 := ⟨fM - 1, by omega⟩
    obtain ⟨b1, b2, b3⟩ := hr i (by omega)
    obtain ⟨w, w1, w2⟩ := val_sim (N := N) (mo := mo) (f := f) (u := B (p + 4 + i)) (sC := tC) (sM := tM) b1 hf (fun k hk => by rw [t2 _ _ _ (by omega), t4 _ _ _ (by omega) (by omega)]; exact hl k hk) (fun k hk => by rw [t2 _ _ _ (by omega), t4 _ _ _ (by omega) (by omega)]; exact hgl k hk) (by rw [t4 _ _ _ (by omega) (by omega)]; exact hdM)
    obtain ⟨uC, uM, e1, e2, e3⟩ := ih (i + 1) fC fM (pI tC 20 5 i w) (pI tM 30 38 i w) (by omega) (by omega) (by omega) t1 (fun c j k z => by rw [pI1, if_neg (by omega)]; exact t2 c j k z) t3 (fun c j k z1 z2 => by rw [pI1, if_neg (by omega)]; exact t4 c j k z1 z2) (by simp (disch := omega) only [if_pos, if_neg, pI1, pI2, pQ1, pQ2, true_and, and_true, false_and, and_false, true_or, or_true, false_or, or_false, if_true, if_false, Nat.reduceEqDiff, and_self, not_true_eq_false, not_false_eq_true]; exact t5) (fun k hk => by
      by_cases hki : k = i
      · rw [pI1, if_pos (by omega), pI1, if_pos (by omega)]
      · rw [pI1, if_neg (by omega), pI1, if_neg (by omega)]; exact t6 k (by omega))
    have q1 : tC.1 6 0 13 = nI bs := by rw [t2 _ _ _ (by omega)]; exact k2
    have q2 : tC.2 2 0 = Q := by rw [t1]; exact k1
    have q3 : tC.1 (rwC Q) (rwI mo Q) (bs + 4 + i) = nI (B (p + 4 + i)) := by rw [t2 _ _ _ (by omega)]; exact b2
    have q4 : tM.1 30 22 (3 + i) = nI (B (p + 4 + i)) := by rw [t4 _ _ _ (by omega) (by omega)]; exact b3
    refine ⟨uC, uM, ?_, ?_, e3⟩
    · unfold fX6_handOver_b14
      rw [if_neg (nI_ge (by omega) (by omega)), if_neg (show ¬ (4 : Int32) ≤ nI i from nI_ge (b := 4) (by omega) (by omega)), q1, q2, show nI bs + (4 : Int32) = nI (bs + 4) from nI_add bs 4, nI_add, if_neg (nI_in (c := bs + 4 + i) (N := rwN Q) (by omega) (by omega)), nI_clamp (by omega), q3]
      simp only [nm]
      rw [w1]
      simp only [bd]
      rw [if_neg (nI_in (c := i) (N := 4) (by omega) (by omega)), nI_clamp (by omega), nI_1]
      exact e1
    · rw [fX9_doIt_b293, t5, if_neg (nI_ge (by omega) (by omega)), show (3 : Int32) + nI i = nI (3 + i) from nI_add 3 i, if_neg (nI_in (c := 3 + i) (N := 8) (by omega) (by omega)), nI_clamp (by omega), q4, w2]
      simp only [bd, nm]
      rw [if_neg (nI_in (c := i) (N := 4) (by omega) (by omega)), nI_clamp (by omega), nI_1]
      exact e2
theorem do_call (hN : 30 < N) (hmk : mk < 2 ^ 31) (h : Post mo n mk d q p len B sC sM) (hd : 1 ≤ d) (hc : B p = 12) : Did N mo mk q (d - 1) sC sM := by
  obtain ⟨wa, wb, e1, e2, e3⟩ := doIt_pre (N := N) h hd
  have hR := Post_run h hd (by omega)
  have hv := fun u hu => Post_val (N := N) (u := u) h hd hu
  obtain ⟨_, p2, p3, p4, p5, ⟨loc, hl, hdec⟩, ⟨Q, bs, k1, k2, k3, k4, k5, k6⟩, q1, q2, q3⟩ := id h
  obtain ⟨hlen, o1, o2, o3, o4⟩ := dk12 (dec_rd hc hdec)
  have v2 := e3 (by omega) (okV o2 hl)
  have r0 := k5 0 (by omega)
  have r1 := k5 1 (by omega)
  have r2 := k5 2 (by omega)
  have r3 := k5 3 (by omega)
  have m0 : sM.1 30 22 0 = nI (B (p + 1)) := q3 0 (by omega)
  have m2 : sM.1 30 22 2 = nI (B (p + 3)) := q3 2 (by omega)
  rw [hc] at q1
  rw [Nat.add_zero, Nat.add_zero, hc] at r0
  have hrc := rwC_c Q
  have hd12 := hR.2.2.1
  have hdM : sM.1 9 0 29 = nI (d - 1 + 1) := by rw [show d - 1 + 1 = d by omega]; exact hR.2.2.2.2.2.1
  have hgl := hR.1.2.2.2.2.1.1
  generalize hg : B (p + 3) = g at *
  obtain ⟨uC, uM, c1, c2, c3, c4, c5, c6, c7, c8⟩ := callL (N := N) (mo := mo) (sC := sC) (sM := sM) (B := B) (p := p) (f := d - 1) (g := g) (u := B (p + 1)) (wb := wb) o3 (by omega) k1 k2 k3 k4 r1 (fun i hi => ⟨okV (o4 i hi) hl, by have := k5 (4 + i) (by omega); rw [Nat.add_assoc, Nat.add_assoc]; exact this, by have := q3 (3 + i) (by omega); rw [this]; exact congrArg nI (congrArg B (by omega))⟩) p2.2.1 hgl hdM g 0 N N sC (pI sM 9 0 39 (nI g)) (by omega) (by omega) (by omega) rfl (fun _ _ _ _ => rfl) rfl (fun c j k z1 z2 => by rw [pI1, if_neg (by omega)]) (by simp (disch := omega) only [if_pos, if_neg, pI1, pI2, pQ1, pQ2, true_and, and_true, false_and, and_false, true_or, or_true, false_or, or_false, if_true, if_false, Nat.reduceEqDiff, and_self, not_true_eq_false, not_false_eq_true]) (fun k hk => by omega)
  -- after what is handed over
  generalize hsC1 : pI uC 2 (d - 1) 8 (nI (B (p + 1))) = sC1 at *
  have fC1 : ∀ c i k, ¬ (c = 2 ∧ i = d - 1 ∧ k = 8) → ¬ (c = 20 ∧ i = 5) → sC1.1 c i k = sC.1 c i k := fun c i k z1 z2 => by rw [← hsC1, pI1, if_neg (by omega)]; exact c4 c i k z2
  have hR1 : Run mo n mk d d q B sC1 uM := wait_c hR fC1 (by rw [← hsC1]; exact c3) c6
  have hH1 : Hr sC1 uM := ⟨by rw [fC1 _ _ _ (by omega) (by omega), c6 _ _ _ (by omega) (by omega)]; exact p5.1, by rw [fC1 _ _ _ (by omega) (by omega), c6 _ _ _ (by omega) (by omega)]; exact p5.2⟩
  have hho : fX6_handOver N mo (d - 1) sC = some sC1 := by
    unfold fX6_handOver
    rw [k2, k1, show nI bs + (3 : Int32) = nI (bs + 3) from nI_add bs 3, if_neg (nI_in (c := bs + 3) (N := rwN Q) (by omega) (by omega)), nI_clamp (by omega), r3]
    exact c1
  have hv1 : fX6_valueOf N mo (d - 1) (nI (B (p + 2))) sC1 = some (wb, sC1) := by
    obtain ⟨w, x1, x2⟩ := val_sim (N := N) (mo := mo) (f := d - 1) (u := B (p + 2)) (sC := sC1) (sM := sM) (okV o2 hl) (by omega) (fun k hk => by rw [fC1 _ _ _ (by omega) (by omega)]; exact p2.2.1 k hk) (fun k hk => by rw [fC1 _ _ _ (by omega) (by omega)]; exact hgl k hk) hdM
    obtain ⟨w', y1, y2⟩ := hv _ (okV o2 hl)
    rw [v2] at y1
    rw [x2] at y2
    have h1 : wb = w' := congrArg Prod.fst (Option.some.inj y1)
    have h2 : w = w' := congrArg Prod.fst (Option.some.inj y2)
    rw [h1, ← h2]; exact x1
  have r3' : sC1.1 (rwC Q) (rwI mo Q) (bs + 3) = nI g := by
    rw [fC1 _ _ _ (by omega) (by
      intro z
      have := rwI_0 (mo := mo) z.1
      omega)]
    exact r3
  have k1' : sC1.2 2 0 = Q := by rw [← hsC1, pI2, c3]; exact k1
  have k2' : sC1.1 6 0 13 = nI bs := by rw [fC1 _ _ _ (by omega) (by omega)]; exact k2
  have s8 : sC1.1 2 (d - 1) 8 = nI (B (p + 1)) := by rw [← hsC1]; simp (disch := omega) only [if_pos, if_neg, pI1, pI2, pQ1, pQ2, true_and, and_true, false_and, and_false, true_or, or_true, false_or, or_false, if_true, if_false, Nat.reduceEqDiff, and_self, not_true_eq_false, not_false_eq_true]
  have m0' : uM.1 30 22 0 = nI (B (p + 1)) := by rw [c6 _ _ _ (by omega) (by omega)]; exact m0
  -- the address
  obtain ⟨A, hA1, hA2, hA3⟩ : ∃ A, fX6_addressFor N mo wb sC1 = some (A, sC1) ∧ (if wb < (0 : Int32) then fX9_doIt_b343 N uM else if (256 : Int32) ≤ wb then fX9_doIt_b343 N uM else fX9_doIt_b344 N ((4 : Int32) * wb) uM) = fX9_doIt_b344 N A uM ∧ (A = -1 ∨ ∃ a, isAd a ∧ A = nI a) := by
    unfold fX6_addressFor fX9_doIt_b343
    by_cases h0 : wb < 0
    · rw [if_pos h0, if_pos h0]; exact ⟨-1, rfl, rfl, Or.inl rfl⟩
    · rw [if_neg h0, if_neg h0]
      by_cases h2 : (256 : Int32) ≤ wb
      · rw [if_pos h2, if_pos h2]; exact ⟨-1, rfl, rfl, Or.inl rfl⟩
      · rw [if_neg h2, if_neg h2]
        obtain ⟨x, hx, rfl⟩ := nI_of h0
        rw [li_256, nI_leI (by omega) (by omega)] at h2
        refine ⟨_, rfl, rfl, Or.inr ⟨4 * x, by omega, ?_⟩⟩
        rw [li_4, pk_mul]
  obtain ⟨sC', sM', f1, f2, f3⟩ := enter_sim (N := N) (A := A) (into := nI (B (p + 1))) (g := g) hN hmk hR1 hH1 o3 c7 (fun i hi => by rw [← hsC1, pI1, if_neg (by omega)]; exact c8 i hi) hA3 (Or.inr ⟨hd, B (p + 1), (okC o1 hl).1, (okC o1 hl).2, rfl, s8⟩)
  refine Did_of (sC' := sC') (sM' := sM') ?_ ?_ ?_
  · clear c2 e1 e2 e3 hA2
    unfold fX6_carryOut
    simp +decide (disch := omega) only [↓reduceIte, k1, k2, r0, r1, r2, hho, hv1, hA1, k1', k2', r3', f1, nm, bd, Option.bind_some, pI1, pI2, pQ1, pQ2, li_0, li_1, li_2, li_3, li_4, li_5, li_6, li_7, li_8, li_9, li_10, li_11, li_12, li_13, li_14, li_15, li_16, li_60, li_64, li_128, li_136, li_144, li_256, li_400, li_500, li_1020, li_1024, nI_neg1, nI_clamp, nI_ltI, nI_leI, nI_eq, nI_add, pk_sub, pk_mul, pk_div, nI_nm1, nI_nm1p, Nat.add_sub_cancel, Nat.add_sub_cancel_left, false_or, or_false, true_or, or_true, not_true_eq_false, not_false_eq_true, and_true, true_and, and_false, false_and, if_true, if_false, if_pos, if_neg]
  · rw [e1]
    have hst : fX9_doIt_b68 N wa wb sM = fX9_doIt_b293 N N wb (0 : Int32) (pI sM 9 0 39 (nI g)) := by
      clear c2 e1 e2 e3 hA2
      unfold fX9_doIt_b68
      simp +decide (disch := omega) only [↓reduceIte, q1, m2, nm, bd, Option.bind_some, pI1, pI2, pQ1, pQ2, li_0, li_1, li_2, li_3, li_4, li_5, li_6, li_7, li_8, li_9, li_10, li_11, li_12, li_13, li_14, li_15, li_16, li_60, li_64, li_128, li_136, li_144, li_256, li_400, li_500, li_1020, li_1024, nI_neg1, nI_clamp, nI_ltI, nI_leI, nI_eq, nI_add, pk_sub, pk_mul, pk_div, nI_nm1, nI_nm1p, Nat.add_sub_cancel, Nat.add_sub_cancel_left, false_or, or_false, true_or, or_true, not_true_eq_false, not_false_eq_true, and_true, true_and, and_false, false_and, if_true, if_false, if_pos, if_neg]
    have c2' : fX9_doIt_b293 N N wb (0 : Int32) (pI sM 9 0 39 (nI g)) = _ := c2
    rw [hst, c2', hA2]
    unfold fX9_doIt_b344
    rw [m0', f2]; rfl
  · rcases f3 with f | ⟨_, f⟩ | f
    · exact Or.inl ⟨n, d + 1, q, B, by omega, Nat.le_refl _, f⟩
    · exact Or.inl ⟨n, d, q + 1, B, hd, by omega, f⟩
    · exact Or.inr f
end CL
