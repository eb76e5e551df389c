def Sim (mo t : Nat) (sC sM : xSt) : Prop := ∃ n mk B, mk ≤ t ∧ Cor mo n mk B sC sM ∧ sC.1 20 0 6 = sM.1 9 0 17 ∧ sC.1 5 0 0 = sM.1 9 0 44 ∧ sC.1 5 0 2 = sM.1 9 0 41 ∧ sC.1 5 0 3 = sM.1 9 0 42 ∧ sC.1 5 0 4 = sM.1 9 0 43
theorem Sim_mono (mo t : Nat) (sC sM : xSt) (h : Sim mo t sC sM) : Sim mo (t + 1) sC sM := by
  obtain ⟨n, mk, B, h1, h2⟩ := h
  exact ⟨n, mk, B, by omega, h2⟩
/-- the core looks at these cells alone -/
theorem Cor_c {mo n mk : Nat} {B : Nat → Nat} {sC sC' sM sM' : xSt} (h : Cor mo n mk B sC sM) (hC : ∀ c i k, (c = 3 ∨ c = 7 ∨ c = 8 ∨ c = 22 ∨ (c = 20 ∧ i ≤ 4 ∧ ¬ (i = 0 ∧ k = 6))) → sC'.1 c i k = sC.1 c i k) (hQ : ∀ k, sC'.2 0 k = sC.2 0 k) (hM : ∀ c i k, ((c = 9 ∧ i = 0 ∧ 5 ≤ k ∧ k ≤ 18 ∧ k ≠ 17) ∨ (c = 30 ∧ i ≤ 9)) → sM'.1 c i k = sM.1 c i k) : Cor mo n mk B sC' sM' := by
  obtain ⟨hS, hR, hMm, ⟨c1, c2, c3, c4, c5, c6, c7⟩, ⟨o1, o2, o3, o4⟩, hK⟩ := h
  refine ⟨SR_c hS (fun i k => hC _ _ _ (by omega)) (fun k => hC _ _ _ (by omega)) hQ (hM _ _ _ (by omega)) (hM _ _ _ (by omega)) (fun k => hM _ _ _ (by omega)) (fun k => hM _ _ _ (by omega)), NR_c hR (hM _ _ _ (by omega)) (fun k => hM _ _ _ (by omega)), fun k hk => ?_, ⟨?_, ?_, ?_, ?_, ?_, ?_, ?_⟩, ⟨fun k hk => ?_, fun k hk => ?_, fun k hk => ?_, ?_⟩, KR_c hK (fun i k => hC _ _ _ (by omega)) (fun i k => hC _ _ _ (by omega)) hQ (fun k => hM _ _ _ (by omega)) (fun k => hM _ _ _ (by omega))⟩
  · rw [hC 20 3 k (by omega), hM 30 1 k (by omega)]; exact hMm k hk
  · rw [hC _ _ _ (by omega), hM _ _ _ (by omega)]; exact c1
  · rw [hC _ _ _ (by omega), hM _ _ _ (by omega)]; exact c2
  · rw [hC _ _ _ (by omega), hM _ _ _ (by omega)]; exact c3
  · rw [hC _ _ _ (by omega), hM _ _ _ (by omega)]; exact c4
  · rw [hC _ _ _ (by omega), hM _ _ _ (by omega)]; exact c5
  · rw [hC _ _ _ (by omega), hM _ _ _ (by omega)]; exact c6
  · rw [hC _ _ _ (by omega), hM _ _ _ (by omega)]; exact c7
  · rw [hC _ _ _ (by omega), hM _ _ _ (by omega)]; exact o1 k hk
  · rw [hC _ _ _ (by omega), hM _ _ _ (by omega)]; exact o2 k hk
  · rw [hC _ _ _ (by omega), hM _ _ _ (by omega)]; exact o3 k hk
  · rw [hC _ _ _ (by omega), hM _ _ _ (by omega)]; exact o4
theorem Cor_oth {mo n mk : Nat} {B : Nat → Nat} {sC sC' sM sM' : xSt} (h : Cor mo n mk B sC sM) (hC : ∀ c i k, (c = 3 ∨ c = 7 ∨ c = 22 ∨ (c = 20 ∧ (i = 0 ∨ i = 3) ∧ ¬ (i = 0 ∧ k = 6))) → sC'.1 c i k = sC.1 c i k) (hQ : ∀ k, sC'.2 0 k = sC.2 0 k) (hM : ∀ c i k, ((c = 9 ∧ i = 0 ∧ 5 ≤ k ∧ k ≤ 18 ∧ k ≠ 17 ∧ k ≠ 10) ∨ (c = 30 ∧ (i = 1 ∨ i = 7 ∨ i = 8 ∨ i = 9))) → sM'.1 c i k = sM.1 c i k) (hO : Oth sC' sM') : Cor mo n mk B sC' sM' := by
  obtain ⟨hS, hR, hMm, ⟨c1, c2, c3, c4, c5, c6, c7⟩, _, hK⟩ := h
  refine ⟨SR_c hS (fun i k => hC _ _ _ (by omega)) (fun k => hC _ _ _ (by omega)) hQ (hM _ _ _ (by omega)) (hM _ _ _ (by omega)) (fun k => hM _ _ _ (by omega)) (fun k => hM _ _ _ (by omega)), NR_c hR (hM _ _ _ (by omega)) (fun k => hM _ _ _ (by omega)), fun k hk => ?_, ⟨?_, ?_, ?_, ?_, ?_, ?_, ?_⟩, hO, KR_c hK (fun i k => hC _ _ _ (by omega)) (fun i k => hC _ _ _ (by omega)) hQ (fun k => hM _ _ _ (by omega)) (fun k => hM _ _ _ (by omega))⟩
  · rw [hC 20 3 k (by omega), hM 30 1 k (by omega)]; exact hMm k hk
  · rw [hC _ _ _ (by omega), hM _ _ _ (by omega)]; exact c1
  · rw [hC _ _ _ (by omega), hM _ _ _ (by omega)]; exact c2
  · rw [hC _ _ _ (by omega), hM _ _ _ (by omega)]; exact c3
  · rw [hC _ _ _ (by omega), hM _ _ _ (by omega)]; exact c4
  · rw [hC _ _ _ (by omega), hM _ _ _ (by omega)]; exact c5
  · rw [hC _ _ _ (by omega), hM _ _ _ (by omega)]; exact c6
  · rw [hC _ _ _ (by omega), hM _ _ _ (by omega)]; exact c7
theorem Sim_0 {mo t : Nat} {v : Int32} {sC sM : xSt} (h : Sim mo t sC sM) : Sim mo t sC (pI sM 9 0 0 v) := by
  obtain ⟨n, mk, B, h1, h2, h3, h4, h5, h6, h7⟩ := h
  refine ⟨n, mk, B, h1, Cor_c h2 (fun _ _ _ _ => rfl) (fun _ => rfl) (fun c i k z => by rw [pI1, if_neg (by omega)]), ?_, ?_, ?_, ?_, ?_⟩
  · rw [pI1, if_neg (by omega)]; exact h3
  · rw [pI1, if_neg (by omega)]; exact h4
  · rw [pI1, if_neg (by omega)]; exact h5
  · rw [pI1, if_neg (by omega)]; exact h6
  · rw [pI1, if_neg (by omega)]; exact h7
theorem FR_0 {mo n : Nat} {B : Nat → Nat} {sC sM : xSt} : FR mo n 0 B sC sM := ⟨fun f hf => by omega, fun f hf => by omega⟩
theorem Sim_wr {N mo t p : Nat} {vC vM : Int32} {sC sM : xSt} (hN : 30 < N) (hp : p < 1024) (hv : vC &&& 255 = vM &&& 255) (h : Sim mo t sC sM) : ∃ dr sC' sM', fX3_change N mo (nI p) vC sC = some (dr, sC') ∧ fX9_write N (nI p) vM sM = some (dr, sM') ∧ Sim mo t sC' sM' ∧ sM'.1 9 0 0 = sM.1 9 0 0 := by
  obtain ⟨n, mk, B, h1, h2, h3, h4, h5, h6, h7⟩ := h
  obtain ⟨n', B', dr, sC', sM', e0, e1, e2, e3, e4, e5, e6⟩ := wrote (N := N) (d := 0) hN hp hv h2 FR_0
  refine ⟨dr, sC', sM', e1, e2, ⟨n', mk, B', h1, e3, ?_, ?_, ?_, ?_, ?_⟩, e6.1 _ _ _ (by omega) (by omega)⟩
  · rw [e5.1 _ _ _ (by omega) (by omega) (by omega) (by omega), e6.1 _ _ _ (by omega) (by omega)]; exact h3
  · rw [e5.1 _ _ _ (by omega) (by omega) (by omega) (by omega), e6.1 _ _ _ (by omega) (by omega)]; exact h4
  · rw [e5.1 _ _ _ (by omega) (by omega) (by omega) (by omega), e6.1 _ _ _ (by omega) (by omega)]; exact h5
  · rw [e5.1 _ _ _ (by omega) (by omega) (by omega) (by omega), e6.1 _ _ _ (by omega) (by omega)]; exact h6
  · rw [e5.1 _ _ _ (by omega) (by omega) (by omega) (by omega), e6.1 _ _ _ (by omega) (by omega)]; exact h7
theorem okB_nI {a : Int32} (h : okB a) : ∃ p, p < 1024 ∧ a = nI p := by
  obtain ⟨p, hp, rfl⟩ := nI_of h.1
  have h2 := h.2
  rw [li_1024, nI_leI (by omega) (by omega)] at h2
  exact ⟨p, by omega, rfl⟩
theorem m_place {N : Nat} {a : Int32} {st : xSt} : fX9_isPlace N a st = some (if okB a then nI 1 else nI 0, st) := by
  unfold fX9_isPlace
  by_cases h1 : a < 0
  · rw [if_pos h1, if_neg (fun z => z.1 h1)]; rfl
  · rw [if_neg h1]
    by_cases h2 : (1024 : Int32) ≤ a
    · rw [if_pos h2, if_neg (fun z => z.2 h2)]; rfl
    · rw [if_neg h2, if_pos ⟨h1, h2⟩]; rfl
theorem op_poke {N mo t : Nat} {sC sM : xSt} (hN : 30 < N) (h : Sim mo t sC sM) (a b : Int32) : ∃ v sM', fX9_poke N a b sM = some (v, sM') ∧ (okB a → sM'.1 9 0 0 = 0 ∧ v = sC.1 20 3 a.toNatClampNeg ∧ ∃ dr sC', fX3_change N mo a b sC = some (dr, sC') ∧ Sim mo (t + 1) sC' sM') ∧ (¬ okB a → sM'.1 9 0 0 = 1 ∧ Sim mo (t + 1) sC sM') := by
  by_cases hk : okB a
  · obtain ⟨p, hp, rfl⟩ := okB_nI hk
    obtain ⟨dr, sC', sM', e1, e2, e3, e4⟩ := Sim_wr (N := N) (vC := b) (vM := b) hN hp rfl (Sim_0 (v := nI 0) h)
    have hm : sC.1 20 3 p = sM.1 30 1 p := by
      obtain ⟨n, mk, B, h1, h2, h3⟩ := h
      rw [(h2.2.2.1 p hp).2.1, (h2.2.2.1 p hp).2.2]
    refine ⟨sM.1 30 1 p, sM', ?_, fun _ => ⟨?_, ?_, dr, sC', e1, Sim_mono _ _ _ _ e3⟩, fun z => absurd hk z⟩
    · unfold fX9_poke fX9_poke_b14
      rw [m_place, if_pos hk]
      simp (disch := omega) only [e2, nm, bd, Option.bind_some, pI1, pI2, pQ1, pQ2, li_0, li_1, li_2, li_3, li_4, li_5, li_6, li_7, li_8, li_9, li_10, li_11, li_12, li_13, li_14, li_15, li_16, li_60, li_64, li_128, li_136, li_144, li_256, li_400, li_500, li_1020, li_1024, nI_neg1, nI_clamp, nI_ltI, nI_leI, nI_eq, nI_add, pk_sub, pk_mul, pk_div, nI_nm1, nI_nm1p, Nat.add_sub_cancel, Nat.add_sub_cancel_left, false_or, or_false, true_or, or_true, not_true_eq_false, not_false_eq_true, and_true, true_and, and_false, false_and, if_true, if_false, if_pos, if_neg]
    · rw [e4]; simp (disch := omega) only [if_pos, if_neg, pI1, pI2, pQ1, pQ2, true_and, and_true, false_and, and_false, true_or, or_true, false_or, or_false, if_true, if_false, Nat.reduceEqDiff, and_self, not_true_eq_false, not_false_eq_true]; rfl
    · rw [nI_clamp (by omega)]; exact hm.symm
  · refine ⟨nI 0, pI sM 9 0 0 (nI 1), ?_, fun z => absurd z hk, fun _ => ⟨?_, Sim_mono _ _ _ _ (Sim_0 h)⟩⟩
    · unfold fX9_poke fX9_poke_b14
      rw [m_place, if_neg hk]
      simp (disch := omega) only [nm, bd, Option.bind_some, pI1, pI2, pQ1, pQ2, li_0, li_1, li_2, li_3, li_4, li_5, li_6, li_7, li_8, li_9, li_10, li_11, li_12, li_13, li_14, li_15, li_16, li_60, li_64, li_128, li_136, li_144, li_256, li_400, li_500, li_1020, li_1024, nI_neg1, nI_clamp, nI_ltI, nI_leI, nI_eq, nI_add, pk_sub, pk_mul, pk_div, nI_nm1, nI_nm1p, Nat.add_sub_cancel, Nat.add_sub_cancel_left, false_or, or_false, true_or, or_true, not_true_eq_false, not_false_eq_true, and_true, true_and, and_false, false_and, if_true, if_false, if_pos, if_neg]
    · simp (disch := omega) only [if_pos, if_neg, pI1, pI2, pQ1, pQ2, true_and, and_true, false_and, and_false, true_or, or_true, false_or, or_false, if_true, if_false, Nat.reduceEqDiff, and_self, not_true_eq_false, not_false_eq_true]; rfl
theorem op_peek {N mo t : Nat} {sC sM : xSt} (h : Sim mo t sC sM) (a : Int32) : ∃ v sM', fX9_peek N a sM = some (v, sM') ∧ (okB a → sM'.1 9 0 0 = 0 ∧ v = sC.1 20 3 a.toNatClampNeg ∧ Sim mo (t + 1) sC sM') ∧ (¬ okB a → sM'.1 9 0 0 = 1 ∧ Sim mo (t + 1) sC sM') := by
  by_cases hk : okB a
  · obtain ⟨p, hp, rfl⟩ := okB_nI hk
    have hm : sC.1 20 3 p = sM.1 30 1 p := by
      obtain ⟨n, mk, B, h1, h2, h3⟩ := h
      rw [(h2.2.2.1 p hp).2.1, (h2.2.2.1 p hp).2.2]
    refine ⟨sM.1 30 1 p, pI sM 9 0 0 (nI 0), ?_, fun _ => ⟨?_, ?_, Sim_mono _ _ _ _ (Sim_0 h)⟩, fun z => absurd hk z⟩
    · unfold fX9_peek fX9_peek_b14
      rw [m_place, if_pos hk]
      simp (disch := omega) only [nm, bd, Option.bind_some, pI1, pI2, pQ1, pQ2, li_0, li_1, li_2, li_3, li_4, li_5, li_6, li_7, li_8, li_9, li_10, li_11, li_12, li_13, li_14, li_15, li_16, li_60, li_64, li_128, li_136, li_144, li_256, li_400, li_500, li_1020, li_1024, nI_neg1, nI_clamp, nI_ltI, nI_leI, nI_eq, nI_add, pk_sub, pk_mul, pk_div, nI_nm1, nI_nm1p, Nat.add_sub_cancel, Nat.add_sub_cancel_left, false_or, or_false, true_or, or_true, not_true_eq_false, not_false_eq_true, and_true, true_and, and_false, false_and, if_true, if_false, if_pos, if_neg]
    · simp (disch := omega) only [if_pos, if_neg, pI1, pI2, pQ1, pQ2, true_and, and_true, false_and, and_false, true_or, or_true, false_or, or_false, if_true, if_false, Nat.reduceEqDiff, and_self, not_true_eq_false, not_false_eq_true]; rfl
    · rw [nI_clamp (by omega)]; exact hm.symm
  · refine ⟨nI 0, pI sM 9 0 0 (nI 1), ?_, fun z => absurd z hk, fun _ => ⟨?_, Sim_mono _ _ _ _ (Sim_0 h)⟩⟩
    · unfold fX9_peek fX9_peek_b14
      rw [m_place, if_neg hk]
      simp (disch := omega) only [nm, bd, Option.bind_some, pI1, pI2, pQ1, pQ2, li_0, li_1, li_2, li_3, li_4, li_5, li_6, li_7, li_8, li_9, li_10, li_11, li_12, li_13, li_14, li_15, li_16, li_60, li_64, li_128, li_136, li_144, li_256, li_400, li_500, li_1020, li_1024, nI_neg1, nI_clamp, nI_ltI, nI_leI, nI_eq, nI_add, pk_sub, pk_mul, pk_div, nI_nm1, nI_nm1p, Nat.add_sub_cancel, Nat.add_sub_cancel_left, false_or, or_false, true_or, or_true, not_true_eq_false, not_false_eq_true, and_true, true_and, and_false, false_and, if_true, if_false, if_pos, if_neg]
    · simp (disch := omega) only [if_pos, if_neg, pI1, pI2, pQ1, pQ2, true_and, and_true, false_and, and_false, true_or, or_true, false_or, or_false, if_true, if_false, Nat.reduceEqDiff, and_self, not_true_eq_false, not_false_eq_true]; rfl
theorem Sim_glob {mo t g : Nat} {v : Int32} {sC sM : xSt} (hg : g < 8) (h : Sim mo t sC sM) : Sim mo t (pI sC 20 1 g v) (pI sM 30 2 g v) := by
  obtain ⟨n, mk, B, h1, h2, h3, h4, h5, h6, h7⟩ := h
  refine ⟨n, mk, B, h1, Cor_oth h2 (fun c i k z => by rw [pI1, if_neg (by omega)]) (fun _ => rfl) (fun c i k z => by rw [pI1, if_neg (by omega)]) ⟨fun k hk => ?_, fun k hk => ?_, fun k hk => ?_, ?_⟩, ?_, ?_, ?_, ?_, ?_⟩
  · by_cases e : k = g
    · simp (disch := omega) only [if_pos, if_neg, pI1, pI2, pQ1, pQ2, true_and, and_true, false_and, and_false, true_or, or_true, false_or, or_false, if_true, if_false, Nat.reduceEqDiff, and_self, not_true_eq_false, not_false_eq_true]
    · simp (disch := omega) only [if_pos, if_neg, pI1, pI2, pQ1, pQ2, true_and, and_true, false_and, and_false, true_or, or_true, false_or, or_false, if_true, if_false, Nat.reduceEqDiff, and_self, not_true_eq_false, not_false_eq_true]; exact h2.2.2.2.2.1.1 k hk
  · simp (disch := omega) only [if_pos, if_neg, pI1, pI2, pQ1, pQ2, true_and, and_true, false_and, and_false, true_or, or_true, false_or, or_false, if_true, if_false, Nat.reduceEqDiff, and_self, not_true_eq_false, not_false_eq_true]; exact h2.2.2.2.2.1.2.1 k hk
  · simp (disch := omega) only [if_pos, if_neg, pI1, pI2, pQ1, pQ2, true_and, and_true, false_and, and_false, true_or, or_true, false_or, or_false, if_true, if_false, Nat.reduceEqDiff, and_self, not_true_eq_false, not_false_eq_true]; exact h2.2.2.2.2.1.2.2.1 k hk
  · simp (disch := omega) only [if_pos, if_neg, pI1, pI2, pQ1, pQ2, true_and, and_true, false_and, and_false, true_or, or_true, false_or, or_false, if_true, if_false, Nat.reduceEqDiff, and_self, not_true_eq_false, not_false_eq_true]; exact h2.2.2.2.2.1.2.2.2
  · simp (disch := omega) only [if_pos, if_neg, pI1, pI2, pQ1, pQ2, true_and, and_true, false_and, and_false, true_or, or_true, false_or, or_false, if_true, if_false, Nat.reduceEqDiff, and_self, not_true_eq_false, not_false_eq_true]; exact h3
  · simp (disch := omega) only [if_pos, if_neg, pI1, pI2, pQ1, pQ2, true_and, and_true, false_and, and_false, true_or, or_true, false_or, or_false, if_true, if_false, Nat.reduceEqDiff, and_self, not_true_eq_false, not_false_eq_true]; exact h4
  · simp (disch := omega) only [if_pos, if_neg, pI1, pI2, pQ1, pQ2, true_and, and_true, false_and, and_false, true_or, or_true, false_or, or_false, if_true, if_false, Nat.reduceEqDiff, and_self, not_true_eq_false, not_false_eq_true]; exact h5
  · simp (disch := omega) only [if_pos, if_neg, pI1, pI2, pQ1, pQ2, true_and, and_true, false_and, and_false, true_or, or_true, false_or, or_false, if_true, if_false, Nat.reduceEqDiff, and_self, not_true_eq_false, not_false_eq_true]; exact h6
  · simp (disch := omega) only [if_pos, if_neg, pI1, pI2, pQ1, pQ2, true_and, and_true, false_and, and_false, true_or, or_true, false_or, or_false, if_true, if_false, Nat.reduceEqDiff, and_self, not_true_eq_false, not_false_eq_true]; exact h7
theorem op_global {N mo t : Nat} {sC sM : xSt} (h : Sim mo t sC sM) (a b : Int32) : ∃ v sM', fX9_global N a b sM = some (v, sM') ∧ (okG a → sM'.1 9 0 0 = 0 ∧ v = sC.1 20 1 a.toNatClampNeg ∧ Sim mo (t + 1) (pI sC 20 1 a.toNatClampNeg b) sM') ∧ (¬ okG a → sM'.1 9 0 0 = 1 ∧ Sim mo (t + 1) sC sM') := by
  by_cases hk : okG a
  · obtain ⟨p, hp, rfl⟩ := nI_of hk.1
    have hp8 : p < 8 := by
      have h2 := hk.2
      rw [li_8, nI_leI (by omega) (by omega)] at h2
      omega
    have hm : sC.1 20 1 p = sM.1 30 2 p := by
      obtain ⟨n, mk, B, h1, h2, h3⟩ := h
      exact h2.2.2.2.2.1.1 p hp8
    refine ⟨sM.1 30 2 p, pI (pI sM 9 0 0 (nI 0)) 30 2 p b, ?_, fun _ => ⟨?_, ?_, ?_⟩, fun z => absurd hk z⟩
    · unfold fX9_global fX9_global_b16
      simp (disch := omega) only [nm, bd, Option.bind_some, pI1, pI2, pQ1, pQ2, li_0, li_1, li_2, li_3, li_4, li_5, li_6, li_7, li_8, li_9, li_10, li_11, li_12, li_13, li_14, li_15, li_16, li_60, li_64, li_128, li_136, li_144, li_256, li_400, li_500, li_1020, li_1024, nI_neg1, nI_clamp, nI_ltI, nI_leI, nI_eq, nI_add, pk_sub, pk_mul, pk_div, nI_nm1, nI_nm1p, Nat.add_sub_cancel, Nat.add_sub_cancel_left, false_or, or_false, true_or, or_true, not_true_eq_false, not_false_eq_true, and_true, true_and, and_false, false_and, if_true, if_false, if_pos, if_neg]
    · simp (disch := omega) only [if_pos, if_neg, pI1, pI2, pQ1, pQ2, true_and, and_true, false_and, and_false, true_or, or_true, false_or, or_false, if_true, if_false, Nat.reduceEqDiff, and_self, not_true_eq_false, not_false_eq_true]; rfl
    · rw [nI_clamp (by omega)]; exact hm.symm
    · rw [nI_clamp (by omega)]
      exact Sim_mono _ _ _ _ (Sim_glob hp8 (Sim_0 h))
  · have e : fX9_global N a b sM = fX9_global_b15 N a b sM := by
      unfold fX9_global
      by_cases h1 : a < 0
      · rw [if_pos h1]
      · rw [if_neg h1, if_pos (Classical.byContradiction fun z => hk ⟨h1, z⟩)]
    refine ⟨nI 0, pI sM 9 0 0 (nI 1), ?_, fun z => absurd z hk, fun _ => ⟨?_, Sim_mono _ _ _ _ (Sim_0 h)⟩⟩
    · rw [e]
      unfold fX9_global_b15 fX9_global_b16
      simp (disch := omega) only [nm, bd, Option.bind_some, pI1, pI2, pQ1, pQ2, li_0, li_1, li_2, li_3, li_4, li_5, li_6, li_7, li_8, li_9, li_10, li_11, li_12, li_13, li_14, li_15, li_16, li_60, li_64, li_128, li_136, li_144, li_256, li_400, li_500, li_1020, li_1024, nI_neg1, nI_clamp, nI_ltI, nI_leI, nI_eq, nI_add, pk_sub, pk_mul, pk_div, nI_nm1, nI_nm1p, Nat.add_sub_cancel, Nat.add_sub_cancel_left, false_or, or_false, true_or, or_true, not_true_eq_false, not_false_eq_true, and_true, true_and, and_false, false_and, if_true, if_false, if_pos, if_neg]
    · simp (disch := omega) only [if_pos, if_neg, pI1, pI2, pQ1, pQ2, true_and, and_true, false_and, and_false, true_or, or_true, false_or, or_false, if_true, if_false, Nat.reduceEqDiff, and_self, not_true_eq_false, not_false_eq_true]; rfl
