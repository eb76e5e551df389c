theorem c_enterN {N mo d a b g : Nat} {sC : xSt} (hN : 10 < N) (hw : sC.1 20 4 (a / 4) = nI 0) (h10 : sC.1 6 0 10 = nI d) (hd : d < 12) (had : isAd a) (hb : b ≤ 8) (hg : g ≤ 4) (hB : sC.1 20 3 a = nI b) : ∃ s14, fX6_enter N mo (nI a) (nI g) sC = (if s14.1 6 0 9 = (0 : Int32) then fX6_enter_b146 N mo d 0 d s14 else bd (fX7_find N mo (nI a) s14) (fun v st => fX6_enter_b146 N mo d v d st)) ∧ s14.2 = sC.2 ∧ (∀ c j k, ¬ (c = 2 ∧ j = d) → ¬ (c = 21 ∧ j = d) → ¬ (c = 6 ∧ j = 0 ∧ k = 10) → s14.1 c j k = sC.1 c j k) ∧ s14.1 6 0 10 = nI (d + 1) ∧ s14.1 2 d 1 = nI b ∧ s14.1 2 d 2 = nI a ∧ s14.1 2 d 3 = nI 1 ∧ s14.1 2 d 5 = nI 0 ∧ s14.1 2 d 6 = nI 0 ∧ (∀ k, k < 8 → s14.1 21 d k = if k < g ∧ k < b then sC.1 20 5 k else nI 0) := by
  obtain ⟨s', e1, e2, e3, e4, e5, e6, e7, e8⟩ := c_openL (N := N) (mo := mo) (f := d) (b := b) (g := g) (A := 0) hb hg 8 0 N (pI (pI (pI sC 6 0 10 (nI (d + 1))) 2 d 2 (nI a)) 2 d 1 (nI b)) (by omega) (by omega)
  refine ⟨s', ?_, by rw [e2]; rfl, fun c j k z1 z2 z3 => ?_, ?_, ?_, ?_, e4, e5, e6, fun k hk => ?_⟩
  · have q1 : (pI sC 6 0 10 (nI (d + 1))).1 20 3 a = nI b := by simp (disch := omega) only [if_pos, if_neg, pI1, pI2, pQ1, pQ2, true_and, and_true, false_and, and_false, true_or, or_true, false_or, or_false, if_true, if_false, Nat.reduceEqDiff, and_self, not_true_eq_false, not_false_eq_true]; exact hB
    have ho : fX1_open N mo d (nI a) (nI b) (nI g) (pI sC 6 0 10 (nI (d + 1))) = some s' := e1
    unfold fX6_enter fX6_enter_b17 fX3_hasRoutine
    rw [if_neg (fun z => (nI_nm1 (by omega)).mp z), show nI a / (4 : Int32) = nI (a / 4) from pk_div (d := 4) (by omega) (by omega) (by omega), if_neg (nI_in (c := a / 4) (N := 256) (by omega) (by omega)), nI_clamp (by omega), hw, if_pos nI_0, h10, if_pos (show nI d < (12 : Int32) from nI_lt (b := 12) (by omega) (by omega)), if_neg (fun z => (nI_nm1 (by omega)).mp z), if_neg (nI_in (c := a) (N := 1024) (by omega) (by omega)), nI_clamp (by omega), hB, if_neg (show ¬ (8 : Int32) < nI b from nI_nlt (a := 8) (by omega) (by omega))]
    simp only [bd, nm]
    have hin : ¬ (nI a < 0 ∨ 1024 ≤ a) := fun z => z.elim (nI_pos (by omega)) (by omega)
    rw [if_neg (by decide), h10, if_neg (nI_in (c := d) (N := 12) (by omega) (by omega)), nI_clamp (by omega), nI_1, if_neg hin, q1, ho]
    simp only [Option.bind_some]
  · rw [e3 _ _ _ (by omega) (by omega)]; simp (disch := omega) only [if_pos, if_neg, pI1, pI2, pQ1, pQ2, true_and, and_true, false_and, and_false, true_or, or_true, false_or, or_false, if_true, if_false, Nat.reduceEqDiff, and_self, not_true_eq_false, not_false_eq_true]
  · rw [e3 _ _ _ (by omega) (by omega)]; simp (disch := omega) only [if_pos, if_neg, pI1, pI2, pQ1, pQ2, true_and, and_true, false_and, and_false, true_or, or_true, false_or, or_false, if_true, if_false, Nat.reduceEqDiff, and_self, not_true_eq_false, not_false_eq_true]
  · rw [e3 _ _ _ (by omega) (by omega)]; simp (disch := omega) only [if_pos, if_neg, pI1, pI2, pQ1, pQ2, true_and, and_true, false_and, and_false, true_or, or_true, false_or, or_false, if_true, if_false, Nat.reduceEqDiff, and_self, not_true_eq_false, not_false_eq_true]
  · rw [e3 _ _ _ (by omega) (by omega)]; simp (disch := omega) only [if_pos, if_neg, pI1, pI2, pQ1, pQ2, true_and, and_true, false_and, and_false, true_or, or_true, false_or, or_false, if_true, if_false, Nat.reduceEqDiff, and_self, not_true_eq_false, not_false_eq_true]
  · have q : (pI (pI (pI sC 6 0 10 (nI (d + 1))) 2 d 2 (nI a)) 2 d 1 (nI b)).1 20 5 k = sC.1 20 5 k := by simp (disch := omega) only [if_pos, if_neg, pI1, pI2, pQ1, pQ2, true_and, and_true, false_and, and_false, true_or, or_true, false_or, or_false, if_true, if_false, Nat.reduceEqDiff, and_self, not_true_eq_false, not_false_eq_true]
    rw [e8 k (by omega) hk, q]
theorem m_goN {N d a b : Nat} {into : Int32} {sM : xSt} (hw : sM.1 30 4 (a / 4) = nI 0) (h29 : sM.1 9 0 29 = nI d) (hd : d < 12) (had : isAd a) (hb : b ≤ 8) (hB : sM.1 30 1 a = nI b) : ∃ s36, fX9_go N (nI a) into sM = (if s36.1 9 0 30 = (0 : Int32) then fX9_go_b185 N (nI a) (-1) s36 else bd (fX9_keptOf N (nI a) s36) (fun v st => fX9_go_b185 N (nI a) v st)) ∧ s36.2 = sM.2 ∧ (∀ c j k, ¬ (c = 30 ∧ 31 ≤ j ∧ j ≤ 35 ∧ k = d) → s36.1 c j k = sM.1 c j k) ∧ s36.1 30 31 d = nI a ∧ s36.1 30 32 d = nI (a + 1) ∧ s36.1 30 33 d = nI b ∧ s36.1 30 34 d = nI 0 ∧ s36.1 30 35 d = into := by
  refine ⟨pI (pI (pI (pI (pI sM 30 31 d (nI a)) 30 32 d (nI (a + 1))) 30 33 d (nI b)) 30 34 d (nI 0)) 30 35 d into, ?_, rfl, fun c j k z => by simp (disch := omega) only [if_pos, if_neg, pI1, pI2, pQ1, pQ2, true_and, and_true, false_and, and_false, true_or, or_true, false_or, or_false, if_true, if_false, Nat.reduceEqDiff, and_self, not_true_eq_false, not_false_eq_true], by simp (disch := omega) only [if_pos, if_neg, pI1, pI2, pQ1, pQ2, true_and, and_true, false_and, and_false, true_or, or_true, false_or, or_false, if_true, if_false, Nat.reduceEqDiff, and_self, not_true_eq_false, not_false_eq_true], by simp (disch := omega) only [if_pos, if_neg, pI1, pI2, pQ1, pQ2, true_and, and_true, false_and, and_false, true_or, or_true, false_or, or_false, if_true, if_false, Nat.reduceEqDiff, and_self, not_true_eq_false, not_false_eq_true], by simp (disch := omega) only [if_pos, if_neg, pI1, pI2, pQ1, pQ2, true_and, and_true, false_and, and_false, true_or, or_true, false_or, or_false, if_true, if_false, Nat.reduceEqDiff, and_self, not_true_eq_false, not_false_eq_true], by simp (disch := omega) only [if_pos, if_neg, pI1, pI2, pQ1, pQ2, true_and, and_true, false_and, and_false, true_or, or_true, false_or, or_false, if_true, if_false, Nat.reduceEqDiff, and_self, not_true_eq_false, not_false_eq_true], by simp (disch := omega) only [if_pos, if_neg, pI1, pI2, pQ1, pQ2, true_and, and_true, false_and, and_false, true_or, or_true, false_or, or_false, if_true, if_false, Nat.reduceEqDiff, and_self, not_true_eq_false, not_false_eq_true]⟩
  have hg : fX9_go N (nI a) into sM = fX9_go_b73 N (nI a) into sM := by
    unfold fX9_go
    rw [m_addr (by omega), if_pos had]
    simp only [bd]
    rw [if_neg (by decide), show nI a / (4 : Int32) = nI (a / 4) from pk_div (d := 4) (by omega) (by omega) (by omega), if_neg (nI_in (c := a / 4) (N := 256) (by omega) (by omega)), nI_clamp (by omega), hw, if_pos nI_0]
  have h12 : ¬ nI d = (12 : Int32) := fun z => by
    rw [li_12, nI_eq (by omega) (by omega)] at z; omega
  have hin : ¬ (nI a < 0 ∨ 1024 ≤ a) := fun z => z.elim (nI_pos (by omega)) (by omega)
  have hind : ¬ (nI d < 0 ∨ 12 ≤ d) := fun z => z.elim (nI_pos (by omega)) (by omega)
  have k29 : ∀ j v, (pI sM 30 j d v).1 9 0 29 = nI d := fun j v => by simp (disch := omega) only [if_pos, if_neg, pI1, pI2, pQ1, pQ2, true_and, and_true, false_and, and_false, true_or, or_true, false_or, or_false, if_true, if_false, Nat.reduceEqDiff, and_self, not_true_eq_false, not_false_eq_true]; exact h29
  rw [hg]
  unfold fX9_go_b73
  rw [h29, if_neg h12, m_addr (by omega), if_pos had]
  simp only [bd, nm]
  rw [if_neg (by decide), nI_clamp (by omega), if_neg hin, hB, if_pos (show nI b ≤ (8 : Int32) from nI_le (b := 8) (by omega) (by omega)), h29, nI_clamp (by omega), if_neg hind]
  have r1 : (pI sM 30 31 d (nI a)).1 9 0 29 = nI d := by simp (disch := omega) only [if_pos, if_neg, pI1, pI2, pQ1, pQ2, true_and, and_true, false_and, and_false, true_or, or_true, false_or, or_false, if_true, if_false, Nat.reduceEqDiff, and_self, not_true_eq_false, not_false_eq_true]; exact h29
  have r2 : (pI (pI sM 30 31 d (nI a)) 30 32 d (nI (a + 1))).1 9 0 29 = nI d := by simp (disch := omega) only [if_pos, if_neg, pI1, pI2, pQ1, pQ2, true_and, and_true, false_and, and_false, true_or, or_true, false_or, or_false, if_true, if_false, Nat.reduceEqDiff, and_self, not_true_eq_false, not_false_eq_true]; exact h29
  have r3 : (pI (pI sM 30 31 d (nI a)) 30 32 d (nI (a + 1))).1 30 1 a = nI b := by simp (disch := omega) only [if_pos, if_neg, pI1, pI2, pQ1, pQ2, true_and, and_true, false_and, and_false, true_or, or_true, false_or, or_false, if_true, if_false, Nat.reduceEqDiff, and_self, not_true_eq_false, not_false_eq_true]; exact hB
  have r4 : (pI (pI (pI sM 30 31 d (nI a)) 30 32 d (nI (a + 1))) 30 33 d (nI b)).1 9 0 29 = nI d := by simp (disch := omega) only [if_pos, if_neg, pI1, pI2, pQ1, pQ2, true_and, and_true, false_and, and_false, true_or, or_true, false_or, or_false, if_true, if_false, Nat.reduceEqDiff, and_self, not_true_eq_false, not_false_eq_true]; exact h29
  have r5 : (pI (pI (pI (pI sM 30 31 d (nI a)) 30 32 d (nI (a + 1))) 30 33 d (nI b)) 30 34 d (nI 0)).1 9 0 29 = nI d := by simp (disch := omega) only [if_pos, if_neg, pI1, pI2, pQ1, pQ2, true_and, and_true, false_and, and_false, true_or, or_true, false_or, or_false, if_true, if_false, Nat.reduceEqDiff, and_self, not_true_eq_false, not_false_eq_true]; exact h29
  have r5' : (pI (pI (pI (pI sM 30 31 d (nI a)) 30 32 d (nI (a + 1))) 30 33 d (nI b)) 30 34 d 0).1 9 0 29 = nI d := r5
  rw [r1, nI_clamp (by omega), if_neg hind, nI_1, if_neg hin, r2, nI_clamp (by omega), if_neg hind, r3, r4, nI_clamp (by omega), if_neg hind, r5', nI_clamp (by omega), if_neg hind]
  rfl
theorem enter_fin {N mo n mk d q a b g qv : Nat} {kv nv into : Int32} {B : Nat → Nat} {sC sM s14 s36 : xSt} (hN : 10 < N) (hmk : mk < 2 ^ 31) (h : Run mo n mk d d q B sC sM) (hd : d < 12) (had : isAd a) (hba : B a = b) (hb : b ≤ 8) (hg : g ≤ 4) (h39 : sM.1 9 0 39 = nI g) (hh : ∀ i, i < g → sC.1 20 5 i = sM.1 30 38 i) (hinto : 1 ≤ d → ∃ u, 128 ≤ u ∧ u < 144 ∧ into = nI u ∧ sC.1 2 (d - 1) 8 = nI u)
    (c1 : s14.2 = sC.2) (c2 : ∀ c j k, ¬ (c = 2 ∧ j = d) → ¬ (c = 21 ∧ j = d) → ¬ (c = 6 ∧ j = 0 ∧ k = 10) → s14.1 c j k = sC.1 c j k) (c3 : s14.1 6 0 10 = nI (d + 1)) (c4 : s14.1 2 d 1 = nI b) (c5 : s14.1 2 d 2 = nI a) (c6 : s14.1 2 d 3 = nI 1) (c7 : s14.1 2 d 5 = nI 0) (c8 : s14.1 2 d 6 = nI 0) (c9 : ∀ k, k < 8 → s14.1 21 d k = if k < g ∧ k < b then sC.1 20 5 k else nI 0)
    (m1 : s36.2 = sM.2) (m2 : ∀ c j k, ¬ (c = 30 ∧ 31 ≤ j ∧ j ≤ 35 ∧ k = d) → s36.1 c j k = sM.1 c j k) (m3 : s36.1 30 31 d = nI a) (m4 : s36.1 30 32 d = nI (a + 1)) (m5 : s36.1 30 33 d = nI b) (m6 : s36.1 30 34 d = nI 0) (m7 : s36.1 30 35 d = into)
    (hl : (qv = 0 ∧ kv = -1 ∧ nv = -1) ∨ ∃ x, x < n ∧ sM.1 30 7 x = nI a ∧ qv = sC.2 0 x + 1 ∧ kv = nI x ∧ nv = sM.1 30 9 x) :
    ∃ sC' sM', fX6_enter_b146 N mo d qv d s14 = some sC' ∧ fX9_go_b185 N (nI a) kv s36 = some sM' ∧ Run mo n mk (d + 1) (d + 1) q B sC' sM' := by
  obtain ⟨h1, h2, h3, h4, h5, h6, h7, h8, h9, h10⟩ := id h
  have hS := h1.1
  have hn20 : n ≤ 20 := by have := hS.1; have := hS.2.1; omega
  have hmb : sM.1 30 1 a = nI b := by rw [← hba]; exact (h1.2.2.1 a (by omega)).2.2
  -- the class
  obtain ⟨sC', eC, qC, fC, kC4, kC5⟩ : ∃ sC', fX6_enter_b146 N mo d qv d s14 = some sC' ∧ (∀ a k, sC'.2 a k = if a = 1 ∧ k = d then qv else sC.2 a k) ∧ (∀ c j k, ¬ (c = 20 ∧ j = 0 ∧ (k = 4 ∨ k = 5)) → sC'.1 c j k = s14.1 c j k) ∧ sC'.1 20 0 4 = sC.1 20 0 4 + 1 ∧ sC'.1 20 0 5 = sC.1 20 0 5 + (if qv = 0 then 0 else 1) := by
    have x4 : s14.1 20 0 4 = sC.1 20 0 4 := c2 _ _ _ (by omega) (by omega) (by omega)
    have x5 : s14.1 20 0 5 = sC.1 20 0 5 := c2 _ _ _ (by omega) (by omega) (by omega)
    have y1 : (pQ s14 1 d qv).1 20 0 4 = sC.1 20 0 4 := x4
    have y2 : (pI (pQ s14 1 d qv) 20 0 4 (sC.1 20 0 4 + 1)).2 1 d = qv := by rw [pI2, pQ2, if_pos ⟨rfl, rfl⟩]
    have y3 : (pI (pQ s14 1 d qv) 20 0 4 (sC.1 20 0 4 + 1)).1 20 0 5 = sC.1 20 0 5 := by rw [pI1, if_neg (by omega), pQ1]; exact x5
    unfold fX6_enter_b146
    simp only [nm]
    rw [y1, y2, y3]
    by_cases hq0 : qv = 0
    · rw [if_pos hq0, if_pos hq0]
      refine ⟨_, rfl, fun a k => by rw [pI2, pQ2, c1], fun c j k z => by rw [pI1, if_neg (by omega), pQ1], by simp (disch := omega) only [if_pos, if_neg, pI1, pI2, pQ1, pQ2, true_and, and_true, false_and, and_false, true_or, or_true, false_or, or_false, if_true, if_false, Nat.reduceEqDiff, and_self, not_true_eq_false, not_false_eq_true], ?_⟩
      rw [y3, Int32.add_zero]
    · rw [if_neg hq0, if_neg hq0]
      exact ⟨_, rfl, fun a k => by rw [pI2, pI2, pQ2, c1], fun c j k z => by rw [pI1, if_neg (by omega), pI1, if_neg (by omega), pQ1], by simp (disch := omega) only [if_pos, if_neg, pI1, pI2, pQ1, pQ2, true_and, and_true, false_and, and_false, true_or, or_true, false_or, or_false, if_true, if_false, Nat.reduceEqDiff, and_self, not_true_eq_false, not_false_eq_true], by simp (disch := omega) only [if_pos, if_neg, pI1, pI2, pQ1, pQ2, true_and, and_true, false_and, and_false, true_or, or_true, false_or, or_false, if_true, if_false, Nat.reduceEqDiff, and_self, not_true_eq_false, not_false_eq_true]⟩
  -- the reference
  obtain ⟨s51, e51, f51, k51⟩ : ∃ s51, fX9_go_b185 N (nI a) kv s36 = fX9_go_b213 N N (nI a) kv (0 : Int32) s51 ∧ (s51.2 = s36.2 ∧ ∀ c j k, ¬ (c = 30 ∧ j = 36 ∧ k = d) → s51.1 c j k = s36.1 c j k) ∧ s51.1 30 36 d = nv := by
    have x29 : s36.1 9 0 29 = nI d := by rw [m2 _ _ _ (by omega)]; exact h6
    refine ⟨pI s36 30 36 d nv, ?_, ⟨rfl, fun c j k z => by rw [pI1, if_neg (by omega)]⟩, by simp (disch := omega) only [if_pos, if_neg, pI1, pI2, pQ1, pQ2, true_and, and_true, false_and, and_false, true_or, or_true, false_or, or_false, if_true, if_false, Nat.reduceEqDiff, and_self, not_true_eq_false, not_false_eq_true]⟩
    unfold fX9_go_b185 fX9_go_b209
    rcases hl with ⟨_, z2, z3⟩ | ⟨x, z1, z2, z3, z4, z5⟩
    · rw [if_pos z2, x29, if_neg (nI_in (c := d) (N := 12) (by omega) (by omega)), nI_clamp (by omega), z3]
      rfl
    · have y9 : s36.1 30 9 x = nv := by rw [m2 _ _ _ (by omega), z5]
      rw [z4, if_neg (fun z => (nI_nm1 (by omega)).mp z), if_neg (nI_in (c := x) (N := 21) (by omega) (by omega)), x29, if_neg (nI_in (c := d) (N := 12) (by omega) (by omega)), nI_clamp (by omega), nI_clamp (by omega), y9]
      rfl
  obtain ⟨sM', e1, e2, e3, e4, e5, e6, e7⟩ := m_openL (N := N) (f := d) (a := a) (b := b) (g := g) (z3 := kv) (by omega) hd hb hg 8 0 N s51 (by omega) (by omega) (by rw [f51.2 _ _ _ (by omega), m2 _ _ _ (by omega)]; exact h6) (by rw [f51.2 _ _ _ (by omega), m2 _ _ _ (by omega)]; exact h39) (by rw [f51.2 _ _ _ (by omega), m2 _ _ _ (by omega)]; exact hmb)
  -- what stays
  have FC : ∀ c j k, ¬ (c = 2 ∧ j = d) → ¬ (c = 21 ∧ j = d) → ¬ (c = 6 ∧ j = 0 ∧ k = 10) → ¬ (c = 20 ∧ j = 0 ∧ (k = 4 ∨ k = 5)) → sC'.1 c j k = sC.1 c j k := fun c j k z1 z2 z3 z4 => by rw [fC _ _ _ z4]; exact c2 c j k z1 z2 z3
  have FQ : ∀ a k, ¬ (a = 1 ∧ k = d) → sC'.2 a k = sC.2 a k := fun a k z => by rw [qC, if_neg z]
  have FM : ∀ c j k, ¬ (c = 9 ∧ j = 0 ∧ (k = 29 ∨ k = 15 ∨ k = 16)) → ¬ (c = 30 ∧ 31 ≤ j ∧ j ≤ 36 ∧ k = d) → ¬ (c = 30 ∧ j = 37 ∧ 8 * d ≤ k) → sM'.1 c j k = sM.1 c j k := fun c j k z1 z2 z3 => by
    rw [e3 _ _ _ z1 (by omega), f51.2 _ _ _ (by omega), m2 _ _ _ (by omega)]
  have FN : ∀ j, 31 ≤ j → j ≤ 35 → sM'.1 30 j d = s36.1 30 j d := fun j z1 z2 => by
    rw [e3 _ _ _ (by omega) (by omega), f51.2 _ _ _ (by omega)]
  have FN36 : sM'.1 30 36 d = nv := by rw [e3 _ _ _ (by omega) (by omega)]; exact k51
  have hQd : sC'.2 1 d = qv := by rw [qC, if_pos ⟨rfl, rfl⟩]
  have h22 : sC'.1 22 = sC.1 22 := funext fun i => funext fun k => FC 22 i k (by omega) (by omega) (by omega) (by omega)
  have hqv : qv ≤ mo + 1 := by
    rcases hl with ⟨z1, _⟩ | ⟨x, z1, _, z3, _⟩
    · omega
    · have := hS.2.2.2.2.2.2.1 x (by have := hS.1; omega)
      omega
  refine ⟨sC', sM', eC, by rw [e51]; exact e1, Cor_g h1 (fun c i k z => FC _ _ _ (by omega) (by omega) (by omega) (by omega)) (fun k => FQ _ _ (by omega)) (fun c i k z => FM _ _ _ (by omega) (by omega) (by omega)) ?_ (Oth_c h1.2.2.2.2.1 (fun c i k z => FC _ _ _ (by omega) (by omega) (by omega) (by omega)) (fun c i k z => FM _ _ _ (by omega) (by omega) (by omega))), ⟨fun f hf => ?_, fun f hf => ?_⟩, by omega, h4, ?_, e4, ?_, ?_, ?_, Out_c h10 (fun c i k z => FC _ _ _ (by omega) (by omega) (by omega) (by omega)) (fun k z => FM _ _ _ (by omega) (by omega) (by omega))⟩
  · obtain ⟨k1, k2, k3, k4, k5, k6, k7⟩ := h1.2.2.2.1
    refine ⟨?_, ?_, ?_, ?_, ?_, ?_, ?_⟩
    · rw [FC _ _ _ (by omega) (by omega) (by omega) (by omega), FM _ _ _ (by omega) (by omega) (by omega)]; exact k1
    · rw [FC _ _ _ (by omega) (by omega) (by omega) (by omega), FM _ _ _ (by omega) (by omega) (by omega)]; exact k2
    · rw [FC _ _ _ (by omega) (by omega) (by omega) (by omega), FM _ _ _ (by omega) (by omega) (by omega)]; exact k3
    · rw [FC _ _ _ (by omega) (by omega) (by omega) (by omega), FM _ _ _ (by omega) (by omega) (by omega)]; exact k4
    · rw [kC4, e5, f51.2 _ _ _ (by omega), m2 _ _ _ (by omega), k5]
    · rw [kC5, e6, f51.2 _ _ _ (by omega), m2 _ _ _ (by omega), k6]
      rcases hl with ⟨z1, z2, _⟩ | ⟨x, z1, z2, z3, z4, _⟩
      · rw [if_pos z1, if_pos z2]
      · rw [if_neg (by omega), if_neg (by rw [z4]; exact fun z => (nI_nm1 (by omega)).mp z)]
    · rw [FC _ _ _ (by omega) (by omega) (by omega) (by omega), FM _ _ _ (by omega) (by omega) (by omega)]; exact k7
  · by_cases hfd : f = d
    · subst hfd
      refine ⟨⟨⟨a, 1, b, 0, had.1, by omega, hb, by omega, ?_, ?_, ?_, ?_, ?_, ?_, ?_, ?_⟩, fun k hk => ?_, by rw [hQd]; exact hqv⟩, fun k hk => ?_⟩
      · rw [fC _ _ _ (by omega)]; exact c5
      · rw [FN 31 (by omega) (by omega)]; exact m3
      · rw [fC _ _ _ (by omega)]; exact c6
      · rw [FN 32 (by omega) (by omega)]; exact m4
      · rw [fC _ _ _ (by omega)]; exact c4
      · rw [FN 33 (by omega) (by omega)]; exact m5
      · rw [fC _ _ _ (by omega)]; exact c8
      · rw [FN 34 (by omega) (by omega)]; exact m6
      · rw [fC _ _ _ (by omega), c9 k hk, e7 k (by omega) hk]
        by_cases hkg : k < g ∧ k < b
        · rw [if_pos hkg, if_pos hkg, f51.2 _ _ _ (by omega), m2 _ _ _ (by omega)]
          exact hh k hkg.1
        · rw [if_neg hkg, if_neg hkg]
      · rw [FM 30 9 k (by omega) (by omega) (by omega), FN36, hQd, FQ 0 k (by omega), FC 3 _ 1 (by omega) (by omega) (by omega) (by omega), FC 3 _ 2 (by omega) (by omega) (by omega) (by omega), h22]
        rcases hl with ⟨z1, z2, z3⟩ | ⟨x, z1, z2, z3, z4, z5⟩
        · refine ⟨⟨fun z => ?_, fun z => by omega⟩, fun z => by omega⟩
          obtain ⟨u, u1, u2⟩ := h1.2.1.2.1 k hk
          exfalso
          rw [u2, z3] at z
          exact (nI_nm1 (by omega)).mp z
        · refine ⟨⟨fun z => ?_, fun z => ?_⟩, fun z => ?_⟩
          · rw [z5] at z
            rw [z3, h1.2.1.2.2 k x hk z1 z]
          · have : k = x := hS.2.2.2.2.2.2.2.1 k x (by have := hS.1; omega) (by have := hS.1; omega) (by omega)
            rw [z5, this]
          · have hkx : k = x := hS.2.2.2.2.2.2.2.1 k x (by have := hS.1; omega) (by have := hS.1; omega) (by omega)
            subst hkx
            obtain ⟨a3, e3', r1, r2, r3⟩ := h1.2.2.2.2.2 k hk
            obtain ⟨w1, w2, w3, w4, sz, o, w5, w6, w7, w8, w9, w10⟩ := r3
            have ea3 : a3 = a := by rw [z2, nI_eq (by omega) (by omega)] at r1; exact r1.symm
            subst ea3
            refine ⟨⟨a3, by rw [fC _ _ _ (by omega)]; exact c5, by rw [(hS.2.2.2.2.2.2.2.2.1 k hk).2.1]; exact z2, had.1, by rw [fC _ _ _ (by omega), c4, hba]⟩, sz, 0, w5, w7, by omega, by rw [fC _ _ _ (by omega)]; exact c7, ?_, Or.inl (by rw [fC _ _ _ (by omega)]; exact c8)⟩
            rw [fC _ _ _ (by omega), c6, (w10 0 (by omega)).1, w8]
    · obtain ⟨⟨⟨a', x', h', ct, g1, g2, g3, g4, g5, g6, g7, g8, g9, g10, g11, g12⟩, g13, g14⟩, hF1⟩ := h2.1 f (by omega)
      refine ⟨⟨⟨a', x', h', ct, g1, g2, g3, g4, ?_, ?_, ?_, ?_, ?_, ?_, ?_, ?_⟩, fun k hk => ?_, by rw [FQ _ _ (by omega)]; exact g14⟩, fun k hk => ?_⟩
      · rw [FC _ _ _ (by omega) (by omega) (by omega) (by omega)]; exact g5
      · rw [FM _ _ _ (by omega) (by omega) (by omega)]; exact g6
      · rw [FC _ _ _ (by omega) (by omega) (by omega) (by omega)]; exact g7
      · rw [FM _ _ _ (by omega) (by omega) (by omega)]; exact g8
      · rw [FC _ _ _ (by omega) (by omega) (by omega) (by omega)]; exact g9
      · rw [FM _ _ _ (by omega) (by omega) (by omega)]; exact g10
      · rw [FC _ _ _ (by omega) (by omega) (by omega) (by omega)]; exact g11
      · rw [FM _ _ _ (by omega) (by omega) (by omega)]; exact g12
      · rw [FC _ _ _ (by omega) (by omega) (by omega) (by omega), FM _ _ _ (by omega) (by omega) (by omega)]; exact g13 k hk
      · have h2f : sC'.1 2 f = sC.1 2 f := funext fun k => FC 2 f k (by omega) (by omega) (by omega) (by omega)
        rw [FM 30 9 k (by omega) (by omega) (by omega), FM 30 36 f (by omega) (by omega) (by omega), FQ 1 f (by omega), FQ 0 k (by omega), h2f, FC 3 _ 1 (by omega) (by omega) (by omega) (by omega), FC 3 _ 2 (by omega) (by omega) (by omega) (by omega), h22]
        exact hF1 k hk
  · by_cases hfd : f + 1 = d
    · obtain ⟨u, u1, u2, u3, u4⟩ := hinto (by omega)
      refine ⟨u, u1, u2, ?_, ?_⟩
      · rw [FC _ _ _ (by omega) (by omega) (by omega) (by omega), show f = d - 1 by omega]; exact u4
      · rw [hfd, FN 35 (by omega) (by omega), m7]; exact u3
    · obtain ⟨u, u1, u2, u3, u4⟩ := h2.2 f (by omega)
      refine ⟨u, u1, u2, ?_, ?_⟩
      · rw [FC _ _ _ (by omega) (by omega) (by omega) (by omega)]; exact u3
      · rw [FM _ _ _ (by omega) (by omega) (by omega)]; exact u4
  · rw [fC _ _ _ (by omega)]; exact c3
  · rw [FC _ _ _ (by omega) (by omega) (by omega) (by omega)]; exact h7
  · rw [FM _ _ _ (by omega) (by omega) (by omega)]; exact h8
  · rw [FC _ _ _ (by omega) (by omega) (by omega) (by omega), FM _ _ _ (by omega) (by omega) (by omega)]; exact h9
