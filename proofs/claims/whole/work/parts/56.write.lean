theorem SR_c {mo n : Nat} {sC sC' sM sM' : xSt} (h : SR mo n sC sM) (h1 : ∀ i k, sC'.1 3 i k = sC.1 3 i k) (h2 : ∀ k, sC'.1 7 0 k = sC.1 7 0 k) (h3 : ∀ k, sC'.2 0 k = sC.2 0 k) (m1 : sM'.1 9 0 5 = sM.1 9 0 5) (m2 : sM'.1 9 0 6 = sM.1 9 0 6) (m3 : ∀ k, sM'.1 30 7 k = sM.1 30 7 k) (m4 : ∀ k, sM'.1 30 8 k = sM.1 30 8 k) : SR mo n sC' sM' := by
  unfold SR at h ⊢
  simp only [h1, h2, h3, m1, m2, m3, m4]
  exact h
/-- what is kept was made so, and memory still has it -/
def KR (n : Nat) (B : Nat → Nat) (sC sM : xSt) : Prop := ∀ k, k < n → ∃ a e, sM.1 30 7 k = nI a ∧ sM.1 30 8 k = nI e ∧ Rw B (sC.1 3 (sC.2 0 k) 1) (sC.1 22 (sC.2 0 k)) a e
def Cor (mo n mk : Nat) (B : Nat → Nat) (sC sM : xSt) : Prop := SR mo n sC sM ∧ NR n mk sM ∧ Mm B sC sM ∧ Cnt sC sM ∧ Oth sC sM ∧ KR n B sC sM
def Lk (B : Nat → Nat) (mf : Nat → Int32) (s32 ad : Int32) (rows : Nat → Int32) : Prop := (∃ a, mf 2 = nI a ∧ ad = nI a ∧ a ≤ 1020 ∧ mf 1 = nI (B a)) ∧ ∃ sz r, s32 = nI sz ∧ sz ≤ 60 ∧ r < sz ∧ mf 5 = nI r ∧ rows (r * 11 + 9) = mf 3 ∧ (mf 6 = nI 0 ∨ ∃ r', r' < sz ∧ mf 7 = nI r' ∧ rows (r' * 11 + 9) = mf 6)
/-- a routine under way: what both hold of it -/
def F0r (mo : Nat) (sC sM : xSt) (f : Nat) : Prop := (∃ a x h ct, a ≤ 1020 ∧ x ≤ 1024 ∧ h ≤ 8 ∧ ct < 256 ∧ sC.1 2 f 2 = nI a ∧ sM.1 30 31 f = nI a ∧ sC.1 2 f 3 = nI x ∧ sM.1 30 32 f = nI (a + x) ∧ sC.1 2 f 1 = nI h ∧ sM.1 30 33 f = nI h ∧ sC.1 2 f 6 = nI ct ∧ sM.1 30 34 f = nI ct) ∧ (∀ k, k < 8 → sC.1 21 f k = sM.1 30 37 (8 * f + k)) ∧ sC.2 1 f ≤ mo + 1
/-- and how it goes by a made one -/
def F1r (n : Nat) (B : Nat → Nat) (sC sM : xSt) (f : Nat) : Prop := ∀ k, k < n → (sM.1 30 9 k = sM.1 30 36 f ↔ sC.2 1 f = sC.2 0 k + 1) ∧ (sC.2 1 f = sC.2 0 k + 1 → Lk B (sC.1 2 f) (sC.1 3 (sC.2 0 k) 1) (sC.1 3 (sC.2 0 k) 2) (sC.1 22 (sC.2 0 k)))
def I0r (sC sM : xSt) (f : Nat) : Prop := ∃ u, 128 ≤ u ∧ u < 144 ∧ sC.1 2 f 8 = nI u ∧ sM.1 30 35 (f + 1) = nI u
def FR (mo n d : Nat) (B : Nat → Nat) (sC sM : xSt) : Prop := (∀ f, f < d → F0r mo sC sM f ∧ F1r n B sC sM f) ∧ (∀ f, f + 1 < d → I0r sC sM f)
theorem NR_c {n mk : Nat} {sM sM' : xSt} (h : NR n mk sM) (m1 : sM'.1 9 0 11 = sM.1 9 0 11) (m2 : ∀ k, sM'.1 30 9 k = sM.1 30 9 k) : NR n mk sM' := by
  unfold NR at h ⊢
  simp only [m1, m2]
  exact h
theorem KR_c {n : Nat} {B : Nat → Nat} {sC sC' sM sM' : xSt} (h : KR n B sC sM) (h1 : ∀ i k, sC'.1 3 i k = sC.1 3 i k) (h2 : ∀ i k, sC'.1 22 i k = sC.1 22 i k) (h3 : ∀ k, sC'.2 0 k = sC.2 0 k) (m3 : ∀ k, sM'.1 30 7 k = sM.1 30 7 k) (m4 : ∀ k, sM'.1 30 8 k = sM.1 30 8 k) : KR n B sC' sM' := by
  intro k hk
  have h2' : sC'.1 22 = sC.1 22 := funext fun i => funext fun k => h2 i k
  rw [h3, m3, m4, h1, h2']
  exact h k hk
theorem FR_c {mo n d : Nat} {B : Nat → Nat} {sC sC' sM sM' : xSt} (h : FR mo n d B sC sM) (h1 : ∀ i k, i < d → sC'.1 2 i k = sC.1 2 i k) (h2 : ∀ i k, i < d → k < 8 → sC'.1 21 i k = sC.1 21 i k) (h3 : ∀ i k, sC'.1 3 i k = sC.1 3 i k) (h4 : ∀ i k, sC'.1 22 i k = sC.1 22 i k) (h5 : ∀ k, sC'.2 0 k = sC.2 0 k) (h6 : ∀ k, k < d → sC'.2 1 k = sC.2 1 k)
    (m1 : ∀ i k, 31 ≤ i → i ≤ 36 → k < d → sM'.1 30 i k = sM.1 30 i k) (m2 : ∀ k, k < 8 * d → sM'.1 30 37 k = sM.1 30 37 k) (m3 : ∀ k, sM'.1 30 9 k = sM.1 30 9 k) : FR mo n d B sC' sM' := by
  refine ⟨fun f hf => ⟨?_, ?_⟩, fun f hf => ?_⟩
  · obtain ⟨⟨⟨a, x, hh, ct, g1, g2, g3, g4, g5, g6, g7, g8, g9, g10, g11, g12⟩, g13, g14⟩, _⟩ := h.1 f hf
    refine ⟨⟨a, x, hh, ct, g1, g2, g3, g4, ?_, ?_, ?_, ?_, ?_, ?_, ?_, ?_⟩, fun k hk => ?_, ?_⟩
    · rw [h1 f _ hf]; exact g5
    · rw [m1 _ _ (by omega) (by omega) hf]; exact g6
    · rw [h1 f _ hf]; exact g7
    · rw [m1 _ _ (by omega) (by omega) hf]; exact g8
    · rw [h1 f _ hf]; exact g9
    · rw [m1 _ _ (by omega) (by omega) hf]; exact g10
    · rw [h1 f _ hf]; exact g11
    · rw [m1 _ _ (by omega) (by omega) hf]; exact g12
    · rw [h2 f k hf hk, m2 _ (by omega)]; exact g13 k hk
    · rw [h6 f hf]; exact g14
  · intro k hk
    have h1' : sC'.1 2 f = sC.1 2 f := funext fun k => h1 f k hf
    have h4' : sC'.1 22 = sC.1 22 := funext fun i => funext fun k => h4 i k
    rw [m3, m1 _ _ (by omega) (by omega) hf, h6 f hf, h5, h1', h3, h3, h4']
    exact (h.1 f hf).2 k hk
  · obtain ⟨u, u1, u2, u3, u4⟩ := h.2 f hf
    refine ⟨u, u1, u2, ?_, ?_⟩
    · rw [h1 f _ (by omega)]; exact u3
    · rw [m1 _ _ (by omega) (by omega) hf]; exact u4
def WrC (s s' : xSt) : Prop := (∀ c i k, ¬ (c = 3 ∧ k = 3) → ¬ (c = 7 ∧ i = 0 ∧ k = 3) → ¬ (c = 20 ∧ i = 0 ∧ k = 1) → ¬ (c = 20 ∧ i = 3) → s'.1 c i k = s.1 c i k) ∧ (∀ a x, a ≠ 0 → s'.2 a x = s.2 a x)
def WrM (s s' : xSt) : Prop := (∀ c i k, ¬ (c = 9 ∧ i = 0 ∧ (k = 6 ∨ k = 12)) → ¬ (c = 30 ∧ (i = 1 ∨ i = 7 ∨ i = 8 ∨ i = 9)) → s'.1 c i k = s.1 c i k) ∧ s'.2 = s.2
/-- what a drop of a page keeps: B' is the memory afterwards -/
theorem dropped {N mo n mk d : Nat} {B B' : Nat → Nat} {pg : Nat} {sC sM : xSt} (hN : 30 < N) (hpg : pg < 16) (hS : SR mo n sC sM) (hR : NR n mk sM) (hK : KR n B sC sM) (hF : FR mo n d B sC sM) (hB : ∀ k, k < 1024 → k / 64 ≠ pg → B' k = B k) :
    ∃ n' sC' sM', n' ≤ n ∧ fX7_dropPage N mo (nI pg) sC = some (nI (n - n'), sC') ∧ fX9_dropPage N (nI pg) sM = some (nI (n - n'), sM') ∧ SR mo n' sC' sM' ∧ NR n' mk sM' ∧ KR n' B' sC' sM' ∧ FR mo n' d B' sC' sM' ∧ FrC sC sC' ∧ FrM sM sM' ∧ (sC.1 20 0 1 = sM.1 9 0 12 → sC'.1 20 0 1 = sM'.1 9 0 12) := by
  obtain ⟨n', sC', sM', e0, e1, e2, e3, e4, e5, e6, e7, ⟨φ, p1, p2⟩, e9⟩ := drop_page (N := N) (g := nI pg) hN hS
  have h22 : sC'.1 22 = sC.1 22 := funext fun i => funext fun k => e4.1 22 i k (by omega) (by omega) (by omega)
  have h2 : sC'.1 2 = sC.1 2 := funext fun i => funext fun k => e4.1 2 i k (by omega) (by omega) (by omega)
  have h31 : ∀ i, sC'.1 3 i 1 = sC.1 3 i 1 := fun i => e4.1 3 i 1 (by omega) (by omega) (by omega)
  have h32 : ∀ i, sC'.1 3 i 2 = sC.1 3 i 2 := fun i => e4.1 3 i 2 (by omega) (by omega) (by omega)
  have far : ∀ k, k < n' → ∀ a e, a ≤ 1020 → e < 1024 → a ≤ e → sM'.1 30 7 k = nI a → sM'.1 30 8 k = nI e → ∀ x, a ≤ x → x ≤ e → B' x = B x := by
    intro k hk a e ha he hae q1 q2 x x1 x2
    refine hB x (by omega) (fun hx => ?_)
    have h64 : (64 : Int32) = nI 64 := rfl
    have d1 : nI a / (64 : Int32) = nI (a / 64) := by rw [h64]; exact pk_div (by omega) (by omega) (by omega)
    have d2 : nI e / (64 : Int32) = nI (e / 64) := by rw [h64]; exact pk_div (by omega) (by omega) (by omega)
    rcases e9 k hk with z | z
    · rw [q1, d1, nI_ltI (by omega) (by omega)] at z
      have := Nat.div_le_div_right (c := 64) x1
      omega
    · rw [q2, d2, nI_ltI (by omega) (by omega)] at z
      have := Nat.div_le_div_right (c := 64) x2
      omega
  have hK' : KR n' B' sC' sM' := by
    intro k hk
    obtain ⟨b1, b2, b3, b4, b5⟩ := p1 k hk
    obtain ⟨a, e, c1, c2, c3⟩ := hK _ b1
    refine ⟨a, e, by rw [b3]; exact c1, by rw [b4]; exact c2, ?_⟩
    rw [b2, h31, h22]
    exact Rw_loc c3 (far k hk a e c3.1 c3.2.2.1 c3.2.2.2.1 (by rw [b3]; exact c1) (by rw [b4]; exact c2))
  refine ⟨n', sC', sM', e0, e1, e2, e3, ⟨?_, fun k hk => ?_, fun k l hk hl e => ?_⟩, hK', ⟨fun f hf => ⟨?_, fun k hk => ?_⟩, fun f hf => ?_⟩, e4, e5, fun h => by rw [e6, e7, h]⟩
  · rw [e5.1 _ _ _ (by omega) (by omega)]; exact hR.1
  · obtain ⟨b1, b2, b3, b4, b5⟩ := p1 k hk
    rw [b5]; exact hR.2.1 _ b1
  · obtain ⟨b1, b2, b3, b4, b5⟩ := p1 k hk
    obtain ⟨c1, c2, c3, c4, c5⟩ := p1 l hl
    rw [b5, c5] at e
    exact p2 k l hk hl (hR.2.2 _ _ b1 c1 e)
  · have h21 : sC'.1 21 = sC.1 21 := funext fun i => funext fun k => e4.1 21 i k (by omega) (by omega) (by omega)
    unfold F0r
    rw [h2, h21, e4.2 1 f (by omega), e5.1 30 31 f (by omega) (by omega), e5.1 30 32 f (by omega) (by omega), e5.1 30 33 f (by omega) (by omega), e5.1 30 34 f (by omega) (by omega)]
    obtain ⟨z1, z2, z3⟩ := (hF.1 f hf).1
    refine ⟨z1, fun k hk => ?_, z3⟩
    rw [e5.1 30 37 _ (by omega) (by omega)]
    exact z2 k hk
  · obtain ⟨b1, b2, b3, b4, b5⟩ := p1 k hk
    obtain ⟨y1, y2⟩ := (hF.1 f hf).2 _ b1
    rw [b5, e5.1 30 36 f (by omega) (by omega), e4.2 1 f (by omega), b2]
    refine ⟨y1, fun hq => ?_⟩
    have hL := y2 hq
    rw [h2, h31, h32, h22]
    obtain ⟨⟨a, l1, l2, l3, l4⟩, l5⟩ := hL
    refine ⟨⟨a, l1, l2, l3, ?_⟩, l5⟩
    obtain ⟨a', e, c1, c2, c3⟩ := hK _ b1
    have haa : a' = a := by
      have q := (hS.2.2.2.2.2.2.2.2.1 _ b1).2.1
      rw [c1, l2] at q
      exact ((nI_eq (by omega) (by have := c3.1; omega)).mp q).symm
    subst haa
    rw [far k hk a' e c3.1 c3.2.2.1 c3.2.2.2.1 (by rw [b3]; exact c1) (by rw [b4]; exact c2) a' (Nat.le_refl _) c3.2.2.2.1]
    exact l4
  · obtain ⟨u, u1, u2, u3, u4⟩ := hF.2 f hf
    refine ⟨u, u1, u2, by rw [h2]; exact u3, ?_⟩
    rw [e5.1 30 35 _ (by omega) (by omega)]
    exact u4
/-- a byte becomes another one, by both -/
theorem wrote {N mo n mk d p : Nat} {B : Nat → Nat} {vC vM : Int32} {sC sM : xSt} (hN : 30 < N) (hp : p < 1024) (hv : vC &&& 255 = vM &&& 255) (h : Cor mo n mk B sC sM) (hF : FR mo n d B sC sM) :
    ∃ n' B' dr sC' sM', n' ≤ n ∧ fX3_change N mo (nI p) vC sC = some (dr, sC') ∧ fX9_write N (nI p) vM sM = some (dr, sM') ∧ Cor mo n' mk B' sC' sM' ∧ FR mo n' d B' sC' sM' ∧ WrC sC sC' ∧ WrM sM sM' := by
  obtain ⟨hS, hR, hM, hC, hO, hK⟩ := id h
  obtain ⟨u, hu, eu⟩ := pk_andE vM (m := 255) 8 (by decide)
  have euC : vC &&& 255 = nI u := hv.trans eu
  obtain ⟨q1, q2, q3⟩ := hM p hp
  by_cases hb : B p = u
  · refine ⟨n, B, nI 0, sC, sM, Nat.le_refl _, ?_, ?_, h, hF, ⟨fun _ _ _ _ _ _ _ => rfl, fun _ _ _ => rfl⟩, ⟨fun _ _ _ _ _ => rfl, rfl⟩⟩
    · unfold fX3_change
      simp (disch := omega) only [euC, q2, nm, bd, Option.bind_some, pI1, pI2, pQ1, pQ2, li_0, li_1, li_2, li_3, li_4, li_5, li_6, li_7, li_8, li_9, li_10, li_11, li_12, li_13, li_14, li_15, li_16, li_60, li_64, li_128, li_136, li_144, li_256, li_400, li_500, li_1020, li_1024, nI_neg1, nI_clamp, nI_ltI, nI_leI, nI_eq, nI_add, pk_sub, pk_mul, pk_div, nI_nm1, nI_nm1p, Nat.add_sub_cancel, Nat.add_sub_cancel_left, false_or, or_false, true_or, or_true, not_true_eq_false, not_false_eq_true, and_true, true_and, and_false, false_and, if_true, if_false, if_pos, if_neg]
    · unfold fX9_write
      simp (disch := omega) only [eu, q3, nm, bd, Option.bind_some, pI1, pI2, pQ1, pQ2, li_0, li_1, li_2, li_3, li_4, li_5, li_6, li_7, li_8, li_9, li_10, li_11, li_12, li_13, li_14, li_15, li_16, li_60, li_64, li_128, li_136, li_144, li_256, li_400, li_500, li_1020, li_1024, nI_neg1, nI_clamp, nI_ltI, nI_leI, nI_eq, nI_add, pk_sub, pk_mul, pk_div, nI_nm1, nI_nm1p, Nat.add_sub_cancel, Nat.add_sub_cancel_left, false_or, or_false, true_or, or_true, not_true_eq_false, not_false_eq_true, and_true, true_and, and_false, false_and, if_true, if_false, if_pos, if_neg]
  · obtain ⟨n', sC', sM', e0, e1, e2, e3, e4, e5, e6, e7, e8, e9⟩ := dropped (N := N) (mk := mk) (d := d) (B := B) (B' := fun k => if k = p then u else B k) (pg := p / 64) (sC := pI sC 20 3 p (nI u)) (sM := pI sM 30 1 p (nI u)) hN (by omega)
      (SR_c hS (fun i k => by simp (disch := omega) only [if_pos, if_neg, pI1, pI2, pQ1, pQ2, true_and, and_true, false_and, and_false, true_or, or_true, false_or, or_false, if_true, if_false, Nat.reduceEqDiff, and_self, not_true_eq_false, not_false_eq_true]) (fun k => by simp (disch := omega) only [if_pos, if_neg, pI1, pI2, pQ1, pQ2, true_and, and_true, false_and, and_false, true_or, or_true, false_or, or_false, if_true, if_false, Nat.reduceEqDiff, and_self, not_true_eq_false, not_false_eq_true]) (fun k => rfl) (by simp (disch := omega) only [if_pos, if_neg, pI1, pI2, pQ1, pQ2, true_and, and_true, false_and, and_false, true_or, or_true, false_or, or_false, if_true, if_false, Nat.reduceEqDiff, and_self, not_true_eq_false, not_false_eq_true]) (by simp (disch := omega) only [if_pos, if_neg, pI1, pI2, pQ1, pQ2, true_and, and_true, false_and, and_false, true_or, or_true, false_or, or_false, if_true, if_false, Nat.reduceEqDiff, and_self, not_true_eq_false, not_false_eq_true]) (fun k => by simp (disch := omega) only [if_pos, if_neg, pI1, pI2, pQ1, pQ2, true_and, and_true, false_and, and_false, true_or, or_true, false_or, or_false, if_true, if_false, Nat.reduceEqDiff, and_self, not_true_eq_false, not_false_eq_true]) (fun k => by simp (disch := omega) only [if_pos, if_neg, pI1, pI2, pQ1, pQ2, true_and, and_true, false_and, and_false, true_or, or_true, false_or, or_false, if_true, if_false, Nat.reduceEqDiff, and_self, not_true_eq_false, not_false_eq_true]))
      (NR_c hR (by simp (disch := omega) only [if_pos, if_neg, pI1, pI2, pQ1, pQ2, true_and, and_true, false_and, and_false, true_or, or_true, false_or, or_false, if_true, if_false, Nat.reduceEqDiff, and_self, not_true_eq_false, not_false_eq_true]) (fun k => by simp (disch := omega) only [if_pos, if_neg, pI1, pI2, pQ1, pQ2, true_and, and_true, false_and, and_false, true_or, or_true, false_or, or_false, if_true, if_false, Nat.reduceEqDiff, and_self, not_true_eq_false, not_false_eq_true])) (KR_c hK (fun i k => by simp (disch := omega) only [if_pos, if_neg, pI1, pI2, pQ1, pQ2, true_and, and_true, false_and, and_false, true_or, or_true, false_or, or_false, if_true, if_false, Nat.reduceEqDiff, and_self, not_true_eq_false, not_false_eq_true]) (fun i k => by simp (disch := omega) only [if_pos, if_neg, pI1, pI2, pQ1, pQ2, true_and, and_true, false_and, and_false, true_or, or_true, false_or, or_false, if_true, if_false, Nat.reduceEqDiff, and_self, not_true_eq_false, not_false_eq_true]) (fun k => rfl) (fun k => by simp (disch := omega) only [if_pos, if_neg, pI1, pI2, pQ1, pQ2, true_and, and_true, false_and, and_false, true_or, or_true, false_or, or_false, if_true, if_false, Nat.reduceEqDiff, and_self, not_true_eq_false, not_false_eq_true]) (fun k => by simp (disch := omega) only [if_pos, if_neg, pI1, pI2, pQ1, pQ2, true_and, and_true, false_and, and_false, true_or, or_true, false_or, or_false, if_true, if_false, Nat.reduceEqDiff, and_self, not_true_eq_false, not_false_eq_true]))
      (FR_c hF (fun i k _ => by simp (disch := omega) only [if_pos, if_neg, pI1, pI2, pQ1, pQ2, true_and, and_true, false_and, and_false, true_or, or_true, false_or, or_false, if_true, if_false, Nat.reduceEqDiff, and_self, not_true_eq_false, not_false_eq_true]) (fun i k _ _ => by simp (disch := omega) only [if_pos, if_neg, pI1, pI2, pQ1, pQ2, true_and, and_true, false_and, and_false, true_or, or_true, false_or, or_false, if_true, if_false, Nat.reduceEqDiff, and_self, not_true_eq_false, not_false_eq_true]) (fun i k => by simp (disch := omega) only [if_pos, if_neg, pI1, pI2, pQ1, pQ2, true_and, and_true, false_and, and_false, true_or, or_true, false_or, or_false, if_true, if_false, Nat.reduceEqDiff, and_self, not_true_eq_false, not_false_eq_true]) (fun i k => by simp (disch := omega) only [if_pos, if_neg, pI1, pI2, pQ1, pQ2, true_and, and_true, false_and, and_false, true_or, or_true, false_or, or_false, if_true, if_false, Nat.reduceEqDiff, and_self, not_true_eq_false, not_false_eq_true]) (fun k => rfl) (fun k _ => rfl) (fun i k _ _ _ => by simp (disch := omega) only [if_pos, if_neg, pI1, pI2, pQ1, pQ2, true_and, and_true, false_and, and_false, true_or, or_true, false_or, or_false, if_true, if_false, Nat.reduceEqDiff, and_self, not_true_eq_false, not_false_eq_true]) (fun k _ => by simp (disch := omega) only [if_pos, if_neg, pI1, pI2, pQ1, pQ2, true_and, and_true, false_and, and_false, true_or, or_true, false_or, or_false, if_true, if_false, Nat.reduceEqDiff, and_self, not_true_eq_false, not_false_eq_true]) (fun k => by simp (disch := omega) only [if_pos, if_neg, pI1, pI2, pQ1, pQ2, true_and, and_true, false_and, and_false, true_or, or_true, false_or, or_false, if_true, if_false, Nat.reduceEqDiff, and_self, not_true_eq_false, not_false_eq_true]))
      (fun k k1 k2 => by
        show (if k = p then u else B k) = B k
        rw [if_neg (fun z => k2 (by rw [z]))])
    have hdv : nI p / nI 64 = nI (p / 64) := pk_div (by omega) (by omega) (by omega)
    refine ⟨n', _, nI (n - n'), sC', sM', e0, ?_, ?_, ⟨e3, e4, fun k hk => ?_, ?_, ?_, e5⟩, e6, ⟨fun c i k z1 z2 z3 z4 => ?_, fun a x z => ?_⟩, ⟨fun c i k z1 z2 => ?_, ?_⟩⟩
    · unfold fX3_change
      simp (disch := omega) only [euC, q2, hdv, e1, nm, bd, Option.bind_some, pI1, pI2, pQ1, pQ2, li_0, li_1, li_2, li_3, li_4, li_5, li_6, li_7, li_8, li_9, li_10, li_11, li_12, li_13, li_14, li_15, li_16, li_60, li_64, li_128, li_136, li_144, li_256, li_400, li_500, li_1020, li_1024, nI_neg1, nI_clamp, nI_ltI, nI_leI, nI_eq, nI_add, pk_sub, pk_mul, pk_div, nI_nm1, nI_nm1p, Nat.add_sub_cancel, Nat.add_sub_cancel_left, false_or, or_false, true_or, or_true, not_true_eq_false, not_false_eq_true, and_true, true_and, and_false, false_and, if_true, if_false, if_pos, if_neg]
    · unfold fX9_write
      simp (disch := omega) only [eu, q3, hdv, e2, nm, bd, Option.bind_some, pI1, pI2, pQ1, pQ2, li_0, li_1, li_2, li_3, li_4, li_5, li_6, li_7, li_8, li_9, li_10, li_11, li_12, li_13, li_14, li_15, li_16, li_60, li_64, li_128, li_136, li_144, li_256, li_400, li_500, li_1020, li_1024, nI_neg1, nI_clamp, nI_ltI, nI_leI, nI_eq, nI_add, pk_sub, pk_mul, pk_div, nI_nm1, nI_nm1p, Nat.add_sub_cancel, Nat.add_sub_cancel_left, false_or, or_false, true_or, or_true, not_true_eq_false, not_false_eq_true, and_true, true_and, and_false, false_and, if_true, if_false, if_pos, if_neg]
    · rw [e7.1 20 3 k (by omega) (by omega) (by omega), e8.1 30 1 k (by omega) (by omega)]
      obtain ⟨w1, w2, w3⟩ := hM k hk
      by_cases hkp : k = p
      · subst hkp
        simp (disch := omega) only [if_pos, if_neg, pI1, pI2, pQ1, pQ2, true_and, and_true, false_and, and_false, true_or, or_true, false_or, or_false, if_true, if_false, Nat.reduceEqDiff, and_self, not_true_eq_false, not_false_eq_true]
        exact hu
      · simp (disch := omega) only [if_pos, if_neg, pI1, pI2, pQ1, pQ2, true_and, and_true, false_and, and_false, true_or, or_true, false_or, or_false, if_true, if_false, Nat.reduceEqDiff, and_self, not_true_eq_false, not_false_eq_true]
        exact ⟨w1, w2, w3⟩
    · obtain ⟨c1, c2, c3, c4, c5, c6, c7⟩ := hC
      refine ⟨?_, e9 (by simp (disch := omega) only [if_pos, if_neg, pI1, pI2, pQ1, pQ2, true_and, and_true, false_and, and_false, true_or, or_true, false_or, or_false, if_true, if_false, Nat.reduceEqDiff, and_self, not_true_eq_false, not_false_eq_true]; exact c2), ?_, ?_, ?_, ?_, ?_⟩
      · rw [e7.1 _ _ _ (by omega) (by omega) (by omega), e8.1 _ _ _ (by omega) (by omega)]; simp (disch := omega) only [if_pos, if_neg, pI1, pI2, pQ1, pQ2, true_and, and_true, false_and, and_false, true_or, or_true, false_or, or_false, if_true, if_false, Nat.reduceEqDiff, and_self, not_true_eq_false, not_false_eq_true]; exact c1
      · rw [e7.1 _ _ _ (by omega) (by omega) (by omega), e8.1 _ _ _ (by omega) (by omega)]; simp (disch := omega) only [if_pos, if_neg, pI1, pI2, pQ1, pQ2, true_and, and_true, false_and, and_false, true_or, or_true, false_or, or_false, if_true, if_false, Nat.reduceEqDiff, and_self, not_true_eq_false, not_false_eq_true]; exact c3
      · rw [e7.1 _ _ _ (by omega) (by omega) (by omega), e8.1 _ _ _ (by omega) (by omega)]; simp (disch := omega) only [if_pos, if_neg, pI1, pI2, pQ1, pQ2, true_and, and_true, false_and, and_false, true_or, or_true, false_or, or_false, if_true, if_false, Nat.reduceEqDiff, and_self, not_true_eq_false, not_false_eq_true]; exact c4
      · rw [e7.1 _ _ _ (by omega) (by omega) (by omega), e8.1 _ _ _ (by omega) (by omega)]; simp (disch := omega) only [if_pos, if_neg, pI1, pI2, pQ1, pQ2, true_and, and_true, false_and, and_false, true_or, or_true, false_or, or_false, if_true, if_false, Nat.reduceEqDiff, and_self, not_true_eq_false, not_false_eq_true]; exact c5
      · rw [e7.1 _ _ _ (by omega) (by omega) (by omega), e8.1 _ _ _ (by omega) (by omega)]; simp (disch := omega) only [if_pos, if_neg, pI1, pI2, pQ1, pQ2, true_and, and_true, false_and, and_false, true_or, or_true, false_or, or_false, if_true, if_false, Nat.reduceEqDiff, and_self, not_true_eq_false, not_false_eq_true]; exact c6
      · rw [e7.1 _ _ _ (by omega) (by omega) (by omega), e8.1 _ _ _ (by omega) (by omega)]; simp (disch := omega) only [if_pos, if_neg, pI1, pI2, pQ1, pQ2, true_and, and_true, false_and, and_false, true_or, or_true, false_or, or_false, if_true, if_false, Nat.reduceEqDiff, and_self, not_true_eq_false, not_false_eq_true]; exact c7
    · obtain ⟨o1, o2, o3, o4⟩ := hO
      refine ⟨fun k hk => ?_, fun k hk => ?_, fun k hk => ?_, ?_⟩
      · rw [e7.1 _ _ _ (by omega) (by omega) (by omega), e8.1 _ _ _ (by omega) (by omega)]; simp (disch := omega) only [if_pos, if_neg, pI1, pI2, pQ1, pQ2, true_and, and_true, false_and, and_false, true_or, or_true, false_or, or_false, if_true, if_false, Nat.reduceEqDiff, and_self, not_true_eq_false, not_false_eq_true]; exact o1 k hk
      · rw [e7.1 _ _ _ (by omega) (by omega) (by omega), e8.1 _ _ _ (by omega) (by omega)]; simp (disch := omega) only [if_pos, if_neg, pI1, pI2, pQ1, pQ2, true_and, and_true, false_and, and_false, true_or, or_true, false_or, or_false, if_true, if_false, Nat.reduceEqDiff, and_self, not_true_eq_false, not_false_eq_true]; exact o2 k hk
      · rw [e7.1 _ _ _ (by omega) (by omega) (by omega), e8.1 _ _ _ (by omega) (by omega)]; simp (disch := omega) only [if_pos, if_neg, pI1, pI2, pQ1, pQ2, true_and, and_true, false_and, and_false, true_or, or_true, false_or, or_false, if_true, if_false, Nat.reduceEqDiff, and_self, not_true_eq_false, not_false_eq_true]; exact o3 k hk
      · rw [e7.1 _ _ _ (by omega) (by omega) (by omega), e8.1 _ _ _ (by omega) (by omega)]; simp (disch := omega) only [if_pos, if_neg, pI1, pI2, pQ1, pQ2, true_and, and_true, false_and, and_false, true_or, or_true, false_or, or_false, if_true, if_false, Nat.reduceEqDiff, and_self, not_true_eq_false, not_false_eq_true]; exact o4
    · rw [e7.1 _ _ _ z1 z2 z3]
      simp (disch := omega) only [if_pos, if_neg, pI1, pI2, pQ1, pQ2, true_and, and_true, false_and, and_false, true_or, or_true, false_or, or_false, if_true, if_false, Nat.reduceEqDiff, and_self, not_true_eq_false, not_false_eq_true]
    · rw [e7.2 a x z]; rfl
    · rw [e8.1 _ _ _ z1 (by omega)]
      simp (disch := omega) only [if_pos, if_neg, pI1, pI2, pQ1, pQ2, true_and, and_true, false_and, and_false, true_or, or_true, false_or, or_false, if_true, if_false, Nat.reduceEqDiff, and_self, not_true_eq_false, not_false_eq_true]
    · rw [e8.2]; rfl
