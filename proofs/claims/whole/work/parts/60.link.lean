/-! Making: the first pass goes over the instructions, the second over their offsets. -/
def ofs (B : Nat → Nat) (a loc : Nat) : Nat → Nat
  | 0 => 1
  | r + 1 => ofs B a loc r + (dec B (a + ofs B a loc r) loc).2
noncomputable def tgv (B : Nat → Nat) (p : Nat) : Int32 := if colO (B p) ≠ 0 ∧ ¬ (B p = 14 ∧ B (p + 1) = 0) then nI (B (p + colO (B p))) else -1
theorem colO_c (c : Nat) : colO c = 0 ∨ colO c = 1 ∨ colO c = 3 := by
  unfold colO
  split
  · omega
  · split
    · omega
    · omega
theorem colO_n {c : Nat} (h : colO c ≠ 0) : (c = 9 ∨ c = 14) ∧ colO c = 1 ∨ (c = 10 ∨ c = 11) ∧ colO c = 3 := by
  unfold colO at h ⊢
  split
  · omega
  · split
    · omega
    · rename_i h1 h2
      rw [if_neg h1, if_neg h2] at h
      omega
/-- the bytes that an offset lies in were read -/
theorem dec_len {B : Nat → Nat} {p loc : Nat} (h0 : (dec B p loc).1 = 0) : colO (B p) < (dec B p loc).2 ∧ (B p = 15 → (dec B p loc).2 = 1) ∧ (B p = 9 ∨ B p = 14 → (dec B p loc).2 = 2) ∧ (B p = 10 ∨ B p = 11 → (dec B p loc).2 = 4) := by
  have hd := (dec_p (B := B) (loc := loc) (p := p)).2.2 h0
  have key : ∀ c, c = B p → (c = 9 ∨ c = 14 → (dec B p loc).2 = 2) ∧ (c = 10 ∨ c = 11 → (dec B p loc).2 = 4) ∧ (c = 15 → (dec B p loc).2 = 1) := by
    intro c hc
    have e1 : dec B p loc = rdL B loc p 7 (frm c) 1 := by
      unfold dec
      rw [if_neg (by omega), if_neg (by omega), hc]
    rw [e1] at h0 ⊢
    refine ⟨fun h => ?_, fun h => ?_, fun h => ?_⟩
    · have e2 : rdL B loc p 7 (frm c) 1 = stepK B loc p 3 (0, 1) := by
        have : frm c = 3 := by rcases h with rfl | rfl <;> rfl
        rw [this]
        exact (show rdL B loc p 7 3 1 = rdS B loc p 7 3 (0, 1) from rfl).trans ((rdS_k 3 0 (by omega) (by omega) (by omega)).trans rdS_0)
      rw [e2] at h0 ⊢
      rw [(stepK_0 h0).2.2.2]
    · have e2 : rdL B loc p 7 (frm c) 1 = stepK B loc p 3 (stepK B loc p 1 (stepK B loc p 1 (0, 1))) := by
        have : frm c = 785 := by rcases h with rfl | rfl <;> rfl
        rw [this]
        exact (show rdL B loc p 7 785 1 = rdS B loc p 7 785 (0, 1) from rfl).trans ((rdS_k 1 49 (by omega) (by omega) (by omega)).trans ((rdS_k 1 3 (by omega) (by omega) (by omega)).trans ((rdS_k 3 0 (by omega) (by omega) (by omega)).trans rdS_0)))
      rw [e2] at h0 ⊢
      have q := stepK_0 h0
      have q2 := stepK_0 q.1
      have q3 := stepK_0 q2.1
      rw [q.2.2.2, q2.2.2.2, q3.2.2.2]
    · have e2 : rdL B loc p 7 (frm c) 1 = (0, 1) := by
        rw [h]
        simp [frm, rdL]
      rw [e2]
  obtain ⟨k1, k2, k3⟩ := key _ rfl
  refine ⟨?_, k3, k1, k2⟩
  by_cases h : colO (B p) = 0
  · omega
  · rcases colO_n h with ⟨h1, h2⟩ | ⟨h1, h2⟩
    · have := k1 h1; omega
    · have := k2 h1; omega
theorem c_indexL {N mo j sz t : Nat} {o : Nat → Nat} {st : xSt} (h1 : st.1 3 j 1 = nI sz) (hsz : sz ≤ 60) (ht : t < 256) (ho : ∀ x, x < sz → o x < 2000 ∧ st.1 22 j (x * 11 + 9) = nI (o x)) : ∀ d x fuel, x + d = sz → d < fuel → (∃ x', x ≤ x' ∧ x' < sz ∧ o x' = t ∧ fX2_indexOf_b2 N mo fuel j (nI t) (nI x) st = some (nI x', st)) ∨ ((∀ x', x ≤ x' → x' < sz → o x' ≠ t) ∧ fX2_indexOf_b2 N mo fuel j (nI t) (nI x) st = some (-1, st)) := by
  intro d
  induction d with
  | zero =>
    intro x fuel hx hf
    obtain ⟨fuel, rfl⟩ : ∃ z, fuel = z + 1 := ⟨fuel - 1, by omega⟩
    refine Or.inr ⟨fun x' z1 z2 => by omega, ?_⟩
    unfold fX2_indexOf_b2
    rw [h1, if_pos (nI_le (by omega) (by omega))]
  | succ d ih =>
    intro x fuel hx hf
    obtain ⟨fuel, rfl⟩ : ∃ z, fuel = z + 1 := ⟨fuel - 1, by omega⟩
    obtain ⟨o1, o2⟩ := ho x (by omega)
    by_cases e : o x = t
    · refine Or.inl ⟨x, Nat.le_refl _, by omega, e, ?_⟩
      unfold fX2_indexOf_b2
      simp (disch := omega) only [h1, o2, nm, bd, Option.bind_some, pI1, pI2, pQ1, pQ2, li_0, li_1, li_2, li_3, li_4, li_5, li_6, li_7, li_8, li_9, li_10, li_11, li_12, li_13, li_14, li_15, li_16, li_60, li_64, li_128, li_136, li_144, li_256, li_400, li_500, li_1020, li_1024, nI_neg1, nI_clamp, nI_ltI, nI_leI, nI_eq, nI_add, pk_sub, pk_mul, pk_div, nI_nm1, nI_nm1p, Nat.add_sub_cancel, Nat.add_sub_cancel_left, false_or, or_false, true_or, or_true, not_true_eq_false, not_false_eq_true, and_true, true_and, and_false, false_and, if_true, if_false, if_pos, if_neg]
    · rcases ih (x + 1) fuel (by omega) (by omega) with ⟨x', z1, z2, z3, z4⟩ | ⟨z1, z2⟩
      · refine Or.inl ⟨x', by omega, z2, z3, ?_⟩
        unfold fX2_indexOf_b2
        simp (disch := omega) only [h1, o2, nm, bd, Option.bind_some, pI1, pI2, pQ1, pQ2, li_0, li_1, li_2, li_3, li_4, li_5, li_6, li_7, li_8, li_9, li_10, li_11, li_12, li_13, li_14, li_15, li_16, li_60, li_64, li_128, li_136, li_144, li_256, li_400, li_500, li_1020, li_1024, nI_neg1, nI_clamp, nI_ltI, nI_leI, nI_eq, nI_add, pk_sub, pk_mul, pk_div, nI_nm1, nI_nm1p, Nat.add_sub_cancel, Nat.add_sub_cancel_left, false_or, or_false, true_or, or_true, not_true_eq_false, not_false_eq_true, and_true, true_and, and_false, false_and, if_true, if_false, if_pos, if_neg]
        exact z4
      · refine Or.inr ⟨fun x' y1 y2 => ?_, ?_⟩
        · by_cases hx' : x' = x
          · rw [hx']; exact e
          · exact z1 x' (by omega) y2
        · unfold fX2_indexOf_b2
          simp (disch := omega) only [h1, o2, nm, bd, Option.bind_some, pI1, pI2, pQ1, pQ2, li_0, li_1, li_2, li_3, li_4, li_5, li_6, li_7, li_8, li_9, li_10, li_11, li_12, li_13, li_14, li_15, li_16, li_60, li_64, li_128, li_136, li_144, li_256, li_400, li_500, li_1020, li_1024, nI_neg1, nI_clamp, nI_ltI, nI_leI, nI_eq, nI_add, pk_sub, pk_mul, pk_div, nI_nm1, nI_nm1p, Nat.add_sub_cancel, Nat.add_sub_cancel_left, false_or, or_false, true_or, or_true, not_true_eq_false, not_false_eq_true, and_true, true_and, and_false, false_and, if_true, if_false, if_pos, if_neg]
          exact z2
