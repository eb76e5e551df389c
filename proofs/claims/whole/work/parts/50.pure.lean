/-! The pure part: the class's functions and the reference's answer alike. -/
theorem pI1 {st : xSt} {c i k : Nat} {v : Int32} {c' i' k' : Nat} : (pI st c i k v).1 c' i' k' = if c' = c ∧ i' = i ∧ k' = k then v else st.1 c' i' k' := by
  unfold pI upd
  by_cases h : c' = c ∧ i' = i
  · obtain ⟨rfl, rfl⟩ := h
    simp
  · have h2 : ¬ (c' = c ∧ i' = i ∧ k' = k) := fun z => h ⟨z.1, z.2.1⟩
    simp only [if_neg h, if_neg h2]
theorem pI2 {st : xSt} {c i k : Nat} {v : Int32} : (pI st c i k v).2 = st.2 := rfl
theorem pQ1 {st : xSt} {a k v : Nat} : (pQ st a k v).1 = st.1 := rfl
theorem pQ2 {st : xSt} {a k v : Nat} {a' k' : Nat} : (pQ st a k v).2 a' k' = if a' = a ∧ k' = k then v else st.2 a' k' := rfl
theorem li_0 : (0 : Int32) = nI 0 := rfl
theorem li_1 : (1 : Int32) = nI 1 := rfl
theorem li_2 : (2 : Int32) = nI 2 := rfl
theorem li_3 : (3 : Int32) = nI 3 := rfl
theorem li_4 : (4 : Int32) = nI 4 := rfl
theorem li_5 : (5 : Int32) = nI 5 := rfl
theorem li_6 : (6 : Int32) = nI 6 := rfl
theorem li_7 : (7 : Int32) = nI 7 := rfl
theorem li_8 : (8 : Int32) = nI 8 := rfl
theorem li_9 : (9 : Int32) = nI 9 := rfl
theorem li_10 : (10 : Int32) = nI 10 := rfl
theorem li_11 : (11 : Int32) = nI 11 := rfl
theorem li_12 : (12 : Int32) = nI 12 := rfl
theorem li_13 : (13 : Int32) = nI 13 := rfl
theorem li_14 : (14 : Int32) = nI 14 := rfl
theorem li_15 : (15 : Int32) = nI 15 := rfl
theorem li_16 : (16 : Int32) = nI 16 := rfl
theorem li_60 : (60 : Int32) = nI 60 := rfl
theorem li_64 : (64 : Int32) = nI 64 := rfl
theorem li_128 : (128 : Int32) = nI 128 := rfl
theorem li_136 : (136 : Int32) = nI 136 := rfl
theorem li_144 : (144 : Int32) = nI 144 := rfl
theorem li_256 : (256 : Int32) = nI 256 := rfl
theorem li_400 : (400 : Int32) = nI 400 := rfl
theorem li_500 : (500 : Int32) = nI 500 := rfl
theorem li_1020 : (1020 : Int32) = nI 1020 := rfl
theorem li_1024 : (1024 : Int32) = nI 1024 := rfl
theorem nI_neg1 : -nI 1 = (-1 : Int32) := rfl
theorem nI_nm1 {a : Nat} (h : a < 2 ^ 31) : (nI a = -1) = False := by
  refine eq_false (fun e => ?_)
  have h1 := congrArg Int32.toInt e
  rw [nI_toInt h] at h1
  have h2 : (-1 : Int32).toInt = -1 := by decide
  omega
theorem nI_nm1p {a : Nat} (h : a < 2 ^ 31) : (-1 = nI a) = False := by
  refine eq_false (fun e => ?_)
  exact (nI_nm1 h).mp e.symm
def Mm (B : Nat → Nat) (sC sM : xSt) : Prop := ∀ k, k < 1024 → B k < 256 ∧ sC.1 20 3 k = nI (B k) ∧ sM.1 30 1 k = nI (B k)
def Cnt (sC sM : xSt) : Prop := sC.1 20 0 0 = sM.1 9 0 11 ∧ sC.1 20 0 1 = sM.1 9 0 12 ∧ sC.1 20 0 2 = sM.1 9 0 13 ∧ sC.1 20 0 3 = sM.1 9 0 14 ∧ sC.1 20 0 4 = sM.1 9 0 15 ∧ sC.1 20 0 5 = sM.1 9 0 16 ∧ sC.1 20 0 7 = sM.1 9 0 18
def Oth (sC sM : xSt) : Prop := (∀ k, k < 8 → sC.1 20 1 k = sM.1 30 2 k) ∧ (∀ k, k < 4 → sC.1 20 2 k = sM.1 30 3 k) ∧ (∀ k, k < 256 → sC.1 20 4 k = sM.1 30 4 k) ∧ sC.1 8 0 6 = sM.1 9 0 10
/-- the shelves: what is kept, in order -/
def SR (mo n : Nat) (sC sM : xSt) : Prop := n ≤ mo ∧ mo ≤ 20 ∧ sC.1 7 0 0 = nI mo ∧ sC.1 7 0 3 = nI n ∧ sM.1 9 0 5 = nI mo ∧ sM.1 9 0 6 = nI n ∧
  (∀ k, k ≤ mo → sC.2 0 k ≤ mo) ∧ (∀ k l, k ≤ mo → l ≤ mo → sC.2 0 k = sC.2 0 l → k = l) ∧
  (∀ k, k < n → sC.1 3 (sC.2 0 k) 3 = 1 ∧ sC.1 3 (sC.2 0 k) 2 = sM.1 30 7 k ∧ sC.1 3 (sC.2 0 k) 4 = sM.1 30 7 k / 64 ∧ sC.1 3 (sC.2 0 k) 5 = sM.1 30 8 k / 64) ∧
  (∀ j, j ≤ mo → sC.1 3 j 3 = 0 ∨ ∃ k, k < n ∧ sC.2 0 k = j)
def NR (n mk : Nat) (sM : xSt) : Prop := sM.1 9 0 11 = nI mk ∧ (∀ k, k < n → ∃ u, u < mk ∧ sM.1 30 9 k = nI u) ∧ (∀ k l, k < n → l < n → sM.1 30 9 k = sM.1 30 9 l → k = l)
theorem sim_test {N mo : Nat} {a b : Int32} {sC sM : xSt} (hO : Oth sC sM) : ∃ r sC' sM', fX8_argument N mo a b sC = some (r, sC') ∧ fX9_argument N a b sM = some (r, sM') ∧ Oth sC' sM' := by
  unfold fX8_argument fX9_argument
  by_cases h0 : a < 0
  · have h0' : a < nI 0 := h0
    simp (disch := omega) only [h0', nm, bd, Option.bind_some, pI1, pI2, pQ1, pQ2, li_0, li_1, li_2, li_3, li_4, li_5, li_6, li_7, li_8, li_9, li_10, li_11, li_12, li_13, li_14, li_15, li_16, li_60, li_64, li_128, li_136, li_144, li_256, li_400, li_500, li_1020, li_1024, nI_neg1, nI_clamp, nI_ltI, nI_leI, nI_eq, nI_add, pk_sub, pk_mul, pk_div, nI_nm1, nI_nm1p, Nat.add_sub_cancel, Nat.add_sub_cancel_left, false_or, or_false, true_or, or_true, not_true_eq_false, not_false_eq_true, and_true, true_and, and_false, false_and, if_true, if_false, if_pos, if_neg]
    refine ⟨_, _, _, rfl, rfl, ?_⟩
    simpa [Oth, pI1] using hO
  · obtain ⟨x, hx, rfl⟩ := nI_of h0
    by_cases h1 : x < 4
    · simp (disch := omega) only [nm, bd, Option.bind_some, pI1, pI2, pQ1, pQ2, li_0, li_1, li_2, li_3, li_4, li_5, li_6, li_7, li_8, li_9, li_10, li_11, li_12, li_13, li_14, li_15, li_16, li_60, li_64, li_128, li_136, li_144, li_256, li_400, li_500, li_1020, li_1024, nI_neg1, nI_clamp, nI_ltI, nI_leI, nI_eq, nI_add, pk_sub, pk_mul, pk_div, nI_nm1, nI_nm1p, Nat.add_sub_cancel, Nat.add_sub_cancel_left, false_or, or_false, true_or, or_true, not_true_eq_false, not_false_eq_true, and_true, true_and, and_false, false_and, if_true, if_false, if_pos, if_neg]
      refine ⟨_, _, _, rfl, rfl, ?_⟩
      obtain ⟨p1, p2, p3, p4⟩ := hO
      refine ⟨?_, ?_, ?_, ?_⟩
      · simpa [pI1] using p1
      · intro k hk
        simp only [pI1]
        by_cases e : k = x
        · simp [e]
        · simp [e, p2 k hk]
      · simpa [pI1] using p3
      · simpa [pI1] using p4
    · simp (disch := omega) only [nm, bd, Option.bind_some, pI1, pI2, pQ1, pQ2, li_0, li_1, li_2, li_3, li_4, li_5, li_6, li_7, li_8, li_9, li_10, li_11, li_12, li_13, li_14, li_15, li_16, li_60, li_64, li_128, li_136, li_144, li_256, li_400, li_500, li_1020, li_1024, nI_neg1, nI_clamp, nI_ltI, nI_leI, nI_eq, nI_add, pk_sub, pk_mul, pk_div, nI_nm1, nI_nm1p, Nat.add_sub_cancel, Nat.add_sub_cancel_left, false_or, or_false, true_or, or_true, not_true_eq_false, not_false_eq_true, and_true, true_and, and_false, false_and, if_true, if_false, if_pos, if_neg]
      refine ⟨_, _, _, rfl, rfl, ?_⟩
      simpa [Oth, pI1] using hO
