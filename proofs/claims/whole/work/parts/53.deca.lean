def rdS (B : Nat → Nat) (loc p d f : Nat) (x : Nat × Nat) : Nat × Nat := if x.1 = 0 then rdL B loc p d f x.2 else x
theorem rdS_0 {B : Nat → Nat} {loc p d : Nat} {x : Nat × Nat} : rdS B loc p d 0 x = x := by
  unfold rdS
  split
  · next h => cases d <;> simp [rdL, ← h]
  · rfl
theorem rdS_k {B : Nat → Nat} {loc p d : Nat} {x : Nat × Nat} (k f : Nat) (h1 : 1 ≤ k) (h2 : k < 16) (h4 : k ≠ 4) : rdS B loc p (d + 1) (k + 16 * f) x = rdS B loc p d f (stepK B loc p k x) := by
  have e1 : (k + 16 * f) % 16 = k := by omega
  have e2 : (k + 16 * f) / 16 = f := by omega
  unfold rdS stepK
  by_cases h : x.1 = 0
  · rw [if_pos h, if_pos h, rdL, if_neg (by omega), e1, e2, if_neg h4]
    split
    · simp
    · split
      · simp
      · simp
  · rw [if_neg h, if_neg h, if_neg h]
theorem stepK_0 {B : Nat → Nat} {loc p k : Nat} {x : Nat × Nat} (h : (stepK B loc p k x).1 = 0) : x.1 = 0 ∧ p + x.2 < 1024 ∧ okK loc k (B (p + x.2)) ∧ stepK B loc p k x = (0, x.2 + 1) := by
  unfold stepK at h ⊢
  by_cases h0 : x.1 = 0
  · rw [if_pos h0] at h ⊢
    by_cases h1 : 1024 ≤ p + x.2
    · rw [if_pos h1] at h; simp at h
    · rw [if_neg h1] at h ⊢
      by_cases h2 : okK loc k (B (p + x.2))
      · rw [if_pos h2]; exact ⟨h0, by omega, h2, rfl⟩
      · rw [if_neg h2] at h; simp at h
  · rw [if_neg h0] at h; omega
theorem rdS_n {B : Nat → Nat} {loc p d : Nat} {x : Nat × Nat} : rdS B loc p (d + 4 + 1) 4 x = if (stepK B loc p 4 x).1 = 0 then (Nat.rec (stepK B loc p 4 x) (fun _ y => stepK B loc p 1 y) (B (p + x.2)) : Nat × Nat) else stepK B loc p 4 x := by
  by_cases h : (stepK B loc p 4 x).1 = 0
  · rw [if_pos h]
    obtain ⟨a, b, c, e⟩ := stepK_0 h
    have hb : B (p + x.2) ≤ 4 := by omega
    rw [e]
    unfold rdS
    rw [if_pos a, rdL, if_neg (by omega), if_neg (by omega), if_pos (by omega), if_pos rfl]
    obtain ⟨n, en⟩ : ∃ n, n = B (p + x.2) := ⟨_, rfl⟩
    rw [← en] at hb ⊢
    have go : ∀ f, rdL B loc p (d + 4) f (x.2 + 1) = rdS B loc p (d + 4) f (0, x.2 + 1) := fun f => by unfold rdS; rw [if_pos rfl]
    rw [go]
    have hn : n = 0 ∨ n = 1 ∨ n = 2 ∨ n = 3 ∨ n = 4 := by omega
    rcases hn with rfl | rfl | rfl | rfl | rfl
    · exact rdS_0
    · exact (rdS_k 1 0 (by omega) (by omega) (by omega)).trans rdS_0
    · exact (rdS_k 1 1 (by omega) (by omega) (by omega)).trans ((rdS_k 1 0 (by omega) (by omega) (by omega)).trans rdS_0)
    · exact (rdS_k 1 17 (by omega) (by omega) (by omega)).trans ((rdS_k 1 1 (by omega) (by omega) (by omega)).trans ((rdS_k 1 0 (by omega) (by omega) (by omega)).trans rdS_0))
    · exact (rdS_k 1 273 (by omega) (by omega) (by omega)).trans ((rdS_k 1 17 (by omega) (by omega) (by omega)).trans ((rdS_k 1 1 (by omega) (by omega) (by omega)).trans ((rdS_k 1 0 (by omega) (by omega) (by omega)).trans rdS_0)))
  · rw [if_neg h]
    unfold rdS
    unfold stepK at h ⊢
    by_cases h0 : x.1 = 0
    · rw [if_pos h0] at h ⊢
      rw [if_pos h0, rdL, if_neg (by omega)]
      by_cases h1 : 1024 ≤ p + x.2
      · rw [if_pos h1, if_pos h1]
      · rw [if_neg h1] at h ⊢
        rw [if_neg h1]
        by_cases h2 : okK loc 4 (B (p + x.2))
        · rw [if_pos h2] at h; simp at h
        · rw [if_neg h2, if_neg h2]
    · rw [if_neg h0, if_neg h0]
theorem m_loopV {N loc p cd : Nat} {B : Nat → Nat} {s0 : xSt} (hB : ∀ k, k < 1024 → B k < 256) (hm : ∀ k, k < 1024 → s0.1 30 1 k = nI (B k)) (hl : loc ≤ 8) (hp : p < 3000) (n : Nat) (hn : n ≤ 4) : ∀ d i fuel (s : xSt) (x : Nat × Nat), i + d = n → d < fuel → MR B loc p s0 s cd x → x.1 ≤ 7 → 1 ≤ x.2 → x.2 + d ≤ 8 →
    ∃ s', fX9_readAt_b282 N fuel (nI n) (nI i) s = some s' ∧ MR B loc p s0 s' cd (Nat.rec x (fun _ y => stepK B loc p 1 y) d : Nat × Nat) := by
  intro d
  induction d with
  | zero =>
    intro i fuel s x h1 h2 h hx hx2 hx3
    obtain ⟨fuel, rfl⟩ : ∃ z, fuel = z + 1 := ⟨fuel - 1, by omega⟩
    refine ⟨s, ?_, h⟩
    unfold fX9_readAt_b282
    simp (disch := omega) only [nm, bd, Option.bind_some, pI1, pI2, pQ1, pQ2, li_0, li_1, li_2, li_3, li_4, li_5, li_6, li_7, li_8, li_9, li_10, li_11, li_12, li_13, li_14, li_15, li_16, li_60, li_64, li_128, li_136, li_144, li_256, li_400, li_500, li_1020, li_1024, nI_neg1, nI_clamp, nI_ltI, nI_leI, nI_eq, nI_add, pk_sub, pk_mul, pk_div, nI_nm1, nI_nm1p, Nat.add_sub_cancel, Nat.add_sub_cancel_left, false_or, or_false, true_or, or_true, not_true_eq_false, not_false_eq_true, and_true, true_and, and_false, false_and, if_true, if_false, if_pos, if_neg]
  | succ d ih =>
    intro i fuel s x h1 h2 h hx hx2 hx3
    obtain ⟨fuel, rfl⟩ : ∃ z, fuel = z + 1 := ⟨fuel - 1, by omega⟩
    obtain ⟨s1, e1, r1⟩ := m_op (N := N) (k := 0) hB hm hl (by omega) hp h hx (by omega)
    have hs := stepK_p (B := B) (loc := loc) (p := p) (k := 0 + 1) hx hx2
    obtain ⟨s2, e2, r2⟩ := ih (i + 1) fuel s1 _ (by omega) (by omega) r1 hs.1 hs.2.1 (by omega)
    refine ⟨s2, ?_, ?_⟩
    · unfold fX9_readAt_b282
      rw [if_neg (nI_ge (by omega) (by omega))]
      have e1' : fX9_operandOf N (0 : Int32) s = some s1 := e1
      rw [e1']
      simp only [Option.bind_some, nm]
      rw [nI_1]
      exact e2
    · have : ∀ d (x : Nat × Nat), (Nat.rec (stepK B loc p 1 x) (fun _ y => stepK B loc p 1 y) d : Nat × Nat) = stepK B loc p 1 (Nat.rec x (fun _ y => stepK B loc p 1 y) d : Nat × Nat) := by
        intro d x
        induction d with
        | zero => rfl
        | succ d ih => exact congrArg (stepK B loc p 1) ih
      rw [this] at r2
      exact r2
theorem m_key {N loc p cd : Nat} {B : Nat → Nat} {s0 s : xSt} (hB : ∀ k, k < 1024 → B k < 256) (hm : ∀ k, k < 1024 → s0.1 30 1 k = nI (B k)) (hl : loc ≤ 8) (hp : p < 1024) (_h : MR B loc p s0 s cd (0, 1)) (k : Nat) (s : xSt) (x : Nat × Nat) (hk : k < 4) (h : MR B loc p s0 s cd x) (hx : x.1 ≤ 7) (h1 : 1 ≤ x.2) (h2 : x.2 ≤ 8) : ∃ s', fX9_operandOf N (nI k) s = some s' ∧ s'.1 9 0 19 = nI cd ∧ MR B loc p s0 s' cd (stepK B loc p (k + 1) x) := by
  obtain ⟨s', e, r⟩ := m_op (N := N) (k := k) hB hm hl hk (by omega) h hx ⟨h1, h2⟩
  exact ⟨s', e, r.2.2.1, r⟩
theorem m_one {N loc p cd : Nat} {B : Nat → Nat} {s0 s : xSt} (hB : ∀ k, k < 1024 → B k < 256) (hm : ∀ k, k < 1024 → s0.1 30 1 k = nI (B k)) (hl : loc ≤ 8) (hp : p < 1024) (h : MR B loc p s0 s cd (0, 1)) (k1 : Nat) (h1 : k1 < 4) : ∃ s1, fX9_operandOf N (nI k1) s = some s1 ∧ s1.1 9 0 19 = nI cd ∧ MR B loc p s0 s1 cd (stepK B loc p (k1 + 1) (0, 1)) := m_key hB hm hl hp h k1 s (0, 1) h1 h (by simp) (by simp) (by simp)
theorem m_two {N loc p cd : Nat} {B : Nat → Nat} {s0 s : xSt} (hB : ∀ k, k < 1024 → B k < 256) (hm : ∀ k, k < 1024 → s0.1 30 1 k = nI (B k)) (hl : loc ≤ 8) (hp : p < 1024) (h : MR B loc p s0 s cd (0, 1)) (k1 k2 : Nat) (h1 : k1 < 4) (h2 : k2 < 4) : ∃ s1 s2, fX9_operandOf N (nI k1) s = some s1 ∧ s1.1 9 0 19 = nI cd ∧ fX9_operandOf N (nI k2) s1 = some s2 ∧ s2.1 9 0 19 = nI cd ∧ MR B loc p s0 s2 cd (stepK B loc p (k2 + 1) (stepK B loc p (k1 + 1) (0, 1))) := by
  obtain ⟨s1, e1, c1, r1⟩ := m_one (N := N) hB hm hl hp h k1 h1
  have q1 := stepK_p (B := B) (loc := loc) (p := p) (k := k1 + 1) (x := (0, 1)) (by simp) (by simp)
  obtain ⟨s2, e2, c2, r2⟩ := m_key (N := N) hB hm hl hp h k2 s1 _ h2 r1 q1.1 q1.2.1 (by have := q1.2.2; simp at this; omega)
  exact ⟨s1, s2, e1, c1, e2, c2, r2⟩
theorem m_three {N loc p cd : Nat} {B : Nat → Nat} {s0 s : xSt} (hB : ∀ k, k < 1024 → B k < 256) (hm : ∀ k, k < 1024 → s0.1 30 1 k = nI (B k)) (hl : loc ≤ 8) (hp : p < 1024) (h : MR B loc p s0 s cd (0, 1)) (k1 k2 k3 : Nat) (h1 : k1 < 4) (h2 : k2 < 4) (h3 : k3 < 4) : ∃ s1 s2 s3, fX9_operandOf N (nI k1) s = some s1 ∧ s1.1 9 0 19 = nI cd ∧ fX9_operandOf N (nI k2) s1 = some s2 ∧ s2.1 9 0 19 = nI cd ∧ fX9_operandOf N (nI k3) s2 = some s3 ∧ s3.1 9 0 19 = nI cd ∧ MR B loc p s0 s3 cd (stepK B loc p (k3 + 1) (stepK B loc p (k2 + 1) (stepK B loc p (k1 + 1) (0, 1)))) := by
  obtain ⟨s1, s2, e1, c1, e2, c2, r2⟩ := m_two (N := N) hB hm hl hp h k1 k2 h1 h2
  have q1 := stepK_p (B := B) (loc := loc) (p := p) (k := k1 + 1) (x := (0, 1)) (by simp) (by simp)
  have q2 := stepK_p (B := B) (loc := loc) (p := p) (k := k2 + 1) (x := stepK B loc p (k1 + 1) (0, 1)) q1.1 q1.2.1
  obtain ⟨s3, e3, c3, r3⟩ := m_key (N := N) hB hm hl hp h k3 s2 _ h3 r2 q2.1 q2.2.1 (by have := q1.2.2; have := q2.2.2; simp at *; omega)
  exact ⟨s1, s2, s3, e1, c1, e2, c2, e3, c3, r3⟩
set_option maxHeartbeats 4000000 in
theorem m_t0 {N loc p : Nat} {B : Nat → Nat} {s0 s : xSt} (hB : ∀ k, k < 1024 → B k < 256) (hm : ∀ k, k < 1024 → s0.1 30 1 k = nI (B k)) (hl : loc ≤ 8) (hp : p < 1024) (h : MR B loc p s0 s 0 (0, 1)) (hN : 10 < N) : ∃ s', fX9_readAt_b53 N s = some s' ∧ MR B loc p s0 s' 0 (rdL B loc p 7 (frm 0) 1) := by
  have hs : s.1 9 0 19 = nI 0 := h.2.2.1
  obtain ⟨s1, e1, c1, r⟩ := m_one (N := N) hB hm hl hp h 0 (by omega)
  refine ⟨s1, ?_, ?_⟩
  · simp +decide (disch := omega) only [↓reduceIte, hs, e1, c1, fX9_readAt_b53, fX9_readAt_b70, fX9_readAt_b79, fX9_readAt_b84, fX9_readAt_b102, fX9_readAt_b129, fX9_readAt_b134, fX9_readAt_b145, fX9_readAt_b190, fX9_readAt_b195, fX9_readAt_b205, fX9_readAt_b241, fX9_readAt_b246, nm, bd, Option.bind_some, pI1, pI2, pQ1, pQ2, li_0, li_1, li_2, li_3, li_4, li_5, li_6, li_7, li_8, li_9, li_10, li_11, li_12, li_13, li_14, li_15, li_16, li_60, li_64, li_128, li_136, li_144, li_256, li_400, li_500, li_1020, li_1024, nI_neg1, nI_clamp, nI_ltI, nI_leI, nI_eq, nI_add, pk_sub, pk_mul, pk_div, nI_nm1, nI_nm1p, Nat.add_sub_cancel, Nat.add_sub_cancel_left, false_or, or_false, true_or, or_true, not_true_eq_false, not_false_eq_true, and_true, true_and, and_false, false_and, if_true, if_false, if_pos, if_neg]
  · rw [show rdL B loc p 7 (frm 0) 1 = _ from (show rdL B loc p 7 1 1 = rdS B loc p 7 1 (0, 1) from rfl).trans ((rdS_k 1 0 (by omega) (by omega) (by omega)).trans rdS_0)]
    exact r
set_option maxHeartbeats 4000000 in
theorem m_t1 {N loc p : Nat} {B : Nat → Nat} {s0 s : xSt} (hB : ∀ k, k < 1024 → B k < 256) (hm : ∀ k, k < 1024 → s0.1 30 1 k = nI (B k)) (hl : loc ≤ 8) (hp : p < 1024) (h : MR B loc p s0 s 1 (0, 1)) (hN : 10 < N) : ∃ s', fX9_readAt_b53 N s = some s' ∧ MR B loc p s0 s' 1 (rdL B loc p 7 (frm 1) 1) := by
  have hs : s.1 9 0 19 = nI 1 := h.2.2.1
  obtain ⟨s1, s2, e1, c1, e2, c2, r⟩ := m_two (N := N) hB hm hl hp h 1 0 (by omega) (by omega)
  refine ⟨s2, ?_, ?_⟩
  · simp +decide (disch := omega) only [↓reduceIte, hs, e1, c1, e2, c2, fX9_readAt_b53, fX9_readAt_b70, fX9_readAt_b79, fX9_readAt_b84, fX9_readAt_b102, fX9_readAt_b129, fX9_readAt_b134, fX9_readAt_b145, fX9_readAt_b190, fX9_readAt_b195, fX9_readAt_b205, fX9_readAt_b241, fX9_readAt_b246, nm, bd, Option.bind_some, pI1, pI2, pQ1, pQ2, li_0, li_1, li_2, li_3, li_4, li_5, li_6, li_7, li_8, li_9, li_10, li_11, li_12, li_13, li_14, li_15, li_16, li_60, li_64, li_128, li_136, li_144, li_256, li_400, li_500, li_1020, li_1024, nI_neg1, nI_clamp, nI_ltI, nI_leI, nI_eq, nI_add, pk_sub, pk_mul, pk_div, nI_nm1, nI_nm1p, Nat.add_sub_cancel, Nat.add_sub_cancel_left, false_or, or_false, true_or, or_true, not_true_eq_false, not_false_eq_true, and_true, true_and, and_false, false_and, if_true, if_false, if_pos, if_neg]
  · rw [show rdL B loc p 7 (frm 1) 1 = _ from (show rdL B loc p 7 18 1 = rdS B loc p 7 18 (0, 1) from rfl).trans ((rdS_k 2 1 (by omega) (by omega) (by omega)).trans ((rdS_k 1 0 (by omega) (by omega) (by omega)).trans rdS_0))]
    exact r
set_option maxHeartbeats 4000000 in
theorem m_t2 {N loc p : Nat} {B : Nat → Nat} {s0 s : xSt} (hB : ∀ k, k < 1024 → B k < 256) (hm : ∀ k, k < 1024 → s0.1 30 1 k = nI (B k)) (hl : loc ≤ 8) (hp : p < 1024) (h : MR B loc p s0 s 2 (0, 1)) (hN : 10 < N) : ∃ s', fX9_readAt_b53 N s = some s' ∧ MR B loc p s0 s' 2 (rdL B loc p 7 (frm 2) 1) := by
  have hs : s.1 9 0 19 = nI 2 := h.2.2.1
  obtain ⟨s1, s2, s3, e1, c1, e2, c2, e3, c3, r⟩ := m_three (N := N) hB hm hl hp h 1 0 0 (by omega) (by omega) (by omega)
  refine ⟨s3, ?_, ?_⟩
  · simp +decide (disch := omega) only [↓reduceIte, hs, e1, c1, e2, c2, e3, c3, fX9_readAt_b53, fX9_readAt_b70, fX9_readAt_b79, fX9_readAt_b84, fX9_readAt_b102, fX9_readAt_b129, fX9_readAt_b134, fX9_readAt_b145, fX9_readAt_b190, fX9_readAt_b195, fX9_readAt_b205, fX9_readAt_b241, fX9_readAt_b246, nm, bd, Option.bind_some, pI1, pI2, pQ1, pQ2, li_0, li_1, li_2, li_3, li_4, li_5, li_6, li_7, li_8, li_9, li_10, li_11, li_12, li_13, li_14, li_15, li_16, li_60, li_64, li_128, li_136, li_144, li_256, li_400, li_500, li_1020, li_1024, nI_neg1, nI_clamp, nI_ltI, nI_leI, nI_eq, nI_add, pk_sub, pk_mul, pk_div, nI_nm1, nI_nm1p, Nat.add_sub_cancel, Nat.add_sub_cancel_left, false_or, or_false, true_or, or_true, not_true_eq_false, not_false_eq_true, and_true, true_and, and_false, false_and, if_true, if_false, if_pos, if_neg]
  · rw [show rdL B loc p 7 (frm 2) 1 = _ from (show rdL B loc p 7 274 1 = rdS B loc p 7 274 (0, 1) from rfl).trans ((rdS_k 2 17 (by omega) (by omega) (by omega)).trans ((rdS_k 1 1 (by omega) (by omega) (by omega)).trans ((rdS_k 1 0 (by omega) (by omega) (by omega)).trans rdS_0)))]
    exact r
set_option maxHeartbeats 4000000 in
theorem m_t3 {N loc p : Nat} {B : Nat → Nat} {s0 s : xSt} (hB : ∀ k, k < 1024 → B k < 256) (hm : ∀ k, k < 1024 → s0.1 30 1 k = nI (B k)) (hl : loc ≤ 8) (hp : p < 1024) (h : MR B loc p s0 s 3 (0, 1)) (hN : 10 < N) : ∃ s', fX9_readAt_b53 N s = some s' ∧ MR B loc p s0 s' 3 (rdL B loc p 7 (frm 3) 1) := by
  have hs : s.1 9 0 19 = nI 3 := h.2.2.1
  obtain ⟨s1, s2, s3, e1, c1, e2, c2, e3, c3, r⟩ := m_three (N := N) hB hm hl hp h 1 0 0 (by omega) (by omega) (by omega)
  refine ⟨s3, ?_, ?_⟩
  · simp +decide (disch := omega) only [↓reduceIte, hs, e1, c1, e2, c2, e3, c3, fX9_readAt_b53, fX9_readAt_b70, fX9_readAt_b79, fX9_readAt_b84, fX9_readAt_b102, fX9_readAt_b129, fX9_readAt_b134, fX9_readAt_b145, fX9_readAt_b190, fX9_readAt_b195, fX9_readAt_b205, fX9_readAt_b241, fX9_readAt_b246, nm, bd, Option.bind_some, pI1, pI2, pQ1, pQ2, li_0, li_1, li_2, li_3, li_4, li_5, li_6, li_7, li_8, li_9, li_10, li_11, li_12, li_13, li_14, li_15, li_16, li_60, li_64, li_128, li_136, li_144, li_256, li_400, li_500, li_1020, li_1024, nI_neg1, nI_clamp, nI_ltI, nI_leI, nI_eq, nI_add, pk_sub, pk_mul, pk_div, nI_nm1, nI_nm1p, Nat.add_sub_cancel, Nat.add_sub_cancel_left, false_or, or_false, true_or, or_true, not_true_eq_false, not_false_eq_true, and_true, true_and, and_false, false_and, if_true, if_false, if_pos, if_neg]
  · rw [show rdL B loc p 7 (frm 3) 1 = _ from (show rdL B loc p 7 274 1 = rdS B loc p 7 274 (0, 1) from rfl).trans ((rdS_k 2 17 (by omega) (by omega) (by omega)).trans ((rdS_k 1 1 (by omega) (by omega) (by omega)).trans ((rdS_k 1 0 (by omega) (by omega) (by omega)).trans rdS_0)))]
    exact r
set_option maxHeartbeats 4000000 in
theorem m_t4 {N loc p : Nat} {B : Nat → Nat} {s0 s : xSt} (hB : ∀ k, k < 1024 → B k < 256) (hm : ∀ k, k < 1024 → s0.1 30 1 k = nI (B k)) (hl : loc ≤ 8) (hp : p < 1024) (h : MR B loc p s0 s 4 (0, 1)) (hN : 10 < N) : ∃ s', fX9_readAt_b53 N s = some s' ∧ MR B loc p s0 s' 4 (rdL B loc p 7 (frm 4) 1) := by
  have hs : s.1 9 0 19 = nI 4 := h.2.2.1
  obtain ⟨s1, s2, s3, e1, c1, e2, c2, e3, c3, r⟩ := m_three (N := N) hB hm hl hp h 1 0 0 (by omega) (by omega) (by omega)
  refine ⟨s3, ?_, ?_⟩
  · simp +decide (disch := omega) only [↓reduceIte, hs, e1, c1, e2, c2, e3, c3, fX9_readAt_b53, fX9_readAt_b70, fX9_readAt_b79, fX9_readAt_b84, fX9_readAt_b102, fX9_readAt_b129, fX9_readAt_b134, fX9_readAt_b145, fX9_readAt_b190, fX9_readAt_b195, fX9_readAt_b205, fX9_readAt_b241, fX9_readAt_b246, nm, bd, Option.bind_some, pI1, pI2, pQ1, pQ2, li_0, li_1, li_2, li_3, li_4, li_5, li_6, li_7, li_8, li_9, li_10, li_11, li_12, li_13, li_14, li_15, li_16, li_60, li_64, li_128, li_136, li_144, li_256, li_400, li_500, li_1020, li_1024, nI_neg1, nI_clamp, nI_ltI, nI_leI, nI_eq, nI_add, pk_sub, pk_mul, pk_div, nI_nm1, nI_nm1p, Nat.add_sub_cancel, Nat.add_sub_cancel_left, false_or, or_false, true_or, or_true, not_true_eq_false, not_false_eq_true, and_true, true_and, and_false, false_and, if_true, if_false, if_pos, if_neg]
  · rw [show rdL B loc p 7 (frm 4) 1 = _ from (show rdL B loc p 7 274 1 = rdS B loc p 7 274 (0, 1) from rfl).trans ((rdS_k 2 17 (by omega) (by omega) (by omega)).trans ((rdS_k 1 1 (by omega) (by omega) (by omega)).trans ((rdS_k 1 0 (by omega) (by omega) (by omega)).trans rdS_0)))]
    exact r
set_option maxHeartbeats 4000000 in
theorem m_t5 {N loc p : Nat} {B : Nat → Nat} {s0 s : xSt} (hB : ∀ k, k < 1024 → B k < 256) (hm : ∀ k, k < 1024 → s0.1 30 1 k = nI (B k)) (hl : loc ≤ 8) (hp : p < 1024) (h : MR B loc p s0 s 5 (0, 1)) (hN : 10 < N) : ∃ s', fX9_readAt_b53 N s = some s' ∧ MR B loc p s0 s' 5 (rdL B loc p 7 (frm 5) 1) := by
  have hs : s.1 9 0 19 = nI 5 := h.2.2.1
  obtain ⟨s1, s2, s3, e1, c1, e2, c2, e3, c3, r⟩ := m_three (N := N) hB hm hl hp h 1 0 0 (by omega) (by omega) (by omega)
  refine ⟨s3, ?_, ?_⟩
  · simp +decide (disch := omega) only [↓reduceIte, hs, e1, c1, e2, c2, e3, c3, fX9_readAt_b53, fX9_readAt_b70, fX9_readAt_b79, fX9_readAt_b84, fX9_readAt_b102, fX9_readAt_b129, fX9_readAt_b134, fX9_readAt_b145, fX9_readAt_b190, fX9_readAt_b195, fX9_readAt_b205, fX9_readAt_b241, fX9_readAt_b246, nm, bd, Option.bind_some, pI1, pI2, pQ1, pQ2, li_0, li_1, li_2, li_3, li_4, li_5, li_6, li_7, li_8, li_9, li_10, li_11, li_12, li_13, li_14, li_15, li_16, li_60, li_64, li_128, li_136, li_144, li_256, li_400, li_500, li_1020, li_1024, nI_neg1, nI_clamp, nI_ltI, nI_leI, nI_eq, nI_add, pk_sub, pk_mul, pk_div, nI_nm1, nI_nm1p, Nat.add_sub_cancel, Nat.add_sub_cancel_left, false_or, or_false, true_or, or_true, not_true_eq_false, not_false_eq_true, and_true, true_and, and_false, false_and, if_true, if_false, if_pos, if_neg]
  · rw [show rdL B loc p 7 (frm 5) 1 = _ from (show rdL B loc p 7 274 1 = rdS B loc p 7 274 (0, 1) from rfl).trans ((rdS_k 2 17 (by omega) (by omega) (by omega)).trans ((rdS_k 1 1 (by omega) (by omega) (by omega)).trans ((rdS_k 1 0 (by omega) (by omega) (by omega)).trans rdS_0)))]
    exact r
set_option maxHeartbeats 4000000 in
theorem m_t6 {N loc p : Nat} {B : Nat → Nat} {s0 s : xSt} (hB : ∀ k, k < 1024 → B k < 256) (hm : ∀ k, k < 1024 → s0.1 30 1 k = nI (B k)) (hl : loc ≤ 8) (hp : p < 1024) (h : MR B loc p s0 s 6 (0, 1)) (hN : 10 < N) : ∃ s', fX9_readAt_b53 N s = some s' ∧ MR B loc p s0 s' 6 (rdL B loc p 7 (frm 6) 1) := by
  have hs : s.1 9 0 19 = nI 6 := h.2.2.1
  obtain ⟨s1, s2, s3, e1, c1, e2, c2, e3, c3, r⟩ := m_three (N := N) hB hm hl hp h 1 0 0 (by omega) (by omega) (by omega)
  refine ⟨s3, ?_, ?_⟩
  · simp +decide (disch := omega) only [↓reduceIte, hs, e1, c1, e2, c2, e3, c3, fX9_readAt_b53, fX9_readAt_b70, fX9_readAt_b79, fX9_readAt_b84, fX9_readAt_b102, fX9_readAt_b129, fX9_readAt_b134, fX9_readAt_b145, fX9_readAt_b190, fX9_readAt_b195, fX9_readAt_b205, fX9_readAt_b241, fX9_readAt_b246, nm, bd, Option.bind_some, pI1, pI2, pQ1, pQ2, li_0, li_1, li_2, li_3, li_4, li_5, li_6, li_7, li_8, li_9, li_10, li_11, li_12, li_13, li_14, li_15, li_16, li_60, li_64, li_128, li_136, li_144, li_256, li_400, li_500, li_1020, li_1024, nI_neg1, nI_clamp, nI_ltI, nI_leI, nI_eq, nI_add, pk_sub, pk_mul, pk_div, nI_nm1, nI_nm1p, Nat.add_sub_cancel, Nat.add_sub_cancel_left, false_or, or_false, true_or, or_true, not_true_eq_false, not_false_eq_true, and_true, true_and, and_false, false_and, if_true, if_false, if_pos, if_neg]
  · rw [show rdL B loc p 7 (frm 6) 1 = _ from (show rdL B loc p 7 274 1 = rdS B loc p 7 274 (0, 1) from rfl).trans ((rdS_k 2 17 (by omega) (by omega) (by omega)).trans ((rdS_k 1 1 (by omega) (by omega) (by omega)).trans ((rdS_k 1 0 (by omega) (by omega) (by omega)).trans rdS_0)))]
    exact r
set_option maxHeartbeats 4000000 in
theorem m_t7 {N loc p : Nat} {B : Nat → Nat} {s0 s : xSt} (hB : ∀ k, k < 1024 → B k < 256) (hm : ∀ k, k < 1024 → s0.1 30 1 k = nI (B k)) (hl : loc ≤ 8) (hp : p < 1024) (h : MR B loc p s0 s 7 (0, 1)) (hN : 10 < N) : ∃ s', fX9_readAt_b53 N s = some s' ∧ MR B loc p s0 s' 7 (rdL B loc p 7 (frm 7) 1) := by
  have hs : s.1 9 0 19 = nI 7 := h.2.2.1
  obtain ⟨s1, s2, e1, c1, e2, c2, r⟩ := m_two (N := N) hB hm hl hp h 1 0 (by omega) (by omega)
  refine ⟨s2, ?_, ?_⟩
  · simp +decide (disch := omega) only [↓reduceIte, hs, e1, c1, e2, c2, fX9_readAt_b53, fX9_readAt_b70, fX9_readAt_b79, fX9_readAt_b84, fX9_readAt_b102, fX9_readAt_b129, fX9_readAt_b134, fX9_readAt_b145, fX9_readAt_b190, fX9_readAt_b195, fX9_readAt_b205, fX9_readAt_b241, fX9_readAt_b246, nm, bd, Option.bind_some, pI1, pI2, pQ1, pQ2, li_0, li_1, li_2, li_3, li_4, li_5, li_6, li_7, li_8, li_9, li_10, li_11, li_12, li_13, li_14, li_15, li_16, li_60, li_64, li_128, li_136, li_144, li_256, li_400, li_500, li_1020, li_1024, nI_neg1, nI_clamp, nI_ltI, nI_leI, nI_eq, nI_add, pk_sub, pk_mul, pk_div, nI_nm1, nI_nm1p, Nat.add_sub_cancel, Nat.add_sub_cancel_left, false_or, or_false, true_or, or_true, not_true_eq_false, not_false_eq_true, and_true, true_and, and_false, false_and, if_true, if_false, if_pos, if_neg]
  · rw [show rdL B loc p 7 (frm 7) 1 = _ from (show rdL B loc p 7 18 1 = rdS B loc p 7 18 (0, 1) from rfl).trans ((rdS_k 2 1 (by omega) (by omega) (by omega)).trans ((rdS_k 1 0 (by omega) (by omega) (by omega)).trans rdS_0))]
    exact r
set_option maxHeartbeats 4000000 in
theorem m_t8 {N loc p : Nat} {B : Nat → Nat} {s0 s : xSt} (hB : ∀ k, k < 1024 → B k < 256) (hm : ∀ k, k < 1024 → s0.1 30 1 k = nI (B k)) (hl : loc ≤ 8) (hp : p < 1024) (h : MR B loc p s0 s 8 (0, 1)) (hN : 10 < N) : ∃ s', fX9_readAt_b53 N s = some s' ∧ MR B loc p s0 s' 8 (rdL B loc p 7 (frm 8) 1) := by
  have hs : s.1 9 0 19 = nI 8 := h.2.2.1
  obtain ⟨s1, s2, e1, c1, e2, c2, r⟩ := m_two (N := N) hB hm hl hp h 0 0 (by omega) (by omega)
  refine ⟨s2, ?_, ?_⟩
  · simp +decide (disch := omega) only [↓reduceIte, hs, e1, c1, e2, c2, fX9_readAt_b53, fX9_readAt_b70, fX9_readAt_b79, fX9_readAt_b84, fX9_readAt_b102, fX9_readAt_b129, fX9_readAt_b134, fX9_readAt_b145, fX9_readAt_b190, fX9_readAt_b195, fX9_readAt_b205, fX9_readAt_b241, fX9_readAt_b246, nm, bd, Option.bind_some, pI1, pI2, pQ1, pQ2, li_0, li_1, li_2, li_3, li_4, li_5, li_6, li_7, li_8, li_9, li_10, li_11, li_12, li_13, li_14, li_15, li_16, li_60, li_64, li_128, li_136, li_144, li_256, li_400, li_500, li_1020, li_1024, nI_neg1, nI_clamp, nI_ltI, nI_leI, nI_eq, nI_add, pk_sub, pk_mul, pk_div, nI_nm1, nI_nm1p, Nat.add_sub_cancel, Nat.add_sub_cancel_left, false_or, or_false, true_or, or_true, not_true_eq_false, not_false_eq_true, and_true, true_and, and_false, false_and, if_true, if_false, if_pos, if_neg]
  · rw [show rdL B loc p 7 (frm 8) 1 = _ from (show rdL B loc p 7 17 1 = rdS B loc p 7 17 (0, 1) from rfl).trans ((rdS_k 1 1 (by omega) (by omega) (by omega)).trans ((rdS_k 1 0 (by omega) (by omega) (by omega)).trans rdS_0))]
    exact r
set_option maxHeartbeats 4000000 in
theorem m_t9 {N loc p : Nat} {B : Nat → Nat} {s0 s : xSt} (hB : ∀ k, k < 1024 → B k < 256) (hm : ∀ k, k < 1024 → s0.1 30 1 k = nI (B k)) (hl : loc ≤ 8) (hp : p < 1024) (h : MR B loc p s0 s 9 (0, 1)) (hN : 10 < N) : ∃ s', fX9_readAt_b53 N s = some s' ∧ MR B loc p s0 s' 9 (rdL B loc p 7 (frm 9) 1) := by
  have hs : s.1 9 0 19 = nI 9 := h.2.2.1
  obtain ⟨s1, e1, c1, r⟩ := m_one (N := N) hB hm hl hp h 2 (by omega)
  refine ⟨s1, ?_, ?_⟩
  · simp +decide (disch := omega) only [↓reduceIte, hs, e1, c1, fX9_readAt_b53, fX9_readAt_b70, fX9_readAt_b79, fX9_readAt_b84, fX9_readAt_b102, fX9_readAt_b129, fX9_readAt_b134, fX9_readAt_b145, fX9_readAt_b190, fX9_readAt_b195, fX9_readAt_b205, fX9_readAt_b241, fX9_readAt_b246, nm, bd, Option.bind_some, pI1, pI2, pQ1, pQ2, li_0, li_1, li_2, li_3, li_4, li_5, li_6, li_7, li_8, li_9, li_10, li_11, li_12, li_13, li_14, li_15, li_16, li_60, li_64, li_128, li_136, li_144, li_256, li_400, li_500, li_1020, li_1024, nI_neg1, nI_clamp, nI_ltI, nI_leI, nI_eq, nI_add, pk_sub, pk_mul, pk_div, nI_nm1, nI_nm1p, Nat.add_sub_cancel, Nat.add_sub_cancel_left, false_or, or_false, true_or, or_true, not_true_eq_false, not_false_eq_true, and_true, true_and, and_false, false_and, if_true, if_false, if_pos, if_neg]
  · rw [show rdL B loc p 7 (frm 9) 1 = _ from (show rdL B loc p 7 3 1 = rdS B loc p 7 3 (0, 1) from rfl).trans ((rdS_k 3 0 (by omega) (by omega) (by omega)).trans rdS_0)]
    exact r
set_option maxHeartbeats 4000000 in
theorem m_t10 {N loc p : Nat} {B : Nat → Nat} {s0 s : xSt} (hB : ∀ k, k < 1024 → B k < 256) (hm : ∀ k, k < 1024 → s0.1 30 1 k = nI (B k)) (hl : loc ≤ 8) (hp : p < 1024) (h : MR B loc p s0 s 10 (0, 1)) (hN : 10 < N) : ∃ s', fX9_readAt_b53 N s = some s' ∧ MR B loc p s0 s' 10 (rdL B loc p 7 (frm 10) 1) := by
  have hs : s.1 9 0 19 = nI 10 := h.2.2.1
  obtain ⟨s1, s2, s3, e1, c1, e2, c2, e3, c3, r⟩ := m_three (N := N) hB hm hl hp h 0 0 2 (by omega) (by omega) (by omega)
  refine ⟨s3, ?_, ?_⟩
  · simp +decide (disch := omega) only [↓reduceIte, hs, e1, c1, e2, c2, e3, c3, fX9_readAt_b53, fX9_readAt_b70, fX9_readAt_b79, fX9_readAt_b84, fX9_readAt_b102, fX9_readAt_b129, fX9_readAt_b134, fX9_readAt_b145, fX9_readAt_b190, fX9_readAt_b195, fX9_readAt_b205, fX9_readAt_b241, fX9_readAt_b246, nm, bd, Option.bind_some, pI1, pI2, pQ1, pQ2, li_0, li_1, li_2, li_3, li_4, li_5, li_6, li_7, li_8, li_9, li_10, li_11, li_12, li_13, li_14, li_15, li_16, li_60, li_64, li_128, li_136, li_144, li_256, li_400, li_500, li_1020, li_1024, nI_neg1, nI_clamp, nI_ltI, nI_leI, nI_eq, nI_add, pk_sub, pk_mul, pk_div, nI_nm1, nI_nm1p, Nat.add_sub_cancel, Nat.add_sub_cancel_left, false_or, or_false, true_or, or_true, not_true_eq_false, not_false_eq_true, and_true, true_and, and_false, false_and, if_true, if_false, if_pos, if_neg]
  · rw [show rdL B loc p 7 (frm 10) 1 = _ from (show rdL B loc p 7 785 1 = rdS B loc p 7 785 (0, 1) from rfl).trans ((rdS_k 1 49 (by omega) (by omega) (by omega)).trans ((rdS_k 1 3 (by omega) (by omega) (by omega)).trans ((rdS_k 3 0 (by omega) (by omega) (by omega)).trans rdS_0)))]
    exact r
set_option maxHeartbeats 4000000 in
theorem m_t11 {N loc p : Nat} {B : Nat → Nat} {s0 s : xSt} (hB : ∀ k, k < 1024 → B k < 256) (hm : ∀ k, k < 1024 → s0.1 30 1 k = nI (B k)) (hl : loc ≤ 8) (hp : p < 1024) (h : MR B loc p s0 s 11 (0, 1)) (hN : 10 < N) : ∃ s', fX9_readAt_b53 N s = some s' ∧ MR B loc p s0 s' 11 (rdL B loc p 7 (frm 11) 1) := by
  have hs : s.1 9 0 19 = nI 11 := h.2.2.1
  obtain ⟨s1, s2, s3, e1, c1, e2, c2, e3, c3, r⟩ := m_three (N := N) hB hm hl hp h 0 0 2 (by omega) (by omega) (by omega)
  refine ⟨s3, ?_, ?_⟩
  · simp +decide (disch := omega) only [↓reduceIte, hs, e1, c1, e2, c2, e3, c3, fX9_readAt_b53, fX9_readAt_b70, fX9_readAt_b79, fX9_readAt_b84, fX9_readAt_b102, fX9_readAt_b129, fX9_readAt_b134, fX9_readAt_b145, fX9_readAt_b190, fX9_readAt_b195, fX9_readAt_b205, fX9_readAt_b241, fX9_readAt_b246, nm, bd, Option.bind_some, pI1, pI2, pQ1, pQ2, li_0, li_1, li_2, li_3, li_4, li_5, li_6, li_7, li_8, li_9, li_10, li_11, li_12, li_13, li_14, li_15, li_16, li_60, li_64, li_128, li_136, li_144, li_256, li_400, li_500, li_1020, li_1024, nI_neg1, nI_clamp, nI_ltI, nI_leI, nI_eq, nI_add, pk_sub, pk_mul, pk_div, nI_nm1, nI_nm1p, Nat.add_sub_cancel, Nat.add_sub_cancel_left, false_or, or_false, true_or, or_true, not_true_eq_false, not_false_eq_true, and_true, true_and, and_false, false_and, if_true, if_false, if_pos, if_neg]
  · rw [show rdL B loc p 7 (frm 11) 1 = _ from (show rdL B loc p 7 785 1 = rdS B loc p 7 785 (0, 1) from rfl).trans ((rdS_k 1 49 (by omega) (by omega) (by omega)).trans ((rdS_k 1 3 (by omega) (by omega) (by omega)).trans ((rdS_k 3 0 (by omega) (by omega) (by omega)).trans rdS_0)))]
    exact r
set_option maxHeartbeats 4000000 in
theorem m_t12 {N loc p : Nat} {B : Nat → Nat} {s0 s : xSt} (hB : ∀ k, k < 1024 → B k < 256) (hm : ∀ k, k < 1024 → s0.1 30 1 k = nI (B k)) (hl : loc ≤ 8) (hp : p < 1024) (h : MR B loc p s0 s 12 (0, 1)) (hN : 10 < N) : ∃ s', fX9_readAt_b53 N s = some s' ∧ MR B loc p s0 s' 12 (rdL B loc p 7 (frm 12) 1) := by
  have hs : s.1 9 0 19 = nI 12 := h.2.2.1
  obtain ⟨s1, s2, s3, e1, c1, e2, c2, e3, c3, r⟩ := m_three (N := N) hB hm hl hp h 1 0 3 (by omega) (by omega) (by omega)
  have q1 := stepK_p (B := B) (loc := loc) (p := p) (k := 1 + 1) (x := (0, 1)) (by simp) (by simp)
  have q2 := stepK_p (B := B) (loc := loc) (p := p) (k := 0 + 1) (x := stepK B loc p (1 + 1) (0, 1)) q1.1 q1.2.1
  have q3 := stepK_p (B := B) (loc := loc) (p := p) (k := 3 + 1) (x := stepK B loc p (0 + 1) (stepK B loc p (1 + 1) (0, 1))) q2.1 q2.2.1
  have er : rdL B loc p 7 (frm 12) 1 = rdS B loc p 5 4 (stepK B loc p (0 + 1) (stepK B loc p (1 + 1) (0, 1))) :=
    (show rdL B loc p 7 1042 1 = rdS B loc p 7 1042 (0, 1) from rfl).trans ((rdS_k 2 65 (by omega) (by omega) (by omega)).trans (rdS_k 1 4 (by omega) (by omega) (by omega)))
  rw [er, show (5 : Nat) = 0 + 4 + 1 from rfl, rdS_n]
  have f3 := r.2.2.2.1
  by_cases hz : (stepK B loc p (3 + 1) (stepK B loc p (0 + 1) (stepK B loc p (1 + 1) (0, 1)))).1 = 0
  · obtain ⟨a, b, c, d⟩ := stepK_0 hz
    obtain ⟨a', b', c', d'⟩ := stepK_0 a
    obtain ⟨a'', b'', c'', d''⟩ := stepK_0 a'
    have g2 : stepK B loc p (0 + 1) (stepK B loc p (1 + 1) (0, 1)) = (0, 3) := by rw [d', d'']
    have g3 : stepK B loc p (3 + 1) (0, 3) = (0, 4) := by rw [← g2, d, g2]
    rw [g2, g3] at f3
    rw [g2] at c
    have c0 : okK loc 4 (B (p + 3)) := c
    have hn : B (p + 3) ≤ 4 := by omega
    rw [g2, g3] at r
    have hop : s3.1 30 22 2 = nI (B (p + 3)) := by
      rw [(r.2.2.2.2.2 rfl).2.2 2 (by simp)]
    obtain ⟨s4, e4, r4⟩ := m_loopV (N := N) hB hm hl (by omega) (B (p + 3)) hn (B (p + 3)) 0 N s3 _ (by omega) (by omega) r (by simp) (by simp) (by simp; omega)
    refine ⟨s4, ?_, ?_⟩
    · have e4' : fX9_readAt_b282 N N (nI (B (p + 3))) (0 : Int32) s3 = some s4 := e4
      simp +decide (disch := omega) only [↓reduceIte, hs, e1, c1, e2, c2, e3, f3, hop, fX9_readAt_b277, fX9_readAt_b53, fX9_readAt_b70, fX9_readAt_b79, fX9_readAt_b84, fX9_readAt_b102, fX9_readAt_b129, fX9_readAt_b134, fX9_readAt_b145, fX9_readAt_b190, fX9_readAt_b195, fX9_readAt_b205, fX9_readAt_b241, fX9_readAt_b246, nm, bd, Option.bind_some, pI1, pI2, pQ1, pQ2, li_0, li_1, li_2, li_3, li_4, li_5, li_6, li_7, li_8, li_9, li_10, li_11, li_12, li_13, li_14, li_15, li_16, li_60, li_64, li_128, li_136, li_144, li_256, li_400, li_500, li_1020, li_1024, nI_neg1, nI_clamp, nI_ltI, nI_leI, nI_eq, nI_add, pk_sub, pk_mul, pk_div, nI_nm1, nI_nm1p, Nat.add_sub_cancel, Nat.add_sub_cancel_left, false_or, or_false, true_or, or_true, not_true_eq_false, not_false_eq_true, and_true, true_and, and_false, false_and, if_true, if_false, if_pos, if_neg]
      exact e4
    · rw [g2, show stepK B loc p 4 (0, 3) = (0, 4) from g3, if_pos rfl]
      exact r4
  · have hz' : ¬ (stepK B loc p 4 (stepK B loc p (0 + 1) (stepK B loc p (1 + 1) (0, 1)))).1 = 0 := hz
    obtain ⟨s4, e4, r4⟩ := m_loopV (N := N) hB hm hl (by omega) 0 (by omega) 0 0 N s3 _ (by omega) (by omega) r q3.1 q3.2.1 (by have := q1.2.2; have := q2.2.2; have := q3.2.2; simp at *; omega)
    refine ⟨s4, ?_, ?_⟩
    · have h7 := q3.1
      have f3' : (s3.1 9 0 20 = nI 0) = False := eq_false (by rw [f3]; exact nI_ne0 (Nat.pos_of_ne_zero hz) (by omega))
      simp +decide (disch := omega) only [↓reduceIte, hs, e1, c1, e2, c2, e3, f3', fX9_readAt_b277, fX9_readAt_b53, fX9_readAt_b70, fX9_readAt_b79, fX9_readAt_b84, fX9_readAt_b102, fX9_readAt_b129, fX9_readAt_b134, fX9_readAt_b145, fX9_readAt_b190, fX9_readAt_b195, fX9_readAt_b205, fX9_readAt_b241, fX9_readAt_b246, nm, bd, Option.bind_some, pI1, pI2, pQ1, pQ2, li_0, li_1, li_2, li_3, li_4, li_5, li_6, li_7, li_8, li_9, li_10, li_11, li_12, li_13, li_14, li_15, li_16, li_60, li_64, li_128, li_136, li_144, li_256, li_400, li_500, li_1020, li_1024, nI_neg1, nI_clamp, nI_ltI, nI_leI, nI_eq, nI_add, pk_sub, pk_mul, pk_div, nI_nm1, nI_nm1p, Nat.add_sub_cancel, Nat.add_sub_cancel_left, false_or, or_false, true_or, or_true, not_true_eq_false, not_false_eq_true, and_true, true_and, and_false, false_and, if_true, if_false, if_pos, if_neg]
      exact e4
    · rw [if_neg hz']
      exact r4
set_option maxHeartbeats 4000000 in
theorem m_t13 {N loc p : Nat} {B : Nat → Nat} {s0 s : xSt} (hB : ∀ k, k < 1024 → B k < 256) (hm : ∀ k, k < 1024 → s0.1 30 1 k = nI (B k)) (hl : loc ≤ 8) (hp : p < 1024) (h : MR B loc p s0 s 13 (0, 1)) (hN : 10 < N) : ∃ s', fX9_readAt_b53 N s = some s' ∧ MR B loc p s0 s' 13 (rdL B loc p 7 (frm 13) 1) := by
  have hs : s.1 9 0 19 = nI 13 := h.2.2.1
  obtain ⟨s1, e1, c1, r⟩ := m_one (N := N) hB hm hl hp h 0 (by omega)
  refine ⟨s1, ?_, ?_⟩
  · simp +decide (disch := omega) only [↓reduceIte, hs, e1, c1, fX9_readAt_b53, fX9_readAt_b70, fX9_readAt_b79, fX9_readAt_b84, fX9_readAt_b102, fX9_readAt_b129, fX9_readAt_b134, fX9_readAt_b145, fX9_readAt_b190, fX9_readAt_b195, fX9_readAt_b205, fX9_readAt_b241, fX9_readAt_b246, nm, bd, Option.bind_some, pI1, pI2, pQ1, pQ2, li_0, li_1, li_2, li_3, li_4, li_5, li_6, li_7, li_8, li_9, li_10, li_11, li_12, li_13, li_14, li_15, li_16, li_60, li_64, li_128, li_136, li_144, li_256, li_400, li_500, li_1020, li_1024, nI_neg1, nI_clamp, nI_ltI, nI_leI, nI_eq, nI_add, pk_sub, pk_mul, pk_div, nI_nm1, nI_nm1p, Nat.add_sub_cancel, Nat.add_sub_cancel_left, false_or, or_false, true_or, or_true, not_true_eq_false, not_false_eq_true, and_true, true_and, and_false, false_and, if_true, if_false, if_pos, if_neg]
  · rw [show rdL B loc p 7 (frm 13) 1 = _ from (show rdL B loc p 7 1 1 = rdS B loc p 7 1 (0, 1) from rfl).trans ((rdS_k 1 0 (by omega) (by omega) (by omega)).trans rdS_0)]
    exact r
set_option maxHeartbeats 4000000 in
theorem m_t14 {N loc p : Nat} {B : Nat → Nat} {s0 s : xSt} (hB : ∀ k, k < 1024 → B k < 256) (hm : ∀ k, k < 1024 → s0.1 30 1 k = nI (B k)) (hl : loc ≤ 8) (hp : p < 1024) (h : MR B loc p s0 s 14 (0, 1)) (hN : 10 < N) : ∃ s', fX9_readAt_b53 N s = some s' ∧ MR B loc p s0 s' 14 (rdL B loc p 7 (frm 14) 1) := by
  have hs : s.1 9 0 19 = nI 14 := h.2.2.1
  obtain ⟨s1, e1, c1, r⟩ := m_one (N := N) hB hm hl hp h 2 (by omega)
  refine ⟨s1, ?_, ?_⟩
  · simp +decide (disch := omega) only [↓reduceIte, hs, e1, c1, fX9_readAt_b53, fX9_readAt_b70, fX9_readAt_b79, fX9_readAt_b84, fX9_readAt_b102, fX9_readAt_b129, fX9_readAt_b134, fX9_readAt_b145, fX9_readAt_b190, fX9_readAt_b195, fX9_readAt_b205, fX9_readAt_b241, fX9_readAt_b246, nm, bd, Option.bind_some, pI1, pI2, pQ1, pQ2, li_0, li_1, li_2, li_3, li_4, li_5, li_6, li_7, li_8, li_9, li_10, li_11, li_12, li_13, li_14, li_15, li_16, li_60, li_64, li_128, li_136, li_144, li_256, li_400, li_500, li_1020, li_1024, nI_neg1, nI_clamp, nI_ltI, nI_leI, nI_eq, nI_add, pk_sub, pk_mul, pk_div, nI_nm1, nI_nm1p, Nat.add_sub_cancel, Nat.add_sub_cancel_left, false_or, or_false, true_or, or_true, not_true_eq_false, not_false_eq_true, and_true, true_and, and_false, false_and, if_true, if_false, if_pos, if_neg]
  · rw [show rdL B loc p 7 (frm 14) 1 = _ from (show rdL B loc p 7 3 1 = rdS B loc p 7 3 (0, 1) from rfl).trans ((rdS_k 3 0 (by omega) (by omega) (by omega)).trans rdS_0)]
    exact r
set_option maxHeartbeats 4000000 in
theorem m_t15 {N loc p : Nat} {B : Nat → Nat} {s0 s : xSt} (hB : ∀ k, k < 1024 → B k < 256) (hm : ∀ k, k < 1024 → s0.1 30 1 k = nI (B k)) (hl : loc ≤ 8) (hp : p < 1024) (h : MR B loc p s0 s 15 (0, 1)) (hN : 10 < N) : ∃ s', fX9_readAt_b53 N s = some s' ∧ MR B loc p s0 s' 15 (rdL B loc p 7 (frm 15) 1) := by
  have hs : s.1 9 0 19 = nI 15 := h.2.2.1
  refine ⟨s, ?_, ?_⟩
  · simp +decide (disch := omega) only [↓reduceIte, hs, fX9_readAt_b53, fX9_readAt_b70, fX9_readAt_b79, fX9_readAt_b84, fX9_readAt_b102, fX9_readAt_b129, fX9_readAt_b134, fX9_readAt_b145, fX9_readAt_b190, fX9_readAt_b195, fX9_readAt_b205, fX9_readAt_b241, fX9_readAt_b246, nm, bd, Option.bind_some, pI1, pI2, pQ1, pQ2, li_0, li_1, li_2, li_3, li_4, li_5, li_6, li_7, li_8, li_9, li_10, li_11, li_12, li_13, li_14, li_15, li_16, li_60, li_64, li_128, li_136, li_144, li_256, li_400, li_500, li_1020, li_1024, nI_neg1, nI_clamp, nI_ltI, nI_leI, nI_eq, nI_add, pk_sub, pk_mul, pk_div, nI_nm1, nI_nm1p, Nat.add_sub_cancel, Nat.add_sub_cancel_left, false_or, or_false, true_or, or_true, not_true_eq_false, not_false_eq_true, and_true, true_and, and_false, false_and, if_true, if_false, if_pos, if_neg]
  · have : rdL B loc p 7 (frm 15) 1 = (0, 1) := by simp [frm, rdL]
    rw [this]; exact h
theorem m_tail {N loc p cd : Nat} {B : Nat → Nat} {s0 s : xSt} (hN : 10 < N) (hB : ∀ k, k < 1024 → B k < 256) (hm : ∀ k, k < 1024 → s0.1 30 1 k = nI (B k)) (hl : loc ≤ 8) (hp : p < 1024) (hc : cd ≤ 15) (h : MR B loc p s0 s cd (0, 1)) :
    ∃ s', fX9_readAt_b53 N s = some s' ∧ MR B loc p s0 s' cd (rdL B loc p 7 (frm cd) 1) := by
  have hcs : cd = 0 ∨ cd = 1 ∨ cd = 2 ∨ cd = 3 ∨ cd = 4 ∨ cd = 5 ∨ cd = 6 ∨ cd = 7 ∨ cd = 8 ∨ cd = 9 ∨ cd = 10 ∨ cd = 11 ∨ cd = 12 ∨ cd = 13 ∨ cd = 14 ∨ cd = 15 := by omega
  rcases hcs with rfl | rfl | rfl | rfl | rfl | rfl | rfl | rfl | rfl | rfl | rfl | rfl | rfl | rfl | rfl | rfl
  · exact m_t0 hB hm hl hp h hN
  · exact m_t1 hB hm hl hp h hN
  · exact m_t2 hB hm hl hp h hN
  · exact m_t3 hB hm hl hp h hN
  · exact m_t4 hB hm hl hp h hN
  · exact m_t5 hB hm hl hp h hN
  · exact m_t6 hB hm hl hp h hN
  · exact m_t7 hB hm hl hp h hN
  · exact m_t8 hB hm hl hp h hN
  · exact m_t9 hB hm hl hp h hN
  · exact m_t10 hB hm hl hp h hN
  · exact m_t11 hB hm hl hp h hN
  · exact m_t12 hB hm hl hp h hN
  · exact m_t13 hB hm hl hp h hN
  · exact m_t14 hB hm hl hp h hN
  · exact m_t15 hB hm hl hp h hN
theorem m_read {N loc p : Nat} {B : Nat → Nat} {s0 : xSt} (hN : 10 < N) (hB : ∀ k, k < 1024 → B k < 256) (hm : ∀ k, k < 1024 → s0.1 30 1 k = nI (B k)) (hl : loc ≤ 8) (hp : p < 3000) : ∃ s', fX9_readAt N (nI p) (nI loc) s0 = some s' ∧ MR B loc p s0 s' (if p < 1024 then B p else 0) (dec B p loc) := by
  by_cases h1 : 1024 ≤ p
  · unfold fX9_readAt fX9_nextByte
    have ed : dec B p loc = (1, 0) := by unfold dec; rw [if_pos h1]
    rw [ed, if_neg (by omega)]
    simp (disch := omega) only [nm, bd, Option.bind_some, pI1, pI2, pQ1, pQ2, li_0, li_1, li_2, li_3, li_4, li_5, li_6, li_7, li_8, li_9, li_10, li_11, li_12, li_13, li_14, li_15, li_16, li_60, li_64, li_128, li_136, li_144, li_256, li_400, li_500, li_1020, li_1024, nI_neg1, nI_clamp, nI_ltI, nI_leI, nI_eq, nI_add, pk_sub, pk_mul, pk_div, nI_nm1, nI_nm1p, Nat.add_sub_cancel, Nat.add_sub_cancel_left, false_or, or_false, true_or, or_true, not_true_eq_false, not_false_eq_true, and_true, true_and, and_false, false_and, if_true, if_false, if_pos, if_neg]
    generalize hs : pI (pI (pI (pI (pI (pI s0 9 0 21 (nI p)) 9 0 20 (nI 0)) 9 0 23 (nI 0)) 9 0 24 (nI loc)) 9 0 20 (nI 1)) 9 0 19 (nI 0) = s
    have hf : MR B loc p s0 s 0 (1, 1) := by
      rw [← hs]
      refine ⟨rfl, fun c i k h1 h2 => ?_, ?_, ?_, ?_, fun h => by simp at h⟩
      · simp only [pI1]
        rw [if_neg (by omega), if_neg (by omega), if_neg (by omega), if_neg (by omega), if_neg (by omega), if_neg (by omega)]
      · simp [pI1]
      · simp [pI1]
      · simp [pI1]
    have hc : s.1 9 0 19 = nI 0 := hf.2.2.1
    obtain ⟨s1, e1, r1⟩ := m_op (N := N) (k := 0) hB hm hl (by omega) hp hf (by simp) (by simp)
    unfold stepK at r1
    rw [if_neg (by simp)] at r1
    have hc1 : s1.1 9 0 19 = nI 0 := r1.2.2.1
    refine ⟨s1, ?_, r1.1, r1.2.1, r1.2.2.1, r1.2.2.2.1, r1.2.2.2.2.1, fun h => by simp at h⟩
    have e1' : fX9_operandOf N (nI 0) s = some s1 := e1
    simp +decide (disch := omega) only [↓reduceIte, hc, e1', hc1, fX9_readAt_b53, fX9_readAt_b70, fX9_readAt_b79, fX9_readAt_b84, fX9_readAt_b102, fX9_readAt_b129, fX9_readAt_b134, fX9_readAt_b145, fX9_readAt_b190, fX9_readAt_b195, fX9_readAt_b205, fX9_readAt_b241, fX9_readAt_b246, nm, bd, Option.bind_some, pI1, pI2, pQ1, pQ2, li_0, li_1, li_2, li_3, li_4, li_5, li_6, li_7, li_8, li_9, li_10, li_11, li_12, li_13, li_14, li_15, li_16, li_60, li_64, li_128, li_136, li_144, li_256, li_400, li_500, li_1020, li_1024, nI_neg1, nI_clamp, nI_ltI, nI_leI, nI_eq, nI_add, pk_sub, pk_mul, pk_div, nI_nm1, nI_nm1p, Nat.add_sub_cancel, Nat.add_sub_cancel_left, false_or, or_false, true_or, or_true, not_true_eq_false, not_false_eq_true, and_true, true_and, and_false, false_and, if_true, if_false, if_pos, if_neg]
  · have hb := hB p (by omega)
    have hmp := hm p (by omega)
    generalize hs : pI (pI (pI (pI (pI (pI s0 9 0 21 (nI p)) 9 0 20 (nI 0)) 9 0 23 (nI 0)) 9 0 24 (nI loc)) 9 0 21 (nI (p + 1))) 9 0 19 (nI (B p)) = s
    have h19 : s.1 9 0 19 = nI (B p) := by rw [← hs]; simp [pI1]
    have h20 : s.1 9 0 20 = nI 0 := by rw [← hs]; simp [pI1]
    have hfr : ∀ c i k, ¬ (c = 9 ∧ i = 0 ∧ (k = 19 ∨ k = 20 ∨ k = 21 ∨ k = 23 ∨ k = 24)) → ¬ (c = 30 ∧ i = 22) → s.1 c i k = s0.1 c i k := fun c i k h1 h2 => by
      rw [← hs]
      simp only [pI1]
      rw [if_neg (by omega), if_neg (by omega), if_neg (by omega), if_neg (by omega), if_neg (by omega), if_neg (by omega)]
    have h24 : s.1 9 0 24 = nI loc := by rw [← hs]; simp [pI1]
    have h21 : s.1 9 0 21 = nI (p + 1) := by rw [← hs]; simp [pI1]
    have h23 : s.1 9 0 23 = nI 0 := by rw [← hs]; simp [pI1]
    have hq : s.2 = s0.2 := by rw [← hs]; rfl
    rw [if_pos (by omega)]
    by_cases h2 : 15 < B p
    · have ed : dec B p loc = (7, 0) := by unfold dec; rw [if_neg h1, if_pos h2]
      rw [ed]
      have hf : MR B loc p s0 (pI s 9 0 20 (nI 7)) (B p) (7, 1) := by
        refine ⟨hq, fun c i k h1 h2 => ?_, ?_, ?_, ?_, fun h => by simp at h⟩
        · rw [pI1, if_neg (by omega)]; exact hfr c i k h1 h2
        · rw [pI1, if_neg (by omega)]; exact h19
        · rw [pI1, if_pos (by omega)]
        · rw [pI1, if_neg (by omega)]; exact h24
      refine ⟨pI s 9 0 20 (nI 7), ?_, hf.1, hf.2.1, hf.2.2.1, hf.2.2.2.1, hf.2.2.2.2.1, fun h => by simp at h⟩
      have h19' : (pI s 9 0 20 (nI 7)).1 9 0 19 = nI (B p) := hf.2.2.1
      generalize hs7 : pI s 9 0 20 (nI 7) = s7 at *
      unfold fX9_readAt fX9_nextByte fX9_readAt_b50 fX9_bad
      simp (disch := omega) only [hmp, hs, h19, h20, nm, bd, Option.bind_some, pI1, pI2, pQ1, pQ2, li_0, li_1, li_2, li_3, li_4, li_5, li_6, li_7, li_8, li_9, li_10, li_11, li_12, li_13, li_14, li_15, li_16, li_60, li_64, li_128, li_136, li_144, li_256, li_400, li_500, li_1020, li_1024, nI_neg1, nI_clamp, nI_ltI, nI_leI, nI_eq, nI_add, pk_sub, pk_mul, pk_div, nI_nm1, nI_nm1p, Nat.add_sub_cancel, Nat.add_sub_cancel_left, false_or, or_false, true_or, or_true, not_true_eq_false, not_false_eq_true, and_true, true_and, and_false, false_and, if_true, if_false, if_pos, if_neg]
      rw [hs7]
      have c1 : ¬ B p < 1 := by omega
      have c2 : ¬ B p ≤ 7 := by omega
      unfold fX9_readAt_b53 fX9_readAt_b70 fX9_readAt_b84
      simp (disch := omega) only [h19', nm, bd, Option.bind_some, pI1, pI2, pQ1, pQ2, li_0, li_1, li_2, li_3, li_4, li_5, li_6, li_7, li_8, li_9, li_10, li_11, li_12, li_13, li_14, li_15, li_16, li_60, li_64, li_128, li_136, li_144, li_256, li_400, li_500, li_1020, li_1024, nI_neg1, nI_clamp, nI_ltI, nI_leI, nI_eq, nI_add, pk_sub, pk_mul, pk_div, nI_nm1, nI_nm1p, Nat.add_sub_cancel, Nat.add_sub_cancel_left, false_or, or_false, true_or, or_true, not_true_eq_false, not_false_eq_true, and_true, true_and, and_false, false_and, if_true, if_false, if_pos, if_neg]
      unfold fX9_readAt_b102 fX9_readAt_b134
      simp (disch := omega) only [h19', nm, bd, Option.bind_some, pI1, pI2, pQ1, pQ2, li_0, li_1, li_2, li_3, li_4, li_5, li_6, li_7, li_8, li_9, li_10, li_11, li_12, li_13, li_14, li_15, li_16, li_60, li_64, li_128, li_136, li_144, li_256, li_400, li_500, li_1020, li_1024, nI_neg1, nI_clamp, nI_ltI, nI_leI, nI_eq, nI_add, pk_sub, pk_mul, pk_div, nI_nm1, nI_nm1p, Nat.add_sub_cancel, Nat.add_sub_cancel_left, false_or, or_false, true_or, or_true, not_true_eq_false, not_false_eq_true, and_true, true_and, and_false, false_and, if_true, if_false, if_pos, if_neg]
      unfold fX9_readAt_b145
      simp (disch := omega) only [h19', nm, bd, Option.bind_some, pI1, pI2, pQ1, pQ2, li_0, li_1, li_2, li_3, li_4, li_5, li_6, li_7, li_8, li_9, li_10, li_11, li_12, li_13, li_14, li_15, li_16, li_60, li_64, li_128, li_136, li_144, li_256, li_400, li_500, li_1020, li_1024, nI_neg1, nI_clamp, nI_ltI, nI_leI, nI_eq, nI_add, pk_sub, pk_mul, pk_div, nI_nm1, nI_nm1p, Nat.add_sub_cancel, Nat.add_sub_cancel_left, false_or, or_false, true_or, or_true, not_true_eq_false, not_false_eq_true, and_true, true_and, and_false, false_and, if_true, if_false, if_pos, if_neg]
      unfold fX9_readAt_b195 fX9_readAt_b205 fX9_readAt_b246
      simp (disch := omega) only [h19', nm, bd, Option.bind_some, pI1, pI2, pQ1, pQ2, li_0, li_1, li_2, li_3, li_4, li_5, li_6, li_7, li_8, li_9, li_10, li_11, li_12, li_13, li_14, li_15, li_16, li_60, li_64, li_128, li_136, li_144, li_256, li_400, li_500, li_1020, li_1024, nI_neg1, nI_clamp, nI_ltI, nI_leI, nI_eq, nI_add, pk_sub, pk_mul, pk_div, nI_nm1, nI_nm1p, Nat.add_sub_cancel, Nat.add_sub_cancel_left, false_or, or_false, true_or, or_true, not_true_eq_false, not_false_eq_true, and_true, true_and, and_false, false_and, if_true, if_false, if_pos, if_neg]
    · have ed : dec B p loc = rdL B loc p 7 (frm (B p)) 1 := by unfold dec; rw [if_neg h1, if_neg h2]
      rw [ed]
      have hf : MR B loc p s0 (pI s 9 0 20 (nI 0)) (B p) (0, 1) := by
        refine ⟨hq, fun c i k h1 h2 => ?_, ?_, ?_, ?_, fun h => ⟨?_, ?_, fun i hi => by simp at hi⟩⟩
        · rw [pI1, if_neg (by omega)]; exact hfr c i k h1 h2
        · rw [pI1, if_neg (by omega)]; exact h19
        · rw [pI1, if_pos (by omega)]
        · rw [pI1, if_neg (by omega)]; exact h24
        · rw [pI1, if_neg (by omega)]; exact h21
        · rw [pI1, if_neg (by omega)]; exact h23
      obtain ⟨s', e, r⟩ := m_tail (N := N) hN hB hm hl (by omega) (by omega) hf
      refine ⟨s', ?_, r⟩
      unfold fX9_readAt fX9_nextByte fX9_readAt_b50 fX9_bad
      simp (disch := omega) only [hmp, hs, h19, h20, nm, bd, Option.bind_some, pI1, pI2, pQ1, pQ2, li_0, li_1, li_2, li_3, li_4, li_5, li_6, li_7, li_8, li_9, li_10, li_11, li_12, li_13, li_14, li_15, li_16, li_60, li_64, li_128, li_136, li_144, li_256, li_400, li_500, li_1020, li_1024, nI_neg1, nI_clamp, nI_ltI, nI_leI, nI_eq, nI_add, pk_sub, pk_mul, pk_div, nI_nm1, nI_nm1p, Nat.add_sub_cancel, Nat.add_sub_cancel_left, false_or, or_false, true_or, or_true, not_true_eq_false, not_false_eq_true, and_true, true_and, and_false, false_and, if_true, if_false, if_pos, if_neg]
      exact e
