theorem feedL {N mo t : Nat} (hN : 30 < N) (w : Int64) {p n : Nat} (hn : n ≤ 8) (hpn : p + n ≤ 1024) : ∀ d i fuel (g : Int32) (sC sM : xSt), i + d = n → d < fuel → Sim mo t sC sM → ∃ r sC' sM', fX8_feed_b33 N mo fuel (nI p) (nI n) w g (nI i) sC = some (r, sC') ∧ fX9_feed_b38 N fuel (nI p) (nI n) w g (nI i) sM = some (r, sM') ∧ Sim mo t sC' sM' := by
  intro d
  induction d with
  | zero =>
    intro i fuel g sC sM h1 h2 h
    obtain ⟨fuel, rfl⟩ : ∃ z, fuel = z + 1 := ⟨fuel - 1, by omega⟩
    refine ⟨g, sC, sM, ?_, ?_, h⟩
    · unfold fX8_feed_b33
      rw [if_pos (nI_le (by omega) (by omega))]
    · unfold fX9_feed_b38
      rw [if_pos (nI_le (by omega) (by omega))]
  | succ d ih =>
    intro i fuel g sC sM h1 h2 h
    obtain ⟨fuel, rfl⟩ : ∃ z, fuel = z + 1 := ⟨fuel - 1, by omega⟩
    have hs : (8 : Int32) * ((nI n - (1 : Int32)) - nI i) = nI (8 * (n - 1 - i)) := by
      rw [li_1, li_8, pk_sub (by omega), pk_sub (by omega), pk_mul]
    obtain ⟨dr, sC1, sM1, e1, e2, e3, e4⟩ := Sim_wr (N := N) (p := p + i) hN (by omega) (fd_bits w (n - 1 - i) (by omega)) h
    obtain ⟨r, sC', sM', f1, f2, f3⟩ := ih (i + 1) fuel (g + dr) sC1 sM1 (by omega) (by omega) e3
    refine ⟨r, sC', sM', ?_, ?_, f3⟩
    · unfold fX8_feed_b33
      rw [if_neg (nI_ge (by omega) (by omega)), hs, nI_add]
      simp only [nm]
      rw [e1]
      simp only [bd]
      rw [nI_1]
      exact f1
    · unfold fX9_feed_b38
      rw [if_neg (nI_ge (by omega) (by omega)), hs, nI_add]
      simp only [nm]
      rw [e2]
      simp only [bd]
      rw [nI_1]
      exact f2
theorem op_feed {N mo t : Nat} {sC sM : xSt} (hN : 30 < N) (h : Sim mo t sC sM) (a b : Int32) (w : Int64) : ∃ r sC' sM', fX8_feed N mo a b w sC = some (r, sC') ∧ fX9_feed N a b w sM = some (r, sM') ∧ Sim mo (t + 1) sC' sM' := by
  have bad : ∃ r sC' sM', some ((-2 : Int32), sC) = some (r, sC') ∧ some ((-2 : Int32), pI sM 9 0 0 0) = some (r, sM') ∧ Sim mo (t + 1) sC' sM' := ⟨_, _, _, rfl, rfl, Sim_mono _ _ _ _ (Sim_0 h)⟩
  unfold fX8_feed fX9_feed
  simp only [nm]
  by_cases c1 : b < 1
  · rw [if_pos c1, if_pos c1]; exact bad
  · rw [if_neg c1, if_neg c1]
    by_cases c2 : (8 : Int32) < b
    · rw [if_pos c2, if_pos c2]; exact bad
    · rw [if_neg c2, if_neg c2]
      by_cases c3 : a < 0
      · rw [if_pos c3, if_pos c3]; exact bad
      · rw [if_neg c3, if_neg c3]
        by_cases c4 : a ≤ (1024 : Int32) - b
        · rw [if_pos c4, if_pos c4]
          have hb0 : ¬ b < 0 := by
            intro z
            apply c1
            rw [Int32.lt_iff_toInt_lt] at z ⊢
            have z0 : (0 : Int32).toInt = 0 := by decide
            have z1 : (1 : Int32).toInt = 1 := by decide
            omega
          obtain ⟨n, hn, rfl⟩ := nI_of hb0
          obtain ⟨p, hp, rfl⟩ := nI_of c3
          rw [li_8, nI_ltI (by omega) (by omega)] at c2
          rw [li_1024, pk_sub (by omega), nI_leI (by omega) (by omega)] at c4
          obtain ⟨r, sC', sM', f1, f2, f3⟩ := feedL (N := N) hN w (p := p) (n := n) (by omega) (by omega) n 0 N (nI 0) sC (pI sM 9 0 0 0) (by omega) (by omega) (Sim_0 h)
          exact ⟨r, sC', sM', f1, f2, Sim_mono _ _ _ _ f3⟩
        · rw [if_neg c4, if_neg c4]; exact bad
theorem op_place {N mo t : Nat} {sC sM : xSt} (h : Sim mo t sC sM) : ∃ r sC' sM', fX8_place N mo sC = some (r, sC') ∧ fX9_place N sM = some (r, sM') ∧ Sim mo (t + 1) sC' sM' := by
  refine ⟨_, _, _, rfl, ?_, Sim_mono _ _ _ _ (Sim_0 (v := 0) h)⟩
  obtain ⟨n, mk, B, h1, h2, h3⟩ := h
  have := h2.2.2.2.2.1.2.2.2
  unfold fX9_place
  simp only [nm]
  rw [pI1, if_neg (by omega), this]
theorem op_result {N mo t : Nat} {sC sM : xSt} (h : Sim mo t sC sM) : ∃ r sC' sM', fX8_result N mo sC = some (r, sC') ∧ fX9_result N sM = some (r, sM') ∧ Sim mo (t + 1) sC' sM' := by
  refine ⟨_, _, _, rfl, ?_, Sim_mono _ _ _ _ (Sim_0 (v := 0) h)⟩
  obtain ⟨n, mk, B, h1, h2, h3, h4, h5⟩ := h
  unfold fX9_result
  simp only [nm]
  rw [pI1, if_neg (by omega), h4]
theorem op_fault {N mo t : Nat} {sC sM : xSt} (h : Sim mo t sC sM) (a : Int32) : ∃ r sC' sM', fX8_fault N mo a sC = some (r, sC') ∧ fX9_fault N a sM = some (r, sM') ∧ Sim mo (t + 1) sC' sM' := by
  have hs := Sim_mono _ _ _ _ (Sim_0 (v := 0) h)
  obtain ⟨n, mk, B, h1, h2, h3, h4, h5, h6, h7⟩ := h
  unfold fX8_fault fX9_fault
  simp only [nm]
  simp (disch := omega) only [if_pos, if_neg, pI1, pI2, pQ1, pQ2, true_and, and_true, false_and, and_false, true_or, or_true, false_or, or_false, if_true, if_false, Nat.reduceEqDiff, and_self, not_true_eq_false, not_false_eq_true]
  rw [h5, h6, h7]
  by_cases c0 : a = 0
  · rw [if_pos c0, if_pos c0]; exact ⟨_, _, _, rfl, rfl, hs⟩
  · rw [if_neg c0, if_neg c0]
    by_cases c1 : a = 1
    · rw [if_pos c1, if_pos c1]; exact ⟨_, _, _, rfl, rfl, hs⟩
    · rw [if_neg c1, if_neg c1]
      by_cases c2 : a = 2
      · rw [if_pos c2, if_pos c2]; exact ⟨_, _, _, rfl, rfl, hs⟩
      · rw [if_neg c2, if_neg c2]; exact ⟨_, _, _, rfl, rfl, hs⟩
theorem op_argument {N mo t : Nat} {sC sM : xSt} (h : Sim mo t sC sM) (a b : Int32) : ∃ r sC' sM', fX8_argument N mo a b sC = some (r, sC') ∧ fX9_argument N a b sM = some (r, sM') ∧ Sim mo (t + 1) sC' sM' := by
  have hs := Sim_mono _ _ _ _ (Sim_0 (v := nI 0) h)
  unfold fX8_argument fX9_argument
  by_cases h0 : a < 0
  · have h0' : a < nI 0 := h0
    simp (disch := omega) only [h0', nm, bd, Option.bind_some, pI1, pI2, pQ1, pQ2, li_0, li_1, li_2, li_3, li_4, li_5, li_6, li_7, li_8, li_9, li_10, li_11, li_12, li_13, li_14, li_15, li_16, li_60, li_64, li_128, li_136, li_144, li_256, li_400, li_500, li_1020, li_1024, nI_neg1, nI_clamp, nI_ltI, nI_leI, nI_eq, nI_add, pk_sub, pk_mul, pk_div, nI_nm1, nI_nm1p, Nat.add_sub_cancel, Nat.add_sub_cancel_left, false_or, or_false, true_or, or_true, not_true_eq_false, not_false_eq_true, and_true, true_and, and_false, false_and, if_true, if_false, if_pos, if_neg]
    exact ⟨_, _, _, rfl, rfl, hs⟩
  · obtain ⟨x, hx, rfl⟩ := nI_of h0
    by_cases h1 : x < 4
    · simp (disch := omega) only [nm, bd, Option.bind_some, pI1, pI2, pQ1, pQ2, li_0, li_1, li_2, li_3, li_4, li_5, li_6, li_7, li_8, li_9, li_10, li_11, li_12, li_13, li_14, li_15, li_16, li_60, li_64, li_128, li_136, li_144, li_256, li_400, li_500, li_1020, li_1024, nI_neg1, nI_clamp, nI_ltI, nI_leI, nI_eq, nI_add, pk_sub, pk_mul, pk_div, nI_nm1, nI_nm1p, Nat.add_sub_cancel, Nat.add_sub_cancel_left, false_or, or_false, true_or, or_true, not_true_eq_false, not_false_eq_true, and_true, true_and, and_false, false_and, if_true, if_false, if_pos, if_neg]
      refine ⟨_, _, _, rfl, rfl, ?_⟩
      obtain ⟨n, mk, B, h1, h2, h3, h4, h5, h6, h7⟩ := hs
      refine ⟨n, mk, B, h1, Cor_oth h2 (fun c i k z => by rw [pI1, if_neg (by omega)]) (fun _ => rfl) (fun c i k z => by rw [pI1, if_neg (by omega)]) ⟨fun k hk => ?_, fun k hk => ?_, fun k hk => ?_, ?_⟩, ?_, ?_, ?_, ?_, ?_⟩
      · rw [pI1, if_neg (by omega), pI1, if_neg (by omega)]; exact h2.2.2.2.2.1.1 k hk
      · by_cases e : k = x
        · rw [pI1, if_pos (by omega), pI1, if_pos (by omega)]
        · rw [pI1, if_neg (by omega), pI1, if_neg (by omega)]; exact h2.2.2.2.2.1.2.1 k hk
      · rw [pI1, if_neg (by omega), pI1, if_neg (by omega)]; exact h2.2.2.2.2.1.2.2.1 k hk
      · rw [pI1, if_neg (by omega), pI1, if_neg (by omega)]; exact h2.2.2.2.2.1.2.2.2
      · rw [pI1, if_neg (by omega), pI1, if_neg (by omega)]; exact h3
      · rw [pI1, if_neg (by omega), pI1, if_neg (by omega)]; exact h4
      · rw [pI1, if_neg (by omega), pI1, if_neg (by omega)]; exact h5
      · rw [pI1, if_neg (by omega), pI1, if_neg (by omega)]; exact h6
      · rw [pI1, if_neg (by omega), pI1, if_neg (by omega)]; exact h7
    · simp (disch := omega) only [nm, bd, Option.bind_some, pI1, pI2, pQ1, pQ2, li_0, li_1, li_2, li_3, li_4, li_5, li_6, li_7, li_8, li_9, li_10, li_11, li_12, li_13, li_14, li_15, li_16, li_60, li_64, li_128, li_136, li_144, li_256, li_400, li_500, li_1020, li_1024, nI_neg1, nI_clamp, nI_ltI, nI_leI, nI_eq, nI_add, pk_sub, pk_mul, pk_div, nI_nm1, nI_nm1p, Nat.add_sub_cancel, Nat.add_sub_cancel_left, false_or, or_false, true_or, or_true, not_true_eq_false, not_false_eq_true, and_true, true_and, and_false, false_and, if_true, if_false, if_pos, if_neg]
      exact ⟨_, _, _, rfl, rfl, hs⟩
abbrev isAd (a : Nat) : Prop := a ≤ 1020 ∧ a % 4 = 0
theorem c_addr {N mo a : Nat} {st : xSt} (ha : a < 2 ^ 31) : fX8_isAddress N mo (nI a) st = some (if isAd a then nI 1 else nI 0, st) := by
  have hr : nI a - nI a / nI 4 * nI 4 = nI (a % 4) := pk_rem ha (by omega) (by omega)
  have hr' : (nI a - nI a / (4 : Int32) * (4 : Int32)) = nI (a % 4) := hr
  unfold fX8_isAddress
  rw [if_neg (nI_pos ha), hr', li_1020]
  by_cases h1 : 1020 < a
  · rw [if_pos (nI_lt h1 ha), if_neg (by omega)]; rfl
  · rw [if_neg (nI_nlt (b := a) (a := 1020) (by omega) (by omega))]
    by_cases h2 : a % 4 = 0
    · rw [if_pos (show nI (a % 4) = 0 by rw [h2]; rfl), if_pos (by omega)]; rfl
    · rw [if_neg (nI_ne0 (by omega) (by omega)), if_neg (by omega)]; rfl
theorem m_addr {N a : Nat} {st : xSt} (ha : a < 2 ^ 31) : fX9_isAddress N (nI a) st = some (if isAd a then nI 1 else nI 0, st) := by
  have hr : nI a - nI a / nI 4 * nI 4 = nI (a % 4) := pk_rem ha (by omega) (by omega)
  have hr' : (nI a - nI a / (4 : Int32) * (4 : Int32)) = nI (a % 4) := hr
  unfold fX9_isAddress
  rw [if_neg (nI_pos ha), hr', li_1024]
  by_cases h1 : 1024 ≤ a
  · rw [if_pos (nI_le h1 ha), if_neg (by omega)]; rfl
  · rw [if_neg (nI_ge (a := a) (b := 1024) (by omega) (by omega))]
    by_cases h2 : a % 4 = 0
    · rw [if_pos (show nI (a % 4) = 0 by rw [h2]; rfl), if_pos (by omega)]; rfl
    · rw [if_neg (nI_ne0 (by omega) (by omega)), if_neg (by omega)]; rfl
theorem c_addrN {N mo : Nat} {a : Int32} {st : xSt} (ha : a < 0) : fX8_isAddress N mo a st = some (nI 0, st) := by
  unfold fX8_isAddress
  rw [if_pos ha]; rfl
theorem m_addrN {N : Nat} {a : Int32} {st : xSt} (ha : a < 0) : fX9_isAddress N a st = some (nI 0, st) := by
  unfold fX9_isAddress
  rw [if_pos ha]; rfl
theorem op_accelerate {N mo t : Nat} {sC sM : xSt} (h : Sim mo t sC sM) (a b : Int32) : ∃ r sC' sM', fX8_accelerate N mo a b sC = some (r, sC') ∧ fX9_accelerate N a b sM = some (r, sM') ∧ Sim mo (t + 1) sC' sM' := by
  have hs := Sim_mono _ _ _ _ (Sim_0 (v := nI 0) h)
  unfold fX8_accelerate fX9_accelerate
  by_cases h0 : a < 0
  · simp (disch := omega) only [c_addrN h0, m_addrN h0, nm, bd, Option.bind_some, pI1, pI2, pQ1, pQ2, li_0, li_1, li_2, li_3, li_4, li_5, li_6, li_7, li_8, li_9, li_10, li_11, li_12, li_13, li_14, li_15, li_16, li_60, li_64, li_128, li_136, li_144, li_256, li_400, li_500, li_1020, li_1024, nI_neg1, nI_clamp, nI_ltI, nI_leI, nI_eq, nI_add, pk_sub, pk_mul, pk_div, nI_nm1, nI_nm1p, Nat.add_sub_cancel, Nat.add_sub_cancel_left, false_or, or_false, true_or, or_true, not_true_eq_false, not_false_eq_true, and_true, true_and, and_false, false_and, if_true, if_false, if_pos, if_neg]
    exact ⟨_, _, _, rfl, rfl, hs⟩
  · obtain ⟨x, hx, rfl⟩ := nI_of h0
    by_cases h1 : isAd x
    · by_cases h2 : b < 0
      · have h2' : b < nI 0 := h2
        simp (disch := omega) only [c_addr hx, m_addr hx, h2', nm, bd, Option.bind_some, pI1, pI2, pQ1, pQ2, li_0, li_1, li_2, li_3, li_4, li_5, li_6, li_7, li_8, li_9, li_10, li_11, li_12, li_13, li_14, li_15, li_16, li_60, li_64, li_128, li_136, li_144, li_256, li_400, li_500, li_1020, li_1024, nI_neg1, nI_clamp, nI_ltI, nI_leI, nI_eq, nI_add, pk_sub, pk_mul, pk_div, nI_nm1, nI_nm1p, Nat.add_sub_cancel, Nat.add_sub_cancel_left, false_or, or_false, true_or, or_true, not_true_eq_false, not_false_eq_true, and_true, true_and, and_false, false_and, if_true, if_false, if_pos, if_neg]
        exact ⟨_, _, _, rfl, rfl, hs⟩
      · obtain ⟨y, hy, rfl⟩ := nI_of h2
        by_cases h3 : y ≤ 4
        · simp (disch := omega) only [c_addr hx, m_addr hx, nm, bd, Option.bind_some, pI1, pI2, pQ1, pQ2, li_0, li_1, li_2, li_3, li_4, li_5, li_6, li_7, li_8, li_9, li_10, li_11, li_12, li_13, li_14, li_15, li_16, li_60, li_64, li_128, li_136, li_144, li_256, li_400, li_500, li_1020, li_1024, nI_neg1, nI_clamp, nI_ltI, nI_leI, nI_eq, nI_add, pk_sub, pk_mul, pk_div, nI_nm1, nI_nm1p, Nat.add_sub_cancel, Nat.add_sub_cancel_left, false_or, or_false, true_or, or_true, not_true_eq_false, not_false_eq_true, and_true, true_and, and_false, false_and, if_true, if_false, if_pos, if_neg]
          have heq : sC.1 20 4 (x / 4) = sM.1 30 4 (x / 4) := by
            obtain ⟨n, mk, B, h1, h2, h3⟩ := h
            exact h2.2.2.2.2.1.2.2.1 _ (by omega)
          refine ⟨_, _, _, rfl, by rw [heq], ?_⟩
          obtain ⟨n, mk, B, h1, h2, h3, h4, h5, h6, h7⟩ := hs
          refine ⟨n, mk, B, h1, Cor_oth h2 (fun c i k z => by rw [pI1, if_neg (by omega)]) (fun _ => rfl) (fun c i k z => by rw [pI1, if_neg (by omega)]) ⟨fun k hk => ?_, fun k hk => ?_, fun k hk => ?_, ?_⟩, ?_, ?_, ?_, ?_, ?_⟩
          · rw [pI1, if_neg (by omega), pI1, if_neg (by omega)]; exact h2.2.2.2.2.1.1 k hk
          · rw [pI1, if_neg (by omega), pI1, if_neg (by omega)]; exact h2.2.2.2.2.1.2.1 k hk
          · by_cases e : k = x / 4
            · rw [pI1, if_pos (by omega), pI1, if_pos (by omega)]
            · rw [pI1, if_neg (by omega), pI1, if_neg (by omega)]; exact h2.2.2.2.2.1.2.2.1 k hk
          · rw [pI1, if_neg (by omega), pI1, if_neg (by omega)]; exact h2.2.2.2.2.1.2.2.2
          · rw [pI1, if_neg (by omega), pI1, if_neg (by omega)]; exact h3
          · rw [pI1, if_neg (by omega), pI1, if_neg (by omega)]; exact h4
          · rw [pI1, if_neg (by omega), pI1, if_neg (by omega)]; exact h5
          · rw [pI1, if_neg (by omega), pI1, if_neg (by omega)]; exact h6
          · rw [pI1, if_neg (by omega), pI1, if_neg (by omega)]; exact h7
        · simp (disch := omega) only [c_addr hx, m_addr hx, nm, bd, Option.bind_some, pI1, pI2, pQ1, pQ2, li_0, li_1, li_2, li_3, li_4, li_5, li_6, li_7, li_8, li_9, li_10, li_11, li_12, li_13, li_14, li_15, li_16, li_60, li_64, li_128, li_136, li_144, li_256, li_400, li_500, li_1020, li_1024, nI_neg1, nI_clamp, nI_ltI, nI_leI, nI_eq, nI_add, pk_sub, pk_mul, pk_div, nI_nm1, nI_nm1p, Nat.add_sub_cancel, Nat.add_sub_cancel_left, false_or, or_false, true_or, or_true, not_true_eq_false, not_false_eq_true, and_true, true_and, and_false, false_and, if_true, if_false, if_pos, if_neg]
          exact ⟨_, _, _, rfl, rfl, hs⟩
    · simp (disch := omega) only [c_addr hx, m_addr hx, nm, bd, Option.bind_some, pI1, pI2, pQ1, pQ2, li_0, li_1, li_2, li_3, li_4, li_5, li_6, li_7, li_8, li_9, li_10, li_11, li_12, li_13, li_14, li_15, li_16, li_60, li_64, li_128, li_136, li_144, li_256, li_400, li_500, li_1020, li_1024, nI_neg1, nI_clamp, nI_ltI, nI_leI, nI_eq, nI_add, pk_sub, pk_mul, pk_div, nI_nm1, nI_nm1p, Nat.add_sub_cancel, Nat.add_sub_cancel_left, false_or, or_false, true_or, or_true, not_true_eq_false, not_false_eq_true, and_true, true_and, and_false, false_and, if_true, if_false, if_pos, if_neg]
      exact ⟨_, _, _, rfl, rfl, hs⟩
theorem op_kept {N mo t : Nat} {sC sM : xSt} (h : Sim mo t sC sM) (a : Int32) : ∃ r sC' sM', fX8_kept N mo a sC = some (r, sC') ∧ fX9_kept N a sM = some (r, sM') ∧ Sim mo (t + 1) sC' sM' := by
  have hs := Sim_mono _ _ _ _ (Sim_0 (v := nI 0) h)
  obtain ⟨n, mk, B, h1, h2, h3⟩ := h
  obtain ⟨⟨s1, s2, s3, s4, s5, s6, s7, s8, s9, s10⟩, _⟩ := h2
  unfold fX8_kept fX9_kept fX7_addressOf fX7_addressOf_b12
  by_cases h0 : a < 0
  · have h0' : a < nI 0 := h0
    simp (disch := omega) only [h0', nm, bd, Option.bind_some, pI1, pI2, pQ1, pQ2, li_0, li_1, li_2, li_3, li_4, li_5, li_6, li_7, li_8, li_9, li_10, li_11, li_12, li_13, li_14, li_15, li_16, li_60, li_64, li_128, li_136, li_144, li_256, li_400, li_500, li_1020, li_1024, nI_neg1, nI_clamp, nI_ltI, nI_leI, nI_eq, nI_add, pk_sub, pk_mul, pk_div, nI_nm1, nI_nm1p, Nat.add_sub_cancel, Nat.add_sub_cancel_left, false_or, or_false, true_or, or_true, not_true_eq_false, not_false_eq_true, and_true, true_and, and_false, false_and, if_true, if_false, if_pos, if_neg]
    exact ⟨_, _, _, rfl, rfl, hs⟩
  · obtain ⟨x, hx, rfl⟩ := nI_of h0
    by_cases h1 : x < n
    · have hmin : min (sC.2 0 x) mo = sC.2 0 x := Nat.min_eq_left (s7 _ (by omega))
      have := (s9 x h1).2.1
      simp (disch := omega) only [s4, s6, hmin, this, nm, bd, Option.bind_some, pI1, pI2, pQ1, pQ2, li_0, li_1, li_2, li_3, li_4, li_5, li_6, li_7, li_8, li_9, li_10, li_11, li_12, li_13, li_14, li_15, li_16, li_60, li_64, li_128, li_136, li_144, li_256, li_400, li_500, li_1020, li_1024, nI_neg1, nI_clamp, nI_ltI, nI_leI, nI_eq, nI_add, pk_sub, pk_mul, pk_div, nI_nm1, nI_nm1p, Nat.add_sub_cancel, Nat.add_sub_cancel_left, false_or, or_false, true_or, or_true, not_true_eq_false, not_false_eq_true, and_true, true_and, and_false, false_and, if_true, if_false, if_pos, if_neg]
      exact ⟨_, _, _, rfl, rfl, hs⟩
    · simp (disch := omega) only [s4, s6, nm, bd, Option.bind_some, pI1, pI2, pQ1, pQ2, li_0, li_1, li_2, li_3, li_4, li_5, li_6, li_7, li_8, li_9, li_10, li_11, li_12, li_13, li_14, li_15, li_16, li_60, li_64, li_128, li_136, li_144, li_256, li_400, li_500, li_1020, li_1024, nI_neg1, nI_clamp, nI_ltI, nI_leI, nI_eq, nI_add, pk_sub, pk_mul, pk_div, nI_nm1, nI_nm1p, Nat.add_sub_cancel, Nat.add_sub_cancel_left, false_or, or_false, true_or, or_true, not_true_eq_false, not_false_eq_true, and_true, true_and, and_false, false_and, if_true, if_false, if_pos, if_neg]
      exact ⟨_, _, _, rfl, rfl, hs⟩
theorem op_drop {N mo t : Nat} {sC sM : xSt} (hN : 30 < N) (h : Sim mo t sC sM) (a : Int32) : ∃ r sC' sM', fX8_drop N mo a sC = some (r, sC') ∧ fX9_drop N a sM = some (r, sM') ∧ Sim mo (t + 1) sC' sM' := by
  have hs := Sim_mono _ _ _ _ (Sim_0 (v := nI 0) h)
  unfold fX8_drop fX9_drop fX9_drop_b15
  by_cases h0 : a < 0
  · have h0' : a < nI 0 := h0
    simp (disch := omega) only [h0', nm, bd, Option.bind_some, pI1, pI2, pQ1, pQ2, li_0, li_1, li_2, li_3, li_4, li_5, li_6, li_7, li_8, li_9, li_10, li_11, li_12, li_13, li_14, li_15, li_16, li_60, li_64, li_128, li_136, li_144, li_256, li_400, li_500, li_1020, li_1024, nI_neg1, nI_clamp, nI_ltI, nI_leI, nI_eq, nI_add, pk_sub, pk_mul, pk_div, nI_nm1, nI_nm1p, Nat.add_sub_cancel, Nat.add_sub_cancel_left, false_or, or_false, true_or, or_true, not_true_eq_false, not_false_eq_true, and_true, true_and, and_false, false_and, if_true, if_false, if_pos, if_neg]
    exact ⟨_, _, _, rfl, rfl, hs⟩
  · obtain ⟨x, hx, rfl⟩ := nI_of h0
    by_cases h1 : x < 16
    · obtain ⟨n, mk, B, h1, ⟨hS, hR, hMm, ⟨c1, c2, c3, c4, c5, c6, c7⟩, ⟨o1, o2, o3, o4⟩, hK⟩, h3, h4, h5, h6, h7⟩ := hs
      obtain ⟨n', sC', sM', e0, e1, e2, e3, e4, e5, e6, e7, e8, e9⟩ := dropped (N := N) (d := 0) (B' := B) (pg := x) hN (by omega) hS hR hK FR_0 (fun _ _ _ => rfl)
      simp (disch := omega) only [e1, e2, nm, bd, Option.bind_some, pI1, pI2, pQ1, pQ2, li_0, li_1, li_2, li_3, li_4, li_5, li_6, li_7, li_8, li_9, li_10, li_11, li_12, li_13, li_14, li_15, li_16, li_60, li_64, li_128, li_136, li_144, li_256, li_400, li_500, li_1020, li_1024, nI_neg1, nI_clamp, nI_ltI, nI_leI, nI_eq, nI_add, pk_sub, pk_mul, pk_div, nI_nm1, nI_nm1p, Nat.add_sub_cancel, Nat.add_sub_cancel_left, false_or, or_false, true_or, or_true, not_true_eq_false, not_false_eq_true, and_true, true_and, and_false, false_and, if_true, if_false, if_pos, if_neg]
      refine ⟨_, _, _, rfl, rfl, n', mk, B, h1, ⟨e3, e4, fun k hk => ?_, ⟨?_, e9 c2, ?_, ?_, ?_, ?_, ?_⟩, ⟨fun k hk => ?_, fun k hk => ?_, fun k hk => ?_, ?_⟩, e5⟩, ?_, ?_, ?_, ?_, ?_⟩
      · rw [e7.1 _ _ _ (by omega) (by omega) (by omega), e8.1 _ _ _ (by omega) (by omega)]; exact hMm k hk
      · rw [e7.1 _ _ _ (by omega) (by omega) (by omega), e8.1 _ _ _ (by omega) (by omega)]; exact c1
      · rw [e7.1 _ _ _ (by omega) (by omega) (by omega), e8.1 _ _ _ (by omega) (by omega)]; exact c3
      · rw [e7.1 _ _ _ (by omega) (by omega) (by omega), e8.1 _ _ _ (by omega) (by omega)]; exact c4
      · rw [e7.1 _ _ _ (by omega) (by omega) (by omega), e8.1 _ _ _ (by omega) (by omega)]; exact c5
      · rw [e7.1 _ _ _ (by omega) (by omega) (by omega), e8.1 _ _ _ (by omega) (by omega)]; exact c6
      · rw [e7.1 _ _ _ (by omega) (by omega) (by omega), e8.1 _ _ _ (by omega) (by omega)]; exact c7
      · rw [e7.1 _ _ _ (by omega) (by omega) (by omega), e8.1 _ _ _ (by omega) (by omega)]; exact o1 k hk
      · rw [e7.1 _ _ _ (by omega) (by omega) (by omega), e8.1 _ _ _ (by omega) (by omega)]; exact o2 k hk
      · rw [e7.1 _ _ _ (by omega) (by omega) (by omega), e8.1 _ _ _ (by omega) (by omega)]; exact o3 k hk
      · rw [e7.1 _ _ _ (by omega) (by omega) (by omega), e8.1 _ _ _ (by omega) (by omega)]; exact o4
      · rw [e7.1 _ _ _ (by omega) (by omega) (by omega), e8.1 _ _ _ (by omega) (by omega)]; exact h3
      · rw [e7.1 _ _ _ (by omega) (by omega) (by omega), e8.1 _ _ _ (by omega) (by omega)]; exact h4
      · rw [e7.1 _ _ _ (by omega) (by omega) (by omega), e8.1 _ _ _ (by omega) (by omega)]; exact h5
      · rw [e7.1 _ _ _ (by omega) (by omega) (by omega), e8.1 _ _ _ (by omega) (by omega)]; exact h6
      · rw [e7.1 _ _ _ (by omega) (by omega) (by omega), e8.1 _ _ _ (by omega) (by omega)]; exact h7
    · simp (disch := omega) only [nm, bd, Option.bind_some, pI1, pI2, pQ1, pQ2, li_0, li_1, li_2, li_3, li_4, li_5, li_6, li_7, li_8, li_9, li_10, li_11, li_12, li_13, li_14, li_15, li_16, li_60, li_64, li_128, li_136, li_144, li_256, li_400, li_500, li_1020, li_1024, nI_neg1, nI_clamp, nI_ltI, nI_leI, nI_eq, nI_add, pk_sub, pk_mul, pk_div, nI_nm1, nI_nm1p, Nat.add_sub_cancel, Nat.add_sub_cancel_left, false_or, or_false, true_or, or_true, not_true_eq_false, not_false_eq_true, and_true, true_and, and_false, false_and, if_true, if_false, if_pos, if_neg]
      exact ⟨_, _, _, rfl, rfl, hs⟩
theorem op_count {N mo t : Nat} {sC sM : xSt} (h : Sim mo t sC sM) (a : Int32) : ∃ r sC' sM', fX8_count N mo a sC = some (r, sC') ∧ fX9_count N a sM = some (r, sM') ∧ Sim mo (t + 1) sC' sM' := by
  have hs := Sim_mono _ _ _ _ (Sim_0 (v := nI 0) h)
  obtain ⟨n, mk, B, h1, ⟨_, _, _, ⟨c1, c2, c3, c4, c5, c6, c7⟩, _⟩, h3, _⟩ := h
  unfold fX8_count fX9_count fX8_count_b10
  by_cases h0 : a < 0
  · have h0' : a < nI 0 := h0
    have ne : ∀ k, k < 8 → ¬ a = nI k := fun k hk e => nI_pos (n := k) (by omega) (by rw [← e]; exact h0)
    have n0 := ne 0 (by omega)
    have n1 := ne 1 (by omega)
    have n2 := ne 2 (by omega)
    have n3 := ne 3 (by omega)
    have n4 := ne 4 (by omega)
    have n5 := ne 5 (by omega)
    have n6 := ne 6 (by omega)
    have n7 := ne 7 (by omega)
    simp (disch := omega) only [h0', n0, n1, n2, n3, n4, n5, n6, n7, nm, bd, Option.bind_some, pI1, pI2, pQ1, pQ2, li_0, li_1, li_2, li_3, li_4, li_5, li_6, li_7, li_8, li_9, li_10, li_11, li_12, li_13, li_14, li_15, li_16, li_60, li_64, li_128, li_136, li_144, li_256, li_400, li_500, li_1020, li_1024, nI_neg1, nI_clamp, nI_ltI, nI_leI, nI_eq, nI_add, pk_sub, pk_mul, pk_div, nI_nm1, nI_nm1p, Nat.add_sub_cancel, Nat.add_sub_cancel_left, false_or, or_false, true_or, or_true, not_true_eq_false, not_false_eq_true, and_true, true_and, and_false, false_and, if_true, if_false, if_pos, if_neg]
    exact ⟨_, _, _, rfl, rfl, hs⟩
  · obtain ⟨x, hx, rfl⟩ := nI_of h0
    by_cases h1 : x < 8
    · have hx8 : x = 0 ∨ x = 1 ∨ x = 2 ∨ x = 3 ∨ x = 4 ∨ x = 5 ∨ x = 6 ∨ x = 7 := by omega
      rcases hx8 with rfl | rfl | rfl | rfl | rfl | rfl | rfl | rfl
      · simp (disch := omega) only [c1, nm, bd, Option.bind_some, pI1, pI2, pQ1, pQ2, li_0, li_1, li_2, li_3, li_4, li_5, li_6, li_7, li_8, li_9, li_10, li_11, li_12, li_13, li_14, li_15, li_16, li_60, li_64, li_128, li_136, li_144, li_256, li_400, li_500, li_1020, li_1024, nI_neg1, nI_clamp, nI_ltI, nI_leI, nI_eq, nI_add, pk_sub, pk_mul, pk_div, nI_nm1, nI_nm1p, Nat.add_sub_cancel, Nat.add_sub_cancel_left, false_or, or_false, true_or, or_true, not_true_eq_false, not_false_eq_true, and_true, true_and, and_false, false_and, if_true, if_false, if_pos, if_neg]
        exact ⟨_, _, _, rfl, rfl, hs⟩
      · simp (disch := omega) only [c2, nm, bd, Option.bind_some, pI1, pI2, pQ1, pQ2, li_0, li_1, li_2, li_3, li_4, li_5, li_6, li_7, li_8, li_9, li_10, li_11, li_12, li_13, li_14, li_15, li_16, li_60, li_64, li_128, li_136, li_144, li_256, li_400, li_500, li_1020, li_1024, nI_neg1, nI_clamp, nI_ltI, nI_leI, nI_eq, nI_add, pk_sub, pk_mul, pk_div, nI_nm1, nI_nm1p, Nat.add_sub_cancel, Nat.add_sub_cancel_left, false_or, or_false, true_or, or_true, not_true_eq_false, not_false_eq_true, and_true, true_and, and_false, false_and, if_true, if_false, if_pos, if_neg]
        exact ⟨_, _, _, rfl, rfl, hs⟩
      · simp (disch := omega) only [c3, nm, bd, Option.bind_some, pI1, pI2, pQ1, pQ2, li_0, li_1, li_2, li_3, li_4, li_5, li_6, li_7, li_8, li_9, li_10, li_11, li_12, li_13, li_14, li_15, li_16, li_60, li_64, li_128, li_136, li_144, li_256, li_400, li_500, li_1020, li_1024, nI_neg1, nI_clamp, nI_ltI, nI_leI, nI_eq, nI_add, pk_sub, pk_mul, pk_div, nI_nm1, nI_nm1p, Nat.add_sub_cancel, Nat.add_sub_cancel_left, false_or, or_false, true_or, or_true, not_true_eq_false, not_false_eq_true, and_true, true_and, and_false, false_and, if_true, if_false, if_pos, if_neg]
        exact ⟨_, _, _, rfl, rfl, hs⟩
      · simp (disch := omega) only [c4, nm, bd, Option.bind_some, pI1, pI2, pQ1, pQ2, li_0, li_1, li_2, li_3, li_4, li_5, li_6, li_7, li_8, li_9, li_10, li_11, li_12, li_13, li_14, li_15, li_16, li_60, li_64, li_128, li_136, li_144, li_256, li_400, li_500, li_1020, li_1024, nI_neg1, nI_clamp, nI_ltI, nI_leI, nI_eq, nI_add, pk_sub, pk_mul, pk_div, nI_nm1, nI_nm1p, Nat.add_sub_cancel, Nat.add_sub_cancel_left, false_or, or_false, true_or, or_true, not_true_eq_false, not_false_eq_true, and_true, true_and, and_false, false_and, if_true, if_false, if_pos, if_neg]
        exact ⟨_, _, _, rfl, rfl, hs⟩
      · simp (disch := omega) only [c5, nm, bd, Option.bind_some, pI1, pI2, pQ1, pQ2, li_0, li_1, li_2, li_3, li_4, li_5, li_6, li_7, li_8, li_9, li_10, li_11, li_12, li_13, li_14, li_15, li_16, li_60, li_64, li_128, li_136, li_144, li_256, li_400, li_500, li_1020, li_1024, nI_neg1, nI_clamp, nI_ltI, nI_leI, nI_eq, nI_add, pk_sub, pk_mul, pk_div, nI_nm1, nI_nm1p, Nat.add_sub_cancel, Nat.add_sub_cancel_left, false_or, or_false, true_or, or_true, not_true_eq_false, not_false_eq_true, and_true, true_and, and_false, false_and, if_true, if_false, if_pos, if_neg]
        exact ⟨_, _, _, rfl, rfl, hs⟩
      · simp (disch := omega) only [c6, nm, bd, Option.bind_some, pI1, pI2, pQ1, pQ2, li_0, li_1, li_2, li_3, li_4, li_5, li_6, li_7, li_8, li_9, li_10, li_11, li_12, li_13, li_14, li_15, li_16, li_60, li_64, li_128, li_136, li_144, li_256, li_400, li_500, li_1020, li_1024, nI_neg1, nI_clamp, nI_ltI, nI_leI, nI_eq, nI_add, pk_sub, pk_mul, pk_div, nI_nm1, nI_nm1p, Nat.add_sub_cancel, Nat.add_sub_cancel_left, false_or, or_false, true_or, or_true, not_true_eq_false, not_false_eq_true, and_true, true_and, and_false, false_and, if_true, if_false, if_pos, if_neg]
        exact ⟨_, _, _, rfl, rfl, hs⟩
      · simp (disch := omega) only [h3, nm, bd, Option.bind_some, pI1, pI2, pQ1, pQ2, li_0, li_1, li_2, li_3, li_4, li_5, li_6, li_7, li_8, li_9, li_10, li_11, li_12, li_13, li_14, li_15, li_16, li_60, li_64, li_128, li_136, li_144, li_256, li_400, li_500, li_1020, li_1024, nI_neg1, nI_clamp, nI_ltI, nI_leI, nI_eq, nI_add, pk_sub, pk_mul, pk_div, nI_nm1, nI_nm1p, Nat.add_sub_cancel, Nat.add_sub_cancel_left, false_or, or_false, true_or, or_true, not_true_eq_false, not_false_eq_true, and_true, true_and, and_false, false_and, if_true, if_false, if_pos, if_neg]
        exact ⟨_, _, _, rfl, rfl, hs⟩
      · simp (disch := omega) only [c7, nm, bd, Option.bind_some, pI1, pI2, pQ1, pQ2, li_0, li_1, li_2, li_3, li_4, li_5, li_6, li_7, li_8, li_9, li_10, li_11, li_12, li_13, li_14, li_15, li_16, li_60, li_64, li_128, li_136, li_144, li_256, li_400, li_500, li_1020, li_1024, nI_neg1, nI_clamp, nI_ltI, nI_leI, nI_eq, nI_add, pk_sub, pk_mul, pk_div, nI_nm1, nI_nm1p, Nat.add_sub_cancel, Nat.add_sub_cancel_left, false_or, or_false, true_or, or_true, not_true_eq_false, not_false_eq_true, and_true, true_and, and_false, false_and, if_true, if_false, if_pos, if_neg]
        exact ⟨_, _, _, rfl, rfl, hs⟩
    · simp (disch := omega) only [nm, bd, Option.bind_some, pI1, pI2, pQ1, pQ2, li_0, li_1, li_2, li_3, li_4, li_5, li_6, li_7, li_8, li_9, li_10, li_11, li_12, li_13, li_14, li_15, li_16, li_60, li_64, li_128, li_136, li_144, li_256, li_400, li_500, li_1020, li_1024, nI_neg1, nI_clamp, nI_ltI, nI_leI, nI_eq, nI_add, pk_sub, pk_mul, pk_div, nI_nm1, nI_nm1p, Nat.add_sub_cancel, Nat.add_sub_cancel_left, false_or, or_false, true_or, or_true, not_true_eq_false, not_false_eq_true, and_true, true_and, and_false, false_and, if_true, if_false, if_pos, if_neg]
      exact ⟨_, _, _, rfl, rfl, hs⟩
