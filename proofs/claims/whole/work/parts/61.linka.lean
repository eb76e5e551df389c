theorem c_col : ∀ N mo c (st : xSt), c ≤ 15 → fX0_columnOfOffset N mo (nI c) st = some (nI (colO c), st) := by
  intro N mo c st h
  have hc : c = 0 ∨ c = 1 ∨ c = 2 ∨ c = 3 ∨ c = 4 ∨ c = 5 ∨ c = 6 ∨ c = 7 ∨ c = 8 ∨ c = 9 ∨ c = 10 ∨ c = 11 ∨ c = 12 ∨ c = 13 ∨ c = 14 ∨ c = 15 := by omega
  rcases hc with rfl | rfl | rfl | rfl | rfl | rfl | rfl | rfl | rfl | rfl | rfl | rfl | rfl | rfl | rfl | rfl <;> rfl
theorem m_205 {N sz k : Nat} {o : Nat → Nat} {st : xSt} {k175 : Int32 → xSt → Option (Int32 × xSt)} (hsz : sz ≤ 60) (hk : k < sz) (h27 : st.1 9 0 27 = nI sz) (ho : ∀ x, x < sz → o x < 2000 ∧ st.1 30 25 x = nI (o x)) : ∀ d i fl fuel, i + d = sz → d < fuel → fl ≤ 1 →
    ((fl = 1 ∨ ∃ x, i ≤ x ∧ x < sz ∧ nI (o x) = st.1 30 26 k) → fX9_failsAt_b205 N k175 fuel (nI k) (nI fl) (nI i) st = k175 (nI (k + 1)) st) ∧ (¬ (fl = 1 ∨ ∃ x, i ≤ x ∧ x < sz ∧ nI (o x) = st.1 30 26 k) → fX9_failsAt_b205 N k175 fuel (nI k) (nI fl) (nI i) st = some (nI (o k), st)) := by
  intro d
  induction d with
  | zero =>
    intro i fl fuel h1 h2 h3
    obtain ⟨fuel, rfl⟩ : ∃ z, fuel = z + 1 := ⟨fuel - 1, by omega⟩
    have ok := (ho k hk).2
    refine ⟨fun h => ?_, fun h => ?_⟩
    · have : fl = 1 := by
        rcases h with h | ⟨x, x1, x2, x3⟩
        · exact h
        · omega
      subst this
      unfold fX9_failsAt_b205
      simp (disch := omega) only [h27, nm, bd, Option.bind_some, pI1, pI2, pQ1, pQ2, li_0, li_1, li_2, li_3, li_4, li_5, li_6, li_7, li_8, li_9, li_10, li_11, li_12, li_13, li_14, li_15, li_16, li_60, li_64, li_128, li_136, li_144, li_256, li_400, li_500, li_1020, li_1024, nI_neg1, nI_clamp, nI_ltI, nI_leI, nI_eq, nI_add, pk_sub, pk_mul, pk_div, nI_nm1, nI_nm1p, Nat.add_sub_cancel, Nat.add_sub_cancel_left, false_or, or_false, true_or, or_true, not_true_eq_false, not_false_eq_true, and_true, true_and, and_false, false_and, if_true, if_false, if_pos, if_neg]
    · have : fl = 0 := by omega
      subst this
      unfold fX9_failsAt_b205
      simp (disch := omega) only [h27, ok, nm, bd, Option.bind_some, pI1, pI2, pQ1, pQ2, li_0, li_1, li_2, li_3, li_4, li_5, li_6, li_7, li_8, li_9, li_10, li_11, li_12, li_13, li_14, li_15, li_16, li_60, li_64, li_128, li_136, li_144, li_256, li_400, li_500, li_1020, li_1024, nI_neg1, nI_clamp, nI_ltI, nI_leI, nI_eq, nI_add, pk_sub, pk_mul, pk_div, nI_nm1, nI_nm1p, Nat.add_sub_cancel, Nat.add_sub_cancel_left, false_or, or_false, true_or, or_true, not_true_eq_false, not_false_eq_true, and_true, true_and, and_false, false_and, if_true, if_false, if_pos, if_neg]
  | succ d ih =>
    intro i fl fuel h1 h2 h3
    obtain ⟨fuel, rfl⟩ : ∃ z, fuel = z + 1 := ⟨fuel - 1, by omega⟩
    obtain ⟨oi1, oi2⟩ := ho i (by omega)
    by_cases hfl : fl = 1
    · subst hfl
      refine ⟨fun h => ?_, fun h => absurd (Or.inl rfl) h⟩
      unfold fX9_failsAt_b205 fX9_failsAt_b236 fX9_failsAt_b241
      simp (disch := omega) only [h27, nm, bd, Option.bind_some, pI1, pI2, pQ1, pQ2, li_0, li_1, li_2, li_3, li_4, li_5, li_6, li_7, li_8, li_9, li_10, li_11, li_12, li_13, li_14, li_15, li_16, li_60, li_64, li_128, li_136, li_144, li_256, li_400, li_500, li_1020, li_1024, nI_neg1, nI_clamp, nI_ltI, nI_leI, nI_eq, nI_add, pk_sub, pk_mul, pk_div, nI_nm1, nI_nm1p, Nat.add_sub_cancel, Nat.add_sub_cancel_left, false_or, or_false, true_or, or_true, not_true_eq_false, not_false_eq_true, and_true, true_and, and_false, false_and, if_true, if_false, if_pos, if_neg]
      exact (ih (i + 1) 1 fuel (by omega) (by omega) (by omega)).1 (Or.inl rfl)
    · have : fl = 0 := by omega
      subst this
      by_cases e : nI (o i) = st.1 30 26 k
      · refine ⟨fun h => ?_, fun h => absurd (Or.inr ⟨i, Nat.le_refl _, by omega, e⟩) h⟩
        unfold fX9_failsAt_b205 fX9_failsAt_b236 fX9_failsAt_b241
        simp (disch := omega) only [h27, oi2, e, nm, bd, Option.bind_some, pI1, pI2, pQ1, pQ2, li_0, li_1, li_2, li_3, li_4, li_5, li_6, li_7, li_8, li_9, li_10, li_11, li_12, li_13, li_14, li_15, li_16, li_60, li_64, li_128, li_136, li_144, li_256, li_400, li_500, li_1020, li_1024, nI_neg1, nI_clamp, nI_ltI, nI_leI, nI_eq, nI_add, pk_sub, pk_mul, pk_div, nI_nm1, nI_nm1p, Nat.add_sub_cancel, Nat.add_sub_cancel_left, false_or, or_false, true_or, or_true, not_true_eq_false, not_false_eq_true, and_true, true_and, and_false, false_and, if_true, if_false, if_pos, if_neg]
        exact (ih (i + 1) 1 fuel (by omega) (by omega) (by omega)).1 (Or.inl rfl)
      · have st0 : fX9_failsAt_b205 N k175 (fuel + 1) (nI k) (nI 0) (nI i) st = fX9_failsAt_b205 N k175 fuel (nI k) (nI 0) (nI (i + 1)) st := by
          rw [fX9_failsAt_b205]
          unfold fX9_failsAt_b236 fX9_failsAt_b241
          simp (disch := omega) only [h27, oi2, e, nm, bd, Option.bind_some, pI1, pI2, pQ1, pQ2, li_0, li_1, li_2, li_3, li_4, li_5, li_6, li_7, li_8, li_9, li_10, li_11, li_12, li_13, li_14, li_15, li_16, li_60, li_64, li_128, li_136, li_144, li_256, li_400, li_500, li_1020, li_1024, nI_neg1, nI_clamp, nI_ltI, nI_leI, nI_eq, nI_add, pk_sub, pk_mul, pk_div, nI_nm1, nI_nm1p, Nat.add_sub_cancel, Nat.add_sub_cancel_left, false_or, or_false, true_or, or_true, not_true_eq_false, not_false_eq_true, and_true, true_and, and_false, false_and, if_true, if_false, if_pos, if_neg]
        rw [st0]
        obtain ⟨y1, y2⟩ := ih (i + 1) 0 fuel (by omega) (by omega) (by omega)
        refine ⟨fun h => y1 ?_, fun h => y2 (fun h' => h ?_)⟩
        · rcases h with h | ⟨x, x1, x2, x3⟩
          · omega
          · refine Or.inr ⟨x, ?_, x2, x3⟩
            have : x ≠ i := fun z => e (by rw [← z]; exact x3)
            omega
        · rcases h' with h' | ⟨x, x1, x2, x3⟩
          · omega
          · exact Or.inr ⟨x, by omega, x2, x3⟩
def LkF (j : Nat) (s0 s : xSt) : Prop := s.2 = s0.2 ∧ ∀ c i k, ¬ (c = 22 ∧ i = j ∧ k % 11 = 10) → s.1 c i k = s0.1 c i k
def LkT (B : Nat → Nat) (a loc sz j r : Nat) (s : xSt) : Prop := ∀ x, x < r → colO (B (a + ofs B a loc x)) ≠ 0 → (∃ y, y < sz ∧ ofs B a loc y = B (a + ofs B a loc x + colO (B (a + ofs B a loc x))) ∧ s.1 22 j (x * 11 + 10) = nI y) ∨ (B (a + ofs B a loc x) = 14 ∧ B (a + ofs B a loc x + 1) = 0)
theorem link_sim {N mo j sz a loc : Nat} {B : Nat → Nat} {sC0 sM : xSt} (hN : 100 < N) (hsz : sz ≤ 60) (hB : ∀ k, k < 1024 → B k < 256) (hc1 : sC0.1 3 j 1 = nI sz)
    (hr : ∀ x, x < sz → (dec B (a + ofs B a loc x) loc).1 = 0 ∧ sC0.1 22 j (x * 11 + 9) = nI (ofs B a loc x) ∧ (∀ k, k < (dec B (a + ofs B a loc x) loc).2 → sC0.1 22 j (x * 11 + k) = nI (B (a + ofs B a loc x + k))))
    (hm27 : sM.1 9 0 27 = nI sz) (hmo : ∀ x, x < sz → sM.1 30 25 x = nI (ofs B a loc x) ∧ sM.1 30 26 x = tgv B (a + ofs B a loc x)) :
    ∀ d r fC fM (sC : xSt), r + d = sz → d < fC → d < fM → LkF j sC0 sC → LkT B a loc sz j r sC →
      ∃ v sC', fX2_linkTargets_b2 N mo fC j (nI r) sC = some (v, sC') ∧ fX9_failsAt_b175 N fM (nI r) sM = some (v, sM) ∧ LkF j sC0 sC' ∧ ((v = -1 ∧ LkT B a loc sz j sz sC') ∨ ∃ q, q < 2000 ∧ v = nI q) := by
  have hofs : ∀ x, x < sz → ofs B a loc x < 2000 := fun x hx => by
    have := (dec_p (B := B) (loc := loc) (p := a + ofs B a loc x)).2.2 (hr x hx).1
    omega
  intro d
  induction d with
  | zero =>
    intro r fC fM sC h1 h2 h3 h4 h5
    obtain ⟨fC, rfl⟩ : ∃ z, fC = z + 1 := ⟨fC - 1, by omega⟩
    obtain ⟨fM, rfl⟩ : ∃ z, fM = z + 1 := ⟨fM - 1, by omega⟩
    have hc : sC.1 3 j 1 = nI sz := by rw [h4.2 _ _ _ (by omega)]; exact hc1
    refine ⟨-1, sC, ?_, ?_, h4, Or.inl ⟨rfl, by rw [show sz = r by omega] at h5 ⊢; exact h5⟩⟩
    · unfold fX2_linkTargets_b2
      rw [hc, if_pos (nI_le (by omega) (by omega))]
    · unfold fX9_failsAt_b175
      rw [hm27, if_pos (nI_le (by omega) (by omega))]
  | succ d ih =>
    intro r fC fM sC h1 h2 h3 h4 h5
    obtain ⟨fC, rfl⟩ : ∃ z, fC = z + 1 := ⟨fC - 1, by omega⟩
    obtain ⟨fM, rfl⟩ : ∃ z, fM = z + 1 := ⟨fM - 1, by omega⟩
    have hc : sC.1 3 j 1 = nI sz := by rw [h4.2 _ _ _ (by omega)]; exact hc1
    obtain ⟨r1, r2, r3⟩ := hr r (by omega)
    obtain ⟨m1, m2⟩ := hmo r (by omega)
    have hd := (dec_p (B := B) (loc := loc) (p := a + ofs B a loc r)).2.2 r1
    have hl := dec_len r1
    obtain ⟨p, ep⟩ : ∃ p, p = a + ofs B a loc r := ⟨_, rfl⟩
    rw [← ep] at r1 r3 m2 hd hl
    have hcode : sC.1 22 j (r * 11) = nI (B p) := by rw [h4.2 _ _ _ (by omega)]; exact r3 0 (by omega)
    have hro : sC.1 22 j (r * 11 + 9) = nI (ofs B a loc r) := by rw [h4.2 _ _ _ (by omega)]; exact r2
    have hcol := c_col N mo (B p) sC (by omega)
    have h205 := fun k175 => m_205 (N := N) (k := r) (o := ofs B a loc) (st := sM) (k175 := k175) hsz (by omega) hm27 (fun x hx => ⟨hofs x hx, (hmo x hx).1⟩) sz 0
    by_cases hz : colO (B p) = 0
    · have ht : tgv B p = -1 := by unfold tgv; rw [if_neg (fun z => z.1 hz)]
      rw [ht] at m2
      obtain ⟨v, sC', e1, e2, e3⟩ := ih (r + 1) fC fM sC (by omega) (by omega) (by omega) h4 (fun x hx hcx => by
        by_cases hxr : x = r
        · rw [hxr, ← ep] at hcx; exact absurd hz hcx
        · exact h5 x (by omega) hcx)
      refine ⟨v, sC', ?_, ?_, e3⟩
      · unfold fX2_linkTargets_b2 fX2_linkTargets_b93
        simp (disch := omega) only [hc, hcode, hcol, hz, nm, bd, Option.bind_some, pI1, pI2, pQ1, pQ2, li_0, li_1, li_2, li_3, li_4, li_5, li_6, li_7, li_8, li_9, li_10, li_11, li_12, li_13, li_14, li_15, li_16, li_60, li_64, li_128, li_136, li_144, li_256, li_400, li_500, li_1020, li_1024, nI_neg1, nI_clamp, nI_ltI, nI_leI, nI_eq, nI_add, pk_sub, pk_mul, pk_div, nI_nm1, nI_nm1p, Nat.add_sub_cancel, Nat.add_sub_cancel_left, false_or, or_false, true_or, or_true, not_true_eq_false, not_false_eq_true, and_true, true_and, and_false, false_and, if_true, if_false, if_pos, if_neg]
        exact e1
      · unfold fX9_failsAt_b175 fX9_failsAt_b200
        simp (disch := omega) only [hm27, m2, nm, bd, Option.bind_some, pI1, pI2, pQ1, pQ2, li_0, li_1, li_2, li_3, li_4, li_5, li_6, li_7, li_8, li_9, li_10, li_11, li_12, li_13, li_14, li_15, li_16, li_60, li_64, li_128, li_136, li_144, li_256, li_400, li_500, li_1020, li_1024, nI_neg1, nI_clamp, nI_ltI, nI_leI, nI_eq, nI_add, pk_sub, pk_mul, pk_div, nI_nm1, nI_nm1p, Nat.add_sub_cancel, Nat.add_sub_cancel_left, false_or, or_false, true_or, or_true, not_true_eq_false, not_false_eq_true, and_true, true_and, and_false, false_and, if_true, if_false, if_pos, if_neg]
        rw [(h205 _ 1 N (by omega) (by omega) (by omega)).1 (Or.inl rfl)]
        exact e2
    · obtain ⟨t, et⟩ : ∃ t, t = B (p + colO (B p)) := ⟨_, rfl⟩
      have ht256 : t < 256 := by rw [et]; exact hB _ (by omega)
      have hcl : colO (B p) ≤ 3 := by rcases colO_c (B p) with z | z | z <;> omega
      have hrt : sC.1 22 j (r * 11 + colO (B p)) = nI t := by rw [h4.2 _ _ _ (by omega), et]; exact r3 _ hl.1
      have hix := c_indexL (N := N) (mo := mo) (j := j) (sz := sz) (t := t) (o := ofs B a loc) (st := sC) hc hsz ht256 (fun x hx => ⟨hofs x hx, by rw [h4.2 _ _ _ (by omega)]; exact (hr x hx).2.1⟩) sz 0 N (by omega) (by omega)
      have hix' : fX2_indexOf N mo j (nI t) sC = fX2_indexOf_b2 N mo N j (nI t) (nI 0) sC := rfl
      -- the next round, once the target is set
      have next : ∀ w : Int32, (∃ y, y < sz ∧ ofs B a loc y = t ∧ w = nI y) ∨ (B p = 14 ∧ B (p + 1) = 0) → ∃ v sC', fX2_linkTargets_b2 N mo fC j (nI (r + 1)) (pI sC 22 j (r * 11 + 10) w) = some (v, sC') ∧ fX9_failsAt_b175 N fM (nI (r + 1)) sM = some (v, sM) ∧ LkF j sC0 sC' ∧ ((v = -1 ∧ LkT B a loc sz j sz sC') ∨ ∃ q, q < 2000 ∧ v = nI q) := by
        intro w hw
        refine ih (r + 1) fC fM _ (by omega) (by omega) (by omega) ⟨h4.1, fun c i k hk => ?_⟩ (fun x hx hcx => ?_)
        · rw [pI1, if_neg (by omega)]; exact h4.2 c i k hk
        · by_cases hxr : x = r
          · subst hxr
            rw [← ep]
            rcases hw with ⟨y, y1, y2, y3⟩ | z
            · refine Or.inl ⟨y, y1, by rw [y2, et], ?_⟩
              rw [pI1, if_pos (by omega)]; exact y3
            · exact Or.inr z
          · rcases h5 x (by omega) hcx with ⟨y, y1, y2, y3⟩ | z
            · refine Or.inl ⟨y, y1, y2, ?_⟩
              rw [pI1, if_neg (by omega)]; exact y3
            · exact Or.inr z
      rcases hix with ⟨y, _, y2, y3, y4⟩ | ⟨y1, y2⟩
      · obtain ⟨v, sC', e1, e2, e3⟩ := next (nI y) (Or.inl ⟨y, y2, y3, rfl⟩)
        refine ⟨v, sC', ?_, ?_, e3⟩
        · unfold fX2_linkTargets_b2 fX2_linkTargets_b82 fX2_linkTargets_b93
          simp (disch := omega) only [hc, hcode, hcol, hrt, hix', y4, nm, bd, Option.bind_some, pI1, pI2, pQ1, pQ2, li_0, li_1, li_2, li_3, li_4, li_5, li_6, li_7, li_8, li_9, li_10, li_11, li_12, li_13, li_14, li_15, li_16, li_60, li_64, li_128, li_136, li_144, li_256, li_400, li_500, li_1020, li_1024, nI_neg1, nI_clamp, nI_ltI, nI_leI, nI_eq, nI_add, pk_sub, pk_mul, pk_div, nI_nm1, nI_nm1p, Nat.add_sub_cancel, Nat.add_sub_cancel_left, false_or, or_false, true_or, or_true, not_true_eq_false, not_false_eq_true, and_true, true_and, and_false, false_and, if_true, if_false, if_pos, if_neg]
          exact e1
        · unfold fX9_failsAt_b175 fX9_failsAt_b200
          by_cases hc0 : B p = 14 ∧ B (p + 1) = 0
          · have ht : tgv B p = -1 := by unfold tgv; rw [if_neg (fun z => z.2 hc0)]
            rw [ht] at m2
            simp (disch := omega) only [hm27, m2, nm, bd, Option.bind_some, pI1, pI2, pQ1, pQ2, li_0, li_1, li_2, li_3, li_4, li_5, li_6, li_7, li_8, li_9, li_10, li_11, li_12, li_13, li_14, li_15, li_16, li_60, li_64, li_128, li_136, li_144, li_256, li_400, li_500, li_1020, li_1024, nI_neg1, nI_clamp, nI_ltI, nI_leI, nI_eq, nI_add, pk_sub, pk_mul, pk_div, nI_nm1, nI_nm1p, Nat.add_sub_cancel, Nat.add_sub_cancel_left, false_or, or_false, true_or, or_true, not_true_eq_false, not_false_eq_true, and_true, true_and, and_false, false_and, if_true, if_false, if_pos, if_neg]
            rw [(h205 _ 1 N (by omega) (by omega) (by omega)).1 (Or.inl rfl)]
            exact e2
          · have ht : tgv B p = nI t := by unfold tgv; rw [if_pos ⟨hz, hc0⟩, et]
            rw [ht] at m2
            simp (disch := omega) only [hm27, m2, nm, bd, Option.bind_some, pI1, pI2, pQ1, pQ2, li_0, li_1, li_2, li_3, li_4, li_5, li_6, li_7, li_8, li_9, li_10, li_11, li_12, li_13, li_14, li_15, li_16, li_60, li_64, li_128, li_136, li_144, li_256, li_400, li_500, li_1020, li_1024, nI_neg1, nI_clamp, nI_ltI, nI_leI, nI_eq, nI_add, pk_sub, pk_mul, pk_div, nI_nm1, nI_nm1p, Nat.add_sub_cancel, Nat.add_sub_cancel_left, false_or, or_false, true_or, or_true, not_true_eq_false, not_false_eq_true, and_true, true_and, and_false, false_and, if_true, if_false, if_pos, if_neg]
            rw [(h205 _ 0 N (by omega) (by omega) (by omega)).1 (Or.inr ⟨y, by omega, y2, by rw [m2, y3]⟩)]
            exact e2
      · by_cases hc0 : B p = 14 ∧ B (p + 1) = 0
        · have ht : tgv B p = -1 := by unfold tgv; rw [if_neg (fun z => z.2 hc0)]
          rw [ht] at m2
          have hcc : colO (B p) = 1 := by rw [hc0.1]; rfl
          have ht0 : t = 0 := by rw [et, hcc]; exact hc0.2
          obtain ⟨v, sC', e1, e2, e3⟩ := next (-1) (Or.inr hc0)
          refine ⟨v, sC', ?_, ?_, e3⟩
          · have hb14 : B p = 14 := hc0.1
            rw [hcc] at hcol hrt
            unfold fX2_linkTargets_b2 fX2_linkTargets_b82 fX2_linkTargets_b93
            simp (disch := omega) only [hc, hcode, hcol, hrt, hix', y2, nm, bd, Option.bind_some, pI1, pI2, pQ1, pQ2, li_0, li_1, li_2, li_3, li_4, li_5, li_6, li_7, li_8, li_9, li_10, li_11, li_12, li_13, li_14, li_15, li_16, li_60, li_64, li_128, li_136, li_144, li_256, li_400, li_500, li_1020, li_1024, nI_neg1, nI_clamp, nI_ltI, nI_leI, nI_eq, nI_add, pk_sub, pk_mul, pk_div, nI_nm1, nI_nm1p, Nat.add_sub_cancel, Nat.add_sub_cancel_left, false_or, or_false, true_or, or_true, not_true_eq_false, not_false_eq_true, and_true, true_and, and_false, false_and, if_true, if_false, if_pos, if_neg]
            exact e1
          · unfold fX9_failsAt_b175 fX9_failsAt_b200
            simp (disch := omega) only [hm27, m2, nm, bd, Option.bind_some, pI1, pI2, pQ1, pQ2, li_0, li_1, li_2, li_3, li_4, li_5, li_6, li_7, li_8, li_9, li_10, li_11, li_12, li_13, li_14, li_15, li_16, li_60, li_64, li_128, li_136, li_144, li_256, li_400, li_500, li_1020, li_1024, nI_neg1, nI_clamp, nI_ltI, nI_leI, nI_eq, nI_add, pk_sub, pk_mul, pk_div, nI_nm1, nI_nm1p, Nat.add_sub_cancel, Nat.add_sub_cancel_left, false_or, or_false, true_or, or_true, not_true_eq_false, not_false_eq_true, and_true, true_and, and_false, false_and, if_true, if_false, if_pos, if_neg]
            rw [(h205 _ 1 N (by omega) (by omega) (by omega)).1 (Or.inl rfl)]
            exact e2
        · have ht : tgv B p = nI t := by unfold tgv; rw [if_pos ⟨hz, hc0⟩, et]
          rw [ht] at m2
          refine ⟨nI (ofs B a loc r), sC, ?_, ?_, h4, Or.inr ⟨_, hofs r (by omega), rfl⟩⟩
          · have hno : ¬ (B p = 14 ∧ t = 0) := by
              intro z
              have hcc : colO (B p) = 1 := by rw [z.1]; rfl
              rw [hcc] at et
              exact hc0 ⟨z.1, by omega⟩
            unfold fX2_linkTargets_b2 fX2_linkTargets_b72
            by_cases h14 : B p = 14
            · simp (disch := omega) only [hc, hcode, hcol, hrt, hix', y2, hro, nm, bd, Option.bind_some, pI1, pI2, pQ1, pQ2, li_0, li_1, li_2, li_3, li_4, li_5, li_6, li_7, li_8, li_9, li_10, li_11, li_12, li_13, li_14, li_15, li_16, li_60, li_64, li_128, li_136, li_144, li_256, li_400, li_500, li_1020, li_1024, nI_neg1, nI_clamp, nI_ltI, nI_leI, nI_eq, nI_add, pk_sub, pk_mul, pk_div, nI_nm1, nI_nm1p, Nat.add_sub_cancel, Nat.add_sub_cancel_left, false_or, or_false, true_or, or_true, not_true_eq_false, not_false_eq_true, and_true, true_and, and_false, false_and, if_true, if_false, if_pos, if_neg]
            · simp (disch := omega) only [hc, hcode, hcol, hrt, hix', y2, hro, nm, bd, Option.bind_some, pI1, pI2, pQ1, pQ2, li_0, li_1, li_2, li_3, li_4, li_5, li_6, li_7, li_8, li_9, li_10, li_11, li_12, li_13, li_14, li_15, li_16, li_60, li_64, li_128, li_136, li_144, li_256, li_400, li_500, li_1020, li_1024, nI_neg1, nI_clamp, nI_ltI, nI_leI, nI_eq, nI_add, pk_sub, pk_mul, pk_div, nI_nm1, nI_nm1p, Nat.add_sub_cancel, Nat.add_sub_cancel_left, false_or, or_false, true_or, or_true, not_true_eq_false, not_false_eq_true, and_true, true_and, and_false, false_and, if_true, if_false, if_pos, if_neg]
          · unfold fX9_failsAt_b175 fX9_failsAt_b200
            simp (disch := omega) only [hm27, m2, nm, bd, Option.bind_some, pI1, pI2, pQ1, pQ2, li_0, li_1, li_2, li_3, li_4, li_5, li_6, li_7, li_8, li_9, li_10, li_11, li_12, li_13, li_14, li_15, li_16, li_60, li_64, li_128, li_136, li_144, li_256, li_400, li_500, li_1020, li_1024, nI_neg1, nI_clamp, nI_ltI, nI_leI, nI_eq, nI_add, pk_sub, pk_mul, pk_div, nI_nm1, nI_nm1p, Nat.add_sub_cancel, Nat.add_sub_cancel_left, false_or, or_false, true_or, or_true, not_true_eq_false, not_false_eq_true, and_true, true_and, and_false, false_and, if_true, if_false, if_pos, if_neg]
            rw [(h205 _ 0 N (by omega) (by omega) (by omega)).2 ?_]
            intro z
            rcases z with z | ⟨x, x1, x2, x3⟩
            · omega
            · rw [m2, nI_eq (by have := hofs x x2; omega) (by omega)] at x3
              exact y1 x (by omega) x2 x3
