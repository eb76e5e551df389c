/-! The relation between the two, and writing. -/
def colO (c : Nat) : Nat := if c = 9 ∨ c = 14 then 1 else if c = 10 ∨ c = 11 then 3 else 0
/-- a made routine as it lies in its rows -/
def Rw (B : Nat → Nat) (s32 : Int32) (rows : Nat → Int32) (a e : Nat) : Prop := a ≤ 1020 ∧ B a ≤ 8 ∧ e < 1024 ∧ a ≤ e ∧ ∃ (sz : Nat) (o : Nat → Nat), s32 = nI sz ∧ 1 ≤ sz ∧ sz ≤ 60 ∧ o 0 = 1 ∧ a + o (sz - 1) = e ∧
  ∀ r, r < sz → rows (r * 11 + 9) = nI (o r) ∧ a + o r ≤ e ∧ (dec B (a + o r) (B a)).1 = 0 ∧ rows (r * 11 + 8) = nI (dec B (a + o r) (B a)).2 ∧ (∀ i, i < (dec B (a + o r) (B a)).2 → rows (r * 11 + i) = nI (B (a + o r + i))) ∧ a + o r + (dec B (a + o r) (B a)).2 ≤ e + 1 ∧ (B (a + o r) ≠ 15 → r + 1 < sz ∧ o (r + 1) = o r + (dec B (a + o r) (B a)).2) ∧
    (colO (B (a + o r)) ≠ 0 → (∃ x, x < sz ∧ o x = B (a + o r + colO (B (a + o r))) ∧ rows (r * 11 + 10) = nI x) ∨ (B (a + o r) = 14 ∧ B (a + o r + 1) = 0))
theorem rdL_loc {B B' : Nat → Nat} {loc p : Nat} : ∀ d f len, (∀ k, p + len ≤ k → k < p + (rdL B loc p d f len).2 → B' k = B k) → (rdL B loc p d f len).1 = 0 → rdL B' loc p d f len = rdL B loc p d f len := by
  intro d
  induction d with
  | zero => intro f len h h0; rfl
  | succ d ih =>
    intro f len h h0
    rw [rdL] at h0 h ⊢
    rw [rdL]
    by_cases h1 : f = 0
    · rw [if_pos h1, if_pos h1]
    · rw [if_neg h1] at h0 h ⊢
      rw [if_neg h1]
      by_cases h2 : 1024 ≤ p + len
      · rw [if_pos h2] at h0; simp at h0
      · rw [if_neg h2] at h0 h ⊢
        rw [if_neg h2]
        by_cases h3 : okK loc (f % 16) (B (p + len))
        · rw [if_pos h3] at h0 h
          by_cases h8 : len + 1 + d ≤ 8 ∨ True
          · have hge : ∀ d f len, len ≤ (rdL B loc p d f len).2 := by
              intro d
              induction d with
              | zero => intro f len; simp [rdL]
              | succ d ih =>
                intro f len
                unfold rdL
                split
                · simp
                · split
                  · simp
                  · split
                    · exact Nat.le_trans (Nat.le_succ _) (ih _ _)
                    · simp
            have hb : B' (p + len) = B (p + len) := h _ (Nat.le_refl _) (by have := hge d (if f % 16 = 4 then 4369 / 16 ^ (4 - B (p + len)) else f / 16) (len + 1); omega)
            rw [hb, if_pos h3, if_pos h3]
            exact ih _ _ (fun k k1 k2 => h k (by omega) k2) h0
          · exact absurd (Or.inr trivial) h8
        · rw [if_neg h3] at h0; simp at h0
theorem dec_loc {B B' : Nat → Nat} {loc p : Nat} (h : ∀ k, p ≤ k → k < p + (dec B p loc).2 → B' k = B k) (h0 : (dec B p loc).1 = 0) : dec B' p loc = dec B p loc := by
  have hp := (dec_p (B := B) (loc := loc) (p := p)).2.2 h0
  have hb : B' p = B p := h p (Nat.le_refl _) (by omega)
  unfold dec at h h0 ⊢
  rw [hb]
  by_cases h1 : 1024 ≤ p
  · rw [if_pos h1, if_pos h1]
  · rw [if_neg h1] at h0 h ⊢
    rw [if_neg h1]
    by_cases h2 : 15 < B p
    · rw [if_pos h2, if_pos h2]
    · rw [if_neg h2] at h0 h ⊢
      rw [if_neg h2]
      exact rdL_loc _ _ _ (fun k k1 k2 => h k (by omega) k2) h0
theorem Rw_loc {B B' : Nat → Nat} {s32 : Int32} {rows : Nat → Int32} {a e : Nat} (h : Rw B s32 rows a e) (hB : ∀ k, a ≤ k → k ≤ e → B' k = B k) : Rw B' s32 rows a e := by
  obtain ⟨h1, h2, h3, h4, sz, o, g1, g2, g3, g4, g5, g6⟩ := h
  have ha : B' a = B a := hB a (Nat.le_refl _) h4
  refine ⟨h1, by rw [ha]; exact h2, h3, h4, sz, o, g1, g2, g3, g4, g5, fun r hr => ?_⟩
  obtain ⟨r1, r2, r3, r4, r5, r6, r7, r8⟩ := g6 r hr
  have hd := (dec_p (B := B) (loc := B a) (p := a + o r)).2.2 r3
  have ed : dec B' (a + o r) (B' a) = dec B (a + o r) (B a) := by
    rw [ha]
    exact dec_loc (fun k k1 k2 => hB k (by omega) (by omega)) r3
  have hc : B' (a + o r) = B (a + o r) := hB _ (by omega) (by omega)
  rw [ed, hc]
  refine ⟨r1, r2, r3, r4, fun i hi => ?_, r6, r7, fun h9 => ?_⟩
  · rw [hB _ (by omega) (by omega)]; exact r5 i hi
  · have hlen : colO (B (a + o r)) < (dec B (a + o r) (B a)).2 := by
      have hdec : ∀ c, c = B (a + o r) → c = 9 ∨ c = 14 ∨ c = 10 ∨ c = 11 → colO c < (dec B (a + o r) (B a)).2 := by
        intro c hc hcc
        have e1 : dec B (a + o r) (B a) = rdL B (B a) (a + o r) 7 (frm c) 1 := by
          unfold dec
          rw [if_neg (by omega), if_neg (by omega), hc]
        rw [e1] at r3 ⊢
        have one : ∀ k, stepK B (B a) (a + o r) k (0, 1) = stepK B (B a) (a + o r) k (0, 1) := fun _ => rfl
        rcases hcc with rfl | rfl | rfl | rfl
        · have e2 : rdL B (B a) (a + o r) 7 (frm 9) 1 = _ := (show rdL B (B a) (a + o r) 7 3 1 = rdS B (B a) (a + o r) 7 3 (0, 1) from rfl).trans ((rdS_k 3 0 (by omega) (by omega) (by omega)).trans rdS_0)
          rw [e2] at r3 ⊢
          rw [(stepK_0 r3).2.2.2]; decide
        · have e2 : rdL B (B a) (a + o r) 7 (frm 14) 1 = _ := (show rdL B (B a) (a + o r) 7 3 1 = rdS B (B a) (a + o r) 7 3 (0, 1) from rfl).trans ((rdS_k 3 0 (by omega) (by omega) (by omega)).trans rdS_0)
          rw [e2] at r3 ⊢
          rw [(stepK_0 r3).2.2.2]; decide
        · have e2 : rdL B (B a) (a + o r) 7 (frm 10) 1 = _ := (show rdL B (B a) (a + o r) 7 785 1 = rdS B (B a) (a + o r) 7 785 (0, 1) from rfl).trans ((rdS_k 1 49 (by omega) (by omega) (by omega)).trans ((rdS_k 1 3 (by omega) (by omega) (by omega)).trans ((rdS_k 3 0 (by omega) (by omega) (by omega)).trans rdS_0)))
          rw [e2] at r3 ⊢
          have q := stepK_0 r3
          have q2 := stepK_0 q.1
          have q3 := stepK_0 q2.1
          rw [q.2.2.2, q2.2.2.2, q3.2.2.2]; decide
        · have e2 : rdL B (B a) (a + o r) 7 (frm 11) 1 = _ := (show rdL B (B a) (a + o r) 7 785 1 = rdS B (B a) (a + o r) 7 785 (0, 1) from rfl).trans ((rdS_k 1 49 (by omega) (by omega) (by omega)).trans ((rdS_k 1 3 (by omega) (by omega) (by omega)).trans ((rdS_k 3 0 (by omega) (by omega) (by omega)).trans rdS_0)))
          rw [e2] at r3 ⊢
          have q := stepK_0 r3
          have q2 := stepK_0 q.1
          have q3 := stepK_0 q2.1
          rw [q.2.2.2, q2.2.2.2, q3.2.2.2]; decide
      refine hdec _ rfl ?_
      unfold colO at h9
      split at h9
      · omega
      · split at h9
        · omega
        · omega
    rw [hB (a + o r + colO (B (a + o r))) (by omega) (by omega)]
    rcases r8 h9 with z | ⟨z1, z2⟩
    · exact Or.inl z
    · refine Or.inr ⟨z1, ?_⟩
      rw [hB _ (by omega) (by rw [z1] at hlen; unfold colO at hlen; simp at hlen; omega)]
      exact z2
