/-! MadeCalls(most) -/
abbrev rm_X8_init : Room := { frames := 3, cells := 81, slots := 15570, locals := 57 }
def xEq (e e' : va_E) : Prop := ∀ (D : va_G) (a : Nat) (H : Heap), va_at D vwCl (a, e) H → va_at D vwCl (a, e') H
theorem xEq.of {e e' : va_E} (h : e = e') : xEq e e' := fun D a H z => by rw [← h]; exact z
theorem arrV_congr {cA : ClassId} {n : Nat} {f g : Nat → Value} (h : ∀ j, j < n → f j = g j) : arrV cA n f = arrV cA n g := by
  unfold arrV
  have : (fun j : Fin n => f j.val) = (fun j : Fin n => g j.val) := funext (fun j => h j.val j.isLt)
  rw [this]
theorem xEq.arr {cA : ClassId} {n : Nat} {f g : Nat → Option Nat} (h : ∀ j, j < n → f j = g j) : xEq (.inl (cA, n, .inr (.inr (.inr (.inr f))))) (.inl (cA, n, .inr (.inr (.inr (.inr g))))) := by
  intro D a H z
  have hz : H[a]? = some (vp_cell cA (n, .inr (.inr (.inr (.inr f))))) := z
  show H[a]? = some (vp_cell cA (n, .inr (.inr (.inr (.inr g)))))
  rw [hz, vp_cell_q, vp_cell_q, arrV_congr (fun j hj => by rw [h j hj])]
theorem VC_all (mo c i : Nat) : (((c = 8 ∧ i = 0) ∨ (c = 20 ∧ i < 4) ∨ (c = 7 ∧ i = 0) ∨ (c = 24 ∧ i = 0) ∨ ((c = 3 ∨ c = 22) ∧ i ≤ mo) ∨ (c = 4 ∧ i = 0) ∨ (c = 6 ∧ i = 0)) ∨ (c = 5 ∧ i = 0) ∨ (c = 20 ∧ i = 4) ∨ (c = 23 ∧ i = 0) ∨ (c = 20 ∧ i = 5) ∨ (c = 20 ∧ i = 6) ∨ ((c = 2 ∨ c = 21) ∧ i < 12)) ↔ VC mo c i := by
  constructor
  · rintro ((⟨rfl, h⟩ | ⟨rfl, h⟩ | ⟨rfl, h⟩ | ⟨rfl, h⟩ | ⟨rfl | rfl, h⟩ | ⟨rfl, h⟩ | ⟨rfl, h⟩) | ⟨rfl, h⟩ | ⟨rfl, h⟩ | ⟨rfl, h⟩ | ⟨rfl, h⟩ | ⟨rfl, h⟩ | ⟨rfl | rfl, h⟩)
    · exact h
    · exact (by omega : i < 7)
    · exact h
    · exact h
    · exact h
    · exact h
    · exact h
    · exact h
    · exact h
    · exact (by omega : i < 7)
    · exact h
    · exact (by omega : i < 7)
    · exact (by omega : i < 7)
    · exact h
    · exact h
  · intro h
    unfold VC at h
    split at h
    · exact Or.inr (Or.inr (Or.inr (Or.inr (Or.inr (Or.inr ⟨Or.inl rfl, h⟩)))))
    · exact Or.inl (Or.inr (Or.inr (Or.inr (Or.inr (Or.inl ⟨Or.inl rfl, h⟩)))))
    · exact Or.inl (Or.inr (Or.inr (Or.inr (Or.inr (Or.inr (Or.inl ⟨rfl, h⟩))))))
    · exact Or.inr (Or.inl ⟨rfl, h⟩)
    · exact Or.inl (Or.inr (Or.inr (Or.inr (Or.inr (Or.inr (Or.inr ⟨rfl, h⟩))))))
    · exact Or.inl (Or.inr (Or.inr (Or.inl ⟨rfl, h⟩)))
    · exact Or.inl (Or.inl ⟨rfl, h⟩)
    · rcases (show i < 4 ∨ i = 4 ∨ i = 5 ∨ i = 6 by omega) with z | z | z | z
      · exact Or.inl (Or.inr (Or.inl ⟨rfl, z⟩))
      · exact Or.inr (Or.inr (Or.inl ⟨rfl, z⟩))
      · exact Or.inr (Or.inr (Or.inr (Or.inr (Or.inl ⟨rfl, z⟩))))
      · exact Or.inr (Or.inr (Or.inr (Or.inr (Or.inr (Or.inl ⟨rfl, z⟩)))))
    · exact Or.inr (Or.inr (Or.inr (Or.inr (Or.inr (Or.inr ⟨Or.inr rfl, h⟩)))))
    · exact Or.inl (Or.inr (Or.inr (Or.inr (Or.inr (Or.inl ⟨Or.inr rfl, h⟩)))))
    · exact Or.inr (Or.inr (Or.inr (Or.inl ⟨rfl, h⟩)))
    · exact Or.inl (Or.inr (Or.inr (Or.inr (Or.inl ⟨rfl, h⟩))))
    · exact absurd h id
def c0St (mo : Nat) : xSt := (fun c _ k => if c = 7 then (if k = 0 then nI mo else 0) else if c = 8 then (if k = 6 then -1 else 0) else if c = 5 then (if k = 2 ∨ k = 3 then -1 else 0) else 0, fun a k => if a = 0 then k else 0)
def iMC (cyI cyF cyM : ClassId) (mo : Nat) (a0 : Nat) (V' : Nat → Nat → Prop) (la' : Nat → Nat → Nat) (E' : xEn) : Prop := (∀ c i, V' c i ↔ VC mo c i) ∧ la' 8 0 = a0 ∧ ∀ c i, VC mo c i → xEq (E' c i) (ECf cyI cyF cyM mo la' ((c0St mo).1 c i) (c0St mo).2 c i)
theorem clamp_mo (mv : Int32) : ∃ mo : Nat, mo ≤ 20 ∧ nI mo = (if mv < 0 then 0 else if mv ≤ 20 then mv else 20) ∧ (if (0 : Int32) < (if mv < 20 then mv else 20) then (if mv < 20 then mv else 20) else 0) = nI mo := by
  rcases pk_ix mv (n := 21) (by decide) with h | h | ⟨j, hj, rfl⟩
  · refine ⟨0, by decide, by rw [if_pos h]; rfl, ?_⟩
    have h20 : mv < 20 := Int32.lt_trans h (by decide)
    rw [if_pos h20, if_neg (fun z => Int32.lt_irrefl (Int32.lt_trans z h))]
    rfl
  · have h21 : (21 : Int32) ≤ mv := h
    have hn : ¬ mv < 0 := fun z => Int32.lt_irrefl (Int32.lt_of_le_of_lt h21 (Int32.lt_trans z (by decide)))
    have hn2 : ¬ mv ≤ 20 := fun z => absurd (Int32.le_trans h21 z) (by decide)
    have hn3 : ¬ mv < 20 := fun z => hn2 (Int32.le_of_lt z)
    exact ⟨20, by decide, by rw [if_neg hn, if_neg hn2]; rfl, by rw [if_neg hn3]; rfl⟩
  · refine ⟨j, by omega, ?_, ?_⟩
    · have h0 : ¬ nI j < 0 := nI_pos (by omega)
      have h1 : nI j ≤ 20 := nI_le (b := 20) (by omega) (by decide)
      rw [if_neg h0, if_pos h1]
    · by_cases h20 : j = 20
      · subst h20; rfl
      · have h1 : nI j < 20 := nI_lt (b := 20) (by omega) (by decide)
        rw [if_pos h1]
        by_cases hz : j = 0
        · subst hz; rfl
        · have : (0 : Int32) < nI j := nI_lt (a := 0) (by omega) (by omega)
          rw [if_pos this]
set_option maxHeartbeats 8000000 in
set_option maxRecDepth 100000 in
theorem TX8_init (l : Launch) {D : va_G} {cyI cyF cyM : ClassId} {sz0 mo : Nat} {mv : Int32} {V : Nat → Nat → Prop} {la : Nat → Nat → Nat} {E : xEn} (a0 : Nat) (hmo : mo ≤ 20) (hmv : (if (0 : Int32) < (if mv < 20 then mv else 20) then (if mv < 20 then mv else 20) else 0) = nI mo) (hV : ∀ c i, V c i ↔ c = 8 ∧ i = 0) (ha0 : la 8 0 = a0) (hE : E 8 0 = .inr (8, [.null, .null, .null, .null, .null, .null, .int 0])) :
    MetI D cyI cyF cyM sz0 l yX8_init (Cond.code yX8_init cX8_init 2 none :: xALL) rm_X8_init [.ref a0, .int mv] V la E (iMC cyI cyF cyM mo a0) := by
  refine MetI.intro (own := RX8) (by decide) rfl (Nat.le_of_ble_eq_true rfl) rfl ?_
  intro p e s m below meth c X hN ls hl
  have hx := X.1.1
  have hb := X.1.2.1
  have hS : va_S (fun q => sz0 ≤ q) s.heap s.heap [] := va_S.rf
  have hV8 : V 8 0 := (hV 8 0).mpr ⟨rfl, rfl⟩
  replace hl : lv_has ls 2 [(0, .ref a0), (1, .int mv)] := hl
  refine lv_aload_n hx hb dX8_init_0 rfl (lv_at hl 0 rfl) ?_
  refine i_obj X mo_X8_1 hl.1 (Nat.le_of_ble_eq_true rfl) (by decide) dX8_init_1 ?_
  refine lv_aload_n hx hb dX8_init_4 rfl (lv_at hl 0 rfl) ?_
  refine lv_bipush (v := 8) hx hb dX8_init_5 (by decide) ?_
  refine i_newi X hN hS 20 0 (by simp [hV]) 8 (by decide) (by decide) (by decide) (by decide) (by decide) dX8_init_7 (fun b0 H ea hN hS => ?_)
  refine i_put X hN hS (c0 := 8) (i0 := 0) (Or.inl hV8) ha0 hE rfl la_X8 tyX8 tyX8_ok nmX8 0 (by decide) fl_X8_9 rfl (ty := .array .int) (by decide +kernel) rfl rfl (Nat.le_of_ble_eq_true rfl) dX8_init_9 (fun H locs hN hS => ?_)
  refine lv_aload_n hx hb dX8_init_12 rfl (lv_at hl 0 rfl) ?_
  refine lv_bipush (v := 8) hx hb dX8_init_13 (by decide) ?_
  refine i_newi X hN hS 20 1 (by simp [xVa, hV]) 8 (by decide) (by decide) (by decide) (by decide) (by decide) dX8_init_15 (fun b1 H ea hN hS => ?_)
  refine i_put X hN hS (c0 := 8) (i0 := 0) (Or.inl (Or.inl hV8)) ha0 rfl rfl la_X8 tyX8 tyX8_ok nmX8 1 (by decide) fl_X8_13 rfl (ty := .array .int) (by decide +kernel) rfl rfl (Nat.le_of_ble_eq_true rfl) dX8_init_17 (fun H locs hN hS => ?_)
  refine lv_aload_n hx hb dX8_init_20 rfl (lv_at hl 0 rfl) ?_
  refine lv_iconst (v := 4) hx hb dX8_init_21 (by decide) ?_
  refine i_newi X hN hS 20 2 (by simp [xVa, hV]) 4 (by decide) (by decide) (by decide) (by decide) (by decide) dX8_init_22 (fun b2 H ea hN hS => ?_)
  refine i_put X hN hS (c0 := 8) (i0 := 0) (Or.inl (Or.inl (Or.inl hV8))) ha0 rfl rfl la_X8 tyX8 tyX8_ok nmX8 2 (by decide) fl_X8_16 rfl (ty := .array .int) (by decide +kernel) rfl rfl (Nat.le_of_ble_eq_true rfl) dX8_init_24 (fun H locs hN hS => ?_)
  refine lv_aload_n hx hb dX8_init_27 rfl (lv_at hl 0 rfl) ?_
  refine i_new X hN hS 7 0 (by simp [xVa, hV]) (ci := 7) rfl la_X7 tyX7 tyX7_ok cl_X8_19 it_X7 in_X7 [.int 0, .null, .null, .int 0] (fun j hj => by rcases (show j = 0 ∨ j = 1 ∨ j = 2 ∨ j = 3 by omega) with rfl | rfl | rfl | rfl <;> rfl) (by decide) (by decide) dX8_init_28 (fun b7 H ea hN hS => ?_)
  -- what stands now, by name
  obtain ⟨VB, hVB⟩ : ∃ VB, VB = xVa (xVa (xVa (xVa V 20 0) 20 1) 20 2) 7 0 := ⟨_, rfl⟩
  obtain ⟨lB, hlB⟩ : ∃ lB, lB = xLa (xLa (xLa (xLa la 20 0 b0) 20 1 b1) 20 2 b2) 7 0 b7 := ⟨_, rfl⟩
  have mB : ∀ c i, VB c i ↔ (c = 8 ∧ i = 0) ∨ (c = 20 ∧ i < 3) ∨ (c = 7 ∧ i = 0) := by
    intro c i
    rw [hVB]
    simp only [xVa, hV]
    omega
  have lB8 : lB 8 0 = a0 := by rw [hlB]; exact ha0
  have lB7 : lB 7 0 = b7 := by rw [hlB]; rfl
  have lB0 : lB 20 0 = b0 := by rw [hlB]; rfl
  have lB1 : lB 20 1 = b1 := by rw [hlB]; rfl
  have lB2 : lB 20 2 = b2 := by rw [hlB]; rfl
  rw [← hVB, ← hlB] at hN
  obtain ⟨EB, hEB⟩ : ∃ EB : xEn, EB = _ := ⟨_, rfl⟩
  have hN' : xNew D sz0 VB lB EB H := by rw [hEB]; exact hN
  have eB8 : EB 8 0 = .inr (8, [.ref b0, .ref b1, .ref b2, .null, .null, .null, .int 0]) := by rw [hEB]; rfl
  have eB7 : EB 7 0 = .inr (7, [.int 0, .null, .null, .int 0]) := by rw [hEB]; rfl
  have eB0 : EB 20 0 = .inl (cyI, 8, .inl (fun _ => 0)) := by rw [hEB]; rfl
  have eB1 : EB 20 1 = .inl (cyI, 8, .inl (fun _ => 0)) := by rw [hEB]; rfl
  have eB2 : EB 20 2 = .inl (cyI, 4, .inl (fun _ => 0)) := by rw [hEB]; rfl
  replace hN := hN'
  clear hN' hEB hlB hVB hE ha0
  have vB8 : VB 8 0 := (mB 8 0).mpr (Or.inl ⟨rfl, rfl⟩)
  have vB7 : VB 7 0 := (mB 7 0).mpr (Or.inr (Or.inr ⟨rfl, rfl⟩))
  have vB0 : VB 20 0 := (mB 20 0).mpr (Or.inr (Or.inl ⟨rfl, by decide⟩))
  have vB1 : VB 20 1 := (mB 20 1).mpr (Or.inr (Or.inl ⟨rfl, by decide⟩))
  have vB2 : VB 20 2 := (mB 20 2).mpr (Or.inr (Or.inl ⟨rfl, by decide⟩))
  refine lv_dup hx hb dX8_init_31 rfl ?_
  refine lv_iconst (v := 0) hx hb dX8_init_32 (by decide) ?_
  refine lv_bipush (v := 20) hx hb dX8_init_33 (by decide) ?_
  refine lv_iload_n hx hb dX8_init_35 rfl (lv_at hl 1 rfl) ?_
  refine va_mmin hx hb (X.1.2.2.1.trans hl.1.symm) X.1.2.2.2.1 (X.1.2.2.2.2 _ ml_X8_21) (X.1.2.2.2.2 _ ss_J9_min_7cf53) (X.1.2.2.2.2 _ in_J9) (X.1.2.2.2.2 _ cd_J9_min_7cf53) (by decide) (Nat.le_of_ble_eq_true rfl) (by decide) (by decide) dX8_init_36 ?_
  refine va_mmax hx hb (X.1.2.2.1.trans hl.1.symm) X.1.2.2.2.1 (X.1.2.2.2.2 _ ml_X8_27) (X.1.2.2.2.2 _ ss_J9_max_7cf53) (X.1.2.2.2.2 _ in_J9) (X.1.2.2.2.2 _ cd_J9_max_7cf53) (by decide) (Nat.le_of_ble_eq_true rfl) (by decide) (by decide) dX8_init_39 ?_
  rw [hmv]
  refine lv_aload_n hx hb dX8_init_42 rfl (lv_at hl 0 rfl) ?_
  refine i_get X hN (c0 := 8) (i0 := 0) vB8 lB8 eB8 rfl la_X8 0 (by decide) fl_X8_9 (v := .ref b0) rfl dX8_init_43 ?_
  refine i_callI X (TX7_init l (mo := mo) b7 b0 hmo rfl vB7 lB7 eB7 (fun z => by have := (mB 24 0).mp z; omega) (fun i z => by have := (mB 3 i).mp z; omega) (fun i z => by have := (mB 22 i).mp z; omega)) hN hS rfl KX7_init ml_X8_30 ⟨by decide, by decide⟩ rfl hl.1 (Nat.le_of_ble_eq_true rfl) ⟨by decide, by decide⟩ dX8_init_46 (fun V1 l1 E1 H locs hN hp hS => ?_)
  obtain ⟨s1, s2, s3, s4, ⟨f, s5, s6⟩, s7⟩ := hp
  have v18 : V1 8 0 := (s1 8 0).mpr (Or.inl vB8)
  have l18 : l1 8 0 = a0 := (s2 8 0 vB8).trans lB8
  have m1 : ∀ c i, V1 c i ↔ (c = 8 ∧ i = 0) ∨ (c = 20 ∧ i < 3) ∨ (c = 7 ∧ i = 0) ∨ (c = 24 ∧ i = 0) ∨ ((c = 3 ∨ c = 22) ∧ i ≤ mo) := by
    intro c i
    rw [s1, mB]
    omega
  refine i_put X hN hS (c0 := 8) (i0 := 0) v18 l18 ((s3 8 0 vB8 (by decide)).trans eB8) rfl la_X8 tyX8 tyX8_ok nmX8 3 (by decide) fl_X8_33 rfl (ty := .object "MadeCalls$Shelf") (by decide +kernel) rfl rfl (Nat.le_of_ble_eq_true rfl) dX8_init_49 (fun H locs hN hS => ?_)
  refine lv_aload_n hx hb dX8_init_52 rfl (lv_at hl 0 rfl) ?_
  refine i_new X hN hS 4 0 (fun z => by have := (m1 4 0).mp z; omega) (ci := 4) rfl la_X3 tyX3 tyX3_ok cl_X8_37 it_X3 in_X3 [.null, .null] (fun j hj => by rcases (show j = 0 ∨ j = 1 by omega) with rfl | rfl <;> rfl) (by decide) (by decide) dX8_init_53 (fun b4 H ea hN hS => ?_)
  refine lv_dup hx hb dX8_init_56 rfl ?_
  refine lv_aload_n hx hb dX8_init_57 rfl (lv_at hl 0 rfl) ?_
  refine i_get X hN (c0 := 8) (i0 := 0) (Or.inl v18) l18 rfl rfl la_X8 3 (by decide) fl_X8_33 (v := .ref b7) rfl dX8_init_58 ?_
  refine i_callI X (TX3_init l b4 b7 (Or.inr ⟨rfl, rfl⟩) rfl rfl (fun z => by rcases z with z | z; · have := (m1 20 3).mp z; omega
                                                                              · omega)) hN hS rfl KX3_init ml_X8_39 ⟨by decide, by decide⟩ rfl hl.1 (Nat.le_of_ble_eq_true rfl) ⟨by decide, by decide⟩ dX8_init_61 (fun V2 l2 E2 H locs hN hp hS => ?_)
  obtain ⟨b3, rfl, rfl, rfl⟩ := hp
  refine i_put X hN hS (c0 := 8) (i0 := 0) (Or.inl (Or.inl v18)) l18 rfl rfl la_X8 tyX8 tyX8_ok nmX8 4 (by decide) fl_X8_42 rfl (ty := .object "MadeCalls$Memory") (by decide +kernel) rfl rfl (Nat.le_of_ble_eq_true rfl) dX8_init_64 (fun H locs hN hS => ?_)
  refine lv_aload_n hx hb dX8_init_67 rfl (lv_at hl 0 rfl) ?_
  refine i_new X hN hS 6 0 (fun z => by rcases z with (z | z) | z; · have := (m1 6 0).mp z; omega
                                        · omega
                                        · omega) (ci := 6) rfl la_X6 tyX6 tyX6_ok cl_X8_46 it_X6 in_X6 [.null, .null, .null, .null, .null, .null, .null, .null, .null, .int 0, .int 0, .int 0, .null, .int 0, .int 0, .int 0] (fun j hj => by rcases (show j = 0 ∨ j = 1 ∨ j = 2 ∨ j = 3 ∨ j = 4 ∨ j = 5 ∨ j = 6 ∨ j = 7 ∨ j = 8 ∨ j = 9 ∨ j = 10 ∨ j = 11 ∨ j = 12 ∨ j = 13 ∨ j = 14 ∨ j = 15 by omega) with rfl | rfl | rfl | rfl | rfl | rfl | rfl | rfl | rfl | rfl | rfl | rfl | rfl | rfl | rfl | rfl <;> rfl) (by decide) (by decide) dX8_init_68 (fun b6 H ea hN hS => ?_)
  obtain ⟨VD, hVD⟩ : ∃ VD, VD = xVa (xVa (xVa V1 4 0) 20 3) 6 0 := ⟨_, rfl⟩
  obtain ⟨lD, hlD⟩ : ∃ lD, lD = xLa (xLa (xLa l1 4 0 b4) 20 3 b3) 6 0 b6 := ⟨_, rfl⟩
  have mD : ∀ c i, VD c i ↔ (c = 8 ∧ i = 0) ∨ (c = 20 ∧ i < 4) ∨ (c = 7 ∧ i = 0) ∨ (c = 24 ∧ i = 0) ∨ ((c = 3 ∨ c = 22) ∧ i ≤ mo) ∨ (c = 4 ∧ i = 0) ∨ (c = 6 ∧ i = 0) := by
    intro c i
    rw [hVD]
    simp only [xVa, m1]
    omega
  have lD1 : ∀ c i, V1 c i → lD c i = l1 c i := by
    intro c i h
    have := (m1 c i).mp h
    rw [hlD]
    unfold xLa
    rw [if_neg (by omega), if_neg (by omega), if_neg (by omega)]
  have lD4 : lD 4 0 = b4 := by rw [hlD]; rfl
  have lD3 : lD 20 3 = b3 := by rw [hlD]; rfl
  have lD6 : lD 6 0 = b6 := by rw [hlD]; rfl
  rw [← hVD, ← hlD] at hN
  obtain ⟨ED, hED⟩ : ∃ ED : xEn, ED = _ := ⟨_, rfl⟩
  have hN' : xNew D sz0 VD lD ED H := by rw [hED]; exact hN
  have eD8 : ED 8 0 = .inr (8, [.ref b0, .ref b1, .ref b2, .ref b7, .ref b4, .null, .int 0]) := by rw [hED]; rfl
  have eD4 : ED 4 0 = .inr (4, [.ref b3, .ref b7]) := by rw [hED]; rfl
  have eD3 : ED 20 3 = .inl (cyI, 1024, .inl (fun _ => 0)) := by rw [hED]; rfl
  have eD6 : ED 6 0 = .inr (6, [.null, .null, .null, .null, .null, .null, .null, .null, .null, .int 0, .int 0, .int 0, .null, .int 0, .int 0, .int 0]) := by rw [hED]; rfl
  have eD1 : ∀ c i, V1 c i → ¬ (c = 8 ∧ i = 0) → ED c i = E1 c i := by
    intro c i h h8
    have := (m1 c i).mp h
    rw [hED]
    unfold xU
    rw [if_neg (by omega), if_neg h8, if_neg (by omega), if_neg (by omega), if_neg (by omega), if_neg (by omega), if_neg h8]
  replace hN := hN'
  clear hN' hED hlD hVD
  have vD8 : VD 8 0 := (mD 8 0).mpr (by omega)
  have lD8 : lD 8 0 = a0 := (lD1 8 0 v18).trans l18
  refine lv_dup hx hb dX8_init_71 rfl ?_
  refine lv_aload_n hx hb dX8_init_72 rfl (lv_at hl 0 rfl) ?_
  refine i_get X hN (c0 := 8) (i0 := 0) vD8 lD8 eD8 rfl la_X8 4 (by decide) fl_X8_42 (v := .ref b4) rfl dX8_init_73 ?_
  refine lv_aload_n hx hb dX8_init_76 rfl (lv_at hl 0 rfl) ?_
  refine i_get X hN (c0 := 8) (i0 := 0) vD8 lD8 eD8 rfl la_X8 3 (by decide) fl_X8_33 (v := .ref b7) rfl dX8_init_77 ?_
  refine lv_aload_n hx hb dX8_init_80 rfl (lv_at hl 0 rfl) ?_
  refine i_get X hN (c0 := 8) (i0 := 0) vD8 lD8 eD8 rfl la_X8 1 (by decide) fl_X8_13 (v := .ref b1) rfl dX8_init_81 ?_
  refine lv_aload_n hx hb dX8_init_84 rfl (lv_at hl 0 rfl) ?_
  refine i_get X hN (c0 := 8) (i0 := 0) vD8 lD8 eD8 rfl la_X8 0 (by decide) fl_X8_9 (v := .ref b0) rfl dX8_init_85 ?_
  refine i_callI X (TX6_init l b6 b4 b7 b1 b0 ((mD 6 0).mpr (by omega)) lD6 eD6 (fun z => by have := (mD 5 0).mp z; omega) (fun z => by have := (mD 20 4).mp z; omega) (fun z => by have := (mD 20 5).mp z; omega) (fun z => by have := (mD 20 6).mp z; omega) (fun z => by have := (mD 23 0).mp z; omega) (fun i z => by have := (mD 2 i).mp z; omega) (fun i z => by have := (mD 21 i).mp z; omega)) hN hS rfl KX6_init ml_X8_48 ⟨by decide, by decide⟩ rfl hl.1 (Nat.le_of_ble_eq_true rfl) ⟨by decide, by decide⟩ dX8_init_88 (fun V5 l5 E5 H locs hN hp hS => ?_)
  obtain ⟨r1, r2, r3, r4, r5, r6, r7, r8, ⟨f2, r9, r10⟩, r11⟩ := hp
  have v58 : V5 8 0 := (r1 8 0).mpr (Or.inl vD8)
  have l58 : l5 8 0 = a0 := (r2 8 0 vD8).trans lD8
  refine i_put X hN hS (c0 := 8) (i0 := 0) v58 l58 ((r3 8 0 vD8 (by decide)).trans eD8) rfl la_X8 tyX8 tyX8_ok nmX8 5 (by decide) fl_X8_51 rfl (ty := .object "MadeCalls$Runner") (by decide +kernel) rfl rfl (Nat.le_of_ble_eq_true rfl) dX8_init_91 (fun H locs hN hS => ?_)
  refine lv_aload_n hx hb dX8_init_94 rfl (lv_at hl 0 rfl) ?_
  refine lv_iconst (v := -1) hx hb dX8_init_95 (by decide) ?_
  refine i_put X hN hS (c0 := 8) (i0 := 0) v58 l58 rfl rfl la_X8 tyX8 tyX8_ok nmX8 6 (by decide) fl_X8_55 rfl (ty := .int) (by decide +kernel) rfl rfl (Nat.le_of_ble_eq_true rfl) dX8_init_96 (fun H locs hN hS => ?_)
  refine i_ret X hN hS ⟨fun c i => ?_, l58, fun c i hc => ?_⟩ (by decide) (by decide) dX8_init_99
  · rw [r1, mD]
    exact VC_all mo c i
  · have a7 : l5 7 0 = b7 := (r2 7 0 ((mD 7 0).mpr (by omega))).trans ((lD1 7 0 ((m1 7 0).mpr (by omega))).trans ((s2 7 0 vB7).trans lB7))
    have a20 : l5 20 0 = b0 := (r2 20 0 ((mD 20 0).mpr (by omega))).trans ((lD1 20 0 ((m1 20 0).mpr (by omega))).trans ((s2 20 0 vB0).trans lB0))
    have a21 : l5 20 1 = b1 := (r2 20 1 ((mD 20 1).mpr (by omega))).trans ((lD1 20 1 ((m1 20 1).mpr (by omega))).trans ((s2 20 1 vB1).trans lB1))
    have a22 : l5 20 2 = b2 := (r2 20 2 ((mD 20 2).mpr (by omega))).trans ((lD1 20 2 ((m1 20 2).mpr (by omega))).trans ((s2 20 2 vB2).trans lB2))
    have a23 : l5 20 3 = b3 := (r2 20 3 ((mD 20 3).mpr (by omega))).trans lD3
    have a4 : l5 4 0 = b4 := (r2 4 0 ((mD 4 0).mpr (by omega))).trans lD4
    have a6 : l5 6 0 = b6 := (r2 6 0 ((mD 6 0).mpr (by omega))).trans lD6
    have u8 : ∀ {c i}, ¬ (c = 8 ∧ i = 0) → (xU (xU E5 8 0 (.inr (8, [.ref b0, .ref b1, .ref b2, .ref b7, .ref b4, .ref b6, .int 0]))) 8 0 (.inr (8, [.ref b0, .ref b1, .ref b2, .ref b7, .ref b4, .ref b6, .int (-1)]))) c i = E5 c i := by
      intro c i h
      unfold xU
      rw [if_neg h, if_neg h]
    have toD : ∀ c i, VD c i → ¬ (c = 6 ∧ i = 0) → E5 c i = ED c i := r3
    have toB : ∀ c i, VB c i → ¬ (c = 7 ∧ i = 0) → ¬ (c = 8 ∧ i = 0) → E5 c i = EB c i := fun c i h h7 h8 => by
      have hm := (mB c i).mp h
      rw [r3 c i ((mD c i).mpr (by omega)) (by omega), eD1 c i ((m1 c i).mpr (by omega)) h8, s3 c i h h7]
    unfold VC at hc
    split at hc
    · -- Frame
      refine xEq.of ((u8 (by omega)).trans ?_)
      rw [(r11 i hc).1]
      rfl
    · -- Made
      refine xEq.of ((u8 (by omega)).trans ?_)
      have hm3 : V1 3 i := (m1 3 i).mpr (by omega)
      have hm22 : V1 22 i := (m1 22 i).mpr (by omega)
      rw [r3 3 i ((mD 3 i).mpr (by omega)) (by omega), eD1 3 i hm3 (by omega), (s7 i (by omega)).1, ← lD1 22 i hm22, ← r2 22 i ((mD 22 i).mpr (by omega))]
      rfl
    · subst hc
      refine xEq.of ((u8 (by omega)).trans ?_)
      rw [r3 4 0 ((mD 4 0).mpr (by omega)) (by omega), eD4, ← a23, ← a7]
      rfl
    · subst hc
      refine xEq.of ((u8 (by omega)).trans ?_)
      rw [r5]
      rfl
    · subst hc
      refine xEq.of ((u8 (by omega)).trans ?_)
      rw [r4, ← a4, ← a7, ← a21, ← a20]
      rfl
    · subst hc
      refine xEq.of ((u8 (by omega)).trans ?_)
      rw [r3 7 0 ((mD 7 0).mpr (by omega)) (by omega), eD1 7 0 ((m1 7 0).mpr (by omega)) (by omega), s4, ← lD1 24 0 ((m1 24 0).mpr (by omega)), ← r2 24 0 ((mD 24 0).mpr (by omega)), ← a20]
      rfl
    · subst hc
      refine xEq.of ?_
      rw [← a20, ← a21, ← a22, ← a7, ← a4, ← a6]
      rfl
    · refine xEq.of ((u8 (by omega)).trans ?_)
      rcases (show i = 0 ∨ i = 1 ∨ i = 2 ∨ i = 3 ∨ i = 4 ∨ i = 5 ∨ i = 6 by omega) with rfl | rfl | rfl | rfl | rfl | rfl | rfl
      · rw [toB 20 0 vB0 (by omega) (by omega), eB0]; rfl
      · rw [toB 20 1 vB1 (by omega) (by omega), eB1]; rfl
      · rw [toB 20 2 vB2 (by omega) (by omega), eB2]; rfl
      · rw [r3 20 3 ((mD 20 3).mpr (by omega)) (by omega), eD3]; rfl
      · rw [r6]; rfl
      · rw [r7]; rfl
      · rw [r8]; rfl
    · refine xEq.of ((u8 (by omega)).trans ?_)
      rw [(r11 i hc).2]
      rfl
    · refine xEq.of ((u8 (by omega)).trans ?_)
      have hm22 : V1 22 i := (m1 22 i).mpr (by omega)
      rw [r3 22 i ((mD 22 i).mpr (by omega)) (by omega), eD1 22 i hm22 (by omega), (s7 i (by omega)).2]
      rfl
    · subst hc
      refine fun D a H z => ?_
      have z' := xEq.of ((u8 (by omega)).trans r9) D a H z
      exact xEq.arr (g := fun j => some (l5 2 j)) (fun j hj => r10 j hj) D a H z'
    · subst hc
      refine fun D a H z => ?_
      have z' := xEq.of ((u8 (by omega)).trans ((r3 24 0 ((mD 24 0).mpr (by omega)) (by omega)).trans ((eD1 24 0 ((m1 24 0).mpr (by omega)) (by omega)).trans s5))) D a H z
      refine xEq.arr (g := fun j => some (l5 3 (min j mo))) (fun j hj => ?_) D a H z'
      have hm3 : V1 3 j := (m1 3 j).mpr (by omega)
      rw [s6 j hj, Nat.min_eq_left (by omega), r2 3 j ((mD 3 j).mpr (by omega)), lD1 3 j hm3]
    · exact absurd hc id
