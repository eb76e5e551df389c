/-! the leaf constructors -/
theorem KX2_init : xKi yX2_init cX2_init 1 0 := ⟨cd_X2_init, im_X2_init, in_X2, rfl, by decide +kernel⟩
theorem KX1_init : xKi yX1_init cX1_init 1 0 := ⟨cd_X1_init, im_X1_init, in_X1, rfl, by decide +kernel⟩
theorem KX4_init : xKi yX4_init cX4_init 1 0 := ⟨cd_X4_init, im_X4_init, in_X4, rfl, by decide +kernel⟩
theorem KX3_init : xKi yX3_init cX3_init 2 1 := ⟨cd_X3_init, im_X3_init, in_X3, rfl, by decide +kernel⟩
theorem KX7_init : xKi yX7_init cX7_init 4 2 := ⟨cd_X7_init, im_X7_init, in_X7, rfl, by decide +kernel⟩
theorem KX6_init : xKi yX6_init cX6_init 6 4 := ⟨cd_X6_init, im_X6_init, in_X6, rfl, by decide +kernel⟩
theorem KX8_init : xKi yX8_init cX8_init 2 1 := ⟨cd_X8_init, im_X8_init, in_X8, rfl, by decide +kernel⟩
theorem KX9_init : xKi yX9_init cX9_init 2 1 := ⟨cd_X9_init, im_X9_init, in_X9, rfl, by decide +kernel⟩
abbrev rm_X2_init : Room := { frames := 1, cells := 1, slots := 660, locals := 12 }
abbrev rm_X1_init : Room := { frames := 1, cells := 1, slots := 8, locals := 12 }
abbrev rm_X4_init : Room := { frames := 1, cells := 0, slots := 0, locals := 12 }
abbrev rm_X3_init : Room := { frames := 1, cells := 1, slots := 1024, locals := 12 }
set_option maxHeartbeats 4000000 in
set_option maxRecDepth 100000 in
theorem TX2_init (l : Launch) {D : va_G} {cyI cyF cyM : ClassId} {sz0 : Nat} {V : Nat → Nat → Prop} {la : Nat → Nat → Nat} {E : xEn} (j a0 : Nat) (hV : V 3 j) (ha0 : la 3 j = a0) (hE : E 3 j = .inr (3, [.null, .int 0, .int 0, .int 0, .int 0, .int 0])) (hnew : ¬ V 22 j) :
    MetI D cyI cyF cyM sz0 l yX2_init (Cond.code yX2_init cX2_init 1 none :: xALL) rm_X2_init [.ref a0] V la E (fun V' la' E' => ∃ a, V' = xVa V 22 j ∧ la' = xLa la 22 j a ∧ E' = xU (xU E 22 j (.inl (cyI, 660, .inl (fun _ => 0)))) 3 j (.inr (3, [.ref a, .int 0, .int 0, .int 0, .int 0, .int 0]))) := by
  refine MetI.intro (own := RX2) (by decide) rfl (Nat.le_of_ble_eq_true rfl) rfl ?_
  intro p e s m below meth c X hN ls hl
  have hx := X.1.1
  have hb := X.1.2.1
  have hS : va_S (fun q => sz0 ≤ q) s.heap s.heap [] := va_S.rf
  replace hl : lv_has ls 1 [(0, .ref a0)] := hl
  refine lv_aload_n hx hb dX2_init_0 rfl (lv_at hl 0 rfl) ?_
  refine i_obj X mo_X2_3 hl.1 (Nat.le_of_ble_eq_true rfl) (by decide) dX2_init_1 ?_
  refine lv_aload_n hx hb dX2_init_4 rfl (lv_at hl 0 rfl) ?_
  refine lv_sipush (v := 660) hx hb dX2_init_5 (by decide) ?_
  refine i_newi X hN hS 22 j hnew 660 (by decide) (by decide) (by decide) (by decide) (by decide) dX2_init_8 (fun a H e1 hN hS => ?_)
  have hne : ¬ ((3 : Nat) = 22 ∧ j = j) := fun z => absurd z.1 (by decide)
  refine i_put X hN hS (c0 := 3) (i0 := j) (Or.inl hV) (by unfold xLa; rw [if_neg hne]; exact ha0) (by unfold xU; rw [if_neg hne]; exact hE) rfl la_X2 tyX2 tyX2_ok nmX2 0 (by decide) fl_X2_13 rfl (ty := .array .int) (by decide +kernel) rfl rfl (by decide) dX2_init_10 (fun H locs hN hS => ?_)
  exact i_ret X hN hS ⟨a, rfl, rfl, rfl⟩ (by decide) (by decide) dX2_init_13
set_option maxHeartbeats 4000000 in
set_option maxRecDepth 100000 in
theorem TX1_init (l : Launch) {D : va_G} {cyI cyF cyM : ClassId} {sz0 : Nat} {V : Nat → Nat → Prop} {la : Nat → Nat → Nat} {E : xEn} (j a0 : Nat) (hV : V 2 j) (ha0 : la 2 j = a0) (hE : E 2 j = .inr (2, [.null, .int 0, .int 0, .int 0, .null, .int 0, .int 0, .int 0, .int 0])) (hnew : ¬ V 21 j) :
    MetI D cyI cyF cyM sz0 l yX1_init (Cond.code yX1_init cX1_init 1 none :: xALL) rm_X1_init [.ref a0] V la E (fun V' la' E' => ∃ a, V' = xVa V 21 j ∧ la' = xLa la 21 j a ∧ E' = xU (xU E 21 j (.inl (cyI, 8, .inl (fun _ => 0)))) 2 j (.inr (2, [.ref a, .int 0, .int 0, .int 0, .null, .int 0, .int 0, .int 0, .int 0]))) := by
  refine MetI.intro (own := RX1) (by decide) rfl (Nat.le_of_ble_eq_true rfl) rfl ?_
  intro p e s m below meth c X hN ls hl
  have hx := X.1.1
  have hb := X.1.2.1
  have hS : va_S (fun q => sz0 ≤ q) s.heap s.heap [] := va_S.rf
  replace hl : lv_has ls 1 [(0, .ref a0)] := hl
  refine lv_aload_n hx hb dX1_init_0 rfl (lv_at hl 0 rfl) ?_
  refine i_obj X mo_X1_3 hl.1 (Nat.le_of_ble_eq_true rfl) (by decide) dX1_init_1 ?_
  refine lv_aload_n hx hb dX1_init_4 rfl (lv_at hl 0 rfl) ?_
  refine lv_bipush (v := 8) hx hb dX1_init_5 (by decide) ?_
  refine i_newi X hN hS 21 j hnew 8 (by decide) (by decide) (by decide) (by decide) (by decide) dX1_init_7 (fun a H e1 hN hS => ?_)
  have hne : ¬ ((2 : Nat) = 21 ∧ j = j) := fun z => absurd z.1 (by decide)
  refine i_put X hN hS (c0 := 2) (i0 := j) (Or.inl hV) (by unfold xLa; rw [if_neg hne]; exact ha0) (by unfold xU; rw [if_neg hne]; exact hE) rfl la_X1 tyX1 tyX1_ok nmX1 0 (by decide) fl_X1_9 rfl (ty := .array .int) (by decide +kernel) rfl rfl (by decide) dX1_init_9 (fun H locs hN hS => ?_)
  exact i_ret X hN hS ⟨a, rfl, rfl, rfl⟩ (by decide) (by decide) dX1_init_12
set_option maxHeartbeats 4000000 in
set_option maxRecDepth 100000 in
theorem TX4_init (l : Launch) {D : va_G} {cyI cyF cyM : ClassId} {sz0 : Nat} {V : Nat → Nat → Prop} {la : Nat → Nat → Nat} {E : xEn} (a0 : Nat) (hV : V 5 0) (ha0 : la 5 0 = a0) (hE : E 5 0 = .inr (5, [.int 0, .int 0, .int 0, .int 0, .int 0])) :
    MetI D cyI cyF cyM sz0 l yX4_init (Cond.code yX4_init cX4_init 1 none :: xALL) rm_X4_init [.ref a0] V la E (fun V' la' E' => V' = V ∧ la' = la ∧ E' = xU (xU E 5 0 (.inr (5, [.int 0, .int 0, .int (-1), .int 0, .int 0]))) 5 0 (.inr (5, [.int 0, .int 0, .int (-1), .int (-1), .int 0]))) := by
  refine MetI.intro (own := RX4) (by decide) rfl (Nat.le_of_ble_eq_true rfl) rfl ?_
  intro p e s m below meth c X hN ls hl
  have hx := X.1.1
  have hb := X.1.2.1
  have hS : va_S (fun q => sz0 ≤ q) s.heap s.heap [] := va_S.rf
  replace hl : lv_has ls 1 [(0, .ref a0)] := hl
  refine lv_aload_n hx hb dX4_init_0 rfl (lv_at hl 0 rfl) ?_
  refine i_obj X mo_X4_3 hl.1 (Nat.le_of_ble_eq_true rfl) (by decide) dX4_init_1 ?_
  refine lv_aload_n hx hb dX4_init_4 rfl (lv_at hl 0 rfl) ?_
  refine lv_iconst (v := -1) hx hb dX4_init_5 (by decide) ?_
  refine i_put X hN hS (c0 := 5) (i0 := 0) hV ha0 hE rfl la_X4 tyX4 tyX4_ok nmX4 2 (by decide) fl_X4_9 rfl (ty := .int) (by decide +kernel) rfl rfl (by decide) dX4_init_6 (fun H locs hN hS => ?_)
  refine lv_aload_n hx hb dX4_init_9 rfl (lv_at hl 0 rfl) ?_
  refine lv_iconst (v := -1) hx hb dX4_init_10 (by decide) ?_
  refine i_put X hN hS (c0 := 5) (i0 := 0) hV ha0 rfl rfl la_X4 tyX4 tyX4_ok nmX4 3 (by decide) fl_X4_15 rfl (ty := .int) (by decide +kernel) rfl rfl (by decide) dX4_init_11 (fun H locs hN hS => ?_)
  exact i_ret X hN hS ⟨rfl, rfl, rfl⟩ (by decide) (by decide) dX4_init_14
set_option maxHeartbeats 4000000 in
set_option maxRecDepth 100000 in
theorem TX3_init (l : Launch) {D : va_G} {cyI cyF cyM : ClassId} {sz0 : Nat} {V : Nat → Nat → Prop} {la : Nat → Nat → Nat} {E : xEn} (a0 a1 : Nat) (hV : V 4 0) (ha0 : la 4 0 = a0) (hE : E 4 0 = .inr (4, [.null, .null])) (hnew : ¬ V 20 3) :
    MetI D cyI cyF cyM sz0 l yX3_init (Cond.code yX3_init cX3_init 2 none :: xALL) rm_X3_init [.ref a0, .ref a1] V la E (fun V' la' E' => ∃ a, V' = xVa V 20 3 ∧ la' = xLa la 20 3 a ∧ E' = xU (xU (xU E 20 3 (.inl (cyI, 1024, .inl (fun _ => 0)))) 4 0 (.inr (4, [.ref a, .null]))) 4 0 (.inr (4, [.ref a, .ref a1]))) := by
  refine MetI.intro (own := RX3) (by decide) rfl (Nat.le_of_ble_eq_true rfl) rfl ?_
  intro p e s m below meth c X hN ls hl
  have hx := X.1.1
  have hb := X.1.2.1
  have hS : va_S (fun q => sz0 ≤ q) s.heap s.heap [] := va_S.rf
  replace hl : lv_has ls 2 [(0, .ref a0), (1, .ref a1)] := hl
  refine lv_aload_n hx hb dX3_init_0 rfl (lv_at hl 0 rfl) ?_
  refine i_obj X mo_X3_3 hl.1 (Nat.le_of_ble_eq_true rfl) (by decide) dX3_init_1 ?_
  refine lv_aload_n hx hb dX3_init_4 rfl (lv_at hl 0 rfl) ?_
  refine lv_sipush (v := 1024) hx hb dX3_init_5 (by decide) ?_
  refine i_newi X hN hS 20 3 hnew 1024 (by decide) (by decide) (by decide) (by decide) (by decide) dX3_init_8 (fun a H e1 hN hS => ?_)
  refine i_put X hN hS (c0 := 4) (i0 := 0) (Or.inl hV) ha0 hE rfl la_X3 tyX3 tyX3_ok nmX3 0 (by decide) fl_X3_9 rfl (ty := .array .int) (by decide +kernel) rfl rfl (by decide) dX3_init_10 (fun H locs hN hS => ?_)
  refine lv_aload_n hx hb dX3_init_13 rfl (lv_at hl 0 rfl) ?_
  refine lv_aload_n hx hb dX3_init_14 rfl (lv_at hl 1 rfl) ?_
  refine i_put X hN hS (c0 := 4) (i0 := 0) (Or.inl hV) ha0 rfl rfl la_X3 tyX3 tyX3_ok nmX3 1 (by decide) fl_X3_15 rfl (ty := .object "MadeCalls$Shelf") (by decide +kernel) rfl rfl (Nat.le_of_ble_eq_true rfl) dX3_init_15 (fun H locs hN hS => ?_)
  exact i_ret X hN hS ⟨a, rfl, rfl, rfl⟩ (by decide) (by decide) dX3_init_18
