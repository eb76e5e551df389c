abbrev rm_X6_byteAtFirstHanded : Room := { frames := 1, cells := 0, slots := 0, locals := 21 }
def fX6_byteAtFirstHanded_b16 (N mo : Nat) (st : xSt) : Option (Int32 × xSt) := Option.bind (fX6_fail N mo (1 : Int32) st) (fun st7 => some ((0 : Int32), st7))
set_option maxHeartbeats 4000000 in
set_option maxRecDepth 100000 in
theorem BX6_byteAtFirstHanded_16 {p : Program} {l : Launch} {e : Env} {s : State} {m : MethodId} {args : Array Value} {below : List Frame} {meth : Method} {c : Code} {D : va_G} {la : Nat → Nat → Nat} {cyI cyF cyM : ClassId} {t0 mo N : Nat} {r : Int32} {st' : xSt} (X : xCx D (VC mo) la cyI cyF cyM t0 p m c cX6_byteAtFirstHanded 2 s args RX6) (hr : meth.sig.returnType = (some .int)) (hlk : meth.locks = false) : ∀ (st : xSt) (H : Heap) (locs : List Loc) (ls : Array Slot), fX6_byteAtFirstHanded_b16 N mo st = some (r, st') → HW D (VC mo) la (ECf cyI cyF cyM mo la) st H → va_S (xA (VC mo) la) s.heap H locs → lv_has ls 2 [(0, .ref (la 6 0))] → W p l e rm_X6_byteAtFirstHanded s m args below meth c H locs 0 0 (MQ below (xQc D (VC mo) la (ECf cyI cyF cyM mo la) (some (.int r)) st') args s 0 0 (xA (VC mo) la)) (F0 m 16 ls []) := by
  have hx := X.1.1
  have hb := X.1.2.1
  intro st H locs ls hf hP hS hl
  unfold fX6_byteAtFirstHanded_b16 at hf
  refine lv_aload_n hx hb dX6_byteAtFirstHanded_16 rfl (lv_at hl 0 rfl) ?_
  refine lv_iconst (v := 1) hx hb dX6_byteAtFirstHanded_17 (by decide) ?_
  obtain ⟨st7, hr8, hf⟩ := bd_of hf
  refine w_V0 X (TX6_fail l hr8) hP hS rfl KX6_fail ml_X6_97 ⟨rfl, rfl⟩ ⟨by decide, by decide⟩ (x_recv (E := fun c i => (ECf cyI cyF cyM mo la) (st.1 c i) st.2 c i) (c0 := 6) (i0 := 0) X.2.2.1 hP rfl (ci := 6) rfl rfl) rfl hl.1 (Nat.le_of_ble_eq_true rfl) dX6_byteAtFirstHanded_18 (fun H locs hP hS => ?_)
  refine lv_iconst (v := 0) hx hb dX6_byteAtFirstHanded_21 (by decide) ?_
  obtain ⟨rfl, rfl⟩ := sp_2 hf
  exact w_iret X hr hlk hP hS dX6_byteAtFirstHanded_22
def fX6_byteAtFirstHanded (N mo : Nat) (a1 : Int32) (st : xSt) : Option (Int32 × xSt) := if a1 = (0 : Int32) then fX6_byteAtFirstHanded_b16 N mo st else bd (fX8_isPlace N mo (st.1 20 5 0) st) (fun v4 st2 => if v4 = (0 : Int32) then fX6_byteAtFirstHanded_b16 N mo st2 else if (st2.1 20 5 0) < 0 ∨ 1024 ≤ ((st2.1 20 5 0)).toNatClampNeg then none else some ((st2.1 20 3 ((st2.1 20 5 0)).toNatClampNeg), st2))
set_option maxHeartbeats 4000000 in
set_option maxRecDepth 100000 in
theorem TX6_byteAtFirstHanded (l : Launch) {D : va_G} {la : Nat → Nat → Nat} {cyI cyF cyM : ClassId} {t0 mo N : Nat} {a1 : Int32} {st : xSt} {r : Int32} {st' : xSt} (hf : fX6_byteAtFirstHanded N mo a1 st = some (r, st')) : MetC D cyI cyF cyM mo la t0 l yX6_byteAtFirstHanded (Cond.code yX6_byteAtFirstHanded cX6_byteAtFirstHanded 2 (some .int) :: xALL) rm_X6_byteAtFirstHanded [.ref (la 6 0), .int a1] (some (.int r)) st st' := by
  refine MetW.intro (own := RX6) (by decide) (Nat.le_of_ble_eq_true rfl) rfl ?_
  intro p e s m below meth c X hr hlk hP ls hl
  have hx := X.1.1
  have hb := X.1.2.1
  have hS : va_S (xA (VC mo) la) s.heap s.heap [] := va_S.rf
  unfold fX6_byteAtFirstHanded at hf
  replace hl : lv_has ls 2 [(0, .ref (la 6 0)), (1, .int a1)] := hl
  refine lv_iload_n hx hb dX6_byteAtFirstHanded_0 rfl (lv_at hl 1 rfl) ?_
  refine lv_if_eq (tgt := 16) hx hb dX6_byteAtFirstHanded_1 (by decide) (fun c1 => ?_) (fun c1 => ?_)
  · replace hf := (if_pos c1).symm.trans hf
    exact BX6_byteAtFirstHanded_16 X hr hlk _ _ _ _  hf hP hS (lv_sub hl [0] rfl)
  · replace hf := (if_neg c1).symm.trans hf
    refine lv_aload_n hx hb dX6_byteAtFirstHanded_4 rfl (lv_at hl 0 rfl) ?_
    refine gC_Runner_handed X hP fl_X6_28 dX6_byteAtFirstHanded_5 ?_
    refine lv_iconst (v := 0) hx hb dX6_byteAtFirstHanded_8 (by decide) ?_
    refine w_ialdK X hP (c0 := 20) (i0 := 5) (show 5 < 7 by decide) (n := 4) (fun _ => rfl) 0 (by decide) (show ¬ ((0 : Int32) < 0 ∨ 4 ≤ ((0 : Int32)).toNatClampNeg) by decide) dX6_byteAtFirstHanded_9 ?_
    obtain ⟨v4, st2, hr3, hf⟩ := bd_2 hf
    refine w_N1 X (TX8_isPlace l hr3) hP hS rfl KX8_isPlace X.2.2.2.2.1 ⟨rfl, rfl⟩ ⟨by decide, by decide⟩ rfl hl.1 (Nat.le_of_ble_eq_true rfl) dX6_byteAtFirstHanded_10 (fun H locs hP hS => ?_)
    refine lv_if_ne (tgt := 23) hx hb dX6_byteAtFirstHanded_13 (by decide) (fun c5 => ?_) (fun c5 => ?_)
    · replace hf := (if_neg c5).symm.trans hf
      refine lv_aload_n hx hb dX6_byteAtFirstHanded_23 rfl (lv_at hl 0 rfl) ?_
      refine gC_Runner_memory X hP fl_X6_39 dX6_byteAtFirstHanded_24 ?_
      refine gC_Memory_bytes X hP fl_X6_106 dX6_byteAtFirstHanded_27 ?_
      refine lv_aload_n hx hb dX6_byteAtFirstHanded_30 rfl (lv_at hl 0 rfl) ?_
      refine gC_Runner_handed X hP fl_X6_28 dX6_byteAtFirstHanded_31 ?_
      refine lv_iconst (v := 0) hx hb dX6_byteAtFirstHanded_34 (by decide) ?_
      refine w_ialdK X hP (c0 := 20) (i0 := 5) (show 5 < 7 by decide) (n := 4) (fun _ => rfl) 0 (by decide) (show ¬ ((0 : Int32) < 0 ∨ 4 ≤ ((0 : Int32)).toNatClampNeg) by decide) dX6_byteAtFirstHanded_35 ?_
      obtain ⟨hn6, hf⟩ := ck_of hf
      refine w_iald X hP (c0 := 20) (i0 := 3) (show 3 < 7 by decide) (n := 1024) rfl hn6 dX6_byteAtFirstHanded_36 ?_
      obtain ⟨rfl, rfl⟩ := sp_2 hf
      exact w_iret X hr hlk hP hS dX6_byteAtFirstHanded_37
    · replace hf := (if_pos c5).symm.trans hf
      exact BX6_byteAtFirstHanded_16 X hr hlk _ _ _ _  hf hP hS (lv_sub hl [0] rfl)
theorem KX6_byteAtFirstHanded : xKv yX6_byteAtFirstHanded cX6_byteAtFirstHanded 2 (some .int) RX6 1 := ⟨cd_X6_byteAtFirstHanded, im_X6_byteAtFirstHanded, se_X6_byteAtFirstHanded, in_X6, by decide +kernel⟩
abbrev rm_X6_valueOfBuiltIn : Room := { frames := 2, cells := 0, slots := 0, locals := 44 }
def fX6_valueOfBuiltIn (N mo : Nat) (a1 : Int32) (a2 : Int32) (st : xSt) : Option (Int32 × xSt) := bd (fX6_spendStep N mo st) (fun v3 st1 => if v3 = (0 : Int32) then some ((0 : Int32), st1) else if a1 = (1 : Int32) then bd (fX6_sumOfHanded N mo a2 st1) (fun v8 st6 => some (v8, st6)) else if a1 = (2 : Int32) then bd (fX6_greatestOfHanded N mo a2 st1) (fun v12 st10 => some (v12, st10)) else if a1 = (3 : Int32) then bd (fX6_handedNotZero N mo a2 st1) (fun v16 st14 => some (v16, st14)) else bd (fX6_byteAtFirstHanded N mo a2 st1) (fun v19 st17 => some (v19, st17)))
set_option maxHeartbeats 4000000 in
set_option maxRecDepth 100000 in
theorem TX6_valueOfBuiltIn (l : Launch) {D : va_G} {la : Nat → Nat → Nat} {cyI cyF cyM : ClassId} {t0 mo N : Nat} {a1 : Int32} {a2 : Int32} {st : xSt} {r : Int32} {st' : xSt} (hf : fX6_valueOfBuiltIn N mo a1 a2 st = some (r, st')) : MetC D cyI cyF cyM mo la t0 l yX6_valueOfBuiltIn (Cond.code yX6_valueOfBuiltIn cX6_valueOfBuiltIn 3 (some .int) :: xALL) rm_X6_valueOfBuiltIn [.ref (la 6 0), .int a1, .int a2] (some (.int r)) st st' := by
  refine MetW.intro (own := RX6) (by decide) (Nat.le_of_ble_eq_true rfl) rfl ?_
  intro p e s m below meth c X hr hlk hP ls hl
  have hx := X.1.1
  have hb := X.1.2.1
  have hS : va_S (xA (VC mo) la) s.heap s.heap [] := va_S.rf
  unfold fX6_valueOfBuiltIn at hf
  replace hl : lv_has ls 3 [(0, .ref (la 6 0)), (1, .int a1), (2, .int a2)] := hl
  refine lv_aload_n hx hb dX6_valueOfBuiltIn_0 rfl (lv_at hl 0 rfl) ?_
  obtain ⟨v3, st1, hr2, hf⟩ := bd_2 hf
  refine w_V1 X (TX6_spendStep l hr2) hP hS rfl KX6_spendStep ml_X6_123 ⟨rfl, rfl⟩ ⟨by decide, by decide⟩ (x_recv (E := fun c i => (ECf cyI cyF cyM mo la) (st.1 c i) st.2 c i) (c0 := 6) (i0 := 0) X.2.2.1 hP rfl (ci := 6) rfl rfl) rfl hl.1 (Nat.le_of_ble_eq_true rfl) dX6_valueOfBuiltIn_1 (fun H locs hP hS => ?_)
  refine lv_if_ne (tgt := 9) hx hb dX6_valueOfBuiltIn_4 (by decide) (fun c4 => ?_) (fun c4 => ?_)
  · replace hf := (if_neg c4).symm.trans hf
    refine lv_iload_n hx hb dX6_valueOfBuiltIn_9 rfl (lv_at hl 1 rfl) ?_
    by_cases c5 : a1 = (1 : Int32)
    · replace hf := (if_pos c5).symm.trans hf
      refine w_stk (st1 := .int (1 : Int32) :: _) (by rw [c5]) ?_
      refine lv_tableIn (off := 26) (tgt := 36) hx hb dX6_valueOfBuiltIn_10 (by decide) (by decide) (by decide) (by decide) ?_
      refine lv_aload_n hx hb dX6_valueOfBuiltIn_36 rfl (lv_at hl 0 rfl) ?_
      refine lv_iload_n hx hb dX6_valueOfBuiltIn_37 rfl (lv_at hl 2 rfl) ?_
      obtain ⟨v8, st6, hr7, hf⟩ := bd_2 hf
      refine w_V1 X (TX6_sumOfHanded l hr7) hP hS rfl KX6_sumOfHanded ml_X6_127 ⟨rfl, rfl⟩ ⟨by decide, by decide⟩ (x_recv (E := fun c i => (ECf cyI cyF cyM mo la) (st1.1 c i) st1.2 c i) (c0 := 6) (i0 := 0) X.2.2.1 hP rfl (ci := 6) rfl rfl) rfl hl.1 (Nat.le_of_ble_eq_true rfl) dX6_valueOfBuiltIn_38 (fun H locs hP hS => ?_)
      obtain ⟨rfl, rfl⟩ := sp_2 hf
      exact w_iret X hr hlk hP hS dX6_valueOfBuiltIn_41
    replace hf := (if_neg c5).symm.trans hf
    by_cases c9 : a1 = (2 : Int32)
    · replace hf := (if_pos c9).symm.trans hf
      refine w_stk (st1 := .int (2 : Int32) :: _) (by rw [c9]) ?_
      refine lv_tableIn (off := 32) (tgt := 42) hx hb dX6_valueOfBuiltIn_10 (by decide) (by decide) (by decide) (by decide) ?_
      refine lv_aload_n hx hb dX6_valueOfBuiltIn_42 rfl (lv_at hl 0 rfl) ?_
      refine lv_iload_n hx hb dX6_valueOfBuiltIn_43 rfl (lv_at hl 2 rfl) ?_
      obtain ⟨v12, st10, hr11, hf⟩ := bd_2 hf
      refine w_V1 X (TX6_greatestOfHanded l hr11) hP hS rfl KX6_greatestOfHanded ml_X6_131 ⟨rfl, rfl⟩ ⟨by decide, by decide⟩ (x_recv (E := fun c i => (ECf cyI cyF cyM mo la) (st1.1 c i) st1.2 c i) (c0 := 6) (i0 := 0) X.2.2.1 hP rfl (ci := 6) rfl rfl) rfl hl.1 (Nat.le_of_ble_eq_true rfl) dX6_valueOfBuiltIn_44 (fun H locs hP hS => ?_)
      obtain ⟨rfl, rfl⟩ := sp_2 hf
      exact w_iret X hr hlk hP hS dX6_valueOfBuiltIn_47
    replace hf := (if_neg c9).symm.trans hf
    by_cases c13 : a1 = (3 : Int32)
    · replace hf := (if_pos c13).symm.trans hf
      refine w_stk (st1 := .int (3 : Int32) :: _) (by rw [c13]) ?_
      refine lv_tableIn (off := 38) (tgt := 48) hx hb dX6_valueOfBuiltIn_10 (by decide) (by decide) (by decide) (by decide) ?_
      refine lv_aload_n hx hb dX6_valueOfBuiltIn_48 rfl (lv_at hl 0 rfl) ?_
      refine lv_iload_n hx hb dX6_valueOfBuiltIn_49 rfl (lv_at hl 2 rfl) ?_
      obtain ⟨v16, st14, hr15, hf⟩ := bd_2 hf
      refine w_V1 X (TX6_handedNotZero l hr15) hP hS rfl KX6_handedNotZero ml_X6_134 ⟨rfl, rfl⟩ ⟨by decide, by decide⟩ (x_recv (E := fun c i => (ECf cyI cyF cyM mo la) (st1.1 c i) st1.2 c i) (c0 := 6) (i0 := 0) X.2.2.1 hP rfl (ci := 6) rfl rfl) rfl hl.1 (Nat.le_of_ble_eq_true rfl) dX6_valueOfBuiltIn_50 (fun H locs hP hS => ?_)
      obtain ⟨rfl, rfl⟩ := sp_2 hf
      exact w_iret X hr hlk hP hS dX6_valueOfBuiltIn_53
    replace hf := (if_neg c13).symm.trans hf
    have gc5 := lv_neT c5 (show ((1 : Int32)).toInt = 1 by decide)
    have gc9 := lv_neT c9 (show ((2 : Int32)).toInt = 2 by decide)
    have gc13 := lv_neT c13 (show ((3 : Int32)).toInt = 3 by decide)
    refine lv_tableOut (tgt := 54) hx hb dX6_valueOfBuiltIn_10 (by omega) (by decide) ?_
    clear gc5 gc9 gc13
    refine lv_aload_n hx hb dX6_valueOfBuiltIn_54 rfl (lv_at hl 0 rfl) ?_
    refine lv_iload_n hx hb dX6_valueOfBuiltIn_55 rfl (lv_at hl 2 rfl) ?_
    obtain ⟨v19, st17, hr18, hf⟩ := bd_2 hf
    refine w_V1 X (TX6_byteAtFirstHanded l hr18) hP hS rfl KX6_byteAtFirstHanded ml_X6_137 ⟨rfl, rfl⟩ ⟨by decide, by decide⟩ (x_recv (E := fun c i => (ECf cyI cyF cyM mo la) (st1.1 c i) st1.2 c i) (c0 := 6) (i0 := 0) X.2.2.1 hP rfl (ci := 6) rfl rfl) rfl hl.1 (Nat.le_of_ble_eq_true rfl) dX6_valueOfBuiltIn_56 (fun H locs hP hS => ?_)
    obtain ⟨rfl, rfl⟩ := sp_2 hf
    exact w_iret X hr hlk hP hS dX6_valueOfBuiltIn_59
  · replace hf := (if_pos c4).symm.trans hf
    refine lv_iconst (v := 0) hx hb dX6_valueOfBuiltIn_7 (by decide) ?_
    obtain ⟨rfl, rfl⟩ := sp_2 hf
    exact w_iret X hr hlk hP hS dX6_valueOfBuiltIn_8
theorem KX6_valueOfBuiltIn : xKv yX6_valueOfBuiltIn cX6_valueOfBuiltIn 3 (some .int) RX6 2 := ⟨cd_X6_valueOfBuiltIn, im_X6_valueOfBuiltIn, se_X6_valueOfBuiltIn, in_X6, by decide +kernel⟩
abbrev rm_X6_indexOfCell : Room := { frames := 0, cells := 0, slots := 0, locals := 0 }
def fX6_indexOfCell (N mo : Nat) (a0 : Int32) (st : xSt) : Option (Int32 × xSt) := some ((a0 &&& (7 : Int32)), st)
set_option maxHeartbeats 4000000 in
set_option maxRecDepth 100000 in
theorem TX6_indexOfCell (l : Launch) {D : va_G} {la : Nat → Nat → Nat} {cyI cyF cyM : ClassId} {t0 mo N : Nat} {a0 : Int32} {st : xSt} {r : Int32} {st' : xSt} (hf : fX6_indexOfCell N mo a0 st = some (r, st')) : MetC D cyI cyF cyM mo la t0 l yX6_indexOfCell (Cond.code yX6_indexOfCell cX6_indexOfCell 1 (some .int) :: xALL) rm_X6_indexOfCell [.int a0] (some (.int r)) st st' := by
  refine MetW.intro (own := RX6) (by decide) (Nat.le_of_ble_eq_true rfl) rfl ?_
  intro p e s m below meth c X hr hlk hP ls hl
  have hx := X.1.1
  have hb := X.1.2.1
  have hS : va_S (xA (VC mo) la) s.heap s.heap [] := va_S.rf
  unfold fX6_indexOfCell at hf
  replace hl : lv_has ls 1 [(0, .int a0)] := hl
  refine lv_iload_n hx hb dX6_indexOfCell_0 rfl (lv_at hl 0 rfl) ?_
  refine lv_bipush (v := 7) hx hb dX6_indexOfCell_1 (by decide) ?_
  refine lv_iand hx hb dX6_indexOfCell_3 ?_
  obtain ⟨rfl, rfl⟩ := sp_2 hf
  exact w_iret X hr hlk hP hS dX6_indexOfCell_4
theorem KX6_indexOfCell : xKs yX6_indexOfCell cX6_indexOfCell 1 (some .int) RX6 1 := ⟨cd_X6_indexOfCell, ss_X6_indexOfCell, in_X6, by decide +kernel⟩
abbrev rm_X6_set : Room := { frames := 1, cells := 0, slots := 0, locals := 20 }
def fX6_set (N mo : Nat) (j1 : Nat) (a2 : Int32) (a3 : Int32) (st : xSt) : Option xSt := if (136 : Int32) ≤ a2 then bd (fX6_indexOfCell N mo a2 st) (fun v4 st2 => if v4 < 0 ∨ 8 ≤ (v4).toNatClampNeg then none else nm (pI st2 20 1 (v4).toNatClampNeg a3) (fun st6 => some st6)) else bd (fX6_indexOfCell N mo a2 st) (fun v9 st7 => if v9 < 0 ∨ 8 ≤ (v9).toNatClampNeg then none else nm (pI st7 21 j1 (v9).toNatClampNeg a3) (fun st11 => some st11))
set_option maxHeartbeats 4000000 in
set_option maxRecDepth 100000 in
theorem TX6_set (l : Launch) {D : va_G} {la : Nat → Nat → Nat} {cyI cyF cyM : ClassId} {t0 mo N : Nat} {j1 : Nat} {a2 : Int32} {a3 : Int32} (hj1 : VC mo 2 j1) {st : xSt} {st' : xSt} (hf : fX6_set N mo j1 a2 a3 st = some st') : MetC D cyI cyF cyM mo la t0 l yX6_set (Cond.code yX6_set cX6_set 4 none :: xALL) rm_X6_set [.ref (la 6 0), .ref (la 2 j1), .int a2, .int a3] none st st' := by
  refine MetW.intro (own := RX6) (by decide) (Nat.le_of_ble_eq_true rfl) rfl ?_
  intro p e s m below meth c X hr hlk hP ls hl
  have hx := X.1.1
  have hb := X.1.2.1
  have hS : va_S (xA (VC mo) la) s.heap s.heap [] := va_S.rf
  unfold fX6_set at hf
  replace hl : lv_has ls 4 [(0, .ref (la 6 0)), (1, .ref (la 2 j1)), (2, .int a2), (3, .int a3)] := hl
  refine lv_iload_n hx hb dX6_set_0 rfl (lv_at hl 2 rfl) ?_
  refine lv_sipush (v := 136) hx hb dX6_set_1 (by decide) ?_
  refine lv_icmp_ge (tgt := 20) hx hb dX6_set_4 (by decide) (fun c1 => ?_) (fun c1 => ?_)
  · replace hf := (if_pos c1).symm.trans hf
    refine lv_aload_n hx hb dX6_set_20 rfl (lv_at hl 0 rfl) ?_
    refine gC_Runner_globals X hP fl_X6_47 dX6_set_21 ?_
    refine lv_iload_n hx hb dX6_set_24 rfl (lv_at hl 2 rfl) ?_
    obtain ⟨v4, st2, hr3, hf⟩ := bd_2 hf
    refine w_S1 X (TX6_indexOfCell l hr3) hP hS rfl KX6_indexOfCell ml_X6_233 ⟨rfl, rfl⟩ ⟨by decide, by decide⟩ rfl hl.1 (Nat.le_of_ble_eq_true rfl) dX6_set_25 (fun H locs hP hS => ?_)
    refine lv_iload_n hx hb dX6_set_28 rfl (lv_at hl 3 rfl) ?_
    obtain ⟨hn5, hf⟩ := ck_of hf
    refine w_iast X hP hS (c0 := 20) (i0 := 1) (show 1 < 7 by decide) (n := 8) (fun _ => rfl) hn5 dX6_set_29 (fun H locs hP hS => ?_)
    obtain ⟨st6, hP, hf⟩ := nm_gen (P := fun z => HW D (VC mo) la (ECf cyI cyF cyM mo la) z H) hP hf
    obtain rfl := Option.some.inj hf
    exact w_vret X hr hlk hP hS dX6_set_30
  · replace hf := (if_neg c1).symm.trans hf
    refine lv_aload_n hx hb dX6_set_7 rfl (lv_at hl 1 rfl) ?_
    refine gC_Frame_locals X hP hj1 fl_X6_230 dX6_set_8 ?_
    refine lv_iload_n hx hb dX6_set_11 rfl (lv_at hl 2 rfl) ?_
    obtain ⟨v9, st7, hr8, hf⟩ := bd_2 hf
    refine w_S1 X (TX6_indexOfCell l hr8) hP hS rfl KX6_indexOfCell ml_X6_233 ⟨rfl, rfl⟩ ⟨by decide, by decide⟩ rfl hl.1 (Nat.le_of_ble_eq_true rfl) dX6_set_12 (fun H locs hP hS => ?_)
    refine lv_iload_n hx hb dX6_set_15 rfl (lv_at hl 3 rfl) ?_
    obtain ⟨hn10, hf⟩ := ck_of hf
    refine w_iast X hP hS (c0 := 21) (i0 := j1) hj1 (n := 8) (fun _ => rfl) hn10 dX6_set_16 (fun H locs hP hS => ?_)
    obtain ⟨st11, hP, hf⟩ := nm_gen (P := fun z => HW D (VC mo) la (ECf cyI cyF cyM mo la) z H) hP hf
    refine lv_goto (tgt := 30) hx hb dX6_set_17 (by decide) ?_
    obtain rfl := Option.some.inj hf
    exact w_vret X hr hlk hP hS dX6_set_30
theorem KX6_set : xKv yX6_set cX6_set 4 none RX6 3 := ⟨cd_X6_set, im_X6_set, se_X6_set, in_X6, by decide +kernel⟩
abbrev rm_X6_give : Room := { frames := 2, cells := 0, slots := 0, locals := 43 }
def fX6_give (N mo : Nat) (a1 : Int32) (st : xSt) : Option xSt := if (st.1 6 0 10) = (0 : Int32) then nm (pI st 5 0 0 a1) (fun st6 => some st6) else if ((st.1 6 0 10) - (1 : Int32)) < 0 ∨ 12 ≤ (((st.1 6 0 10) - (1 : Int32))).toNatClampNeg then none else nm ((((st.1 6 0 10) - (1 : Int32))).toNatClampNeg) (fun j3 => Option.bind (fX6_set N mo j3 (st.1 2 j3 8) a1 st) (fun st4 => some st4))
set_option maxHeartbeats 4000000 in
set_option maxRecDepth 100000 in
theorem TX6_give (l : Launch) {D : va_G} {la : Nat → Nat → Nat} {cyI cyF cyM : ClassId} {t0 mo N : Nat} {a1 : Int32} {st : xSt} {st' : xSt} (hf : fX6_give N mo a1 st = some st') : MetC D cyI cyF cyM mo la t0 l yX6_give (Cond.code yX6_give cX6_give 3 none :: xALL) rm_X6_give [.ref (la 6 0), .int a1] none st st' := by
  refine MetW.intro (own := RX6) (by decide) (Nat.le_of_ble_eq_true rfl) rfl ?_
  intro p e s m below meth c X hr hlk hP ls hl
  have hx := X.1.1
  have hb := X.1.2.1
  have hS : va_S (xA (VC mo) la) s.heap s.heap [] := va_S.rf
  unfold fX6_give at hf
  replace hl : lv_has ls 3 [(0, .ref (la 6 0)), (1, .int a1)] := hl
  refine lv_aload_n hx hb dX6_give_0 rfl (lv_at hl 0 rfl) ?_
  refine gC_Runner_depth X hP fl_X6_61 dX6_give_1 ?_
  refine lv_if_ne (tgt := 16) hx hb dX6_give_4 (by decide) (fun c1 => ?_) (fun c1 => ?_)
  · replace hf := (if_neg c1).symm.trans hf
    refine lv_aload_n hx hb dX6_give_16 rfl (lv_at hl 0 rfl) ?_
    refine gC_Runner_frames X hP fl_X6_24 dX6_give_17 ?_
    refine lv_aload_n hx hb dX6_give_20 rfl (lv_at hl 0 rfl) ?_
    refine gC_Runner_depth X hP fl_X6_61 dX6_give_21 ?_
    refine lv_iconst (v := 1) hx hb dX6_give_24 (by decide) ?_
    refine lv_isub hx hb dX6_give_25 ?_
    obtain ⟨hn2, hf⟩ := ck_of hf
    refine gC_frames X hP hn2 dX6_give_26 ?_
    obtain ⟨j3, ej, hj3⟩ : ∃ y : Nat, y = (((st.1 6 0 10) - (1 : Int32))).toNatClampNeg ∧ VC mo 2 y := ⟨_, rfl, (Nat.lt_of_not_le (fun z => hn2 (Or.inr z)))⟩
    refine w_top (v' := .ref (la 2 j3)) (by rw [ej]) ?_
    replace hf := nm_of hf ej
    clear ej
    refine lv_astore_n (lv' := [(2, .ref (la 2 j3)), (0, .ref (la 6 0)), (1, .int a1)]) hx hb dX6_give_27 rfl hl (by decide) rfl (fun ls hl => ?_)
    refine lv_aload_n hx hb dX6_give_28 rfl (lv_at hl 1 rfl) ?_
    refine lv_aload_n hx hb dX6_give_29 rfl (lv_at hl 0 rfl) ?_
    refine lv_aload_n hx hb dX6_give_30 rfl (lv_at hl 0 rfl) ?_
    refine gC_Frame_into X hP hj3 fl_X6_217 dX6_give_31 ?_
    refine lv_iload_n hx hb dX6_give_34 rfl (lv_at hl 2 rfl) ?_
    obtain ⟨st4, hr5, hf⟩ := bd_of hf
    refine w_V0 X (TX6_set l hj3 hr5) hP hS rfl KX6_set ml_X6_180 ⟨rfl, rfl⟩ ⟨by decide, by decide⟩ (x_recv (E := fun c i => (ECf cyI cyF cyM mo la) (st.1 c i) st.2 c i) (c0 := 6) (i0 := 0) X.2.2.1 hP rfl (ci := 6) rfl rfl) rfl hl.1 (Nat.le_of_ble_eq_true rfl) dX6_give_35 (fun H locs hP hS => ?_)
    obtain rfl := Option.some.inj hf
    exact w_vret X hr hlk hP hS dX6_give_38
  · replace hf := (if_pos c1).symm.trans hf
    refine lv_aload_n hx hb dX6_give_7 rfl (lv_at hl 0 rfl) ?_
    refine gC_Runner_outcome X hP fl_X6_12 dX6_give_8 ?_
    refine lv_iload_n hx hb dX6_give_11 rfl (lv_at hl 1 rfl) ?_
    refine pC_Outcome_value X hP hS fl_X6_220 dX6_give_12 (fun H locs hP hS => ?_)
    obtain ⟨st6, hP, hf⟩ := nm_gen (P := fun z => HW D (VC mo) la (ECf cyI cyF cyM mo la) z H) hP hf
    obtain rfl := Option.some.inj hf
    exact w_vret X hr hlk hP hS dX6_give_15
theorem KX6_give : xKv yX6_give cX6_give 3 none RX6 1 := ⟨cd_X6_give, im_X6_give, se_X6_give, in_X6, by decide +kernel⟩
abbrev rm_X1_open : Room := { frames := 0, cells := 0, slots := 0, locals := 0 }
def fX1_open_b47 (N mo : Nat) (k13 : Nat → Int32 → Int32 → Int32 → xSt → Option xSt) (j0 : Nat) (a2 : Int32) (a4 : Int32) (a5 : Int32) (as0 : Int32) (as1 : Int32) (js2 : Nat) (st : xSt) : Option xSt := if as1 < 0 ∨ 8 ≤ (as1).toNatClampNeg then none else nm (pI st 21 js2 (as1).toNatClampNeg as0) (fun st12 => nm (a5 + (1 : Int32)) (fun x13 => k13 j0 a2 a4 x13 st12))
set_option maxHeartbeats 4000000 in
set_option maxRecDepth 100000 in
theorem BX1_open_47 {p : Program} {l : Launch} {e : Env} {s : State} {m : MethodId} {args : Array Value} {below : List Frame} {meth : Method} {c : Code} {D : va_G} {la : Nat → Nat → Nat} {cyI cyF cyM : ClassId} {t0 mo N : Nat} {k13 : Nat → Int32 → Int32 → Int32 → xSt → Option xSt} {st' : xSt} (X : xCx D (VC mo) la cyI cyF cyM t0 p m c cX1_open 6 s args RX1) (hr : meth.sig.returnType = none) (hlk : meth.locks = false) (hk13 : ∀ (j0 : Nat) (a2 : Int32) (a4 : Int32) (a5 : Int32) (st : xSt) (H : Heap) (locs : List Loc) (ls : Array Slot), VC mo 2 j0 → k13 j0 a2 a4 a5 st = some st' → HW D (VC mo) la (ECf cyI cyF cyM mo la) st H → va_S (xA (VC mo) la) s.heap H locs → lv_has ls 6 [(0, .ref (la 2 j0)), (2, .int a2), (3, .ref (la 20 5)), (4, .int a4), (5, .int a5)] → W p l e rm_X1_open s m args below meth c H locs 0 0 (MQ below (xQc D (VC mo) la (ECf cyI cyF cyM mo la) none st') args s 0 0 (xA (VC mo) la)) (F0 m 13 ls [])) : ∀ (j0 : Nat) (a2 : Int32) (a4 : Int32) (a5 : Int32) (as0 : Int32) (as1 : Int32) (js2 : Nat) (st : xSt) (H : Heap) (locs : List Loc) (ls : Array Slot), VC mo 2 j0 → VC mo 21 js2 → fX1_open_b47 N mo k13 j0 a2 a4 a5 as0 as1 js2 st = some st' → HW D (VC mo) la (ECf cyI cyF cyM mo la) st H → va_S (xA (VC mo) la) s.heap H locs → lv_has ls 6 [(0, .ref (la 2 j0)), (2, .int a2), (3, .ref (la 20 5)), (4, .int a4), (5, .int a5)] → W p l e rm_X1_open s m args below meth c H locs 0 0 (MQ below (xQc D (VC mo) la (ECf cyI cyF cyM mo la) none st') args s 0 0 (xA (VC mo) la)) (F0 m 47 ls [.int as0, .int as1, .ref (la 21 js2)]) := by
  have hx := X.1.1
  have hb := X.1.2.1
  intro j0 a2 a4 a5 as0 as1 js2 st H locs ls hj0 hjs2 hf hP hS hl
  unfold fX1_open_b47 at hf
  obtain ⟨hn11, hf⟩ := ck_of hf
  refine w_iast X hP hS (c0 := 21) (i0 := js2) hjs2 (n := 8) (fun _ => rfl) hn11 dX1_open_47 (fun H locs hP hS => ?_)
  obtain ⟨st12, hP, hf⟩ := nm_gen (P := fun z => HW D (VC mo) la (ECf cyI cyF cyM mo la) z H) hP hf
  obtain ⟨x13, ex⟩ : ∃ y : Int32, y = (a5 + (1 : Int32)) := ⟨_, rfl⟩
  replace hf := nm_of hf ex
  refine lv_iinc (v := x13) (lv' := [(5, .int x13), (0, .ref (la 2 j0)), (2, .int a2), (3, .ref (la 20 5)), (4, .int a4)]) hx hb dX1_open_48 hl (k := 4) rfl (by rw [ex]; rfl) (by decide) rfl (fun ls hl => ?_)
  clear ex
  refine lv_goto (tgt := 13) hx hb dX1_open_51 (by decide) ?_
  exact hk13 _ _ _ _ _ _ _ _ hj0 hf hP hS (lv_sub hl [1, 2, 3, 4, 0] rfl)
def fX1_open_b46 (N mo : Nat) (k13 : Nat → Int32 → Int32 → Int32 → xSt → Option xSt) (j0 : Nat) (a2 : Int32) (a4 : Int32) (a5 : Int32) (as0 : Int32) (js1 : Nat) (st : xSt) : Option xSt := fX1_open_b47 N mo k13 j0 a2 a4 a5 (0 : Int32) as0 js1 st
set_option maxHeartbeats 4000000 in
set_option maxRecDepth 100000 in
theorem BX1_open_46 {p : Program} {l : Launch} {e : Env} {s : State} {m : MethodId} {args : Array Value} {below : List Frame} {meth : Method} {c : Code} {D : va_G} {la : Nat → Nat → Nat} {cyI cyF cyM : ClassId} {t0 mo N : Nat} {k13 : Nat → Int32 → Int32 → Int32 → xSt → Option xSt} {st' : xSt} (X : xCx D (VC mo) la cyI cyF cyM t0 p m c cX1_open 6 s args RX1) (hr : meth.sig.returnType = none) (hlk : meth.locks = false) (hk13 : ∀ (j0 : Nat) (a2 : Int32) (a4 : Int32) (a5 : Int32) (st : xSt) (H : Heap) (locs : List Loc) (ls : Array Slot), VC mo 2 j0 → k13 j0 a2 a4 a5 st = some st' → HW D (VC mo) la (ECf cyI cyF cyM mo la) st H → va_S (xA (VC mo) la) s.heap H locs → lv_has ls 6 [(0, .ref (la 2 j0)), (2, .int a2), (3, .ref (la 20 5)), (4, .int a4), (5, .int a5)] → W p l e rm_X1_open s m args below meth c H locs 0 0 (MQ below (xQc D (VC mo) la (ECf cyI cyF cyM mo la) none st') args s 0 0 (xA (VC mo) la)) (F0 m 13 ls [])) : ∀ (j0 : Nat) (a2 : Int32) (a4 : Int32) (a5 : Int32) (as0 : Int32) (js1 : Nat) (st : xSt) (H : Heap) (locs : List Loc) (ls : Array Slot), VC mo 2 j0 → VC mo 21 js1 → fX1_open_b46 N mo k13 j0 a2 a4 a5 as0 js1 st = some st' → HW D (VC mo) la (ECf cyI cyF cyM mo la) st H → va_S (xA (VC mo) la) s.heap H locs → lv_has ls 6 [(0, .ref (la 2 j0)), (2, .int a2), (3, .ref (la 20 5)), (4, .int a4), (5, .int a5)] → W p l e rm_X1_open s m args below meth c H locs 0 0 (MQ below (xQc D (VC mo) la (ECf cyI cyF cyM mo la) none st') args s 0 0 (xA (VC mo) la)) (F0 m 46 ls [.int as0, .ref (la 21 js1)]) := by
  have hx := X.1.1
  have hb := X.1.2.1
  intro j0 a2 a4 a5 as0 js1 st H locs ls hj0 hjs1 hf hP hS hl
  unfold fX1_open_b46 at hf
  refine lv_iconst (v := 0) hx hb dX1_open_46 (by decide) ?_
  exact BX1_open_47 X hr hlk hk13 _ _ _ _ _ _ _ _ _ _ _ hj0 hjs1 hf hP hS (lv_sub hl [0, 1, 2, 3, 4] rfl)
def fX1_open_b13 (N mo : Nat) : Nat → Nat → Int32 → Int32 → Int32 → xSt → Option xSt
  | 0, _, _, _, _, _ => none
  | n + 1, j0, a2, a4, a5, st => if (8 : Int32) ≤ a5 then nm (pI st 2 j0 3 (1 : Int32)) (fun st4 => nm (pI st4 2 j0 5 (0 : Int32)) (fun st5 => nm (pI st5 2 j0 6 (0 : Int32)) (fun st6 => nm (pI st6 2 j0 7 (-1 : Int32)) (fun st7 => some st7)))) else if a4 ≤ a5 then fX1_open_b46 N mo (fX1_open_b13 N mo n) j0 a2 a4 a5 a5 j0 st else if a2 ≤ a5 then fX1_open_b46 N mo (fX1_open_b13 N mo n) j0 a2 a4 a5 a5 j0 st else if a5 < 0 ∨ 4 ≤ (a5).toNatClampNeg then none else fX1_open_b47 N mo (fX1_open_b13 N mo n) j0 a2 a4 a5 (st.1 20 5 (a5).toNatClampNeg) a5 j0 st
set_option maxHeartbeats 4000000 in
set_option maxRecDepth 100000 in
theorem BX1_open_13 {p : Program} {l : Launch} {e : Env} {s : State} {m : MethodId} {args : Array Value} {below : List Frame} {meth : Method} {c : Code} {D : va_G} {la : Nat → Nat → Nat} {cyI cyF cyM : ClassId} {t0 mo N : Nat} {st' : xSt} (X : xCx D (VC mo) la cyI cyF cyM t0 p m c cX1_open 6 s args RX1) (hr : meth.sig.returnType = none) (hlk : meth.locks = false) : ∀ n : Nat, ∀ (j0 : Nat) (a2 : Int32) (a4 : Int32) (a5 : Int32) (st : xSt) (H : Heap) (locs : List Loc) (ls : Array Slot), VC mo 2 j0 → fX1_open_b13 N mo n j0 a2 a4 a5 st = some st' → HW D (VC mo) la (ECf cyI cyF cyM mo la) st H → va_S (xA (VC mo) la) s.heap H locs → lv_has ls 6 [(0, .ref (la 2 j0)), (2, .int a2), (3, .ref (la 20 5)), (4, .int a4), (5, .int a5)] → W p l e rm_X1_open s m args below meth c H locs 0 0 (MQ below (xQc D (VC mo) la (ECf cyI cyF cyM mo la) none st') args s 0 0 (xA (VC mo) la)) (F0 m 13 ls []) := by
  have hx := X.1.1
  have hb := X.1.2.1
  intro n
  induction n with
  | zero =>
    intro j0 a2 a4 a5 st H locs ls hj0 hf hP hS hl
    rw [fX1_open_b13] at hf
    cases hf
  | succ n ih =>
    intro j0 a2 a4 a5 st H locs ls hj0 hf hP hS hl
    rw [fX1_open_b13] at hf
    refine lv_iload hx hb dX1_open_13 (lv_at hl 4 rfl) ?_
    refine lv_bipush (v := 8) hx hb dX1_open_15 (by decide) ?_
    refine lv_icmp_ge (tgt := 54) hx hb dX1_open_17 (by decide) (fun c3 => ?_) (fun c3 => ?_)
    · replace hf := (if_pos c3).symm.trans hf
      refine lv_aload_n hx hb dX1_open_54 rfl (lv_at hl 0 rfl) ?_
      refine lv_iconst (v := 1) hx hb dX1_open_55 (by decide) ?_
      refine pC_Frame_next X hP hS hj0 fl_X1_22 dX1_open_56 (fun H locs hP hS => ?_)
      obtain ⟨st4, hP, hf⟩ := nm_gen (P := fun z => HW D (VC mo) la (ECf cyI cyF cyM mo la) z H) hP hf
      refine lv_aload_n hx hb dX1_open_59 rfl (lv_at hl 0 rfl) ?_
      refine lv_iconst (v := 0) hx hb dX1_open_60 (by decide) ?_
      refine pC_Frame_nextRow X hP hS hj0 fl_X1_25 dX1_open_61 (fun H locs hP hS => ?_)
      obtain ⟨st5, hP, hf⟩ := nm_gen (P := fun z => HW D (VC mo) la (ECf cyI cyF cyM mo la) z H) hP hf
      refine lv_aload_n hx hb dX1_open_64 rfl (lv_at hl 0 rfl) ?_
      refine lv_iconst (v := 0) hx hb dX1_open_65 (by decide) ?_
      refine pC_Frame_catchAt X hP hS hj0 fl_X1_28 dX1_open_66 (fun H locs hP hS => ?_)
      obtain ⟨st6, hP, hf⟩ := nm_gen (P := fun z => HW D (VC mo) la (ECf cyI cyF cyM mo la) z H) hP hf
      refine lv_aload_n hx hb dX1_open_69 rfl (lv_at hl 0 rfl) ?_
      refine lv_iconst (v := -1) hx hb dX1_open_70 (by decide) ?_
      refine pC_Frame_catchRow X hP hS hj0 fl_X1_31 dX1_open_71 (fun H locs hP hS => ?_)
      obtain ⟨st7, hP, hf⟩ := nm_gen (P := fun z => HW D (VC mo) la (ECf cyI cyF cyM mo la) z H) hP hf
      obtain rfl := Option.some.inj hf
      exact w_vret X hr hlk hP hS dX1_open_74
    · replace hf := (if_neg c3).symm.trans hf
      refine lv_aload_n hx hb dX1_open_20 rfl (lv_at hl 0 rfl) ?_
      refine gC_Frame_locals X hP hj0 fl_X1_9 dX1_open_21 ?_
      refine lv_iload hx hb dX1_open_24 (lv_at hl 4 rfl) ?_
      refine lv_iload hx hb dX1_open_26 (lv_at hl 4 rfl) ?_
      refine lv_iload hx hb dX1_open_28 (lv_at hl 3 rfl) ?_
      refine lv_icmp_ge (tgt := 46) hx hb dX1_open_30 (by decide) (fun c8 => ?_) (fun c8 => ?_)
      · replace hf := (if_pos c8).symm.trans hf
        exact BX1_open_46 X hr hlk ih _ _ _ _ _ _ _ _ _ _ hj0 hj0 hf hP hS (lv_sub hl [0, 1, 2, 3, 4] rfl)
      · replace hf := (if_neg c8).symm.trans hf
        refine lv_iload hx hb dX1_open_33 (lv_at hl 4 rfl) ?_
        refine lv_iload_n hx hb dX1_open_35 rfl (lv_at hl 1 rfl) ?_
        refine lv_icmp_ge (tgt := 46) hx hb dX1_open_36 (by decide) (fun c9 => ?_) (fun c9 => ?_)
        · replace hf := (if_pos c9).symm.trans hf
          exact BX1_open_46 X hr hlk ih _ _ _ _ _ _ _ _ _ _ hj0 hj0 hf hP hS (lv_sub hl [0, 1, 2, 3, 4] rfl)
        · replace hf := (if_neg c9).symm.trans hf
          refine lv_aload_n hx hb dX1_open_39 rfl (lv_at hl 2 rfl) ?_
          refine lv_iload hx hb dX1_open_40 (lv_at hl 4 rfl) ?_
          obtain ⟨hn10, hf⟩ := ck_of hf
          refine w_iald X hP (c0 := 20) (i0 := 5) (show 5 < 7 by decide) (n := 4) rfl hn10 dX1_open_42 ?_
          refine lv_goto (tgt := 47) hx hb dX1_open_43 (by decide) ?_
          exact BX1_open_47 X hr hlk ih _ _ _ _ _ _ _ _ _ _ _ hj0 hj0 hf hP hS (lv_sub hl [0, 1, 2, 3, 4] rfl)
def fX1_open (N mo : Nat) (j0 : Nat) (a1 : Int32) (a2 : Int32) (a4 : Int32) (st : xSt) : Option xSt := nm (pI st 2 j0 2 a1) (fun st1 => nm (pI st1 2 j0 1 a2) (fun st2 => fX1_open_b13 N mo N j0 a2 a4 (0 : Int32) st2))
set_option maxHeartbeats 4000000 in
set_option maxRecDepth 100000 in
theorem TX1_open (l : Launch) {D : va_G} {la : Nat → Nat → Nat} {cyI cyF cyM : ClassId} {t0 mo N : Nat} {j0 : Nat} {a1 : Int32} {a2 : Int32} {a4 : Int32} (hj0 : VC mo 2 j0) {st : xSt} {st' : xSt} (hf : fX1_open N mo j0 a1 a2 a4 st = some st') : MetC D cyI cyF cyM mo la t0 l yX1_open (Cond.code yX1_open cX1_open 6 none :: xALL) rm_X1_open [.ref (la 2 j0), .int a1, .int a2, .ref (la 20 5), .int a4] none st st' := by
  refine MetW.intro (own := RX1) (by decide) (Nat.le_of_ble_eq_true rfl) rfl ?_
  intro p e s m below meth c X hr hlk hP ls hl
  have hx := X.1.1
  have hb := X.1.2.1
  have hS : va_S (xA (VC mo) la) s.heap s.heap [] := va_S.rf
  unfold fX1_open at hf
  replace hl : lv_has ls 6 [(0, .ref (la 2 j0)), (1, .int a1), (2, .int a2), (3, .ref (la 20 5)), (4, .int a4)] := hl
  refine lv_aload_n hx hb dX1_open_0 rfl (lv_at hl 0 rfl) ?_
  refine lv_iload_n hx hb dX1_open_1 rfl (lv_at hl 1 rfl) ?_
  refine pC_Frame_address X hP hS hj0 fl_X1_15 dX1_open_2 (fun H locs hP hS => ?_)
  obtain ⟨st1, hP, hf⟩ := nm_gen (P := fun z => HW D (VC mo) la (ECf cyI cyF cyM mo la) z H) hP hf
  refine lv_aload_n hx hb dX1_open_5 rfl (lv_at hl 0 rfl) ?_
  refine lv_iload_n hx hb dX1_open_6 rfl (lv_at hl 2 rfl) ?_
  refine pC_Frame_has X hP hS hj0 fl_X1_19 dX1_open_7 (fun H locs hP hS => ?_)
  obtain ⟨st2, hP, hf⟩ := nm_gen (P := fun z => HW D (VC mo) la (ECf cyI cyF cyM mo la) z H) hP hf
  refine lv_iconst (v := 0) hx hb dX1_open_10 (by decide) ?_
  refine lv_istore (lv' := [(5, .int (0 : Int32)), (0, .ref (la 2 j0)), (1, .int a1), (2, .int a2), (3, .ref (la 20 5)), (4, .int a4)]) hx hb dX1_open_11 hl (by decide) rfl (fun ls hl => ?_)
  exact BX1_open_13 X hr hlk N _ _ _ _ _ _ _ _ hj0 hf hP hS (lv_sub hl [1, 3, 4, 5, 0] rfl)
theorem KX1_open : xKv yX1_open cX1_open 6 none RX1 4 := ⟨cd_X1_open, im_X1_open, se_X1_open, in_X1, by decide +kernel⟩
abbrev rm_X6_enter : Room := { frames := 3, cells := 0, slots := 0, locals := 66 }
def fX6_enter_b78 (N mo : Nat) (st : xSt) : Option xSt := Option.bind (fX6_fail N mo (3 : Int32) st) (fun st28 => some st28)
set_option maxHeartbeats 4000000 in
set_option maxRecDepth 100000 in
theorem BX6_enter_78 {p : Program} {l : Launch} {e : Env} {s : State} {m : MethodId} {args : Array Value} {below : List Frame} {meth : Method} {c : Code} {D : va_G} {la : Nat → Nat → Nat} {cyI cyF cyM : ClassId} {t0 mo N : Nat} {st' : xSt} (X : xCx D (VC mo) la cyI cyF cyM t0 p m c cX6_enter 5 s args RX6) (hr : meth.sig.returnType = none) (hlk : meth.locks = false) : ∀ (st : xSt) (H : Heap) (locs : List Loc) (ls : Array Slot), fX6_enter_b78 N mo st = some st' → HW D (VC mo) la (ECf cyI cyF cyM mo la) st H → va_S (xA (VC mo) la) s.heap H locs → lv_has ls 5 [(0, .ref (la 6 0))] → W p l e rm_X6_enter s m args below meth c H locs 0 0 (MQ below (xQc D (VC mo) la (ECf cyI cyF cyM mo la) none st') args s 0 0 (xA (VC mo) la)) (F0 m 78 ls []) := by
  have hx := X.1.1
  have hb := X.1.2.1
  intro st H locs ls hf hP hS hl
  unfold fX6_enter_b78 at hf
  refine lv_aload_n hx hb dX6_enter_78 rfl (lv_at hl 0 rfl) ?_
  refine lv_iconst (v := 3) hx hb dX6_enter_79 (by decide) ?_
  obtain ⟨st28, hr29, hf⟩ := bd_of hf
  refine w_V0 X (TX6_fail l hr29) hP hS rfl KX6_fail ml_X6_97 ⟨rfl, rfl⟩ ⟨by decide, by decide⟩ (x_recv (E := fun c i => (ECf cyI cyF cyM mo la) (st.1 c i) st.2 c i) (c0 := 6) (i0 := 0) X.2.2.1 hP rfl (ci := 6) rfl rfl) rfl hl.1 (Nat.le_of_ble_eq_true rfl) dX6_enter_80 (fun H locs hP hS => ?_)
  obtain rfl := Option.some.inj hf
  exact w_vret X hr hlk hP hS dX6_enter_83
def fX6_enter_b146 (N mo : Nat) (j4 : Nat) (qs0 : Nat) (js1 : Nat) (st : xSt) : Option xSt := nm (pQ st 1 js1 qs0) (fun st30 => nm (pI st30 20 0 4 ((st30.1 20 0 4) + (1 : Int32))) (fun st31 => if (st31.2 1 j4) = 0 then some st31 else nm (pI st31 20 0 5 ((st31.1 20 0 5) + (1 : Int32))) (fun st33 => some st33)))
set_option maxHeartbeats 4000000 in
set_option maxRecDepth 100000 in
theorem BX6_enter_146 {p : Program} {l : Launch} {e : Env} {s : State} {m : MethodId} {args : Array Value} {below : List Frame} {meth : Method} {c : Code} {D : va_G} {la : Nat → Nat → Nat} {cyI cyF cyM : ClassId} {t0 mo N : Nat} {st' : xSt} (X : xCx D (VC mo) la cyI cyF cyM t0 p m c cX6_enter 5 s args RX6) (hr : meth.sig.returnType = none) (hlk : meth.locks = false) : ∀ (j4 : Nat) (qs0 : Nat) (js1 : Nat) (st : xSt) (H : Heap) (locs : List Loc) (ls : Array Slot), VC mo 2 j4 → VC mo 2 js1 → fX6_enter_b146 N mo j4 qs0 js1 st = some st' → HW D (VC mo) la (ECf cyI cyF cyM mo la) st H → va_S (xA (VC mo) la) s.heap H locs → lv_has ls 5 [(0, .ref (la 6 0)), (4, .ref (la 2 j4))] → W p l e rm_X6_enter s m args below meth c H locs 0 0 (MQ below (xQc D (VC mo) la (ECf cyI cyF cyM mo la) none st') args s 0 0 (xA (VC mo) la)) (F0 m 146 ls [va_rf (mrf la mo qs0), .ref (la 2 js1)]) := by
  have hx := X.1.1
  have hb := X.1.2.1
  intro j4 qs0 js1 st H locs ls hj4 hjs1 hf hP hS hl
  unfold fX6_enter_b146 at hf
  refine pC_Frame_made X hP hS (k := qs0) hjs1 fl_X6_119 dX6_enter_146 (fun H locs hP hS => ?_)
  obtain ⟨st30, hP, hf⟩ := nm_gen (P := fun z => HW D (VC mo) la (ECf cyI cyF cyM mo la) z H) hP hf
  refine lv_aload_n hx hb dX6_enter_149 rfl (lv_at hl 0 rfl) ?_
  refine gC_Runner_counts X hP fl_X6_50 dX6_enter_150 ?_
  refine lv_iconst (v := 4) hx hb dX6_enter_153 (by decide) ?_
  refine lv_dup2_11 hx hb dX6_enter_154 rfl rfl ?_
  refine w_ialdK X hP (c0 := 20) (i0 := 0) (show 0 < 7 by decide) (n := 8) (fun _ => rfl) 4 (by decide) (show ¬ ((4 : Int32) < 0 ∨ 8 ≤ ((4 : Int32)).toNatClampNeg) by decide) dX6_enter_155 ?_
  refine lv_iconst (v := 1) hx hb dX6_enter_156 (by decide) ?_
  refine lv_iadd hx hb dX6_enter_157 ?_
  refine w_iastK X hP hS (c0 := 20) (i0 := 0) (show 0 < 7 by decide) (n := 8) (fun _ => rfl) 4 (by decide) (show ¬ ((4 : Int32) < 0 ∨ 8 ≤ ((4 : Int32)).toNatClampNeg) by decide) dX6_enter_158 (fun H locs hP hS => ?_)
  obtain ⟨st31, hP, hf⟩ := nm_gen (P := fun z => HW D (VC mo) la (ECf cyI cyF cyM mo la) z H) hP hf
  refine lv_aload hx hb dX6_enter_159 (lv_at hl 1 rfl) ?_
  refine gC_Frame_made X hP hj4 fl_X6_119 dX6_enter_161 ?_
  refine w_ifnull hx hb dX6_enter_164 (tgt := 177) (by decide) (fun c32 => ?_) (fun c32 => ?_)
  · replace hf := (if_pos c32).symm.trans hf
    obtain rfl := Option.some.inj hf
    exact w_vret X hr hlk hP hS dX6_enter_177
  · replace hf := (if_neg c32).symm.trans hf
    refine lv_aload_n hx hb dX6_enter_167 rfl (lv_at hl 0 rfl) ?_
    refine gC_Runner_counts X hP fl_X6_50 dX6_enter_168 ?_
    refine lv_iconst (v := 5) hx hb dX6_enter_171 (by decide) ?_
    refine lv_dup2_11 hx hb dX6_enter_172 rfl rfl ?_
    refine w_ialdK X hP (c0 := 20) (i0 := 0) (show 0 < 7 by decide) (n := 8) (fun _ => rfl) 5 (by decide) (show ¬ ((5 : Int32) < 0 ∨ 8 ≤ ((5 : Int32)).toNatClampNeg) by decide) dX6_enter_173 ?_
    refine lv_iconst (v := 1) hx hb dX6_enter_174 (by decide) ?_
    refine lv_iadd hx hb dX6_enter_175 ?_
    refine w_iastK X hP hS (c0 := 20) (i0 := 0) (show 0 < 7 by decide) (n := 8) (fun _ => rfl) 5 (by decide) (show ¬ ((5 : Int32) < 0 ∨ 8 ≤ ((5 : Int32)).toNatClampNeg) by decide) dX6_enter_176 (fun H locs hP hS => ?_)
    obtain ⟨st33, hP, hf⟩ := nm_gen (P := fun z => HW D (VC mo) la (ECf cyI cyF cyM mo la) z H) hP hf
    obtain rfl := Option.some.inj hf
    exact w_vret X hr hlk hP hS dX6_enter_177
def fX6_enter_b17 (N mo : Nat) (a1 : Int32) (a2 : Int32) (as0 : Int32) (st : xSt) : Option xSt := if as0 = (0 : Int32) then if (st.1 6 0 10) < (12 : Int32) then if a1 = (-1 : Int32) then fX6_enter_b78 N mo st else bd (fX3_hasRoutine N mo a1 st) (fun v8 st6 => if v8 = (0 : Int32) then fX6_enter_b78 N mo st6 else if (st6.1 6 0 10) < 0 ∨ 12 ≤ ((st6.1 6 0 10)).toNatClampNeg then none else nm (((st6.1 6 0 10)).toNatClampNeg) (fun j11 => nm (pI st6 6 0 10 ((st6.1 6 0 10) + (1 : Int32))) (fun st12 => if a1 < 0 ∨ 1024 ≤ (a1).toNatClampNeg then none else Option.bind (fX1_open N mo j11 a1 (st12.1 20 3 (a1).toNatClampNeg) a2 st12) (fun st14 => if (st14.1 6 0 9) = (0 : Int32) then fX6_enter_b146 N mo j11 0 j11 st14 else bd (fX7_find N mo a1 st14) (fun v19 st17 => fX6_enter_b146 N mo j11 v19 j11 st17))))) else Option.bind (fX6_fail N mo (4 : Int32) st) (fun st20 => some st20) else bd (fX6_valueOfBuiltIn N mo as0 a2 st) (fun v24 st22 => if (st22.1 5 0 1) = (0 : Int32) then Option.bind (fX6_give N mo v24 st22) (fun st26 => some st26) else some st22)
set_option maxHeartbeats 4000000 in
set_option maxRecDepth 100000 in
theorem BX6_enter_17 {p : Program} {l : Launch} {e : Env} {s : State} {m : MethodId} {args : Array Value} {below : List Frame} {meth : Method} {c : Code} {D : va_G} {la : Nat → Nat → Nat} {cyI cyF cyM : ClassId} {t0 mo N : Nat} {st' : xSt} (X : xCx D (VC mo) la cyI cyF cyM t0 p m c cX6_enter 5 s args RX6) (hr : meth.sig.returnType = none) (hlk : meth.locks = false) : ∀ (a1 : Int32) (a2 : Int32) (as0 : Int32) (st : xSt) (H : Heap) (locs : List Loc) (ls : Array Slot), fX6_enter_b17 N mo a1 a2 as0 st = some st' → HW D (VC mo) la (ECf cyI cyF cyM mo la) st H → va_S (xA (VC mo) la) s.heap H locs → lv_has ls 5 [(0, .ref (la 6 0)), (1, .int a1), (2, .int a2)] → W p l e rm_X6_enter s m args below meth c H locs 0 0 (MQ below (xQc D (VC mo) la (ECf cyI cyF cyM mo la) none st') args s 0 0 (xA (VC mo) la)) (F0 m 17 ls [.int as0]) := by
  have hx := X.1.1
  have hb := X.1.2.1
  intro a1 a2 as0 st H locs ls hf hP hS hl
  unfold fX6_enter_b17 at hf
  refine lv_istore_n (lv' := [(3, .int as0), (0, .ref (la 6 0)), (1, .int a1), (2, .int a2)]) hx hb dX6_enter_17 rfl hl (by decide) rfl (fun ls hl => ?_)
  refine lv_iload_n hx hb dX6_enter_18 rfl (lv_at hl 0 rfl) ?_
  refine lv_if_eq (tgt := 47) hx hb dX6_enter_19 (by decide) (fun c3 => ?_) (fun c3 => ?_)
  · replace hf := (if_pos c3).symm.trans hf
    refine lv_aload_n hx hb dX6_enter_47 rfl (lv_at hl 1 rfl) ?_
    refine gC_Runner_depth X hP fl_X6_61 dX6_enter_48 ?_
    refine lv_bipush (v := 12) hx hb dX6_enter_51 (by decide) ?_
    refine lv_icmp_lt (tgt := 62) hx hb dX6_enter_53 (by decide) (fun c4 => ?_) (fun c4 => ?_)
    · replace hf := (if_pos c4).symm.trans hf
      refine lv_iload_n hx hb dX6_enter_62 rfl (lv_at hl 2 rfl) ?_
      refine lv_iconst (v := -1) hx hb dX6_enter_63 (by decide) ?_
      refine lv_icmp_eq (tgt := 78) hx hb dX6_enter_64 (by decide) (fun c5 => ?_) (fun c5 => ?_)
      · replace hf := (if_pos c5).symm.trans hf
        exact BX6_enter_78 X hr hlk _ _ _ _  hf hP hS (lv_sub hl [1] rfl)
      · replace hf := (if_neg c5).symm.trans hf
        refine lv_aload_n hx hb dX6_enter_67 rfl (lv_at hl 1 rfl) ?_
        refine gC_Runner_memory X hP fl_X6_39 dX6_enter_68 ?_
        refine lv_iload_n hx hb dX6_enter_71 rfl (lv_at hl 2 rfl) ?_
        obtain ⟨v8, st6, hr7, hf⟩ := bd_2 hf
        refine w_V1 X (TX3_hasRoutine l hr7) hP hS rfl KX3_hasRoutine ml_X6_100 ⟨rfl, rfl⟩ ⟨by decide, by decide⟩ (x_recv (E := fun c i => (ECf cyI cyF cyM mo la) (st.1 c i) st.2 c i) (c0 := 4) (i0 := 0) X.2.2.1 hP rfl (ci := 4) rfl rfl) rfl hl.1 (Nat.le_of_ble_eq_true rfl) dX6_enter_72 (fun H locs hP hS => ?_)
        refine lv_if_ne (tgt := 84) hx hb dX6_enter_75 (by decide) (fun c9 => ?_) (fun c9 => ?_)
        · replace hf := (if_neg c9).symm.trans hf
          refine lv_aload_n hx hb dX6_enter_84 rfl (lv_at hl 1 rfl) ?_
          refine gC_Runner_frames X hP fl_X6_24 dX6_enter_85 ?_
          refine lv_aload_n hx hb dX6_enter_88 rfl (lv_at hl 1 rfl) ?_
          refine gC_Runner_depth X hP fl_X6_61 dX6_enter_89 ?_
          obtain ⟨hn10, hf⟩ := ck_of hf
          refine gC_frames X hP hn10 dX6_enter_92 ?_
          obtain ⟨j11, ej, hj11⟩ : ∃ y : Nat, y = ((st6.1 6 0 10)).toNatClampNeg ∧ VC mo 2 y := ⟨_, rfl, (Nat.lt_of_not_le (fun z => hn10 (Or.inr z)))⟩
          refine w_top (v' := .ref (la 2 j11)) (by rw [ej]) ?_
          replace hf := nm_of hf ej
          clear ej
          refine lv_astore (lv' := [(4, .ref (la 2 j11)), (3, .int as0), (0, .ref (la 6 0)), (1, .int a1), (2, .int a2)]) hx hb dX6_enter_93 hl (by decide) rfl (fun ls hl => ?_)
          refine lv_aload_n hx hb dX6_enter_95 rfl (lv_at hl 2 rfl) ?_
          refine lv_dup hx hb dX6_enter_96 rfl ?_
          refine gC_Runner_depth X hP fl_X6_61 dX6_enter_97 ?_
          refine lv_iconst (v := 1) hx hb dX6_enter_100 (by decide) ?_
          refine lv_iadd hx hb dX6_enter_101 ?_
          refine pC_Runner_depth X hP hS fl_X6_61 dX6_enter_102 (fun H locs hP hS => ?_)
          obtain ⟨st12, hP, hf⟩ := nm_gen (P := fun z => HW D (VC mo) la (ECf cyI cyF cyM mo la) z H) hP hf
          refine lv_aload hx hb dX6_enter_105 (lv_at hl 0 rfl) ?_
          refine lv_iload_n hx hb dX6_enter_107 rfl (lv_at hl 3 rfl) ?_
          refine lv_aload_n hx hb dX6_enter_108 rfl (lv_at hl 2 rfl) ?_
          refine gC_Runner_memory X hP fl_X6_39 dX6_enter_109 ?_
          refine gC_Memory_bytes X hP fl_X6_106 dX6_enter_112 ?_
          refine lv_iload_n hx hb dX6_enter_115 rfl (lv_at hl 3 rfl) ?_
          obtain ⟨hn13, hf⟩ := ck_of hf
          refine w_iald X hP (c0 := 20) (i0 := 3) (show 3 < 7 by decide) (n := 1024) rfl hn13 dX6_enter_116 ?_
          refine lv_aload_n hx hb dX6_enter_117 rfl (lv_at hl 2 rfl) ?_
          refine gC_Runner_handed X hP fl_X6_28 dX6_enter_118 ?_
          refine lv_iload_n hx hb dX6_enter_121 rfl (lv_at hl 4 rfl) ?_
          obtain ⟨st14, hr15, hf⟩ := bd_of hf
          refine w_V0 X (TX1_open l hj11 hr15) hP hS rfl KX1_open ml_X6_109 ⟨rfl, rfl⟩ ⟨by decide, by decide⟩ (x_recv (E := fun c i => (ECf cyI cyF cyM mo la) (st12.1 c i) st12.2 c i) (c0 := 2) (i0 := j11) X.2.2.1 hP hj11 (ci := 2) rfl rfl) rfl hl.1 (Nat.le_of_ble_eq_true rfl) dX6_enter_122 (fun H locs hP hS => ?_)
          refine lv_aload hx hb dX6_enter_125 (lv_at hl 0 rfl) ?_
          refine lv_aload_n hx hb dX6_enter_127 rfl (lv_at hl 2 rfl) ?_
          refine gC_Runner_usesMade X hP fl_X6_57 dX6_enter_128 ?_
          refine lv_if_eq (tgt := 145) hx hb dX6_enter_131 (by decide) (fun c16 => ?_) (fun c16 => ?_)
          · replace hf := (if_pos c16).symm.trans hf
            refine lv_null hx hb dX6_enter_145 ?_
            refine w_top ((mrf_0 (la := la) (mo := mo) (k := 0) rfl).symm) ?_
            exact BX6_enter_146 X hr hlk _ _ _ _ _ _ _ hj11 hj11 hf hP hS (lv_sub hl [2, 0] rfl)
          · replace hf := (if_neg c16).symm.trans hf
            refine lv_aload_n hx hb dX6_enter_134 rfl (lv_at hl 2 rfl) ?_
            refine gC_Runner_shelf X hP fl_X6_43 dX6_enter_135 ?_
            refine lv_iload_n hx hb dX6_enter_138 rfl (lv_at hl 3 rfl) ?_
            obtain ⟨v19, st17, hr18, hf⟩ := bd_2 hf
            refine w_V1 X (TX7_find l hr18) hP hS rfl KX7_find ml_X6_113 ⟨rfl, rfl⟩ ⟨by decide, by decide⟩ (x_recv (E := fun c i => (ECf cyI cyF cyM mo la) (st14.1 c i) st14.2 c i) (c0 := 7) (i0 := 0) X.2.2.1 hP rfl (ci := 7) rfl rfl) rfl hl.1 (Nat.le_of_ble_eq_true rfl) dX6_enter_139 (fun H locs hP hS => ?_)
            refine lv_goto (tgt := 146) hx hb dX6_enter_142 (by decide) ?_
            exact BX6_enter_146 X hr hlk _ _ _ _ _ _ _ hj11 hj11 hf hP hS (lv_sub hl [2, 0] rfl)
        · replace hf := (if_pos c9).symm.trans hf
          exact BX6_enter_78 X hr hlk _ _ _ _  hf hP hS (lv_sub hl [1] rfl)
    · replace hf := (if_neg c4).symm.trans hf
      refine lv_aload_n hx hb dX6_enter_56 rfl (lv_at hl 1 rfl) ?_
      refine lv_iconst (v := 4) hx hb dX6_enter_57 (by decide) ?_
      obtain ⟨st20, hr21, hf⟩ := bd_of hf
      refine w_V0 X (TX6_fail l hr21) hP hS rfl KX6_fail ml_X6_97 ⟨rfl, rfl⟩ ⟨by decide, by decide⟩ (x_recv (E := fun c i => (ECf cyI cyF cyM mo la) (st.1 c i) st.2 c i) (c0 := 6) (i0 := 0) X.2.2.1 hP rfl (ci := 6) rfl rfl) rfl hl.1 (Nat.le_of_ble_eq_true rfl) dX6_enter_58 (fun H locs hP hS => ?_)
      obtain rfl := Option.some.inj hf
      exact w_vret X hr hlk hP hS dX6_enter_61
  · replace hf := (if_neg c3).symm.trans hf
    refine lv_aload_n hx hb dX6_enter_22 rfl (lv_at hl 1 rfl) ?_
    refine lv_iload_n hx hb dX6_enter_23 rfl (lv_at hl 0 rfl) ?_
    refine lv_iload_n hx hb dX6_enter_24 rfl (lv_at hl 3 rfl) ?_
    obtain ⟨v24, st22, hr23, hf⟩ := bd_2 hf
    refine w_V1 X (TX6_valueOfBuiltIn l hr23) hP hS rfl KX6_valueOfBuiltIn ml_X6_89 ⟨rfl, rfl⟩ ⟨by decide, by decide⟩ (x_recv (E := fun c i => (ECf cyI cyF cyM mo la) (st.1 c i) st.2 c i) (c0 := 6) (i0 := 0) X.2.2.1 hP rfl (ci := 6) rfl rfl) rfl hl.1 (Nat.le_of_ble_eq_true rfl) dX6_enter_25 (fun H locs hP hS => ?_)
    refine lv_istore (lv' := [(4, .int v24), (3, .int as0), (0, .ref (la 6 0)), (1, .int a1), (2, .int a2)]) hx hb dX6_enter_28 hl (by decide) rfl (fun ls hl => ?_)
    refine lv_aload_n hx hb dX6_enter_30 rfl (lv_at hl 2 rfl) ?_
    refine gC_Runner_outcome X hP fl_X6_12 dX6_enter_31 ?_
    refine gC_Outcome_fault X hP fl_X6_86 dX6_enter_34 ?_
    refine lv_if_ne (tgt := 46) hx hb dX6_enter_37 (by decide) (fun c25 => ?_) (fun c25 => ?_)
    · replace hf := (if_neg c25).symm.trans hf
      obtain rfl := Option.some.inj hf
      exact w_vret X hr hlk hP hS dX6_enter_46
    · replace hf := (if_pos c25).symm.trans hf
      refine lv_aload_n hx hb dX6_enter_40 rfl (lv_at hl 2 rfl) ?_
      refine lv_iload hx hb dX6_enter_41 (lv_at hl 0 rfl) ?_
      obtain ⟨st26, hr27, hf⟩ := bd_of hf
      refine w_V0 X (TX6_give l hr27) hP hS rfl KX6_give ml_X6_93 ⟨rfl, rfl⟩ ⟨by decide, by decide⟩ (x_recv (E := fun c i => (ECf cyI cyF cyM mo la) (st22.1 c i) st22.2 c i) (c0 := 6) (i0 := 0) X.2.2.1 hP rfl (ci := 6) rfl rfl) rfl hl.1 (Nat.le_of_ble_eq_true rfl) dX6_enter_43 (fun H locs hP hS => ?_)
      obtain rfl := Option.some.inj hf
      exact w_vret X hr hlk hP hS dX6_enter_46
def fX6_enter (N mo : Nat) (a1 : Int32) (a2 : Int32) (st : xSt) : Option xSt := if a1 = (-1 : Int32) then fX6_enter_b17 N mo a1 a2 (0 : Int32) st else if (a1 / (4 : Int32)) < 0 ∨ 256 ≤ ((a1 / (4 : Int32))).toNatClampNeg then none else fX6_enter_b17 N mo a1 a2 (st.1 20 4 ((a1 / (4 : Int32))).toNatClampNeg) st
set_option maxHeartbeats 4000000 in
set_option maxRecDepth 100000 in
theorem TX6_enter (l : Launch) {D : va_G} {la : Nat → Nat → Nat} {cyI cyF cyM : ClassId} {t0 mo N : Nat} {a1 : Int32} {a2 : Int32} {st : xSt} {st' : xSt} (hf : fX6_enter N mo a1 a2 st = some st') : MetC D cyI cyF cyM mo la t0 l yX6_enter (Cond.code yX6_enter cX6_enter 5 none :: xALL) rm_X6_enter [.ref (la 6 0), .int a1, .int a2] none st st' := by
  refine MetW.intro (own := RX6) (by decide) (Nat.le_of_ble_eq_true rfl) rfl ?_
  intro p e s m below meth c X hr hlk hP ls hl
  have hx := X.1.1
  have hb := X.1.2.1
  have hS : va_S (xA (VC mo) la) s.heap s.heap [] := va_S.rf
  unfold fX6_enter at hf
  replace hl : lv_has ls 5 [(0, .ref (la 6 0)), (1, .int a1), (2, .int a2)] := hl
  refine lv_iload_n hx hb dX6_enter_0 rfl (lv_at hl 1 rfl) ?_
  refine lv_iconst (v := -1) hx hb dX6_enter_1 (by decide) ?_
  refine lv_icmp_ne (tgt := 9) hx hb dX6_enter_2 (by decide) (fun c1 => ?_) (fun c1 => ?_)
  · replace hf := (if_neg c1).symm.trans hf
    refine lv_aload_n hx hb dX6_enter_9 rfl (lv_at hl 0 rfl) ?_
    refine gC_Runner_builtIns X hP fl_X6_18 dX6_enter_10 ?_
    refine lv_iload_n hx hb dX6_enter_13 rfl (lv_at hl 1 rfl) ?_
    refine lv_iconst (v := 4) hx hb dX6_enter_14 (by decide) ?_
    refine lv_idiv hx hb dX6_enter_15 (by decide) ?_
    obtain ⟨hn2, hf⟩ := ck_of hf
    refine w_iald X hP (c0 := 20) (i0 := 4) (show 4 < 7 by decide) (n := 256) rfl hn2 dX6_enter_16 ?_
    exact BX6_enter_17 X hr hlk _ _ _ _ _ _ _  hf hP hS (lv_sub hl [0, 1, 2] rfl)
  · replace hf := (if_pos c1).symm.trans hf
    refine lv_iconst (v := 0) hx hb dX6_enter_5 (by decide) ?_
    refine lv_goto (tgt := 17) hx hb dX6_enter_6 (by decide) ?_
    exact BX6_enter_17 X hr hlk _ _ _ _ _ _ _  hf hP hS (lv_sub hl [0, 1, 2] rfl)
theorem KX6_enter : xKv yX6_enter cX6_enter 5 none RX6 2 := ⟨cd_X6_enter, im_X6_enter, se_X6_enter, in_X6, by decide +kernel⟩
abbrev rm_X1_goesByMade : Room := { frames := 0, cells := 0, slots := 0, locals := 0 }
def fX1_goesByMade (N mo : Nat) (j0 : Nat) (st : xSt) : Option (Int32 × xSt) := if (st.2 1 j0) = 0 then some ((0 : Int32), st) else if (st.2 1 j0) = 0 then none else if (st.1 3 (min ((st.2 1 j0) - 1) mo) 3) = (0 : Int32) then some ((0 : Int32), st) else if (st.1 2 j0 5) < (0 : Int32) then some ((0 : Int32), st) else if (st.2 1 j0) = 0 then none else if (st.1 3 (min ((st.2 1 j0) - 1) mo) 1) ≤ (st.1 2 j0 5) then some ((0 : Int32), st) else some ((1 : Int32), st)
set_option maxHeartbeats 4000000 in
set_option maxRecDepth 100000 in
theorem TX1_goesByMade (l : Launch) {D : va_G} {la : Nat → Nat → Nat} {cyI cyF cyM : ClassId} {t0 mo N : Nat} {j0 : Nat} (hj0 : VC mo 2 j0) {st : xSt} {r : Int32} {st' : xSt} (hf : fX1_goesByMade N mo j0 st = some (r, st')) : MetC D cyI cyF cyM mo la t0 l yX1_goesByMade (Cond.code yX1_goesByMade cX1_goesByMade 1 (some .boolean) :: xALL) rm_X1_goesByMade [.ref (la 2 j0)] (some (.int r)) st st' := by
  refine MetW.intro (own := RX1) (by decide) (Nat.le_of_ble_eq_true rfl) rfl ?_
  intro p e s m below meth c X hr hlk hP ls hl
  have hx := X.1.1
  have hb := X.1.2.1
  have hS : va_S (xA (VC mo) la) s.heap s.heap [] := va_S.rf
  unfold fX1_goesByMade at hf
  replace hl : lv_has ls 1 [(0, .ref (la 2 j0))] := hl
  refine lv_aload_n hx hb dX1_goesByMade_0 rfl (lv_at hl 0 rfl) ?_
  refine gC_Frame_made X hP hj0 fl_X1_34 dX1_goesByMade_1 ?_
  refine w_ifnull hx hb dX1_goesByMade_4 (tgt := 42) (by decide) (fun c1 => ?_) (fun c1 => ?_)
  · replace hf := (if_pos c1).symm.trans hf
    refine lv_iconst (v := 0) hx hb dX1_goesByMade_42 (by decide) ?_
    obtain ⟨rfl, rfl⟩ := sp_2 hf
    exact w_zret X hr hlk (by decide) hP hS dX1_goesByMade_43
  · replace hf := (if_neg c1).symm.trans hf
    refine lv_aload_n hx hb dX1_goesByMade_7 rfl (lv_at hl 0 rfl) ?_
    refine gC_Frame_made X hP hj0 fl_X1_34 dX1_goesByMade_8 ?_
    obtain ⟨hz2, hf⟩ := ck_of hf
    refine w_top (mrf_p hz2) ?_
    refine gC_Made_isKept X hP (VC_m mo _) fl_X1_38 dX1_goesByMade_11 ?_
    refine lv_if_eq (tgt := 42) hx hb dX1_goesByMade_14 (by decide) (fun c3 => ?_) (fun c3 => ?_)
    · replace hf := (if_pos c3).symm.trans hf
      refine lv_iconst (v := 0) hx hb dX1_goesByMade_42 (by decide) ?_
      obtain ⟨rfl, rfl⟩ := sp_2 hf
      exact w_zret X hr hlk (by decide) hP hS dX1_goesByMade_43
    · replace hf := (if_neg c3).symm.trans hf
      refine lv_aload_n hx hb dX1_goesByMade_17 rfl (lv_at hl 0 rfl) ?_
      refine gC_Frame_nextRow X hP hj0 fl_X1_25 dX1_goesByMade_18 ?_
      refine lv_if_lt (tgt := 42) hx hb dX1_goesByMade_21 (by decide) (fun c4 => ?_) (fun c4 => ?_)
      · replace hf := (if_pos c4).symm.trans hf
        refine lv_iconst (v := 0) hx hb dX1_goesByMade_42 (by decide) ?_
        obtain ⟨rfl, rfl⟩ := sp_2 hf
        exact w_zret X hr hlk (by decide) hP hS dX1_goesByMade_43
      · replace hf := (if_neg c4).symm.trans hf
        refine lv_aload_n hx hb dX1_goesByMade_24 rfl (lv_at hl 0 rfl) ?_
        refine gC_Frame_nextRow X hP hj0 fl_X1_25 dX1_goesByMade_25 ?_
        refine lv_aload_n hx hb dX1_goesByMade_28 rfl (lv_at hl 0 rfl) ?_
        refine gC_Frame_made X hP hj0 fl_X1_34 dX1_goesByMade_29 ?_
        obtain ⟨hz5, hf⟩ := ck_of hf
        refine w_top (mrf_p hz5) ?_
        refine gC_Made_size X hP (VC_m mo _) fl_X1_44 dX1_goesByMade_32 ?_
        refine lv_icmp_ge (tgt := 42) hx hb dX1_goesByMade_35 (by decide) (fun c6 => ?_) (fun c6 => ?_)
        · replace hf := (if_pos c6).symm.trans hf
          refine lv_iconst (v := 0) hx hb dX1_goesByMade_42 (by decide) ?_
          obtain ⟨rfl, rfl⟩ := sp_2 hf
          exact w_zret X hr hlk (by decide) hP hS dX1_goesByMade_43
        · replace hf := (if_neg c6).symm.trans hf
          refine lv_iconst (v := 1) hx hb dX1_goesByMade_38 (by decide) ?_
          refine lv_goto (tgt := 43) hx hb dX1_goesByMade_39 (by decide) ?_
          obtain ⟨rfl, rfl⟩ := sp_2 hf
          exact w_zret X hr hlk (by decide) hP hS dX1_goesByMade_43
theorem KX1_goesByMade : xKv yX1_goesByMade cX1_goesByMade 1 (some .boolean) RX1 0 := ⟨cd_X1_goesByMade, im_X1_goesByMade, se_X1_goesByMade, in_X1, by decide +kernel⟩
