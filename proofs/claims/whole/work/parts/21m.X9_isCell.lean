abbrev rm_X9_isCell : Room := { frames := 0, cells := 0, slots := 0, locals := 0 }
def fX9_isCell_b33 (N : Nat) (st : xSt) : Option (Int32 × xSt) := some ((1 : Int32), st)
set_option maxHeartbeats 4000000 in
set_option maxRecDepth 100000 in
theorem BX9_isCell_33 {p : Program} {l : Launch} {e : Env} {s : State} {m : MethodId} {args : Array Value} {below : List Frame} {meth : Method} {c : Code} {D : va_G} {la : Nat → Nat → Nat} {cyI cyF cyM : ClassId} {t0 N : Nat} {r : Int32} {st' : xSt} (X : xCx D VM la cyI cyF cyM t0 p m c cX9_isCell 2 s args RX9) (hr : meth.sig.returnType = (some .boolean)) (hlk : meth.locks = false) : ∀ (st : xSt) (H : Heap) (locs : List Loc) (ls : Array Slot), fX9_isCell_b33 N st = some (r, st') → HW D VM la (EMf cyI la) st H → va_S (xA VM la) s.heap H locs → lv_has ls 2 [] → W p l e rm_X9_isCell s m args below meth c H locs 0 0 (MQ below (xQc D VM la (EMf cyI la) (some (.int r)) st') args s 0 0 (xA VM la)) (F0 m 33 ls []) := by
  have hx := X.1.1
  have hb := X.1.2.1
  intro st H locs ls hf hP hS hl
  unfold fX9_isCell_b33 at hf
  refine lv_iconst (v := 1) hx hb dX9_isCell_33 (by decide) ?_
  refine lv_goto (tgt := 38) hx hb dX9_isCell_34 (by decide) ?_
  obtain ⟨rfl, rfl⟩ := sp_2 hf
  exact w_zret X hr hlk (by decide) hP hS dX9_isCell_38
def fX9_isCell_b19 (N : Nat) (a1 : Int32) (st : xSt) : Option (Int32 × xSt) := if a1 < (136 : Int32) then some ((0 : Int32), st) else if (144 : Int32) ≤ a1 then some ((0 : Int32), st) else fX9_isCell_b33 N st
set_option maxHeartbeats 4000000 in
set_option maxRecDepth 100000 in
theorem BX9_isCell_19 {p : Program} {l : Launch} {e : Env} {s : State} {m : MethodId} {args : Array Value} {below : List Frame} {meth : Method} {c : Code} {D : va_G} {la : Nat → Nat → Nat} {cyI cyF cyM : ClassId} {t0 N : Nat} {r : Int32} {st' : xSt} (X : xCx D VM la cyI cyF cyM t0 p m c cX9_isCell 2 s args RX9) (hr : meth.sig.returnType = (some .boolean)) (hlk : meth.locks = false) : ∀ (a1 : Int32) (st : xSt) (H : Heap) (locs : List Loc) (ls : Array Slot), fX9_isCell_b19 N a1 st = some (r, st') → HW D VM la (EMf cyI la) st H → va_S (xA VM la) s.heap H locs → lv_has ls 2 [(1, .int a1)] → W p l e rm_X9_isCell s m args below meth c H locs 0 0 (MQ below (xQc D VM la (EMf cyI la) (some (.int r)) st') args s 0 0 (xA VM la)) (F0 m 19 ls []) := by
  have hx := X.1.1
  have hb := X.1.2.1
  intro a1 st H locs ls hf hP hS hl
  unfold fX9_isCell_b19 at hf
  refine lv_iload_n hx hb dX9_isCell_19 rfl (lv_at hl 0 rfl) ?_
  refine lv_sipush (v := 136) hx hb dX9_isCell_20 (by decide) ?_
  refine lv_icmp_lt (tgt := 37) hx hb dX9_isCell_23 (by decide) (fun c3 => ?_) (fun c3 => ?_)
  · replace hf := (if_pos c3).symm.trans hf
    refine lv_iconst (v := 0) hx hb dX9_isCell_37 (by decide) ?_
    obtain ⟨rfl, rfl⟩ := sp_2 hf
    exact w_zret X hr hlk (by decide) hP hS dX9_isCell_38
  · replace hf := (if_neg c3).symm.trans hf
    refine lv_iload_n hx hb dX9_isCell_26 rfl (lv_at hl 0 rfl) ?_
    refine lv_sipush (v := 144) hx hb dX9_isCell_27 (by decide) ?_
    refine lv_icmp_ge (tgt := 37) hx hb dX9_isCell_30 (by decide) (fun c4 => ?_) (fun c4 => ?_)
    · replace hf := (if_pos c4).symm.trans hf
      refine lv_iconst (v := 0) hx hb dX9_isCell_37 (by decide) ?_
      obtain ⟨rfl, rfl⟩ := sp_2 hf
      exact w_zret X hr hlk (by decide) hP hS dX9_isCell_38
    · replace hf := (if_neg c4).symm.trans hf
      exact BX9_isCell_33 X hr hlk _ _ _ _  hf hP hS (lv_sub hl [] rfl)
def fX9_isCell (N : Nat) (a1 : Int32) (st : xSt) : Option (Int32 × xSt) := if a1 < (128 : Int32) then fX9_isCell_b19 N a1 st else if a1 < ((128 : Int32) + (st.1 9 0 24)) then fX9_isCell_b33 N st else fX9_isCell_b19 N a1 st
set_option maxHeartbeats 4000000 in
set_option maxRecDepth 100000 in
theorem TX9_isCell (l : Launch) {D : va_G} {la : Nat → Nat → Nat} {cyI cyF cyM : ClassId} {t0 N : Nat} {a1 : Int32} {st : xSt} {r : Int32} {st' : xSt} (hf : fX9_isCell N a1 st = some (r, st')) : MetM D cyI cyF cyM la t0 l yX9_isCell (Cond.code yX9_isCell cX9_isCell 2 (some .boolean) :: xALL) rm_X9_isCell [.ref (la 9 0), .int a1] (some (.int r)) st st' := by
  refine MetW.intro (own := RX9) (by decide) (Nat.le_of_ble_eq_true rfl) rfl ?_
  intro p e s m below meth c X hr hlk hP ls hl
  have hx := X.1.1
  have hb := X.1.2.1
  have hS : va_S (xA VM la) s.heap s.heap [] := va_S.rf
  unfold fX9_isCell at hf
  replace hl : lv_has ls 2 [(0, .ref (la 9 0)), (1, .int a1)] := hl
  refine lv_iload_n hx hb dX9_isCell_0 rfl (lv_at hl 1 rfl) ?_
  refine lv_sipush (v := 128) hx hb dX9_isCell_1 (by decide) ?_
  refine lv_icmp_lt (tgt := 19) hx hb dX9_isCell_4 (by decide) (fun c1 => ?_) (fun c1 => ?_)
  · replace hf := (if_pos c1).symm.trans hf
    exact BX9_isCell_19 X hr hlk _ _ _ _ _  hf hP hS (lv_sub hl [1] rfl)
  · replace hf := (if_neg c1).symm.trans hf
    refine lv_iload_n hx hb dX9_isCell_7 rfl (lv_at hl 1 rfl) ?_
    refine lv_sipush (v := 128) hx hb dX9_isCell_8 (by decide) ?_
    refine lv_aload_n hx hb dX9_isCell_11 rfl (lv_at hl 0 rfl) ?_
    refine gM_localMany X hP fl_X9_110 dX9_isCell_12 ?_
    refine lv_iadd hx hb dX9_isCell_15 ?_
    refine lv_icmp_lt (tgt := 33) hx hb dX9_isCell_16 (by decide) (fun c2 => ?_) (fun c2 => ?_)
    · replace hf := (if_pos c2).symm.trans hf
      exact BX9_isCell_33 X hr hlk _ _ _ _  hf hP hS (lv_sub hl [] rfl)
    · replace hf := (if_neg c2).symm.trans hf
      exact BX9_isCell_19 X hr hlk _ _ _ _ _  hf hP hS (lv_sub hl [1] rfl)
theorem KX9_isCell : xKv yX9_isCell cX9_isCell 2 (some .boolean) RX9 1 := ⟨cd_X9_isCell, im_X9_isCell, se_X9_isCell, in_X9, by decide +kernel⟩
abbrev rm_X9_operandOf : Room := { frames := 1, cells := 0, slots := 0, locals := 21 }
def fX9_operandOf_b68 (N : Nat) (a2 : Int32) (as0 : Int32) (st : xSt) : Option xSt := Option.bind (fX9_bad N as0 st) (fun st19 => if (st19.1 9 0 23) < 0 ∨ 8 ≤ ((st19.1 9 0 23)).toNatClampNeg then none else nm (pI st19 30 22 ((st19.1 9 0 23)).toNatClampNeg a2) (fun st22 => nm (pI st22 9 0 23 ((st22.1 9 0 23) + (1 : Int32))) (fun st23 => some st23)))
set_option maxHeartbeats 4000000 in
set_option maxRecDepth 100000 in
theorem BX9_operandOf_68 {p : Program} {l : Launch} {e : Env} {s : State} {m : MethodId} {args : Array Value} {below : List Frame} {meth : Method} {c : Code} {D : va_G} {la : Nat → Nat → Nat} {cyI cyF cyM : ClassId} {t0 N : Nat} {st' : xSt} (X : xCx D VM la cyI cyF cyM t0 p m c cX9_operandOf 3 s args RX9) (hr : meth.sig.returnType = none) (hlk : meth.locks = false) : ∀ (a2 : Int32) (as0 : Int32) (st : xSt) (H : Heap) (locs : List Loc) (ls : Array Slot), fX9_operandOf_b68 N a2 as0 st = some st' → HW D VM la (EMf cyI la) st H → va_S (xA VM la) s.heap H locs → lv_has ls 3 [(0, .ref (la 9 0)), (2, .int a2)] → W p l e rm_X9_operandOf s m args below meth c H locs 0 0 (MQ below (xQc D VM la (EMf cyI la) none st') args s 0 0 (xA VM la)) (F0 m 68 ls [.int as0, .ref (la 9 0)]) := by
  have hx := X.1.1
  have hb := X.1.2.1
  intro a2 as0 st H locs ls hf hP hS hl
  unfold fX9_operandOf_b68 at hf
  obtain ⟨st19, hr20, hf⟩ := bd_of hf
  refine w_V0 X (TX9_bad l hr20) hP hS rfl KX9_bad ml_X9_120 ⟨rfl, rfl⟩ ⟨by decide, by decide⟩ (x_recv (E := fun c i => (EMf cyI la) (st.1 c i) st.2 c i) (c0 := 9) (i0 := 0) X.2.2.1 hP rfl (ci := 9) rfl rfl) rfl hl.1 (Nat.le_of_ble_eq_true rfl) dX9_operandOf_68 (fun H locs hP hS => ?_)
  refine lv_aload_n hx hb dX9_operandOf_71 rfl (lv_at hl 0 rfl) ?_
  refine gM_operand X hP fl_X9_35 dX9_operandOf_72 ?_
  refine lv_aload_n hx hb dX9_operandOf_75 rfl (lv_at hl 0 rfl) ?_
  refine gM_operands X hP fl_X9_124 dX9_operandOf_76 ?_
  refine lv_iload_n hx hb dX9_operandOf_79 rfl (lv_at hl 1 rfl) ?_
  obtain ⟨hn21, hf⟩ := ck_of hf
  refine w_iast X hP hS (c0 := 30) (i0 := 22) (show 0 < lenM 22 by decide) (n := 8) (fun _ => rfl) hn21 dX9_operandOf_80 (fun H locs hP hS => ?_)
  obtain ⟨st22, hP, hf⟩ := nm_gen (P := fun z => HW D VM la (EMf cyI la) z H) hP hf
  refine lv_aload_n hx hb dX9_operandOf_81 rfl (lv_at hl 0 rfl) ?_
  refine lv_dup hx hb dX9_operandOf_82 rfl ?_
  refine gM_operands X hP fl_X9_124 dX9_operandOf_83 ?_
  refine lv_iconst (v := 1) hx hb dX9_operandOf_86 (by decide) ?_
  refine lv_iadd hx hb dX9_operandOf_87 ?_
  refine pM_operands X hP hS fl_X9_124 dX9_operandOf_88 (fun H locs hP hS => ?_)
  obtain ⟨st23, hP, hf⟩ := nm_gen (P := fun z => HW D VM la (EMf cyI la) z H) hP hf
  obtain rfl := Option.some.inj hf
  exact w_vret X hr hlk hP hS dX9_operandOf_91
def fX9_operandOf_b63 (N : Nat) (a2 : Int32) (st : xSt) : Option xSt := fX9_operandOf_b68 N a2 (1 : Int32) st
set_option maxHeartbeats 4000000 in
set_option maxRecDepth 100000 in
theorem BX9_operandOf_63 {p : Program} {l : Launch} {e : Env} {s : State} {m : MethodId} {args : Array Value} {below : List Frame} {meth : Method} {c : Code} {D : va_G} {la : Nat → Nat → Nat} {cyI cyF cyM : ClassId} {t0 N : Nat} {st' : xSt} (X : xCx D VM la cyI cyF cyM t0 p m c cX9_operandOf 3 s args RX9) (hr : meth.sig.returnType = none) (hlk : meth.locks = false) : ∀ (a2 : Int32) (st : xSt) (H : Heap) (locs : List Loc) (ls : Array Slot), fX9_operandOf_b63 N a2 st = some st' → HW D VM la (EMf cyI la) st H → va_S (xA VM la) s.heap H locs → lv_has ls 3 [(0, .ref (la 9 0)), (2, .int a2)] → W p l e rm_X9_operandOf s m args below meth c H locs 0 0 (MQ below (xQc D VM la (EMf cyI la) none st') args s 0 0 (xA VM la)) (F0 m 63 ls [.ref (la 9 0)]) := by
  have hx := X.1.1
  have hb := X.1.2.1
  intro a2 st H locs ls hf hP hS hl
  unfold fX9_operandOf_b63 at hf
  refine lv_iconst (v := 1) hx hb dX9_operandOf_63 (by decide) ?_
  refine lv_goto (tgt := 68) hx hb dX9_operandOf_64 (by decide) ?_
  exact BX9_operandOf_68 X hr hlk _ _ _ _ _ _  hf hP hS (lv_sub hl [0, 1] rfl)
def fX9_operandOf_b67 (N : Nat) (a2 : Int32) (st : xSt) : Option xSt := fX9_operandOf_b68 N a2 (0 : Int32) st
set_option maxHeartbeats 4000000 in
set_option maxRecDepth 100000 in
theorem BX9_operandOf_67 {p : Program} {l : Launch} {e : Env} {s : State} {m : MethodId} {args : Array Value} {below : List Frame} {meth : Method} {c : Code} {D : va_G} {la : Nat → Nat → Nat} {cyI cyF cyM : ClassId} {t0 N : Nat} {st' : xSt} (X : xCx D VM la cyI cyF cyM t0 p m c cX9_operandOf 3 s args RX9) (hr : meth.sig.returnType = none) (hlk : meth.locks = false) : ∀ (a2 : Int32) (st : xSt) (H : Heap) (locs : List Loc) (ls : Array Slot), fX9_operandOf_b67 N a2 st = some st' → HW D VM la (EMf cyI la) st H → va_S (xA VM la) s.heap H locs → lv_has ls 3 [(0, .ref (la 9 0)), (2, .int a2)] → W p l e rm_X9_operandOf s m args below meth c H locs 0 0 (MQ below (xQc D VM la (EMf cyI la) none st') args s 0 0 (xA VM la)) (F0 m 67 ls [.ref (la 9 0)]) := by
  have hx := X.1.1
  have hb := X.1.2.1
  intro a2 st H locs ls hf hP hS hl
  unfold fX9_operandOf_b67 at hf
  refine lv_iconst (v := 0) hx hb dX9_operandOf_67 (by decide) ?_
  exact BX9_operandOf_68 X hr hlk _ _ _ _ _ _  hf hP hS (lv_sub hl [0, 1] rfl)
def fX9_operandOf_b53 (N : Nat) (a1 : Int32) (a2 : Int32) (st : xSt) : Option xSt := if a1 = (3 : Int32) then if a2 ≤ (4 : Int32) then fX9_operandOf_b67 N a2 st else fX9_operandOf_b63 N a2 st else fX9_operandOf_b67 N a2 st
set_option maxHeartbeats 4000000 in
set_option maxRecDepth 100000 in
theorem BX9_operandOf_53 {p : Program} {l : Launch} {e : Env} {s : State} {m : MethodId} {args : Array Value} {below : List Frame} {meth : Method} {c : Code} {D : va_G} {la : Nat → Nat → Nat} {cyI cyF cyM : ClassId} {t0 N : Nat} {st' : xSt} (X : xCx D VM la cyI cyF cyM t0 p m c cX9_operandOf 3 s args RX9) (hr : meth.sig.returnType = none) (hlk : meth.locks = false) : ∀ (a1 : Int32) (a2 : Int32) (st : xSt) (H : Heap) (locs : List Loc) (ls : Array Slot), fX9_operandOf_b53 N a1 a2 st = some st' → HW D VM la (EMf cyI la) st H → va_S (xA VM la) s.heap H locs → lv_has ls 3 [(0, .ref (la 9 0)), (1, .int a1), (2, .int a2)] → W p l e rm_X9_operandOf s m args below meth c H locs 0 0 (MQ below (xQc D VM la (EMf cyI la) none st') args s 0 0 (xA VM la)) (F0 m 53 ls [.ref (la 9 0)]) := by
  have hx := X.1.1
  have hb := X.1.2.1
  intro a1 a2 st H locs ls hf hP hS hl
  unfold fX9_operandOf_b53 at hf
  refine lv_iload_n hx hb dX9_operandOf_53 rfl (lv_at hl 1 rfl) ?_
  refine lv_iconst (v := 3) hx hb dX9_operandOf_54 (by decide) ?_
  refine lv_icmp_ne (tgt := 67) hx hb dX9_operandOf_55 (by decide) (fun c17 => ?_) (fun c17 => ?_)
  · replace hf := (if_neg c17).symm.trans hf
    exact BX9_operandOf_67 X hr hlk _ _ _ _ _  hf hP hS (lv_sub hl [0, 2] rfl)
  · replace hf := (if_pos c17).symm.trans hf
    refine lv_iload_n hx hb dX9_operandOf_58 rfl (lv_at hl 2 rfl) ?_
    refine lv_iconst (v := 4) hx hb dX9_operandOf_59 (by decide) ?_
    refine lv_icmp_le (tgt := 67) hx hb dX9_operandOf_60 (by decide) (fun c18 => ?_) (fun c18 => ?_)
    · replace hf := (if_pos c18).symm.trans hf
      exact BX9_operandOf_67 X hr hlk _ _ _ _ _  hf hP hS (lv_sub hl [0, 2] rfl)
    · replace hf := (if_neg c18).symm.trans hf
      exact BX9_operandOf_63 X hr hlk _ _ _ _ _  hf hP hS (lv_sub hl [0, 2] rfl)
def fX9_operandOf_b40 (N : Nat) (a1 : Int32) (a2 : Int32) (st : xSt) : Option xSt := if a1 = (1 : Int32) then bd (fX9_isCell N a2 st) (fun v15 st13 => if v15 = (0 : Int32) then fX9_operandOf_b63 N a2 st13 else fX9_operandOf_b53 N a1 a2 st13) else fX9_operandOf_b53 N a1 a2 st
set_option maxHeartbeats 4000000 in
set_option maxRecDepth 100000 in
theorem BX9_operandOf_40 {p : Program} {l : Launch} {e : Env} {s : State} {m : MethodId} {args : Array Value} {below : List Frame} {meth : Method} {c : Code} {D : va_G} {la : Nat → Nat → Nat} {cyI cyF cyM : ClassId} {t0 N : Nat} {st' : xSt} (X : xCx D VM la cyI cyF cyM t0 p m c cX9_operandOf 3 s args RX9) (hr : meth.sig.returnType = none) (hlk : meth.locks = false) : ∀ (a1 : Int32) (a2 : Int32) (st : xSt) (H : Heap) (locs : List Loc) (ls : Array Slot), fX9_operandOf_b40 N a1 a2 st = some st' → HW D VM la (EMf cyI la) st H → va_S (xA VM la) s.heap H locs → lv_has ls 3 [(0, .ref (la 9 0)), (1, .int a1), (2, .int a2)] → W p l e rm_X9_operandOf s m args below meth c H locs 0 0 (MQ below (xQc D VM la (EMf cyI la) none st') args s 0 0 (xA VM la)) (F0 m 40 ls [.ref (la 9 0)]) := by
  have hx := X.1.1
  have hb := X.1.2.1
  intro a1 a2 st H locs ls hf hP hS hl
  unfold fX9_operandOf_b40 at hf
  refine lv_iload_n hx hb dX9_operandOf_40 rfl (lv_at hl 1 rfl) ?_
  refine lv_iconst (v := 1) hx hb dX9_operandOf_41 (by decide) ?_
  refine lv_icmp_ne (tgt := 53) hx hb dX9_operandOf_42 (by decide) (fun c12 => ?_) (fun c12 => ?_)
  · replace hf := (if_neg c12).symm.trans hf
    exact BX9_operandOf_53 X hr hlk _ _ _ _ _ _  hf hP hS (lv_sub hl [0, 1, 2] rfl)
  · replace hf := (if_pos c12).symm.trans hf
    refine lv_aload_n hx hb dX9_operandOf_45 rfl (lv_at hl 0 rfl) ?_
    refine lv_iload_n hx hb dX9_operandOf_46 rfl (lv_at hl 2 rfl) ?_
    obtain ⟨v15, st13, hr14, hf⟩ := bd_2 hf
    refine w_V1 X (TX9_isCell l hr14) hP hS rfl KX9_isCell ml_X9_117 ⟨rfl, rfl⟩ ⟨by decide, by decide⟩ (x_recv (E := fun c i => (EMf cyI la) (st.1 c i) st.2 c i) (c0 := 9) (i0 := 0) X.2.2.1 hP rfl (ci := 9) rfl rfl) rfl hl.1 (Nat.le_of_ble_eq_true rfl) dX9_operandOf_47 (fun H locs hP hS => ?_)
    refine lv_if_eq (tgt := 63) hx hb dX9_operandOf_50 (by decide) (fun c16 => ?_) (fun c16 => ?_)
    · replace hf := (if_pos c16).symm.trans hf
      exact BX9_operandOf_63 X hr hlk _ _ _ _ _  hf hP hS (lv_sub hl [0, 2] rfl)
    · replace hf := (if_neg c16).symm.trans hf
      exact BX9_operandOf_53 X hr hlk _ _ _ _ _ _  hf hP hS (lv_sub hl [0, 1, 2] rfl)
def fX9_operandOf (N : Nat) (a1 : Int32) (st : xSt) : Option xSt := if (st.1 9 0 20) = (0 : Int32) then bd (fX9_nextByte N st) (fun v4 st2 => if (st2.1 9 0 20) = (0 : Int32) then if a1 = (0 : Int32) then if v4 < (128 : Int32) then fX9_operandOf_b40 N a1 v4 st2 else bd (fX9_isCell N v4 st2) (fun v10 st8 => if v10 = (0 : Int32) then fX9_operandOf_b63 N v4 st8 else fX9_operandOf_b40 N a1 v4 st8) else fX9_operandOf_b40 N a1 v4 st2 else some st2) else some st
set_option maxHeartbeats 4000000 in
set_option maxRecDepth 100000 in
theorem TX9_operandOf (l : Launch) {D : va_G} {la : Nat → Nat → Nat} {cyI cyF cyM : ClassId} {t0 N : Nat} {a1 : Int32} {st : xSt} {st' : xSt} (hf : fX9_operandOf N a1 st = some st') : MetM D cyI cyF cyM la t0 l yX9_operandOf (Cond.code yX9_operandOf cX9_operandOf 3 none :: xALL) rm_X9_operandOf [.ref (la 9 0), .int a1] none st st' := by
  refine MetW.intro (own := RX9) (by decide) (Nat.le_of_ble_eq_true rfl) rfl ?_
  intro p e s m below meth c X hr hlk hP ls hl
  have hx := X.1.1
  have hb := X.1.2.1
  have hS : va_S (xA VM la) s.heap s.heap [] := va_S.rf
  unfold fX9_operandOf at hf
  replace hl : lv_has ls 3 [(0, .ref (la 9 0)), (1, .int a1)] := hl
  refine lv_aload_n hx hb dX9_operandOf_0 rfl (lv_at hl 0 rfl) ?_
  refine gM_codeFault X hP fl_X9_107 dX9_operandOf_1 ?_
  refine lv_if_eq (tgt := 8) hx hb dX9_operandOf_4 (by decide) (fun c1 => ?_) (fun c1 => ?_)
  · replace hf := (if_pos c1).symm.trans hf
    refine lv_aload_n hx hb dX9_operandOf_8 rfl (lv_at hl 0 rfl) ?_
    obtain ⟨v4, st2, hr3, hf⟩ := bd_2 hf
    refine w_V1 X (TX9_nextByte l hr3) hP hS rfl KX9_nextByte ml_X9_113 ⟨rfl, rfl⟩ ⟨by decide, by decide⟩ (x_recv (E := fun c i => (EMf cyI la) (st.1 c i) st.2 c i) (c0 := 9) (i0 := 0) X.2.2.1 hP rfl (ci := 9) rfl rfl) rfl hl.1 (Nat.le_of_ble_eq_true rfl) dX9_operandOf_9 (fun H locs hP hS => ?_)
    refine lv_istore_n (lv' := [(2, .int v4), (0, .ref (la 9 0)), (1, .int a1)]) hx hb dX9_operandOf_12 rfl hl (by decide) rfl (fun ls hl => ?_)
    refine lv_aload_n hx hb dX9_operandOf_13 rfl (lv_at hl 1 rfl) ?_
    refine gM_codeFault X hP fl_X9_107 dX9_operandOf_14 ?_
    refine lv_if_ne (tgt := 91) hx hb dX9_operandOf_17 (by decide) (fun c5 => ?_) (fun c5 => ?_)
    · replace hf := (if_neg c5).symm.trans hf
      obtain rfl := Option.some.inj hf
      exact w_vret X hr hlk hP hS dX9_operandOf_91
    · replace hf := (if_pos c5).symm.trans hf
      refine lv_aload_n hx hb dX9_operandOf_20 rfl (lv_at hl 1 rfl) ?_
      refine lv_iload_n hx hb dX9_operandOf_21 rfl (lv_at hl 2 rfl) ?_
      refine lv_if_ne (tgt := 40) hx hb dX9_operandOf_22 (by decide) (fun c6 => ?_) (fun c6 => ?_)
      · replace hf := (if_neg c6).symm.trans hf
        exact BX9_operandOf_40 X hr hlk _ _ _ _ _ _  hf hP hS (lv_sub hl [1, 2, 0] rfl)
      · replace hf := (if_pos c6).symm.trans hf
        refine lv_iload_n hx hb dX9_operandOf_25 rfl (lv_at hl 0 rfl) ?_
        refine lv_sipush (v := 128) hx hb dX9_operandOf_26 (by decide) ?_
        refine lv_icmp_lt (tgt := 40) hx hb dX9_operandOf_29 (by decide) (fun c7 => ?_) (fun c7 => ?_)
        · replace hf := (if_pos c7).symm.trans hf
          exact BX9_operandOf_40 X hr hlk _ _ _ _ _ _  hf hP hS (lv_sub hl [1, 2, 0] rfl)
        · replace hf := (if_neg c7).symm.trans hf
          refine lv_aload_n hx hb dX9_operandOf_32 rfl (lv_at hl 1 rfl) ?_
          refine lv_iload_n hx hb dX9_operandOf_33 rfl (lv_at hl 0 rfl) ?_
          obtain ⟨v10, st8, hr9, hf⟩ := bd_2 hf
          refine w_V1 X (TX9_isCell l hr9) hP hS rfl KX9_isCell ml_X9_117 ⟨rfl, rfl⟩ ⟨by decide, by decide⟩ (x_recv (E := fun c i => (EMf cyI la) (st2.1 c i) st2.2 c i) (c0 := 9) (i0 := 0) X.2.2.1 hP rfl (ci := 9) rfl rfl) rfl hl.1 (Nat.le_of_ble_eq_true rfl) dX9_operandOf_34 (fun H locs hP hS => ?_)
          refine lv_if_eq (tgt := 63) hx hb dX9_operandOf_37 (by decide) (fun c11 => ?_) (fun c11 => ?_)
          · replace hf := (if_pos c11).symm.trans hf
            exact BX9_operandOf_63 X hr hlk _ _ _ _ _  hf hP hS (lv_sub hl [1, 0] rfl)
          · replace hf := (if_neg c11).symm.trans hf
            exact BX9_operandOf_40 X hr hlk _ _ _ _ _ _  hf hP hS (lv_sub hl [1, 2, 0] rfl)
  · replace hf := (if_neg c1).symm.trans hf
    obtain rfl := Option.some.inj hf
    exact w_vret X hr hlk hP hS dX9_operandOf_7
theorem KX9_operandOf : xKv yX9_operandOf cX9_operandOf 3 none RX9 1 := ⟨cd_X9_operandOf, im_X9_operandOf, se_X9_operandOf, in_X9, by decide +kernel⟩
abbrev rm_X9_readAt : Room := { frames := 2, cells := 0, slots := 0, locals := 43 }
def fX9_readAt_b282 (N : Nat) : Nat → Int32 → Int32 → xSt → Option xSt
  | 0, _, _, _ => none
  | n + 1, a5, a6, st => if a5 ≤ a6 then some st else Option.bind (fX9_operandOf N (0 : Int32) st) (fun st45 => nm (a6 + (1 : Int32)) (fun x47 => fX9_readAt_b282 N n a5 x47 st45))
set_option maxHeartbeats 4000000 in
set_option maxRecDepth 100000 in
theorem BX9_readAt_282 {p : Program} {l : Launch} {e : Env} {s : State} {m : MethodId} {args : Array Value} {below : List Frame} {meth : Method} {c : Code} {D : va_G} {la : Nat → Nat → Nat} {cyI cyF cyM : ClassId} {t0 N : Nat} {st' : xSt} (X : xCx D VM la cyI cyF cyM t0 p m c cX9_readAt 7 s args RX9) (hr : meth.sig.returnType = none) (hlk : meth.locks = false) : ∀ n : Nat, ∀ (a5 : Int32) (a6 : Int32) (st : xSt) (H : Heap) (locs : List Loc) (ls : Array Slot), fX9_readAt_b282 N n a5 a6 st = some st' → HW D VM la (EMf cyI la) st H → va_S (xA VM la) s.heap H locs → lv_has ls 7 [(0, .ref (la 9 0)), (5, .int a5), (6, .int a6)] → W p l e rm_X9_readAt s m args below meth c H locs 0 0 (MQ below (xQc D VM la (EMf cyI la) none st') args s 0 0 (xA VM la)) (F0 m 282 ls []) := by
  have hx := X.1.1
  have hb := X.1.2.1
  intro n
  induction n with
  | zero =>
    intro a5 a6 st H locs ls hf hP hS hl
    rw [fX9_readAt_b282] at hf
    cases hf
  | succ n ih =>
    intro a5 a6 st H locs ls hf hP hS hl
    rw [fX9_readAt_b282] at hf
    refine lv_iload hx hb dX9_readAt_282 (lv_at hl 2 rfl) ?_
    refine lv_iload hx hb dX9_readAt_284 (lv_at hl 1 rfl) ?_
    refine lv_icmp_ge (tgt := 300) hx hb dX9_readAt_286 (by decide) (fun c44 => ?_) (fun c44 => ?_)
    · replace hf := (if_pos c44).symm.trans hf
      obtain rfl := Option.some.inj hf
      exact w_vret X hr hlk hP hS dX9_readAt_300
    · replace hf := (if_neg c44).symm.trans hf
      refine lv_aload_n hx hb dX9_readAt_289 rfl (lv_at hl 0 rfl) ?_
      refine lv_iconst (v := 0) hx hb dX9_readAt_290 (by decide) ?_
      obtain ⟨st45, hr46, hf⟩ := bd_of hf
      refine w_V0 X (TX9_operandOf l hr46) hP hS rfl KX9_operandOf ml_X9_130 ⟨rfl, rfl⟩ ⟨by decide, by decide⟩ (x_recv (E := fun c i => (EMf cyI la) (st.1 c i) st.2 c i) (c0 := 9) (i0 := 0) X.2.2.1 hP rfl (ci := 9) rfl rfl) rfl hl.1 (Nat.le_of_ble_eq_true rfl) dX9_readAt_291 (fun H locs hP hS => ?_)
      obtain ⟨x47, ex⟩ : ∃ y : Int32, y = (a6 + (1 : Int32)) := ⟨_, rfl⟩
      replace hf := nm_of hf ex
      refine lv_iinc (v := x47) (lv' := [(6, .int x47), (0, .ref (la 9 0)), (5, .int a5)]) hx hb dX9_readAt_294 hl (k := 2) rfl (by rw [ex]; rfl) (by decide) rfl (fun ls hl => ?_)
      clear ex
      refine lv_goto (tgt := 282) hx hb dX9_readAt_297 (by decide) ?_
      exact ih _ _ _ _ _ _  hf hP hS (lv_sub hl [1, 2, 0] rfl)
def fX9_readAt_b277 (N : Nat) (as0 : Int32) (st : xSt) : Option xSt := fX9_readAt_b282 N N as0 (0 : Int32) st
set_option maxHeartbeats 4000000 in
set_option maxRecDepth 100000 in
theorem BX9_readAt_277 {p : Program} {l : Launch} {e : Env} {s : State} {m : MethodId} {args : Array Value} {below : List Frame} {meth : Method} {c : Code} {D : va_G} {la : Nat → Nat → Nat} {cyI cyF cyM : ClassId} {t0 N : Nat} {st' : xSt} (X : xCx D VM la cyI cyF cyM t0 p m c cX9_readAt 7 s args RX9) (hr : meth.sig.returnType = none) (hlk : meth.locks = false) : ∀ (as0 : Int32) (st : xSt) (H : Heap) (locs : List Loc) (ls : Array Slot), fX9_readAt_b277 N as0 st = some st' → HW D VM la (EMf cyI la) st H → va_S (xA VM la) s.heap H locs → lv_has ls 7 [(0, .ref (la 9 0))] → W p l e rm_X9_readAt s m args below meth c H locs 0 0 (MQ below (xQc D VM la (EMf cyI la) none st') args s 0 0 (xA VM la)) (F0 m 277 ls [.int as0]) := by
  have hx := X.1.1
  have hb := X.1.2.1
  intro as0 st H locs ls hf hP hS hl
  unfold fX9_readAt_b277 at hf
  refine lv_istore (lv' := [(5, .int as0), (0, .ref (la 9 0))]) hx hb dX9_readAt_277 hl (by decide) rfl (fun ls hl => ?_)
  refine lv_iconst (v := 0) hx hb dX9_readAt_279 (by decide) ?_
  refine lv_istore (lv' := [(6, .int (0 : Int32)), (5, .int as0), (0, .ref (la 9 0))]) hx hb dX9_readAt_280 hl (by decide) rfl (fun ls hl => ?_)
  exact BX9_readAt_282 X hr hlk N _ _ _ _ _ _  hf hP hS (lv_sub hl [2, 1, 0] rfl)
def fX9_readAt_b246 (N : Nat) (st : xSt) : Option xSt := if (st.1 9 0 19) = (12 : Int32) then Option.bind (fX9_operandOf N (3 : Int32) st) (fun st41 => if (st41.1 9 0 20) = (0 : Int32) then fX9_readAt_b277 N (st41.1 30 22 2) st41 else fX9_readAt_b277 N (0 : Int32) st41) else some st
set_option maxHeartbeats 4000000 in
set_option maxRecDepth 100000 in
theorem BX9_readAt_246 {p : Program} {l : Launch} {e : Env} {s : State} {m : MethodId} {args : Array Value} {below : List Frame} {meth : Method} {c : Code} {D : va_G} {la : Nat → Nat → Nat} {cyI cyF cyM : ClassId} {t0 N : Nat} {st' : xSt} (X : xCx D VM la cyI cyF cyM t0 p m c cX9_readAt 7 s args RX9) (hr : meth.sig.returnType = none) (hlk : meth.locks = false) : ∀ (st : xSt) (H : Heap) (locs : List Loc) (ls : Array Slot), fX9_readAt_b246 N st = some st' → HW D VM la (EMf cyI la) st H → va_S (xA VM la) s.heap H locs → lv_has ls 7 [(0, .ref (la 9 0))] → W p l e rm_X9_readAt s m args below meth c H locs 0 0 (MQ below (xQc D VM la (EMf cyI la) none st') args s 0 0 (xA VM la)) (F0 m 246 ls []) := by
  have hx := X.1.1
  have hb := X.1.2.1
  intro st H locs ls hf hP hS hl
  unfold fX9_readAt_b246 at hf
  refine lv_aload_n hx hb dX9_readAt_246 rfl (lv_at hl 0 rfl) ?_
  refine gM_code X hP fl_X9_127 dX9_readAt_247 ?_
  refine lv_bipush (v := 12) hx hb dX9_readAt_250 (by decide) ?_
  refine lv_icmp_ne (tgt := 300) hx hb dX9_readAt_252 (by decide) (fun c40 => ?_) (fun c40 => ?_)
  · replace hf := (if_neg c40).symm.trans hf
    obtain rfl := Option.some.inj hf
    exact w_vret X hr hlk hP hS dX9_readAt_300
  · replace hf := (if_pos c40).symm.trans hf
    refine lv_aload_n hx hb dX9_readAt_255 rfl (lv_at hl 0 rfl) ?_
    refine lv_iconst (v := 3) hx hb dX9_readAt_256 (by decide) ?_
    obtain ⟨st41, hr42, hf⟩ := bd_of hf
    refine w_V0 X (TX9_operandOf l hr42) hP hS rfl KX9_operandOf ml_X9_130 ⟨rfl, rfl⟩ ⟨by decide, by decide⟩ (x_recv (E := fun c i => (EMf cyI la) (st.1 c i) st.2 c i) (c0 := 9) (i0 := 0) X.2.2.1 hP rfl (ci := 9) rfl rfl) rfl hl.1 (Nat.le_of_ble_eq_true rfl) dX9_readAt_257 (fun H locs hP hS => ?_)
    refine lv_aload_n hx hb dX9_readAt_260 rfl (lv_at hl 0 rfl) ?_
    refine gM_codeFault X hP fl_X9_107 dX9_readAt_261 ?_
    refine lv_if_ne (tgt := 276) hx hb dX9_readAt_264 (by decide) (fun c43 => ?_) (fun c43 => ?_)
    · replace hf := (if_neg c43).symm.trans hf
      refine lv_iconst (v := 0) hx hb dX9_readAt_276 (by decide) ?_
      exact BX9_readAt_277 X hr hlk _ _ _ _ _  hf hP hS (lv_sub hl [0] rfl)
    · replace hf := (if_pos c43).symm.trans hf
      refine lv_aload_n hx hb dX9_readAt_267 rfl (lv_at hl 0 rfl) ?_
      refine gM_operand X hP fl_X9_35 dX9_readAt_268 ?_
      refine lv_iconst (v := 2) hx hb dX9_readAt_271 (by decide) ?_
      refine w_ialdK X hP (c0 := 30) (i0 := 22) (show 0 < lenM 22 by decide) (n := 8) (fun _ => rfl) 2 (by decide) (show ¬ ((2 : Int32) < 0 ∨ 8 ≤ ((2 : Int32)).toNatClampNeg) by decide) dX9_readAt_272 ?_
      refine lv_goto (tgt := 277) hx hb dX9_readAt_273 (by decide) ?_
      exact BX9_readAt_277 X hr hlk _ _ _ _ _  hf hP hS (lv_sub hl [0] rfl)
def fX9_readAt_b241 (N : Nat) (st : xSt) : Option xSt := Option.bind (fX9_operandOf N (2 : Int32) st) (fun st38 => fX9_readAt_b246 N st38)
set_option maxHeartbeats 4000000 in
set_option maxRecDepth 100000 in
theorem BX9_readAt_241 {p : Program} {l : Launch} {e : Env} {s : State} {m : MethodId} {args : Array Value} {below : List Frame} {meth : Method} {c : Code} {D : va_G} {la : Nat → Nat → Nat} {cyI cyF cyM : ClassId} {t0 N : Nat} {st' : xSt} (X : xCx D VM la cyI cyF cyM t0 p m c cX9_readAt 7 s args RX9) (hr : meth.sig.returnType = none) (hlk : meth.locks = false) : ∀ (st : xSt) (H : Heap) (locs : List Loc) (ls : Array Slot), fX9_readAt_b241 N st = some st' → HW D VM la (EMf cyI la) st H → va_S (xA VM la) s.heap H locs → lv_has ls 7 [(0, .ref (la 9 0))] → W p l e rm_X9_readAt s m args below meth c H locs 0 0 (MQ below (xQc D VM la (EMf cyI la) none st') args s 0 0 (xA VM la)) (F0 m 241 ls []) := by
  have hx := X.1.1
  have hb := X.1.2.1
  intro st H locs ls hf hP hS hl
  unfold fX9_readAt_b241 at hf
  refine lv_aload_n hx hb dX9_readAt_241 rfl (lv_at hl 0 rfl) ?_
  refine lv_iconst (v := 2) hx hb dX9_readAt_242 (by decide) ?_
  obtain ⟨st38, hr39, hf⟩ := bd_of hf
  refine w_V0 X (TX9_operandOf l hr39) hP hS rfl KX9_operandOf ml_X9_130 ⟨rfl, rfl⟩ ⟨by decide, by decide⟩ (x_recv (E := fun c i => (EMf cyI la) (st.1 c i) st.2 c i) (c0 := 9) (i0 := 0) X.2.2.1 hP rfl (ci := 9) rfl rfl) rfl hl.1 (Nat.le_of_ble_eq_true rfl) dX9_readAt_243 (fun H locs hP hS => ?_)
  exact BX9_readAt_246 X hr hlk _ _ _ _  hf hP hS (lv_sub hl [0] rfl)
def fX9_readAt_b205 (N : Nat) (st : xSt) : Option xSt := if (st.1 9 0 19) = (9 : Int32) then fX9_readAt_b241 N st else if (st.1 9 0 19) = (10 : Int32) then fX9_readAt_b241 N st else if (st.1 9 0 19) = (11 : Int32) then fX9_readAt_b241 N st else if (st.1 9 0 19) = (14 : Int32) then fX9_readAt_b241 N st else fX9_readAt_b246 N st
set_option maxHeartbeats 4000000 in
set_option maxRecDepth 100000 in
theorem BX9_readAt_205 {p : Program} {l : Launch} {e : Env} {s : State} {m : MethodId} {args : Array Value} {below : List Frame} {meth : Method} {c : Code} {D : va_G} {la : Nat → Nat → Nat} {cyI cyF cyM : ClassId} {t0 N : Nat} {st' : xSt} (X : xCx D VM la cyI cyF cyM t0 p m c cX9_readAt 7 s args RX9) (hr : meth.sig.returnType = none) (hlk : meth.locks = false) : ∀ (st : xSt) (H : Heap) (locs : List Loc) (ls : Array Slot), fX9_readAt_b205 N st = some st' → HW D VM la (EMf cyI la) st H → va_S (xA VM la) s.heap H locs → lv_has ls 7 [(0, .ref (la 9 0))] → W p l e rm_X9_readAt s m args below meth c H locs 0 0 (MQ below (xQc D VM la (EMf cyI la) none st') args s 0 0 (xA VM la)) (F0 m 205 ls []) := by
  have hx := X.1.1
  have hb := X.1.2.1
  intro st H locs ls hf hP hS hl
  unfold fX9_readAt_b205 at hf
  refine lv_aload_n hx hb dX9_readAt_205 rfl (lv_at hl 0 rfl) ?_
  refine gM_code X hP fl_X9_127 dX9_readAt_206 ?_
  refine lv_bipush (v := 9) hx hb dX9_readAt_209 (by decide) ?_
  refine lv_icmp_eq (tgt := 241) hx hb dX9_readAt_211 (by decide) (fun c34 => ?_) (fun c34 => ?_)
  · replace hf := (if_pos c34).symm.trans hf
    exact BX9_readAt_241 X hr hlk _ _ _ _  hf hP hS (lv_sub hl [0] rfl)
  · replace hf := (if_neg c34).symm.trans hf
    refine lv_aload_n hx hb dX9_readAt_214 rfl (lv_at hl 0 rfl) ?_
    refine gM_code X hP fl_X9_127 dX9_readAt_215 ?_
    refine lv_bipush (v := 10) hx hb dX9_readAt_218 (by decide) ?_
    refine lv_icmp_eq (tgt := 241) hx hb dX9_readAt_220 (by decide) (fun c35 => ?_) (fun c35 => ?_)
    · replace hf := (if_pos c35).symm.trans hf
      exact BX9_readAt_241 X hr hlk _ _ _ _  hf hP hS (lv_sub hl [0] rfl)
    · replace hf := (if_neg c35).symm.trans hf
      refine lv_aload_n hx hb dX9_readAt_223 rfl (lv_at hl 0 rfl) ?_
      refine gM_code X hP fl_X9_127 dX9_readAt_224 ?_
      refine lv_bipush (v := 11) hx hb dX9_readAt_227 (by decide) ?_
      refine lv_icmp_eq (tgt := 241) hx hb dX9_readAt_229 (by decide) (fun c36 => ?_) (fun c36 => ?_)
      · replace hf := (if_pos c36).symm.trans hf
        exact BX9_readAt_241 X hr hlk _ _ _ _  hf hP hS (lv_sub hl [0] rfl)
      · replace hf := (if_neg c36).symm.trans hf
        refine lv_aload_n hx hb dX9_readAt_232 rfl (lv_at hl 0 rfl) ?_
        refine gM_code X hP fl_X9_127 dX9_readAt_233 ?_
        refine lv_bipush (v := 14) hx hb dX9_readAt_236 (by decide) ?_
        refine lv_icmp_ne (tgt := 246) hx hb dX9_readAt_238 (by decide) (fun c37 => ?_) (fun c37 => ?_)
        · replace hf := (if_neg c37).symm.trans hf
          exact BX9_readAt_246 X hr hlk _ _ _ _  hf hP hS (lv_sub hl [0] rfl)
        · replace hf := (if_pos c37).symm.trans hf
          exact BX9_readAt_241 X hr hlk _ _ _ _  hf hP hS (lv_sub hl [0] rfl)
def fX9_readAt_b195 (N : Nat) (a4 : Int32) (st : xSt) : Option xSt := if a4 = (0 : Int32) then fX9_readAt_b205 N st else Option.bind (fX9_operandOf N (0 : Int32) st) (fun st32 => fX9_readAt_b205 N st32)
set_option maxHeartbeats 4000000 in
set_option maxRecDepth 100000 in
theorem BX9_readAt_195 {p : Program} {l : Launch} {e : Env} {s : State} {m : MethodId} {args : Array Value} {below : List Frame} {meth : Method} {c : Code} {D : va_G} {la : Nat → Nat → Nat} {cyI cyF cyM : ClassId} {t0 N : Nat} {st' : xSt} (X : xCx D VM la cyI cyF cyM t0 p m c cX9_readAt 7 s args RX9) (hr : meth.sig.returnType = none) (hlk : meth.locks = false) : ∀ (a4 : Int32) (st : xSt) (H : Heap) (locs : List Loc) (ls : Array Slot), fX9_readAt_b195 N a4 st = some st' → HW D VM la (EMf cyI la) st H → va_S (xA VM la) s.heap H locs → lv_has ls 7 [(0, .ref (la 9 0)), (4, .int a4)] → W p l e rm_X9_readAt s m args below meth c H locs 0 0 (MQ below (xQc D VM la (EMf cyI la) none st') args s 0 0 (xA VM la)) (F0 m 195 ls []) := by
  have hx := X.1.1
  have hb := X.1.2.1
  intro a4 st H locs ls hf hP hS hl
  unfold fX9_readAt_b195 at hf
  refine lv_iload hx hb dX9_readAt_195 (lv_at hl 1 rfl) ?_
  refine lv_if_eq (tgt := 205) hx hb dX9_readAt_197 (by decide) (fun c31 => ?_) (fun c31 => ?_)
  · replace hf := (if_pos c31).symm.trans hf
    exact BX9_readAt_205 X hr hlk _ _ _ _  hf hP hS (lv_sub hl [0] rfl)
  · replace hf := (if_neg c31).symm.trans hf
    refine lv_aload_n hx hb dX9_readAt_200 rfl (lv_at hl 0 rfl) ?_
    refine lv_iconst (v := 0) hx hb dX9_readAt_201 (by decide) ?_
    obtain ⟨st32, hr33, hf⟩ := bd_of hf
    refine w_V0 X (TX9_operandOf l hr33) hP hS rfl KX9_operandOf ml_X9_130 ⟨rfl, rfl⟩ ⟨by decide, by decide⟩ (x_recv (E := fun c i => (EMf cyI la) (st.1 c i) st.2 c i) (c0 := 9) (i0 := 0) X.2.2.1 hP rfl (ci := 9) rfl rfl) rfl hl.1 (Nat.le_of_ble_eq_true rfl) dX9_readAt_202 (fun H locs hP hS => ?_)
    exact BX9_readAt_205 X hr hlk _ _ _ _  hf hP hS (lv_sub hl [0] rfl)
def fX9_readAt_b190 (N : Nat) (a4 : Int32) (st : xSt) : Option xSt := Option.bind (fX9_operandOf N (0 : Int32) st) (fun st29 => fX9_readAt_b195 N a4 st29)
set_option maxHeartbeats 4000000 in
set_option maxRecDepth 100000 in
theorem BX9_readAt_190 {p : Program} {l : Launch} {e : Env} {s : State} {m : MethodId} {args : Array Value} {below : List Frame} {meth : Method} {c : Code} {D : va_G} {la : Nat → Nat → Nat} {cyI cyF cyM : ClassId} {t0 N : Nat} {st' : xSt} (X : xCx D VM la cyI cyF cyM t0 p m c cX9_readAt 7 s args RX9) (hr : meth.sig.returnType = none) (hlk : meth.locks = false) : ∀ (a4 : Int32) (st : xSt) (H : Heap) (locs : List Loc) (ls : Array Slot), fX9_readAt_b190 N a4 st = some st' → HW D VM la (EMf cyI la) st H → va_S (xA VM la) s.heap H locs → lv_has ls 7 [(0, .ref (la 9 0)), (4, .int a4)] → W p l e rm_X9_readAt s m args below meth c H locs 0 0 (MQ below (xQc D VM la (EMf cyI la) none st') args s 0 0 (xA VM la)) (F0 m 190 ls []) := by
  have hx := X.1.1
  have hb := X.1.2.1
  intro a4 st H locs ls hf hP hS hl
  unfold fX9_readAt_b190 at hf
  refine lv_aload_n hx hb dX9_readAt_190 rfl (lv_at hl 0 rfl) ?_
  refine lv_iconst (v := 0) hx hb dX9_readAt_191 (by decide) ?_
  obtain ⟨st29, hr30, hf⟩ := bd_of hf
  refine w_V0 X (TX9_operandOf l hr30) hP hS rfl KX9_operandOf ml_X9_130 ⟨rfl, rfl⟩ ⟨by decide, by decide⟩ (x_recv (E := fun c i => (EMf cyI la) (st.1 c i) st.2 c i) (c0 := 9) (i0 := 0) X.2.2.1 hP rfl (ci := 9) rfl rfl) rfl hl.1 (Nat.le_of_ble_eq_true rfl) dX9_readAt_192 (fun H locs hP hS => ?_)
  exact BX9_readAt_195 X hr hlk _ _ _ _ _  hf hP hS (lv_sub hl [0, 1] rfl)
def fX9_readAt_b145 (N : Nat) (a4 : Int32) (st : xSt) : Option xSt := if (st.1 9 0 19) ≤ (8 : Int32) then fX9_readAt_b190 N a4 st else if (st.1 9 0 19) = (10 : Int32) then fX9_readAt_b190 N a4 st else if (st.1 9 0 19) = (11 : Int32) then fX9_readAt_b190 N a4 st else if (st.1 9 0 19) = (12 : Int32) then fX9_readAt_b190 N a4 st else if (st.1 9 0 19) = (13 : Int32) then fX9_readAt_b190 N a4 st else fX9_readAt_b195 N a4 st
set_option maxHeartbeats 4000000 in
set_option maxRecDepth 100000 in
theorem BX9_readAt_145 {p : Program} {l : Launch} {e : Env} {s : State} {m : MethodId} {args : Array Value} {below : List Frame} {meth : Method} {c : Code} {D : va_G} {la : Nat → Nat → Nat} {cyI cyF cyM : ClassId} {t0 N : Nat} {st' : xSt} (X : xCx D VM la cyI cyF cyM t0 p m c cX9_readAt 7 s args RX9) (hr : meth.sig.returnType = none) (hlk : meth.locks = false) : ∀ (a4 : Int32) (st : xSt) (H : Heap) (locs : List Loc) (ls : Array Slot), fX9_readAt_b145 N a4 st = some st' → HW D VM la (EMf cyI la) st H → va_S (xA VM la) s.heap H locs → lv_has ls 7 [(0, .ref (la 9 0)), (4, .int a4)] → W p l e rm_X9_readAt s m args below meth c H locs 0 0 (MQ below (xQc D VM la (EMf cyI la) none st') args s 0 0 (xA VM la)) (F0 m 145 ls []) := by
  have hx := X.1.1
  have hb := X.1.2.1
  intro a4 st H locs ls hf hP hS hl
  unfold fX9_readAt_b145 at hf
  refine lv_aload_n hx hb dX9_readAt_145 rfl (lv_at hl 0 rfl) ?_
  refine gM_code X hP fl_X9_127 dX9_readAt_146 ?_
  refine lv_bipush (v := 8) hx hb dX9_readAt_149 (by decide) ?_
  refine lv_icmp_le (tgt := 190) hx hb dX9_readAt_151 (by decide) (fun c24 => ?_) (fun c24 => ?_)
  · replace hf := (if_pos c24).symm.trans hf
    exact BX9_readAt_190 X hr hlk _ _ _ _ _  hf hP hS (lv_sub hl [0, 1] rfl)
  · replace hf := (if_neg c24).symm.trans hf
    refine lv_aload_n hx hb dX9_readAt_154 rfl (lv_at hl 0 rfl) ?_
    refine gM_code X hP fl_X9_127 dX9_readAt_155 ?_
    refine lv_bipush (v := 10) hx hb dX9_readAt_158 (by decide) ?_
    refine lv_icmp_eq (tgt := 190) hx hb dX9_readAt_160 (by decide) (fun c25 => ?_) (fun c25 => ?_)
    · replace hf := (if_pos c25).symm.trans hf
      exact BX9_readAt_190 X hr hlk _ _ _ _ _  hf hP hS (lv_sub hl [0, 1] rfl)
    · replace hf := (if_neg c25).symm.trans hf
      refine lv_aload_n hx hb dX9_readAt_163 rfl (lv_at hl 0 rfl) ?_
      refine gM_code X hP fl_X9_127 dX9_readAt_164 ?_
      refine lv_bipush (v := 11) hx hb dX9_readAt_167 (by decide) ?_
      refine lv_icmp_eq (tgt := 190) hx hb dX9_readAt_169 (by decide) (fun c26 => ?_) (fun c26 => ?_)
      · replace hf := (if_pos c26).symm.trans hf
        exact BX9_readAt_190 X hr hlk _ _ _ _ _  hf hP hS (lv_sub hl [0, 1] rfl)
      · replace hf := (if_neg c26).symm.trans hf
        refine lv_aload_n hx hb dX9_readAt_172 rfl (lv_at hl 0 rfl) ?_
        refine gM_code X hP fl_X9_127 dX9_readAt_173 ?_
        refine lv_bipush (v := 12) hx hb dX9_readAt_176 (by decide) ?_
        refine lv_icmp_eq (tgt := 190) hx hb dX9_readAt_178 (by decide) (fun c27 => ?_) (fun c27 => ?_)
        · replace hf := (if_pos c27).symm.trans hf
          exact BX9_readAt_190 X hr hlk _ _ _ _ _  hf hP hS (lv_sub hl [0, 1] rfl)
        · replace hf := (if_neg c27).symm.trans hf
          refine lv_aload_n hx hb dX9_readAt_181 rfl (lv_at hl 0 rfl) ?_
          refine gM_code X hP fl_X9_127 dX9_readAt_182 ?_
          refine lv_bipush (v := 13) hx hb dX9_readAt_185 (by decide) ?_
          refine lv_icmp_ne (tgt := 195) hx hb dX9_readAt_187 (by decide) (fun c28 => ?_) (fun c28 => ?_)
          · replace hf := (if_neg c28).symm.trans hf
            exact BX9_readAt_195 X hr hlk _ _ _ _ _  hf hP hS (lv_sub hl [0, 1] rfl)
          · replace hf := (if_pos c28).symm.trans hf
            exact BX9_readAt_190 X hr hlk _ _ _ _ _  hf hP hS (lv_sub hl [0, 1] rfl)
def fX9_readAt_b134 (N : Nat) (a3 : Int32) (as0 : Int32) (st : xSt) : Option xSt := if a3 = (0 : Int32) then fX9_readAt_b145 N as0 st else Option.bind (fX9_operandOf N (1 : Int32) st) (fun st22 => fX9_readAt_b145 N as0 st22)
set_option maxHeartbeats 4000000 in
set_option maxRecDepth 100000 in
theorem BX9_readAt_134 {p : Program} {l : Launch} {e : Env} {s : State} {m : MethodId} {args : Array Value} {below : List Frame} {meth : Method} {c : Code} {D : va_G} {la : Nat → Nat → Nat} {cyI cyF cyM : ClassId} {t0 N : Nat} {st' : xSt} (X : xCx D VM la cyI cyF cyM t0 p m c cX9_readAt 7 s args RX9) (hr : meth.sig.returnType = none) (hlk : meth.locks = false) : ∀ (a3 : Int32) (as0 : Int32) (st : xSt) (H : Heap) (locs : List Loc) (ls : Array Slot), fX9_readAt_b134 N a3 as0 st = some st' → HW D VM la (EMf cyI la) st H → va_S (xA VM la) s.heap H locs → lv_has ls 7 [(0, .ref (la 9 0)), (3, .int a3)] → W p l e rm_X9_readAt s m args below meth c H locs 0 0 (MQ below (xQc D VM la (EMf cyI la) none st') args s 0 0 (xA VM la)) (F0 m 134 ls [.int as0]) := by
  have hx := X.1.1
  have hb := X.1.2.1
  intro a3 as0 st H locs ls hf hP hS hl
  unfold fX9_readAt_b134 at hf
  refine lv_istore (lv' := [(4, .int as0), (0, .ref (la 9 0)), (3, .int a3)]) hx hb dX9_readAt_134 hl (by decide) rfl (fun ls hl => ?_)
  refine lv_iload_n hx hb dX9_readAt_136 rfl (lv_at hl 2 rfl) ?_
  refine lv_if_eq (tgt := 145) hx hb dX9_readAt_137 (by decide) (fun c21 => ?_) (fun c21 => ?_)
  · replace hf := (if_pos c21).symm.trans hf
    exact BX9_readAt_145 X hr hlk _ _ _ _ _  hf hP hS (lv_sub hl [1, 0] rfl)
  · replace hf := (if_neg c21).symm.trans hf
    refine lv_aload_n hx hb dX9_readAt_140 rfl (lv_at hl 1 rfl) ?_
    refine lv_iconst (v := 1) hx hb dX9_readAt_141 (by decide) ?_
    obtain ⟨st22, hr23, hf⟩ := bd_of hf
    refine w_V0 X (TX9_operandOf l hr23) hP hS rfl KX9_operandOf ml_X9_130 ⟨rfl, rfl⟩ ⟨by decide, by decide⟩ (x_recv (E := fun c i => (EMf cyI la) (st.1 c i) st.2 c i) (c0 := 9) (i0 := 0) X.2.2.1 hP rfl (ci := 9) rfl rfl) rfl hl.1 (Nat.le_of_ble_eq_true rfl) dX9_readAt_142 (fun H locs hP hS => ?_)
    exact BX9_readAt_145 X hr hlk _ _ _ _ _  hf hP hS (lv_sub hl [1, 0] rfl)
def fX9_readAt_b129 (N : Nat) (a3 : Int32) (st : xSt) : Option xSt := fX9_readAt_b134 N a3 (1 : Int32) st
set_option maxHeartbeats 4000000 in
set_option maxRecDepth 100000 in
theorem BX9_readAt_129 {p : Program} {l : Launch} {e : Env} {s : State} {m : MethodId} {args : Array Value} {below : List Frame} {meth : Method} {c : Code} {D : va_G} {la : Nat → Nat → Nat} {cyI cyF cyM : ClassId} {t0 N : Nat} {st' : xSt} (X : xCx D VM la cyI cyF cyM t0 p m c cX9_readAt 7 s args RX9) (hr : meth.sig.returnType = none) (hlk : meth.locks = false) : ∀ (a3 : Int32) (st : xSt) (H : Heap) (locs : List Loc) (ls : Array Slot), fX9_readAt_b129 N a3 st = some st' → HW D VM la (EMf cyI la) st H → va_S (xA VM la) s.heap H locs → lv_has ls 7 [(0, .ref (la 9 0)), (3, .int a3)] → W p l e rm_X9_readAt s m args below meth c H locs 0 0 (MQ below (xQc D VM la (EMf cyI la) none st') args s 0 0 (xA VM la)) (F0 m 129 ls []) := by
  have hx := X.1.1
  have hb := X.1.2.1
  intro a3 st H locs ls hf hP hS hl
  unfold fX9_readAt_b129 at hf
  refine lv_iconst (v := 1) hx hb dX9_readAt_129 (by decide) ?_
  refine lv_goto (tgt := 134) hx hb dX9_readAt_130 (by decide) ?_
  exact BX9_readAt_134 X hr hlk _ _ _ _ _ _  hf hP hS (lv_sub hl [0, 1] rfl)
def fX9_readAt_b102 (N : Nat) (a3 : Int32) (st : xSt) : Option xSt := if (st.1 9 0 19) = (8 : Int32) then fX9_readAt_b129 N a3 st else if (st.1 9 0 19) = (10 : Int32) then fX9_readAt_b129 N a3 st else if (st.1 9 0 19) = (11 : Int32) then fX9_readAt_b129 N a3 st else fX9_readAt_b134 N a3 (0 : Int32) st
set_option maxHeartbeats 4000000 in
set_option maxRecDepth 100000 in
theorem BX9_readAt_102 {p : Program} {l : Launch} {e : Env} {s : State} {m : MethodId} {args : Array Value} {below : List Frame} {meth : Method} {c : Code} {D : va_G} {la : Nat → Nat → Nat} {cyI cyF cyM : ClassId} {t0 N : Nat} {st' : xSt} (X : xCx D VM la cyI cyF cyM t0 p m c cX9_readAt 7 s args RX9) (hr : meth.sig.returnType = none) (hlk : meth.locks = false) : ∀ (a3 : Int32) (st : xSt) (H : Heap) (locs : List Loc) (ls : Array Slot), fX9_readAt_b102 N a3 st = some st' → HW D VM la (EMf cyI la) st H → va_S (xA VM la) s.heap H locs → lv_has ls 7 [(0, .ref (la 9 0)), (3, .int a3)] → W p l e rm_X9_readAt s m args below meth c H locs 0 0 (MQ below (xQc D VM la (EMf cyI la) none st') args s 0 0 (xA VM la)) (F0 m 102 ls []) := by
  have hx := X.1.1
  have hb := X.1.2.1
  intro a3 st H locs ls hf hP hS hl
  unfold fX9_readAt_b102 at hf
  refine lv_aload_n hx hb dX9_readAt_102 rfl (lv_at hl 0 rfl) ?_
  refine gM_code X hP fl_X9_127 dX9_readAt_103 ?_
  refine lv_bipush (v := 8) hx hb dX9_readAt_106 (by decide) ?_
  refine lv_icmp_eq (tgt := 129) hx hb dX9_readAt_108 (by decide) (fun c18 => ?_) (fun c18 => ?_)
  · replace hf := (if_pos c18).symm.trans hf
    exact BX9_readAt_129 X hr hlk _ _ _ _ _  hf hP hS (lv_sub hl [0, 1] rfl)
  · replace hf := (if_neg c18).symm.trans hf
    refine lv_aload_n hx hb dX9_readAt_111 rfl (lv_at hl 0 rfl) ?_
    refine gM_code X hP fl_X9_127 dX9_readAt_112 ?_
    refine lv_bipush (v := 10) hx hb dX9_readAt_115 (by decide) ?_
    refine lv_icmp_eq (tgt := 129) hx hb dX9_readAt_117 (by decide) (fun c19 => ?_) (fun c19 => ?_)
    · replace hf := (if_pos c19).symm.trans hf
      exact BX9_readAt_129 X hr hlk _ _ _ _ _  hf hP hS (lv_sub hl [0, 1] rfl)
    · replace hf := (if_neg c19).symm.trans hf
      refine lv_aload_n hx hb dX9_readAt_120 rfl (lv_at hl 0 rfl) ?_
      refine gM_code X hP fl_X9_127 dX9_readAt_121 ?_
      refine lv_bipush (v := 11) hx hb dX9_readAt_124 (by decide) ?_
      refine lv_icmp_ne (tgt := 133) hx hb dX9_readAt_126 (by decide) (fun c20 => ?_) (fun c20 => ?_)
      · replace hf := (if_neg c20).symm.trans hf
        refine lv_iconst (v := 0) hx hb dX9_readAt_133 (by decide) ?_
        exact BX9_readAt_134 X hr hlk _ _ _ _ _ _  hf hP hS (lv_sub hl [0, 1] rfl)
      · replace hf := (if_pos c20).symm.trans hf
        exact BX9_readAt_129 X hr hlk _ _ _ _ _  hf hP hS (lv_sub hl [0, 1] rfl)
def fX9_readAt_b84 (N : Nat) (as0 : Int32) (st : xSt) : Option xSt := if (st.1 9 0 19) ≤ (1 : Int32) then fX9_readAt_b102 N as0 st else if (st.1 9 0 19) < (7 : Int32) then fX9_readAt_b129 N as0 st else fX9_readAt_b102 N as0 st
set_option maxHeartbeats 4000000 in
set_option maxRecDepth 100000 in
theorem BX9_readAt_84 {p : Program} {l : Launch} {e : Env} {s : State} {m : MethodId} {args : Array Value} {below : List Frame} {meth : Method} {c : Code} {D : va_G} {la : Nat → Nat → Nat} {cyI cyF cyM : ClassId} {t0 N : Nat} {st' : xSt} (X : xCx D VM la cyI cyF cyM t0 p m c cX9_readAt 7 s args RX9) (hr : meth.sig.returnType = none) (hlk : meth.locks = false) : ∀ (as0 : Int32) (st : xSt) (H : Heap) (locs : List Loc) (ls : Array Slot), fX9_readAt_b84 N as0 st = some st' → HW D VM la (EMf cyI la) st H → va_S (xA VM la) s.heap H locs → lv_has ls 7 [(0, .ref (la 9 0))] → W p l e rm_X9_readAt s m args below meth c H locs 0 0 (MQ below (xQc D VM la (EMf cyI la) none st') args s 0 0 (xA VM la)) (F0 m 84 ls [.int as0]) := by
  have hx := X.1.1
  have hb := X.1.2.1
  intro as0 st H locs ls hf hP hS hl
  unfold fX9_readAt_b84 at hf
  refine lv_istore_n (lv' := [(3, .int as0), (0, .ref (la 9 0))]) hx hb dX9_readAt_84 rfl hl (by decide) rfl (fun ls hl => ?_)
  refine lv_aload_n hx hb dX9_readAt_85 rfl (lv_at hl 1 rfl) ?_
  refine gM_code X hP fl_X9_127 dX9_readAt_86 ?_
  refine lv_iconst (v := 1) hx hb dX9_readAt_89 (by decide) ?_
  refine lv_icmp_le (tgt := 102) hx hb dX9_readAt_90 (by decide) (fun c16 => ?_) (fun c16 => ?_)
  · replace hf := (if_pos c16).symm.trans hf
    exact BX9_readAt_102 X hr hlk _ _ _ _ _  hf hP hS (lv_sub hl [1, 0] rfl)
  · replace hf := (if_neg c16).symm.trans hf
    refine lv_aload_n hx hb dX9_readAt_93 rfl (lv_at hl 1 rfl) ?_
    refine gM_code X hP fl_X9_127 dX9_readAt_94 ?_
    refine lv_bipush (v := 7) hx hb dX9_readAt_97 (by decide) ?_
    refine lv_icmp_lt (tgt := 129) hx hb dX9_readAt_99 (by decide) (fun c17 => ?_) (fun c17 => ?_)
    · replace hf := (if_pos c17).symm.trans hf
      exact BX9_readAt_129 X hr hlk _ _ _ _ _  hf hP hS (lv_sub hl [1, 0] rfl)
    · replace hf := (if_neg c17).symm.trans hf
      exact BX9_readAt_102 X hr hlk _ _ _ _ _  hf hP hS (lv_sub hl [1, 0] rfl)
def fX9_readAt_b79 (N : Nat) (st : xSt) : Option xSt := fX9_readAt_b84 N (1 : Int32) st
set_option maxHeartbeats 4000000 in
set_option maxRecDepth 100000 in
theorem BX9_readAt_79 {p : Program} {l : Launch} {e : Env} {s : State} {m : MethodId} {args : Array Value} {below : List Frame} {meth : Method} {c : Code} {D : va_G} {la : Nat → Nat → Nat} {cyI cyF cyM : ClassId} {t0 N : Nat} {st' : xSt} (X : xCx D VM la cyI cyF cyM t0 p m c cX9_readAt 7 s args RX9) (hr : meth.sig.returnType = none) (hlk : meth.locks = false) : ∀ (st : xSt) (H : Heap) (locs : List Loc) (ls : Array Slot), fX9_readAt_b79 N st = some st' → HW D VM la (EMf cyI la) st H → va_S (xA VM la) s.heap H locs → lv_has ls 7 [(0, .ref (la 9 0))] → W p l e rm_X9_readAt s m args below meth c H locs 0 0 (MQ below (xQc D VM la (EMf cyI la) none st') args s 0 0 (xA VM la)) (F0 m 79 ls []) := by
  have hx := X.1.1
  have hb := X.1.2.1
  intro st H locs ls hf hP hS hl
  unfold fX9_readAt_b79 at hf
  refine lv_iconst (v := 1) hx hb dX9_readAt_79 (by decide) ?_
  refine lv_goto (tgt := 84) hx hb dX9_readAt_80 (by decide) ?_
  exact BX9_readAt_84 X hr hlk _ _ _ _ _  hf hP hS (lv_sub hl [0] rfl)
def fX9_readAt_b70 (N : Nat) (st : xSt) : Option xSt := if (st.1 9 0 19) = (12 : Int32) then fX9_readAt_b79 N st else fX9_readAt_b84 N (0 : Int32) st
set_option maxHeartbeats 4000000 in
set_option maxRecDepth 100000 in
theorem BX9_readAt_70 {p : Program} {l : Launch} {e : Env} {s : State} {m : MethodId} {args : Array Value} {below : List Frame} {meth : Method} {c : Code} {D : va_G} {la : Nat → Nat → Nat} {cyI cyF cyM : ClassId} {t0 N : Nat} {st' : xSt} (X : xCx D VM la cyI cyF cyM t0 p m c cX9_readAt 7 s args RX9) (hr : meth.sig.returnType = none) (hlk : meth.locks = false) : ∀ (st : xSt) (H : Heap) (locs : List Loc) (ls : Array Slot), fX9_readAt_b70 N st = some st' → HW D VM la (EMf cyI la) st H → va_S (xA VM la) s.heap H locs → lv_has ls 7 [(0, .ref (la 9 0))] → W p l e rm_X9_readAt s m args below meth c H locs 0 0 (MQ below (xQc D VM la (EMf cyI la) none st') args s 0 0 (xA VM la)) (F0 m 70 ls []) := by
  have hx := X.1.1
  have hb := X.1.2.1
  intro st H locs ls hf hP hS hl
  unfold fX9_readAt_b70 at hf
  refine lv_aload_n hx hb dX9_readAt_70 rfl (lv_at hl 0 rfl) ?_
  refine gM_code X hP fl_X9_127 dX9_readAt_71 ?_
  refine lv_bipush (v := 12) hx hb dX9_readAt_74 (by decide) ?_
  refine lv_icmp_ne (tgt := 83) hx hb dX9_readAt_76 (by decide) (fun c15 => ?_) (fun c15 => ?_)
  · replace hf := (if_neg c15).symm.trans hf
    refine lv_iconst (v := 0) hx hb dX9_readAt_83 (by decide) ?_
    exact BX9_readAt_84 X hr hlk _ _ _ _ _  hf hP hS (lv_sub hl [0] rfl)
  · replace hf := (if_pos c15).symm.trans hf
    exact BX9_readAt_79 X hr hlk _ _ _ _  hf hP hS (lv_sub hl [0] rfl)
def fX9_readAt_b53 (N : Nat) (st : xSt) : Option xSt := if (st.1 9 0 19) < (1 : Int32) then fX9_readAt_b70 N st else if (st.1 9 0 19) ≤ (7 : Int32) then fX9_readAt_b79 N st else fX9_readAt_b70 N st
set_option maxHeartbeats 4000000 in
set_option maxRecDepth 100000 in
theorem BX9_readAt_53 {p : Program} {l : Launch} {e : Env} {s : State} {m : MethodId} {args : Array Value} {below : List Frame} {meth : Method} {c : Code} {D : va_G} {la : Nat → Nat → Nat} {cyI cyF cyM : ClassId} {t0 N : Nat} {st' : xSt} (X : xCx D VM la cyI cyF cyM t0 p m c cX9_readAt 7 s args RX9) (hr : meth.sig.returnType = none) (hlk : meth.locks = false) : ∀ (st : xSt) (H : Heap) (locs : List Loc) (ls : Array Slot), fX9_readAt_b53 N st = some st' → HW D VM la (EMf cyI la) st H → va_S (xA VM la) s.heap H locs → lv_has ls 7 [(0, .ref (la 9 0))] → W p l e rm_X9_readAt s m args below meth c H locs 0 0 (MQ below (xQc D VM la (EMf cyI la) none st') args s 0 0 (xA VM la)) (F0 m 53 ls []) := by
  have hx := X.1.1
  have hb := X.1.2.1
  intro st H locs ls hf hP hS hl
  unfold fX9_readAt_b53 at hf
  refine lv_aload_n hx hb dX9_readAt_53 rfl (lv_at hl 0 rfl) ?_
  refine gM_code X hP fl_X9_127 dX9_readAt_54 ?_
  refine lv_iconst (v := 1) hx hb dX9_readAt_57 (by decide) ?_
  refine lv_icmp_lt (tgt := 70) hx hb dX9_readAt_58 (by decide) (fun c11 => ?_) (fun c11 => ?_)
  · replace hf := (if_pos c11).symm.trans hf
    exact BX9_readAt_70 X hr hlk _ _ _ _  hf hP hS (lv_sub hl [0] rfl)
  · replace hf := (if_neg c11).symm.trans hf
    refine lv_aload_n hx hb dX9_readAt_61 rfl (lv_at hl 0 rfl) ?_
    refine gM_code X hP fl_X9_127 dX9_readAt_62 ?_
    refine lv_bipush (v := 7) hx hb dX9_readAt_65 (by decide) ?_
    refine lv_icmp_le (tgt := 79) hx hb dX9_readAt_67 (by decide) (fun c12 => ?_) (fun c12 => ?_)
    · replace hf := (if_pos c12).symm.trans hf
      exact BX9_readAt_79 X hr hlk _ _ _ _  hf hP hS (lv_sub hl [0] rfl)
    · replace hf := (if_neg c12).symm.trans hf
      exact BX9_readAt_70 X hr hlk _ _ _ _  hf hP hS (lv_sub hl [0] rfl)
def fX9_readAt_b50 (N : Nat) (as0 : Int32) (st : xSt) : Option xSt := Option.bind (fX9_bad N as0 st) (fun st13 => fX9_readAt_b53 N st13)
set_option maxHeartbeats 4000000 in
set_option maxRecDepth 100000 in
theorem BX9_readAt_50 {p : Program} {l : Launch} {e : Env} {s : State} {m : MethodId} {args : Array Value} {below : List Frame} {meth : Method} {c : Code} {D : va_G} {la : Nat → Nat → Nat} {cyI cyF cyM : ClassId} {t0 N : Nat} {st' : xSt} (X : xCx D VM la cyI cyF cyM t0 p m c cX9_readAt 7 s args RX9) (hr : meth.sig.returnType = none) (hlk : meth.locks = false) : ∀ (as0 : Int32) (st : xSt) (H : Heap) (locs : List Loc) (ls : Array Slot), fX9_readAt_b50 N as0 st = some st' → HW D VM la (EMf cyI la) st H → va_S (xA VM la) s.heap H locs → lv_has ls 7 [(0, .ref (la 9 0))] → W p l e rm_X9_readAt s m args below meth c H locs 0 0 (MQ below (xQc D VM la (EMf cyI la) none st') args s 0 0 (xA VM la)) (F0 m 50 ls [.int as0, .ref (la 9 0)]) := by
  have hx := X.1.1
  have hb := X.1.2.1
  intro as0 st H locs ls hf hP hS hl
  unfold fX9_readAt_b50 at hf
  obtain ⟨st13, hr14, hf⟩ := bd_of hf
  refine w_V0 X (TX9_bad l hr14) hP hS rfl KX9_bad ml_X9_120 ⟨rfl, rfl⟩ ⟨by decide, by decide⟩ (x_recv (E := fun c i => (EMf cyI la) (st.1 c i) st.2 c i) (c0 := 9) (i0 := 0) X.2.2.1 hP rfl (ci := 9) rfl rfl) rfl hl.1 (Nat.le_of_ble_eq_true rfl) dX9_readAt_50 (fun H locs hP hS => ?_)
  exact BX9_readAt_53 X hr hlk _ _ _ _  hf hP hS (lv_sub hl [0] rfl)
def fX9_readAt (N : Nat) (a1 : Int32) (a2 : Int32) (st : xSt) : Option xSt := nm (pI st 9 0 21 a1) (fun st1 => nm (pI st1 9 0 20 (0 : Int32)) (fun st2 => nm (pI st2 9 0 23 (0 : Int32)) (fun st3 => nm (pI st3 9 0 24 a2) (fun st4 => bd (fX9_nextByte N st4) (fun v7 st5 => nm (pI st5 9 0 19 v7) (fun st8 => if (st8.1 9 0 20) = (0 : Int32) then if (st8.1 9 0 19) ≤ (15 : Int32) then fX9_readAt_b50 N (0 : Int32) st8 else fX9_readAt_b50 N (1 : Int32) st8 else fX9_readAt_b53 N st8))))))
set_option maxHeartbeats 4000000 in
set_option maxRecDepth 100000 in
theorem TX9_readAt (l : Launch) {D : va_G} {la : Nat → Nat → Nat} {cyI cyF cyM : ClassId} {t0 N : Nat} {a1 : Int32} {a2 : Int32} {st : xSt} {st' : xSt} (hf : fX9_readAt N a1 a2 st = some st') : MetM D cyI cyF cyM la t0 l yX9_readAt (Cond.code yX9_readAt cX9_readAt 7 none :: xALL) rm_X9_readAt [.ref (la 9 0), .int a1, .int a2] none st st' := by
  refine MetW.intro (own := RX9) (by decide) (Nat.le_of_ble_eq_true rfl) rfl ?_
  intro p e s m below meth c X hr hlk hP ls hl
  have hx := X.1.1
  have hb := X.1.2.1
  have hS : va_S (xA VM la) s.heap s.heap [] := va_S.rf
  unfold fX9_readAt at hf
  replace hl : lv_has ls 7 [(0, .ref (la 9 0)), (1, .int a1), (2, .int a2)] := hl
  refine lv_aload_n hx hb dX9_readAt_0 rfl (lv_at hl 0 rfl) ?_
  refine lv_iload_n hx hb dX9_readAt_1 rfl (lv_at hl 1 rfl) ?_
  refine pM_behind X hP hS fl_X9_104 dX9_readAt_2 (fun H locs hP hS => ?_)
  obtain ⟨st1, hP, hf⟩ := nm_gen (P := fun z => HW D VM la (EMf cyI la) z H) hP hf
  refine lv_aload_n hx hb dX9_readAt_5 rfl (lv_at hl 0 rfl) ?_
  refine lv_iconst (v := 0) hx hb dX9_readAt_6 (by decide) ?_
  refine pM_codeFault X hP hS fl_X9_107 dX9_readAt_7 (fun H locs hP hS => ?_)
  obtain ⟨st2, hP, hf⟩ := nm_gen (P := fun z => HW D VM la (EMf cyI la) z H) hP hf
  refine lv_aload_n hx hb dX9_readAt_10 rfl (lv_at hl 0 rfl) ?_
  refine lv_iconst (v := 0) hx hb dX9_readAt_11 (by decide) ?_
  refine pM_operands X hP hS fl_X9_124 dX9_readAt_12 (fun H locs hP hS => ?_)
  obtain ⟨st3, hP, hf⟩ := nm_gen (P := fun z => HW D VM la (EMf cyI la) z H) hP hf
  refine lv_aload_n hx hb dX9_readAt_15 rfl (lv_at hl 0 rfl) ?_
  refine lv_iload_n hx hb dX9_readAt_16 rfl (lv_at hl 2 rfl) ?_
  refine pM_localMany X hP hS fl_X9_110 dX9_readAt_17 (fun H locs hP hS => ?_)
  obtain ⟨st4, hP, hf⟩ := nm_gen (P := fun z => HW D VM la (EMf cyI la) z H) hP hf
  refine lv_aload_n hx hb dX9_readAt_20 rfl (lv_at hl 0 rfl) ?_
  refine lv_aload_n hx hb dX9_readAt_21 rfl (lv_at hl 0 rfl) ?_
  obtain ⟨v7, st5, hr6, hf⟩ := bd_2 hf
  refine w_V1 X (TX9_nextByte l hr6) hP hS rfl KX9_nextByte ml_X9_113 ⟨rfl, rfl⟩ ⟨by decide, by decide⟩ (x_recv (E := fun c i => (EMf cyI la) (st4.1 c i) st4.2 c i) (c0 := 9) (i0 := 0) X.2.2.1 hP rfl (ci := 9) rfl rfl) rfl hl.1 (Nat.le_of_ble_eq_true rfl) dX9_readAt_22 (fun H locs hP hS => ?_)
  refine pM_code X hP hS fl_X9_127 dX9_readAt_25 (fun H locs hP hS => ?_)
  obtain ⟨st8, hP, hf⟩ := nm_gen (P := fun z => HW D VM la (EMf cyI la) z H) hP hf
  refine lv_aload_n hx hb dX9_readAt_28 rfl (lv_at hl 0 rfl) ?_
  refine gM_codeFault X hP fl_X9_107 dX9_readAt_29 ?_
  refine lv_if_ne (tgt := 53) hx hb dX9_readAt_32 (by decide) (fun c9 => ?_) (fun c9 => ?_)
  · replace hf := (if_neg c9).symm.trans hf
    exact BX9_readAt_53 X hr hlk _ _ _ _  hf hP hS (lv_sub hl [0] rfl)
  · replace hf := (if_pos c9).symm.trans hf
    refine lv_aload_n hx hb dX9_readAt_35 rfl (lv_at hl 0 rfl) ?_
    refine lv_aload_n hx hb dX9_readAt_36 rfl (lv_at hl 0 rfl) ?_
    refine gM_code X hP fl_X9_127 dX9_readAt_37 ?_
    refine lv_bipush (v := 15) hx hb dX9_readAt_40 (by decide) ?_
    refine lv_icmp_le (tgt := 49) hx hb dX9_readAt_42 (by decide) (fun c10 => ?_) (fun c10 => ?_)
    · replace hf := (if_pos c10).symm.trans hf
      refine lv_iconst (v := 0) hx hb dX9_readAt_49 (by decide) ?_
      exact BX9_readAt_50 X hr hlk _ _ _ _ _  hf hP hS (lv_sub hl [0] rfl)
    · replace hf := (if_neg c10).symm.trans hf
      refine lv_iconst (v := 1) hx hb dX9_readAt_45 (by decide) ?_
      refine lv_goto (tgt := 50) hx hb dX9_readAt_46 (by decide) ?_
      exact BX9_readAt_50 X hr hlk _ _ _ _ _  hf hP hS (lv_sub hl [0] rfl)
theorem KX9_readAt : xKv yX9_readAt cX9_readAt 7 none RX9 2 := ⟨cd_X9_readAt, im_X9_readAt, se_X9_readAt, in_X9, by decide +kernel⟩
