abbrev rm_X9_reckon : Room := { frames := 1, cells := 0, slots := 0, locals := 22 }
def fX9_reckon_b94 (N : Nat) (as0 : Int32) (as1 : Int32) (st : xSt) : Option xSt := Option.bind (fX9_becomes N as1 as0 st) (fun st18 => some st18)
set_option maxHeartbeats 4000000 in
set_option maxRecDepth 100000 in
theorem BX9_reckon_94 {p : Program} {l : Launch} {e : Env} {s : State} {m : MethodId} {args : Array Value} {below : List Frame} {meth : Method} {c : Code} {D : va_G} {la : Nat → Nat → Nat} {cyI cyF cyM : ClassId} {t0 N : Nat} {st' : xSt} (X : xCx D VM la cyI cyF cyM t0 p m c cX9_reckon 4 s args RX9) (hr : meth.sig.returnType = none) (hlk : meth.locks = false) : ∀ (as0 : Int32) (as1 : Int32) (st : xSt) (H : Heap) (locs : List Loc) (ls : Array Slot), fX9_reckon_b94 N as0 as1 st = some st' → HW D VM la (EMf cyI la) st H → va_S (xA VM la) s.heap H locs → lv_has ls 4 [] → W p l e rm_X9_reckon s m args below meth c H locs 0 0 (MQ below (xQc D VM la (EMf cyI la) none st') args s 0 0 (xA VM la)) (F0 m 94 ls [.int as0, .int as1, .ref (la 9 0)]) := by
  have hx := X.1.1
  have hb := X.1.2.1
  intro as0 as1 st H locs ls hf hP hS hl
  unfold fX9_reckon_b94 at hf
  obtain ⟨st18, hr19, hf⟩ := bd_of hf
  refine w_V0 X (TX9_becomes l hr19) hP hS rfl KX9_becomes ml_X9_183 ⟨rfl, rfl⟩ ⟨by decide, by decide⟩ (x_recv (E := fun c i => (EMf cyI la) (st.1 c i) st.2 c i) (c0 := 9) (i0 := 0) X.2.2.1 hP rfl (ci := 9) rfl rfl) rfl hl.1 (Nat.le_of_ble_eq_true rfl) dX9_reckon_94 (fun H locs hP hS => ?_)
  obtain rfl := Option.some.inj hf
  exact w_vret X hr hlk hP hS dX9_reckon_97
def fX9_reckon (N : Nat) (a1 : Int32) (a2 : Int32) (st : xSt) : Option xSt := nm (st.1 30 22 0) (fun x1 => nm (st.1 9 0 19) (fun x2 => if x2 = (2 : Int32) then Option.bind (fX9_becomes N x1 (a1 + a2) st) (fun st4 => some st4) else if x2 = (3 : Int32) then Option.bind (fX9_becomes N x1 (a1 - a2) st) (fun st7 => some st7) else if x2 = (4 : Int32) then Option.bind (fX9_becomes N x1 (a1 * a2) st) (fun st10 => some st10) else if a2 = (0 : Int32) then Option.bind (fX9_fails N (2 : Int32) st) (fun st16 => some st16) else if (st.1 9 0 19) = (5 : Int32) then if a2 = 0 then none else fX9_reckon_b94 N (a1 / a2) x1 st else if a2 = 0 then none else fX9_reckon_b94 N (a1 - a1 / a2 * a2) x1 st))
set_option maxHeartbeats 4000000 in
set_option maxRecDepth 100000 in
theorem TX9_reckon (l : Launch) {D : va_G} {la : Nat → Nat → Nat} {cyI cyF cyM : ClassId} {t0 N : Nat} {a1 : Int32} {a2 : Int32} {st : xSt} {st' : xSt} (hf : fX9_reckon N a1 a2 st = some st') : MetM D cyI cyF cyM la t0 l yX9_reckon (Cond.code yX9_reckon cX9_reckon 4 none :: xALL) rm_X9_reckon [.ref (la 9 0), .int a1, .int a2] none st st' := by
  refine MetW.intro (own := RX9) (by decide) (Nat.le_of_ble_eq_true rfl) rfl ?_
  intro p e s m below meth c X hr hlk hP ls hl
  have hx := X.1.1
  have hb := X.1.2.1
  have hS : va_S (xA VM la) s.heap s.heap [] := va_S.rf
  unfold fX9_reckon at hf
  replace hl : lv_has ls 4 [(0, .ref (la 9 0)), (1, .int a1), (2, .int a2)] := hl
  refine lv_aload_n hx hb dX9_reckon_0 rfl (lv_at hl 0 rfl) ?_
  refine gM_operand X hP fl_X9_35 dX9_reckon_1 ?_
  refine lv_iconst (v := 0) hx hb dX9_reckon_4 (by decide) ?_
  refine w_ialdK X hP (c0 := 30) (i0 := 22) (show 0 < lenM 22 by decide) (n := 8) (fun _ => rfl) 0 (by decide) (show ¬ ((0 : Int32) < 0 ∨ 8 ≤ ((0 : Int32)).toNatClampNeg) by decide) dX9_reckon_5 ?_
  refine lv_topi (fun x1 ex => ?_)
  replace hf := nm_of hf ex
  clear ex
  refine lv_istore_n (lv' := [(3, .int x1), (0, .ref (la 9 0)), (1, .int a1), (2, .int a2)]) hx hb dX9_reckon_6 rfl hl (by decide) rfl (fun ls hl => ?_)
  refine lv_aload_n hx hb dX9_reckon_7 rfl (lv_at hl 1 rfl) ?_
  refine gM_code X hP fl_X9_127 dX9_reckon_8 ?_
  refine lv_topi (fun x2 ex => ?_)
  replace hf := nm_of hf ex
  clear ex
  by_cases c3 : x2 = (2 : Int32)
  · replace hf := (if_pos c3).symm.trans hf
    refine w_stk (st1 := .int (2 : Int32) :: _) (by rw [c3]) ?_
    refine lv_tableIn (off := 25) (tgt := 36) hx hb dX9_reckon_11 (by decide) (by decide) (by decide) (by decide) ?_
    refine lv_aload_n hx hb dX9_reckon_36 rfl (lv_at hl 1 rfl) ?_
    refine lv_iload_n hx hb dX9_reckon_37 rfl (lv_at hl 0 rfl) ?_
    refine lv_iload_n hx hb dX9_reckon_38 rfl (lv_at hl 2 rfl) ?_
    refine lv_iload_n hx hb dX9_reckon_39 rfl (lv_at hl 3 rfl) ?_
    refine lv_iadd hx hb dX9_reckon_40 ?_
    obtain ⟨st4, hr5, hf⟩ := bd_of hf
    refine w_V0 X (TX9_becomes l hr5) hP hS rfl KX9_becomes ml_X9_183 ⟨rfl, rfl⟩ ⟨by decide, by decide⟩ (x_recv (E := fun c i => (EMf cyI la) (st.1 c i) st.2 c i) (c0 := 9) (i0 := 0) X.2.2.1 hP rfl (ci := 9) rfl rfl) rfl hl.1 (Nat.le_of_ble_eq_true rfl) dX9_reckon_41 (fun H locs hP hS => ?_)
    obtain rfl := Option.some.inj hf
    exact w_vret X hr hlk hP hS dX9_reckon_44
  replace hf := (if_neg c3).symm.trans hf
  by_cases c6 : x2 = (3 : Int32)
  · replace hf := (if_pos c6).symm.trans hf
    refine w_stk (st1 := .int (3 : Int32) :: _) (by rw [c6]) ?_
    refine lv_tableIn (off := 34) (tgt := 45) hx hb dX9_reckon_11 (by decide) (by decide) (by decide) (by decide) ?_
    refine lv_aload_n hx hb dX9_reckon_45 rfl (lv_at hl 1 rfl) ?_
    refine lv_iload_n hx hb dX9_reckon_46 rfl (lv_at hl 0 rfl) ?_
    refine lv_iload_n hx hb dX9_reckon_47 rfl (lv_at hl 2 rfl) ?_
    refine lv_iload_n hx hb dX9_reckon_48 rfl (lv_at hl 3 rfl) ?_
    refine lv_isub hx hb dX9_reckon_49 ?_
    obtain ⟨st7, hr8, hf⟩ := bd_of hf
    refine w_V0 X (TX9_becomes l hr8) hP hS rfl KX9_becomes ml_X9_183 ⟨rfl, rfl⟩ ⟨by decide, by decide⟩ (x_recv (E := fun c i => (EMf cyI la) (st.1 c i) st.2 c i) (c0 := 9) (i0 := 0) X.2.2.1 hP rfl (ci := 9) rfl rfl) rfl hl.1 (Nat.le_of_ble_eq_true rfl) dX9_reckon_50 (fun H locs hP hS => ?_)
    obtain rfl := Option.some.inj hf
    exact w_vret X hr hlk hP hS dX9_reckon_53
  replace hf := (if_neg c6).symm.trans hf
  by_cases c9 : x2 = (4 : Int32)
  · replace hf := (if_pos c9).symm.trans hf
    refine w_stk (st1 := .int (4 : Int32) :: _) (by rw [c9]) ?_
    refine lv_tableIn (off := 43) (tgt := 54) hx hb dX9_reckon_11 (by decide) (by decide) (by decide) (by decide) ?_
    refine lv_aload_n hx hb dX9_reckon_54 rfl (lv_at hl 1 rfl) ?_
    refine lv_iload_n hx hb dX9_reckon_55 rfl (lv_at hl 0 rfl) ?_
    refine lv_iload_n hx hb dX9_reckon_56 rfl (lv_at hl 2 rfl) ?_
    refine lv_iload_n hx hb dX9_reckon_57 rfl (lv_at hl 3 rfl) ?_
    refine lv_imul hx hb dX9_reckon_58 ?_
    obtain ⟨st10, hr11, hf⟩ := bd_of hf
    refine w_V0 X (TX9_becomes l hr11) hP hS rfl KX9_becomes ml_X9_183 ⟨rfl, rfl⟩ ⟨by decide, by decide⟩ (x_recv (E := fun c i => (EMf cyI la) (st.1 c i) st.2 c i) (c0 := 9) (i0 := 0) X.2.2.1 hP rfl (ci := 9) rfl rfl) rfl hl.1 (Nat.le_of_ble_eq_true rfl) dX9_reckon_59 (fun H locs hP hS => ?_)
    obtain rfl := Option.some.inj hf
    exact w_vret X hr hlk hP hS dX9_reckon_62
  replace hf := (if_neg c9).symm.trans hf
  have gc3 := lv_neT c3 (show ((2 : Int32)).toInt = 2 by decide)
  have gc6 := lv_neT c6 (show ((3 : Int32)).toInt = 3 by decide)
  have gc9 := lv_neT c9 (show ((4 : Int32)).toInt = 4 by decide)
  refine lv_tableOut (tgt := 63) hx hb dX9_reckon_11 (by omega) (by decide) ?_
  clear gc3 gc6 gc9
  refine lv_iload_n hx hb dX9_reckon_63 rfl (lv_at hl 3 rfl) ?_
  refine lv_if_ne (tgt := 75) hx hb dX9_reckon_64 (by decide) (fun c12 => ?_) (fun c12 => ?_)
  · replace hf := (if_neg c12).symm.trans hf
    refine lv_aload_n hx hb dX9_reckon_75 rfl (lv_at hl 1 rfl) ?_
    refine lv_iload_n hx hb dX9_reckon_76 rfl (lv_at hl 0 rfl) ?_
    refine lv_aload_n hx hb dX9_reckon_77 rfl (lv_at hl 1 rfl) ?_
    refine gM_code X hP fl_X9_127 dX9_reckon_78 ?_
    refine lv_iconst (v := 5) hx hb dX9_reckon_81 (by decide) ?_
    refine lv_icmp_ne (tgt := 91) hx hb dX9_reckon_82 (by decide) (fun c13 => ?_) (fun c13 => ?_)
    · replace hf := (if_neg c13).symm.trans hf
      refine lv_iload_n hx hb dX9_reckon_91 rfl (lv_at hl 2 rfl) ?_
      refine lv_iload_n hx hb dX9_reckon_92 rfl (lv_at hl 3 rfl) ?_
      obtain ⟨hz14, hf⟩ := ck_of hf
      refine lv_irem hx hb dX9_reckon_93 hz14 ?_
      exact BX9_reckon_94 X hr hlk _ _ _ _ _ _  hf hP hS (lv_sub hl [] rfl)
    · replace hf := (if_pos c13).symm.trans hf
      refine lv_iload_n hx hb dX9_reckon_85 rfl (lv_at hl 2 rfl) ?_
      refine lv_iload_n hx hb dX9_reckon_86 rfl (lv_at hl 3 rfl) ?_
      obtain ⟨hz15, hf⟩ := ck_of hf
      refine lv_idiv hx hb dX9_reckon_87 hz15 ?_
      refine lv_goto (tgt := 94) hx hb dX9_reckon_88 (by decide) ?_
      exact BX9_reckon_94 X hr hlk _ _ _ _ _ _  hf hP hS (lv_sub hl [] rfl)
  · replace hf := (if_pos c12).symm.trans hf
    refine lv_aload_n hx hb dX9_reckon_67 rfl (lv_at hl 1 rfl) ?_
    refine lv_iconst (v := 2) hx hb dX9_reckon_68 (by decide) ?_
    obtain ⟨st16, hr17, hf⟩ := bd_of hf
    refine w_V0 X (TX9_fails l hr17) hP hS rfl KX9_fails ml_X9_167 ⟨rfl, rfl⟩ ⟨by decide, by decide⟩ (x_recv (E := fun c i => (EMf cyI la) (st.1 c i) st.2 c i) (c0 := 9) (i0 := 0) X.2.2.1 hP rfl (ci := 9) rfl rfl) rfl hl.1 (Nat.le_of_ble_eq_true rfl) dX9_reckon_69 (fun H locs hP hS => ?_)
    refine lv_goto (tgt := 97) hx hb dX9_reckon_72 (by decide) ?_
    obtain rfl := Option.some.inj hf
    exact w_vret X hr hlk hP hS dX9_reckon_97
theorem KX9_reckon : xKv yX9_reckon cX9_reckon 4 none RX9 2 := ⟨cd_X9_reckon, im_X9_reckon, se_X9_reckon, in_X9, by decide +kernel⟩
abbrev rm_X9_jump : Room := { frames := 0, cells := 0, slots := 0, locals := 0 }
def fX9_jump (N : Nat) (a1 : Int32) (a2 : Int32) (st : xSt) : Option xSt := if a1 = (0 : Int32) then some st else if ((st.1 9 0 29) - (1 : Int32)) < 0 ∨ 12 ≤ (((st.1 9 0 29) - (1 : Int32))).toNatClampNeg then none else if ((st.1 9 0 29) - (1 : Int32)) < 0 ∨ 12 ≤ (((st.1 9 0 29) - (1 : Int32))).toNatClampNeg then none else nm (pI st 30 32 (((st.1 9 0 29) - (1 : Int32))).toNatClampNeg ((st.1 30 31 (((st.1 9 0 29) - (1 : Int32))).toNatClampNeg) + a2)) (fun st4 => some st4)
set_option maxHeartbeats 4000000 in
set_option maxRecDepth 100000 in
theorem TX9_jump (l : Launch) {D : va_G} {la : Nat → Nat → Nat} {cyI cyF cyM : ClassId} {t0 N : Nat} {a1 : Int32} {a2 : Int32} {st : xSt} {st' : xSt} (hf : fX9_jump N a1 a2 st = some st') : MetM D cyI cyF cyM la t0 l yX9_jump (Cond.code yX9_jump cX9_jump 3 none :: xALL) rm_X9_jump [.ref (la 9 0), .int a1, .int a2] none st st' := by
  refine MetW.intro (own := RX9) (by decide) (Nat.le_of_ble_eq_true rfl) rfl ?_
  intro p e s m below meth c X hr hlk hP ls hl
  have hx := X.1.1
  have hb := X.1.2.1
  have hS : va_S (xA VM la) s.heap s.heap [] := va_S.rf
  unfold fX9_jump at hf
  replace hl : lv_has ls 3 [(0, .ref (la 9 0)), (1, .int a1), (2, .int a2)] := hl
  refine lv_iload_n hx hb dX9_jump_0 rfl (lv_at hl 1 rfl) ?_
  refine lv_if_eq (tgt := 28) hx hb dX9_jump_1 (by decide) (fun c1 => ?_) (fun c1 => ?_)
  · replace hf := (if_pos c1).symm.trans hf
    obtain rfl := Option.some.inj hf
    exact w_vret X hr hlk hP hS dX9_jump_28
  · replace hf := (if_neg c1).symm.trans hf
    refine lv_aload_n hx hb dX9_jump_4 rfl (lv_at hl 0 rfl) ?_
    refine gM_at X hP fl_X9_47 dX9_jump_5 ?_
    refine lv_aload_n hx hb dX9_jump_8 rfl (lv_at hl 0 rfl) ?_
    refine gM_depth X hP fl_X9_161 dX9_jump_9 ?_
    refine lv_iconst (v := 1) hx hb dX9_jump_12 (by decide) ?_
    refine lv_isub hx hb dX9_jump_13 ?_
    refine lv_aload_n hx hb dX9_jump_14 rfl (lv_at hl 0 rfl) ?_
    refine gM_address X hP fl_X9_44 dX9_jump_15 ?_
    refine lv_aload_n hx hb dX9_jump_18 rfl (lv_at hl 0 rfl) ?_
    refine gM_depth X hP fl_X9_161 dX9_jump_19 ?_
    refine lv_iconst (v := 1) hx hb dX9_jump_22 (by decide) ?_
    refine lv_isub hx hb dX9_jump_23 ?_
    obtain ⟨hn2, hf⟩ := ck_of hf
    refine w_iald X hP (c0 := 30) (i0 := 31) (show 0 < lenM 31 by decide) (n := 12) rfl hn2 dX9_jump_24 ?_
    refine lv_iload_n hx hb dX9_jump_25 rfl (lv_at hl 2 rfl) ?_
    refine lv_iadd hx hb dX9_jump_26 ?_
    obtain ⟨hn3, hf⟩ := ck_of hf
    refine w_iast X hP hS (c0 := 30) (i0 := 32) (show 0 < lenM 32 by decide) (n := 12) (fun _ => rfl) hn3 dX9_jump_27 (fun H locs hP hS => ?_)
    obtain ⟨st4, hP, hf⟩ := nm_gen (P := fun z => HW D VM la (EMf cyI la) z H) hP hf
    obtain rfl := Option.some.inj hf
    exact w_vret X hr hlk hP hS dX9_jump_28
theorem KX9_jump : xKv yX9_jump cX9_jump 3 none RX9 2 := ⟨cd_X9_jump, im_X9_jump, se_X9_jump, in_X9, by decide +kernel⟩
abbrev rm_X9_doIt : Room := { frames := 3, cells := 0, slots := 0, locals := 68 }
def fX9_doIt_b250 (N : Nat) (as0 : Int32) (st : xSt) : Option xSt := Option.bind (fX9_jump N as0 (st.1 30 22 2) st) (fun st66 => some st66)
set_option maxHeartbeats 4000000 in
set_option maxRecDepth 100000 in
theorem BX9_doIt_250 {p : Program} {l : Launch} {e : Env} {s : State} {m : MethodId} {args : Array Value} {below : List Frame} {meth : Method} {c : Code} {D : va_G} {la : Nat → Nat → Nat} {cyI cyF cyM : ClassId} {t0 N : Nat} {st' : xSt} (X : xCx D VM la cyI cyF cyM t0 p m c cX9_doIt 4 s args RX9) (hr : meth.sig.returnType = none) (hlk : meth.locks = false) : ∀ (as0 : Int32) (st : xSt) (H : Heap) (locs : List Loc) (ls : Array Slot), fX9_doIt_b250 N as0 st = some st' → HW D VM la (EMf cyI la) st H → va_S (xA VM la) s.heap H locs → lv_has ls 4 [(0, .ref (la 9 0))] → W p l e rm_X9_doIt s m args below meth c H locs 0 0 (MQ below (xQc D VM la (EMf cyI la) none st') args s 0 0 (xA VM la)) (F0 m 250 ls [.int as0, .ref (la 9 0)]) := by
  have hx := X.1.1
  have hb := X.1.2.1
  intro as0 st H locs ls hf hP hS hl
  unfold fX9_doIt_b250 at hf
  refine lv_aload_n hx hb dX9_doIt_250 rfl (lv_at hl 0 rfl) ?_
  refine gM_operand X hP fl_X9_35 dX9_doIt_251 ?_
  refine lv_iconst (v := 2) hx hb dX9_doIt_254 (by decide) ?_
  refine w_ialdK X hP (c0 := 30) (i0 := 22) (show 0 < lenM 22 by decide) (n := 8) (fun _ => rfl) 2 (by decide) (show ¬ ((2 : Int32) < 0 ∨ 8 ≤ ((2 : Int32)).toNatClampNeg) by decide) dX9_doIt_255 ?_
  obtain ⟨st66, hr67, hf⟩ := bd_of hf
  refine w_V0 X (TX9_jump l hr67) hP hS rfl KX9_jump ml_X9_211 ⟨rfl, rfl⟩ ⟨by decide, by decide⟩ (x_recv (E := fun c i => (EMf cyI la) (st.1 c i) st.2 c i) (c0 := 9) (i0 := 0) X.2.2.1 hP rfl (ci := 9) rfl rfl) rfl hl.1 (Nat.le_of_ble_eq_true rfl) dX9_doIt_256 (fun H locs hP hS => ?_)
  obtain rfl := Option.some.inj hf
  exact w_vret X hr hlk hP hS dX9_doIt_259
def fX9_doIt_b271 (N : Nat) (as0 : Int32) (st : xSt) : Option xSt := Option.bind (fX9_jump N as0 (st.1 30 22 2) st) (fun st68 => some st68)
set_option maxHeartbeats 4000000 in
set_option maxRecDepth 100000 in
theorem BX9_doIt_271 {p : Program} {l : Launch} {e : Env} {s : State} {m : MethodId} {args : Array Value} {below : List Frame} {meth : Method} {c : Code} {D : va_G} {la : Nat → Nat → Nat} {cyI cyF cyM : ClassId} {t0 N : Nat} {st' : xSt} (X : xCx D VM la cyI cyF cyM t0 p m c cX9_doIt 4 s args RX9) (hr : meth.sig.returnType = none) (hlk : meth.locks = false) : ∀ (as0 : Int32) (st : xSt) (H : Heap) (locs : List Loc) (ls : Array Slot), fX9_doIt_b271 N as0 st = some st' → HW D VM la (EMf cyI la) st H → va_S (xA VM la) s.heap H locs → lv_has ls 4 [(0, .ref (la 9 0))] → W p l e rm_X9_doIt s m args below meth c H locs 0 0 (MQ below (xQc D VM la (EMf cyI la) none st') args s 0 0 (xA VM la)) (F0 m 271 ls [.int as0, .ref (la 9 0)]) := by
  have hx := X.1.1
  have hb := X.1.2.1
  intro as0 st H locs ls hf hP hS hl
  unfold fX9_doIt_b271 at hf
  refine lv_aload_n hx hb dX9_doIt_271 rfl (lv_at hl 0 rfl) ?_
  refine gM_operand X hP fl_X9_35 dX9_doIt_272 ?_
  refine lv_iconst (v := 2) hx hb dX9_doIt_275 (by decide) ?_
  refine w_ialdK X hP (c0 := 30) (i0 := 22) (show 0 < lenM 22 by decide) (n := 8) (fun _ => rfl) 2 (by decide) (show ¬ ((2 : Int32) < 0 ∨ 8 ≤ ((2 : Int32)).toNatClampNeg) by decide) dX9_doIt_276 ?_
  obtain ⟨st68, hr69, hf⟩ := bd_of hf
  refine w_V0 X (TX9_jump l hr69) hP hS rfl KX9_jump ml_X9_211 ⟨rfl, rfl⟩ ⟨by decide, by decide⟩ (x_recv (E := fun c i => (EMf cyI la) (st.1 c i) st.2 c i) (c0 := 9) (i0 := 0) X.2.2.1 hP rfl (ci := 9) rfl rfl) rfl hl.1 (Nat.le_of_ble_eq_true rfl) dX9_doIt_277 (fun H locs hP hS => ?_)
  obtain rfl := Option.some.inj hf
  exact w_vret X hr hlk hP hS dX9_doIt_280
def fX9_doIt_b344 (N : Nat) (as0 : Int32) (st : xSt) : Option xSt := Option.bind (fX9_go N as0 (st.1 30 22 0) st) (fun st80 => some st80)
set_option maxHeartbeats 4000000 in
set_option maxRecDepth 100000 in
theorem BX9_doIt_344 {p : Program} {l : Launch} {e : Env} {s : State} {m : MethodId} {args : Array Value} {below : List Frame} {meth : Method} {c : Code} {D : va_G} {la : Nat → Nat → Nat} {cyI cyF cyM : ClassId} {t0 N : Nat} {st' : xSt} (X : xCx D VM la cyI cyF cyM t0 p m c cX9_doIt 4 s args RX9) (hr : meth.sig.returnType = none) (hlk : meth.locks = false) : ∀ (as0 : Int32) (st : xSt) (H : Heap) (locs : List Loc) (ls : Array Slot), fX9_doIt_b344 N as0 st = some st' → HW D VM la (EMf cyI la) st H → va_S (xA VM la) s.heap H locs → lv_has ls 4 [(0, .ref (la 9 0))] → W p l e rm_X9_doIt s m args below meth c H locs 0 0 (MQ below (xQc D VM la (EMf cyI la) none st') args s 0 0 (xA VM la)) (F0 m 344 ls [.int as0, .ref (la 9 0)]) := by
  have hx := X.1.1
  have hb := X.1.2.1
  intro as0 st H locs ls hf hP hS hl
  unfold fX9_doIt_b344 at hf
  refine lv_aload_n hx hb dX9_doIt_344 rfl (lv_at hl 0 rfl) ?_
  refine gM_operand X hP fl_X9_35 dX9_doIt_345 ?_
  refine lv_iconst (v := 0) hx hb dX9_doIt_348 (by decide) ?_
  refine w_ialdK X hP (c0 := 30) (i0 := 22) (show 0 < lenM 22 by decide) (n := 8) (fun _ => rfl) 0 (by decide) (show ¬ ((0 : Int32) < 0 ∨ 8 ≤ ((0 : Int32)).toNatClampNeg) by decide) dX9_doIt_349 ?_
  obtain ⟨st80, hr81, hf⟩ := bd_of hf
  refine w_V0 X (TX9_go l hr81) hP hS rfl KX9_go ml_X9_215 ⟨rfl, rfl⟩ ⟨by decide, by decide⟩ (x_recv (E := fun c i => (EMf cyI la) (st.1 c i) st.2 c i) (c0 := 9) (i0 := 0) X.2.2.1 hP rfl (ci := 9) rfl rfl) rfl hl.1 (Nat.le_of_ble_eq_true rfl) dX9_doIt_350 (fun H locs hP hS => ?_)
  obtain rfl := Option.some.inj hf
  exact w_vret X hr hlk hP hS dX9_doIt_353
def fX9_doIt_b343 (N : Nat) (st : xSt) : Option xSt := fX9_doIt_b344 N (-1 : Int32) st
set_option maxHeartbeats 4000000 in
set_option maxRecDepth 100000 in
theorem BX9_doIt_343 {p : Program} {l : Launch} {e : Env} {s : State} {m : MethodId} {args : Array Value} {below : List Frame} {meth : Method} {c : Code} {D : va_G} {la : Nat → Nat → Nat} {cyI cyF cyM : ClassId} {t0 N : Nat} {st' : xSt} (X : xCx D VM la cyI cyF cyM t0 p m c cX9_doIt 4 s args RX9) (hr : meth.sig.returnType = none) (hlk : meth.locks = false) : ∀ (st : xSt) (H : Heap) (locs : List Loc) (ls : Array Slot), fX9_doIt_b343 N st = some st' → HW D VM la (EMf cyI la) st H → va_S (xA VM la) s.heap H locs → lv_has ls 4 [(0, .ref (la 9 0))] → W p l e rm_X9_doIt s m args below meth c H locs 0 0 (MQ below (xQc D VM la (EMf cyI la) none st') args s 0 0 (xA VM la)) (F0 m 343 ls [.ref (la 9 0)]) := by
  have hx := X.1.1
  have hb := X.1.2.1
  intro st H locs ls hf hP hS hl
  unfold fX9_doIt_b343 at hf
  refine lv_iconst (v := -1) hx hb dX9_doIt_343 (by decide) ?_
  exact BX9_doIt_344 X hr hlk _ _ _ _ _  hf hP hS (lv_sub hl [0] rfl)
def fX9_doIt_b293 (N : Nat) : Nat → Int32 → Int32 → xSt → Option xSt
  | 0, _, _, _ => none
  | n + 1, a2, a3, st => if (st.1 9 0 39) ≤ a3 then if a2 < (0 : Int32) then fX9_doIt_b343 N st else if (256 : Int32) ≤ a2 then fX9_doIt_b343 N st else fX9_doIt_b344 N ((4 : Int32) * a2) st else if ((3 : Int32) + a3) < 0 ∨ 8 ≤ (((3 : Int32) + a3)).toNatClampNeg then none else bd (fX9_valueOf N (st.1 30 22 (((3 : Int32) + a3)).toNatClampNeg) st) (fun v76 st74 => if a3 < 0 ∨ 4 ≤ (a3).toNatClampNeg then none else nm (pI st74 30 38 (a3).toNatClampNeg v76) (fun st78 => nm (a3 + (1 : Int32)) (fun x79 => fX9_doIt_b293 N n a2 x79 st78)))
set_option maxHeartbeats 4000000 in
set_option maxRecDepth 100000 in
theorem BX9_doIt_293 {p : Program} {l : Launch} {e : Env} {s : State} {m : MethodId} {args : Array Value} {below : List Frame} {meth : Method} {c : Code} {D : va_G} {la : Nat → Nat → Nat} {cyI cyF cyM : ClassId} {t0 N : Nat} {st' : xSt} (X : xCx D VM la cyI cyF cyM t0 p m c cX9_doIt 4 s args RX9) (hr : meth.sig.returnType = none) (hlk : meth.locks = false) : ∀ n : Nat, ∀ (a2 : Int32) (a3 : Int32) (st : xSt) (H : Heap) (locs : List Loc) (ls : Array Slot), fX9_doIt_b293 N n a2 a3 st = some st' → HW D VM la (EMf cyI la) st H → va_S (xA VM la) s.heap H locs → lv_has ls 4 [(0, .ref (la 9 0)), (2, .int a2), (3, .int a3)] → W p l e rm_X9_doIt s m args below meth c H locs 0 0 (MQ below (xQc D VM la (EMf cyI la) none st') args s 0 0 (xA VM la)) (F0 m 293 ls []) := by
  have hx := X.1.1
  have hb := X.1.2.1
  intro n
  induction n with
  | zero =>
    intro a2 a3 st H locs ls hf hP hS hl
    rw [fX9_doIt_b293] at hf
    cases hf
  | succ n ih =>
    intro a2 a3 st H locs ls hf hP hS hl
    rw [fX9_doIt_b293] at hf
    refine lv_iload_n hx hb dX9_doIt_293 rfl (lv_at hl 2 rfl) ?_
    refine lv_aload_n hx hb dX9_doIt_294 rfl (lv_at hl 0 rfl) ?_
    refine gM_givenMany X hP fl_X9_173 dX9_doIt_295 ?_
    refine lv_icmp_ge (tgt := 325) hx hb dX9_doIt_298 (by decide) (fun c70 => ?_) (fun c70 => ?_)
    · replace hf := (if_pos c70).symm.trans hf
      refine lv_aload_n hx hb dX9_doIt_325 rfl (lv_at hl 0 rfl) ?_
      refine lv_iload_n hx hb dX9_doIt_326 rfl (lv_at hl 1 rfl) ?_
      refine lv_if_lt (tgt := 343) hx hb dX9_doIt_327 (by decide) (fun c71 => ?_) (fun c71 => ?_)
      · replace hf := (if_pos c71).symm.trans hf
        exact BX9_doIt_343 X hr hlk _ _ _ _  hf hP hS (lv_sub hl [0] rfl)
      · replace hf := (if_neg c71).symm.trans hf
        refine lv_iload_n hx hb dX9_doIt_330 rfl (lv_at hl 1 rfl) ?_
        refine lv_sipush (v := 256) hx hb dX9_doIt_331 (by decide) ?_
        refine lv_icmp_ge (tgt := 343) hx hb dX9_doIt_334 (by decide) (fun c72 => ?_) (fun c72 => ?_)
        · replace hf := (if_pos c72).symm.trans hf
          exact BX9_doIt_343 X hr hlk _ _ _ _  hf hP hS (lv_sub hl [0] rfl)
        · replace hf := (if_neg c72).symm.trans hf
          refine lv_iconst (v := 4) hx hb dX9_doIt_337 (by decide) ?_
          refine lv_iload_n hx hb dX9_doIt_338 rfl (lv_at hl 1 rfl) ?_
          refine lv_imul hx hb dX9_doIt_339 ?_
          refine lv_goto (tgt := 344) hx hb dX9_doIt_340 (by decide) ?_
          exact BX9_doIt_344 X hr hlk _ _ _ _ _  hf hP hS (lv_sub hl [0] rfl)
    · replace hf := (if_neg c70).symm.trans hf
      refine lv_aload_n hx hb dX9_doIt_301 rfl (lv_at hl 0 rfl) ?_
      refine gM_given X hP fl_X9_65 dX9_doIt_302 ?_
      refine lv_iload_n hx hb dX9_doIt_305 rfl (lv_at hl 2 rfl) ?_
      refine lv_aload_n hx hb dX9_doIt_306 rfl (lv_at hl 0 rfl) ?_
      refine lv_aload_n hx hb dX9_doIt_307 rfl (lv_at hl 0 rfl) ?_
      refine gM_operand X hP fl_X9_35 dX9_doIt_308 ?_
      refine lv_iconst (v := 3) hx hb dX9_doIt_311 (by decide) ?_
      refine lv_iload_n hx hb dX9_doIt_312 rfl (lv_at hl 2 rfl) ?_
      refine lv_iadd hx hb dX9_doIt_313 ?_
      obtain ⟨hn73, hf⟩ := ck_of hf
      refine w_iald X hP (c0 := 30) (i0 := 22) (show 0 < lenM 22 by decide) (n := 8) rfl hn73 dX9_doIt_314 ?_
      obtain ⟨v76, st74, hr75, hf⟩ := bd_2 hf
      refine w_V1 X (TX9_valueOf l hr75) hP hS rfl KX9_valueOf ml_X9_205 ⟨rfl, rfl⟩ ⟨by decide, by decide⟩ (x_recv (E := fun c i => (EMf cyI la) (st.1 c i) st.2 c i) (c0 := 9) (i0 := 0) X.2.2.1 hP rfl (ci := 9) rfl rfl) rfl hl.1 (Nat.le_of_ble_eq_true rfl) dX9_doIt_315 (fun H locs hP hS => ?_)
      obtain ⟨hn77, hf⟩ := ck_of hf
      refine w_iast X hP hS (c0 := 30) (i0 := 38) (show 0 < lenM 38 by decide) (n := 4) (fun _ => rfl) hn77 dX9_doIt_318 (fun H locs hP hS => ?_)
      obtain ⟨st78, hP, hf⟩ := nm_gen (P := fun z => HW D VM la (EMf cyI la) z H) hP hf
      obtain ⟨x79, ex⟩ : ∃ y : Int32, y = (a3 + (1 : Int32)) := ⟨_, rfl⟩
      replace hf := nm_of hf ex
      refine lv_iinc (v := x79) (lv' := [(3, .int x79), (0, .ref (la 9 0)), (2, .int a2)]) hx hb dX9_doIt_319 hl (k := 2) rfl (by rw [ex]; rfl) (by decide) rfl (fun ls hl => ?_)
      clear ex
      refine lv_goto (tgt := 293) hx hb dX9_doIt_322 (by decide) ?_
      exact ih _ _ _ _ _ _  hf hP hS (lv_sub hl [1, 2, 0] rfl)
def fX9_doIt_b384 (N : Nat) (a2 : Int32) (st : xSt) : Option xSt := bd (fX9_valueOf N (st.1 30 22 2) st) (fun v63 st61 => Option.bind (fX9_reckon N a2 v63 st61) (fun st64 => some st64))
set_option maxHeartbeats 4000000 in
set_option maxRecDepth 100000 in
theorem BX9_doIt_384 {p : Program} {l : Launch} {e : Env} {s : State} {m : MethodId} {args : Array Value} {below : List Frame} {meth : Method} {c : Code} {D : va_G} {la : Nat → Nat → Nat} {cyI cyF cyM : ClassId} {t0 N : Nat} {st' : xSt} (X : xCx D VM la cyI cyF cyM t0 p m c cX9_doIt 4 s args RX9) (hr : meth.sig.returnType = none) (hlk : meth.locks = false) : ∀ (a2 : Int32) (st : xSt) (H : Heap) (locs : List Loc) (ls : Array Slot), fX9_doIt_b384 N a2 st = some st' → HW D VM la (EMf cyI la) st H → va_S (xA VM la) s.heap H locs → lv_has ls 4 [(0, .ref (la 9 0)), (2, .int a2)] → W p l e rm_X9_doIt s m args below meth c H locs 0 0 (MQ below (xQc D VM la (EMf cyI la) none st') args s 0 0 (xA VM la)) (F0 m 384 ls []) := by
  have hx := X.1.1
  have hb := X.1.2.1
  intro a2 st H locs ls hf hP hS hl
  unfold fX9_doIt_b384 at hf
  refine lv_aload_n hx hb dX9_doIt_384 rfl (lv_at hl 0 rfl) ?_
  refine lv_iload_n hx hb dX9_doIt_385 rfl (lv_at hl 1 rfl) ?_
  refine lv_aload_n hx hb dX9_doIt_386 rfl (lv_at hl 0 rfl) ?_
  refine lv_aload_n hx hb dX9_doIt_387 rfl (lv_at hl 0 rfl) ?_
  refine gM_operand X hP fl_X9_35 dX9_doIt_388 ?_
  refine lv_iconst (v := 2) hx hb dX9_doIt_391 (by decide) ?_
  refine w_ialdK X hP (c0 := 30) (i0 := 22) (show 0 < lenM 22 by decide) (n := 8) (fun _ => rfl) 2 (by decide) (show ¬ ((2 : Int32) < 0 ∨ 8 ≤ ((2 : Int32)).toNatClampNeg) by decide) dX9_doIt_392 ?_
  obtain ⟨v63, st61, hr62, hf⟩ := bd_2 hf
  refine w_V1 X (TX9_valueOf l hr62) hP hS rfl KX9_valueOf ml_X9_205 ⟨rfl, rfl⟩ ⟨by decide, by decide⟩ (x_recv (E := fun c i => (EMf cyI la) (st.1 c i) st.2 c i) (c0 := 9) (i0 := 0) X.2.2.1 hP rfl (ci := 9) rfl rfl) rfl hl.1 (Nat.le_of_ble_eq_true rfl) dX9_doIt_393 (fun H locs hP hS => ?_)
  obtain ⟨st64, hr65, hf⟩ := bd_of hf
  refine w_V0 X (TX9_reckon l hr65) hP hS rfl KX9_reckon ml_X9_221 ⟨rfl, rfl⟩ ⟨by decide, by decide⟩ (x_recv (E := fun c i => (EMf cyI la) (st61.1 c i) st61.2 c i) (c0 := 9) (i0 := 0) X.2.2.1 hP rfl (ci := 9) rfl rfl) rfl hl.1 (Nat.le_of_ble_eq_true rfl) dX9_doIt_396 (fun H locs hP hS => ?_)
  obtain rfl := Option.some.inj hf
  exact w_vret X hr hlk hP hS dX9_doIt_399
def fX9_doIt_b68 (N : Nat) (a1 : Int32) (as0 : Int32) (st : xSt) : Option xSt := nm (st.1 9 0 19) (fun x11 => if x11 = (0 : Int32) then Option.bind (fX9_ends N a1 st) (fun st13 => some st13) else if x11 = (1 : Int32) then Option.bind (fX9_becomes N (st.1 30 22 0) as0 st) (fun st16 => some st16) else if x11 = (2 : Int32) then fX9_doIt_b384 N as0 st else if x11 = (3 : Int32) then fX9_doIt_b384 N as0 st else if x11 = (4 : Int32) then fX9_doIt_b384 N as0 st else if x11 = (5 : Int32) then fX9_doIt_b384 N as0 st else if x11 = (6 : Int32) then fX9_doIt_b384 N as0 st else if x11 = (7 : Int32) then bd (fX9_isPlace N as0 st) (fun v26 st24 => if v26 = (0 : Int32) then Option.bind (fX9_fails N (1 : Int32) st24) (fun st28 => some st28) else if as0 < 0 ∨ 1024 ≤ (as0).toNatClampNeg then none else Option.bind (fX9_becomes N (st24.1 30 22 0) (st24.1 30 1 (as0).toNatClampNeg) st24) (fun st31 => some st31)) else if x11 = (8 : Int32) then bd (fX9_isPlace N a1 st) (fun v36 st34 => if v36 = (0 : Int32) then Option.bind (fX9_fails N (1 : Int32) st34) (fun st38 => some st38) else bd (fX9_write N a1 as0 st34) (fun v42 st40 => some st40)) else if x11 = (9 : Int32) then Option.bind (fX9_jump N (1 : Int32) (st.1 30 22 0) st) (fun st44 => some st44) else if x11 = (10 : Int32) then if as0 ≤ a1 then fX9_doIt_b250 N (0 : Int32) st else fX9_doIt_b250 N (1 : Int32) st else if x11 = (11 : Int32) then if a1 = as0 then fX9_doIt_b271 N (1 : Int32) st else fX9_doIt_b271 N (0 : Int32) st else if x11 = (12 : Int32) then nm (pI st 9 0 39 (st.1 30 22 2)) (fun st51 => fX9_doIt_b293 N N as0 (0 : Int32) st51) else if x11 = (13 : Int32) then Option.bind (fX9_throwing N a1 st) (fun st53 => some st53) else if x11 = (14 : Int32) then if ((st.1 9 0 29) - (1 : Int32)) < 0 ∨ 12 ≤ (((st.1 9 0 29) - (1 : Int32))).toNatClampNeg then none else nm (pI st 30 34 (((st.1 9 0 29) - (1 : Int32))).toNatClampNeg (st.1 30 22 0)) (fun st57 => some st57) else if x11 = (15 : Int32) then Option.bind (fX9_ends N (0 : Int32) st) (fun st59 => some st59) else fX9_doIt_b384 N as0 st)
set_option maxHeartbeats 4000000 in
set_option maxRecDepth 100000 in
theorem BX9_doIt_68 {p : Program} {l : Launch} {e : Env} {s : State} {m : MethodId} {args : Array Value} {below : List Frame} {meth : Method} {c : Code} {D : va_G} {la : Nat → Nat → Nat} {cyI cyF cyM : ClassId} {t0 N : Nat} {st' : xSt} (X : xCx D VM la cyI cyF cyM t0 p m c cX9_doIt 4 s args RX9) (hr : meth.sig.returnType = none) (hlk : meth.locks = false) : ∀ (a1 : Int32) (as0 : Int32) (st : xSt) (H : Heap) (locs : List Loc) (ls : Array Slot), fX9_doIt_b68 N a1 as0 st = some st' → HW D VM la (EMf cyI la) st H → va_S (xA VM la) s.heap H locs → lv_has ls 4 [(0, .ref (la 9 0)), (1, .int a1)] → W p l e rm_X9_doIt s m args below meth c H locs 0 0 (MQ below (xQc D VM la (EMf cyI la) none st') args s 0 0 (xA VM la)) (F0 m 68 ls [.int as0]) := by
  have hx := X.1.1
  have hb := X.1.2.1
  intro a1 as0 st H locs ls hf hP hS hl
  unfold fX9_doIt_b68 at hf
  refine lv_istore_n (lv' := [(2, .int as0), (0, .ref (la 9 0)), (1, .int a1)]) hx hb dX9_doIt_68 rfl hl (by decide) rfl (fun ls hl => ?_)
  refine lv_aload_n hx hb dX9_doIt_69 rfl (lv_at hl 1 rfl) ?_
  refine gM_code X hP fl_X9_127 dX9_doIt_70 ?_
  refine lv_topi (fun x11 ex => ?_)
  replace hf := nm_of hf ex
  clear ex
  by_cases c12 : x11 = (0 : Int32)
  · replace hf := (if_pos c12).symm.trans hf
    refine w_stk (st1 := .int (0 : Int32) :: _) (by rw [c12]) ?_
    refine lv_tableIn (off := 79) (tgt := 152) hx hb dX9_doIt_73 (by decide) (by decide) (by decide) (by decide) ?_
    refine lv_aload_n hx hb dX9_doIt_152 rfl (lv_at hl 1 rfl) ?_
    refine lv_iload_n hx hb dX9_doIt_153 rfl (lv_at hl 2 rfl) ?_
    obtain ⟨st13, hr14, hf⟩ := bd_of hf
    refine w_V0 X (TX9_ends l hr14) hP hS rfl KX9_ends ml_X9_208 ⟨rfl, rfl⟩ ⟨by decide, by decide⟩ (x_recv (E := fun c i => (EMf cyI la) (st.1 c i) st.2 c i) (c0 := 9) (i0 := 0) X.2.2.1 hP rfl (ci := 9) rfl rfl) rfl hl.1 (Nat.le_of_ble_eq_true rfl) dX9_doIt_154 (fun H locs hP hS => ?_)
    obtain rfl := Option.some.inj hf
    exact w_vret X hr hlk hP hS dX9_doIt_157
  replace hf := (if_neg c12).symm.trans hf
  by_cases c15 : x11 = (1 : Int32)
  · replace hf := (if_pos c15).symm.trans hf
    refine w_stk (st1 := .int (1 : Int32) :: _) (by rw [c15]) ?_
    refine lv_tableIn (off := 85) (tgt := 158) hx hb dX9_doIt_73 (by decide) (by decide) (by decide) (by decide) ?_
    refine lv_aload_n hx hb dX9_doIt_158 rfl (lv_at hl 1 rfl) ?_
    refine lv_aload_n hx hb dX9_doIt_159 rfl (lv_at hl 1 rfl) ?_
    refine gM_operand X hP fl_X9_35 dX9_doIt_160 ?_
    refine lv_iconst (v := 0) hx hb dX9_doIt_163 (by decide) ?_
    refine w_ialdK X hP (c0 := 30) (i0 := 22) (show 0 < lenM 22 by decide) (n := 8) (fun _ => rfl) 0 (by decide) (show ¬ ((0 : Int32) < 0 ∨ 8 ≤ ((0 : Int32)).toNatClampNeg) by decide) dX9_doIt_164 ?_
    refine lv_iload_n hx hb dX9_doIt_165 rfl (lv_at hl 0 rfl) ?_
    obtain ⟨st16, hr17, hf⟩ := bd_of hf
    refine w_V0 X (TX9_becomes l hr17) hP hS rfl KX9_becomes ml_X9_183 ⟨rfl, rfl⟩ ⟨by decide, by decide⟩ (x_recv (E := fun c i => (EMf cyI la) (st.1 c i) st.2 c i) (c0 := 9) (i0 := 0) X.2.2.1 hP rfl (ci := 9) rfl rfl) rfl hl.1 (Nat.le_of_ble_eq_true rfl) dX9_doIt_166 (fun H locs hP hS => ?_)
    obtain rfl := Option.some.inj hf
    exact w_vret X hr hlk hP hS dX9_doIt_169
  replace hf := (if_neg c15).symm.trans hf
  by_cases c18 : x11 = (2 : Int32)
  · replace hf := (if_pos c18).symm.trans hf
    refine w_stk (st1 := .int (2 : Int32) :: _) (by rw [c18]) ?_
    refine lv_tableIn (off := 311) (tgt := 384) hx hb dX9_doIt_73 (by decide) (by decide) (by decide) (by decide) ?_
    exact BX9_doIt_384 X hr hlk _ _ _ _ _  hf hP hS (lv_sub hl [1, 0] rfl)
  replace hf := (if_neg c18).symm.trans hf
  by_cases c19 : x11 = (3 : Int32)
  · replace hf := (if_pos c19).symm.trans hf
    refine w_stk (st1 := .int (3 : Int32) :: _) (by rw [c19]) ?_
    refine lv_tableIn (off := 311) (tgt := 384) hx hb dX9_doIt_73 (by decide) (by decide) (by decide) (by decide) ?_
    exact BX9_doIt_384 X hr hlk _ _ _ _ _  hf hP hS (lv_sub hl [1, 0] rfl)
  replace hf := (if_neg c19).symm.trans hf
  by_cases c20 : x11 = (4 : Int32)
  · replace hf := (if_pos c20).symm.trans hf
    refine w_stk (st1 := .int (4 : Int32) :: _) (by rw [c20]) ?_
    refine lv_tableIn (off := 311) (tgt := 384) hx hb dX9_doIt_73 (by decide) (by decide) (by decide) (by decide) ?_
    exact BX9_doIt_384 X hr hlk _ _ _ _ _  hf hP hS (lv_sub hl [1, 0] rfl)
  replace hf := (if_neg c20).symm.trans hf
  by_cases c21 : x11 = (5 : Int32)
  · replace hf := (if_pos c21).symm.trans hf
    refine w_stk (st1 := .int (5 : Int32) :: _) (by rw [c21]) ?_
    refine lv_tableIn (off := 311) (tgt := 384) hx hb dX9_doIt_73 (by decide) (by decide) (by decide) (by decide) ?_
    exact BX9_doIt_384 X hr hlk _ _ _ _ _  hf hP hS (lv_sub hl [1, 0] rfl)
  replace hf := (if_neg c21).symm.trans hf
  by_cases c22 : x11 = (6 : Int32)
  · replace hf := (if_pos c22).symm.trans hf
    refine w_stk (st1 := .int (6 : Int32) :: _) (by rw [c22]) ?_
    refine lv_tableIn (off := 311) (tgt := 384) hx hb dX9_doIt_73 (by decide) (by decide) (by decide) (by decide) ?_
    exact BX9_doIt_384 X hr hlk _ _ _ _ _  hf hP hS (lv_sub hl [1, 0] rfl)
  replace hf := (if_neg c22).symm.trans hf
  by_cases c23 : x11 = (7 : Int32)
  · replace hf := (if_pos c23).symm.trans hf
    refine w_stk (st1 := .int (7 : Int32) :: _) (by rw [c23]) ?_
    refine lv_tableIn (off := 97) (tgt := 170) hx hb dX9_doIt_73 (by decide) (by decide) (by decide) (by decide) ?_
    refine lv_aload_n hx hb dX9_doIt_170 rfl (lv_at hl 1 rfl) ?_
    refine lv_iload_n hx hb dX9_doIt_171 rfl (lv_at hl 0 rfl) ?_
    obtain ⟨v26, st24, hr25, hf⟩ := bd_2 hf
    refine w_V1 X (TX9_isPlace l hr25) hP hS rfl KX9_isPlace ml_X9_94 ⟨rfl, rfl⟩ ⟨by decide, by decide⟩ (x_recv (E := fun c i => (EMf cyI la) (st.1 c i) st.2 c i) (c0 := 9) (i0 := 0) X.2.2.1 hP rfl (ci := 9) rfl rfl) rfl hl.1 (Nat.le_of_ble_eq_true rfl) dX9_doIt_172 (fun H locs hP hS => ?_)
    refine lv_if_eq (tgt := 197) hx hb dX9_doIt_175 (by decide) (fun c27 => ?_) (fun c27 => ?_)
    · replace hf := (if_pos c27).symm.trans hf
      refine lv_aload_n hx hb dX9_doIt_197 rfl (lv_at hl 1 rfl) ?_
      refine lv_iconst (v := 1) hx hb dX9_doIt_198 (by decide) ?_
      obtain ⟨st28, hr29, hf⟩ := bd_of hf
      refine w_V0 X (TX9_fails l hr29) hP hS rfl KX9_fails ml_X9_167 ⟨rfl, rfl⟩ ⟨by decide, by decide⟩ (x_recv (E := fun c i => (EMf cyI la) (st24.1 c i) st24.2 c i) (c0 := 9) (i0 := 0) X.2.2.1 hP rfl (ci := 9) rfl rfl) rfl hl.1 (Nat.le_of_ble_eq_true rfl) dX9_doIt_199 (fun H locs hP hS => ?_)
      obtain rfl := Option.some.inj hf
      exact w_vret X hr hlk hP hS dX9_doIt_202
    · replace hf := (if_neg c27).symm.trans hf
      refine lv_aload_n hx hb dX9_doIt_178 rfl (lv_at hl 1 rfl) ?_
      refine lv_aload_n hx hb dX9_doIt_179 rfl (lv_at hl 1 rfl) ?_
      refine gM_operand X hP fl_X9_35 dX9_doIt_180 ?_
      refine lv_iconst (v := 0) hx hb dX9_doIt_183 (by decide) ?_
      refine w_ialdK X hP (c0 := 30) (i0 := 22) (show 0 < lenM 22 by decide) (n := 8) (fun _ => rfl) 0 (by decide) (show ¬ ((0 : Int32) < 0 ∨ 8 ≤ ((0 : Int32)).toNatClampNeg) by decide) dX9_doIt_184 ?_
      refine lv_aload_n hx hb dX9_doIt_185 rfl (lv_at hl 1 rfl) ?_
      refine gM_memory X hP fl_X9_7 dX9_doIt_186 ?_
      refine lv_iload_n hx hb dX9_doIt_189 rfl (lv_at hl 0 rfl) ?_
      obtain ⟨hn30, hf⟩ := ck_of hf
      refine w_iald X hP (c0 := 30) (i0 := 1) (show 0 < lenM 1 by decide) (n := 1024) rfl hn30 dX9_doIt_190 ?_
      obtain ⟨st31, hr32, hf⟩ := bd_of hf
      refine w_V0 X (TX9_becomes l hr32) hP hS rfl KX9_becomes ml_X9_183 ⟨rfl, rfl⟩ ⟨by decide, by decide⟩ (x_recv (E := fun c i => (EMf cyI la) (st24.1 c i) st24.2 c i) (c0 := 9) (i0 := 0) X.2.2.1 hP rfl (ci := 9) rfl rfl) rfl hl.1 (Nat.le_of_ble_eq_true rfl) dX9_doIt_191 (fun H locs hP hS => ?_)
      refine lv_goto (tgt := 202) hx hb dX9_doIt_194 (by decide) ?_
      obtain rfl := Option.some.inj hf
      exact w_vret X hr hlk hP hS dX9_doIt_202
  replace hf := (if_neg c23).symm.trans hf
  by_cases c33 : x11 = (8 : Int32)
  · replace hf := (if_pos c33).symm.trans hf
    refine w_stk (st1 := .int (8 : Int32) :: _) (by rw [c33]) ?_
    refine lv_tableIn (off := 130) (tgt := 203) hx hb dX9_doIt_73 (by decide) (by decide) (by decide) (by decide) ?_
    refine lv_aload_n hx hb dX9_doIt_203 rfl (lv_at hl 1 rfl) ?_
    refine lv_iload_n hx hb dX9_doIt_204 rfl (lv_at hl 2 rfl) ?_
    obtain ⟨v36, st34, hr35, hf⟩ := bd_2 hf
    refine w_V1 X (TX9_isPlace l hr35) hP hS rfl KX9_isPlace ml_X9_94 ⟨rfl, rfl⟩ ⟨by decide, by decide⟩ (x_recv (E := fun c i => (EMf cyI la) (st.1 c i) st.2 c i) (c0 := 9) (i0 := 0) X.2.2.1 hP rfl (ci := 9) rfl rfl) rfl hl.1 (Nat.le_of_ble_eq_true rfl) dX9_doIt_205 (fun H locs hP hS => ?_)
    refine lv_if_eq (tgt := 221) hx hb dX9_doIt_208 (by decide) (fun c37 => ?_) (fun c37 => ?_)
    · replace hf := (if_pos c37).symm.trans hf
      refine lv_aload_n hx hb dX9_doIt_221 rfl (lv_at hl 1 rfl) ?_
      refine lv_iconst (v := 1) hx hb dX9_doIt_222 (by decide) ?_
      obtain ⟨st38, hr39, hf⟩ := bd_of hf
      refine w_V0 X (TX9_fails l hr39) hP hS rfl KX9_fails ml_X9_167 ⟨rfl, rfl⟩ ⟨by decide, by decide⟩ (x_recv (E := fun c i => (EMf cyI la) (st34.1 c i) st34.2 c i) (c0 := 9) (i0 := 0) X.2.2.1 hP rfl (ci := 9) rfl rfl) rfl hl.1 (Nat.le_of_ble_eq_true rfl) dX9_doIt_223 (fun H locs hP hS => ?_)
      obtain rfl := Option.some.inj hf
      exact w_vret X hr hlk hP hS dX9_doIt_226
    · replace hf := (if_neg c37).symm.trans hf
      refine lv_aload_n hx hb dX9_doIt_211 rfl (lv_at hl 1 rfl) ?_
      refine lv_iload_n hx hb dX9_doIt_212 rfl (lv_at hl 2 rfl) ?_
      refine lv_iload_n hx hb dX9_doIt_213 rfl (lv_at hl 0 rfl) ?_
      obtain ⟨v42, st40, hr41, hf⟩ := bd_2 hf
      refine w_V1 X (TX9_write l hr41) hP hS rfl KX9_write ml_X9_98 ⟨rfl, rfl⟩ ⟨by decide, by decide⟩ (x_recv (E := fun c i => (EMf cyI la) (st34.1 c i) st34.2 c i) (c0 := 9) (i0 := 0) X.2.2.1 hP rfl (ci := 9) rfl rfl) rfl hl.1 (Nat.le_of_ble_eq_true rfl) dX9_doIt_214 (fun H locs hP hS => ?_)
      refine lv_istore_n (lv' := [(3, .int v42), (2, .int as0), (0, .ref (la 9 0)), (1, .int a1)]) hx hb dX9_doIt_217 rfl hl (by decide) rfl (fun ls hl => ?_)
      refine lv_goto (tgt := 226) hx hb dX9_doIt_218 (by decide) ?_
      obtain rfl := Option.some.inj hf
      exact w_vret X hr hlk hP hS dX9_doIt_226
  replace hf := (if_neg c33).symm.trans hf
  by_cases c43 : x11 = (9 : Int32)
  · replace hf := (if_pos c43).symm.trans hf
    refine w_stk (st1 := .int (9 : Int32) :: _) (by rw [c43]) ?_
    refine lv_tableIn (off := 154) (tgt := 227) hx hb dX9_doIt_73 (by decide) (by decide) (by decide) (by decide) ?_
    refine lv_aload_n hx hb dX9_doIt_227 rfl (lv_at hl 1 rfl) ?_
    refine lv_iconst (v := 1) hx hb dX9_doIt_228 (by decide) ?_
    refine lv_aload_n hx hb dX9_doIt_229 rfl (lv_at hl 1 rfl) ?_
    refine gM_operand X hP fl_X9_35 dX9_doIt_230 ?_
    refine lv_iconst (v := 0) hx hb dX9_doIt_233 (by decide) ?_
    refine w_ialdK X hP (c0 := 30) (i0 := 22) (show 0 < lenM 22 by decide) (n := 8) (fun _ => rfl) 0 (by decide) (show ¬ ((0 : Int32) < 0 ∨ 8 ≤ ((0 : Int32)).toNatClampNeg) by decide) dX9_doIt_234 ?_
    obtain ⟨st44, hr45, hf⟩ := bd_of hf
    refine w_V0 X (TX9_jump l hr45) hP hS rfl KX9_jump ml_X9_211 ⟨rfl, rfl⟩ ⟨by decide, by decide⟩ (x_recv (E := fun c i => (EMf cyI la) (st.1 c i) st.2 c i) (c0 := 9) (i0 := 0) X.2.2.1 hP rfl (ci := 9) rfl rfl) rfl hl.1 (Nat.le_of_ble_eq_true rfl) dX9_doIt_235 (fun H locs hP hS => ?_)
    obtain rfl := Option.some.inj hf
    exact w_vret X hr hlk hP hS dX9_doIt_238
  replace hf := (if_neg c43).symm.trans hf
  by_cases c46 : x11 = (10 : Int32)
  · replace hf := (if_pos c46).symm.trans hf
    refine w_stk (st1 := .int (10 : Int32) :: _) (by rw [c46]) ?_
    refine lv_tableIn (off := 166) (tgt := 239) hx hb dX9_doIt_73 (by decide) (by decide) (by decide) (by decide) ?_
    refine lv_aload_n hx hb dX9_doIt_239 rfl (lv_at hl 1 rfl) ?_
    refine lv_iload_n hx hb dX9_doIt_240 rfl (lv_at hl 2 rfl) ?_
    refine lv_iload_n hx hb dX9_doIt_241 rfl (lv_at hl 0 rfl) ?_
    refine lv_icmp_ge (tgt := 249) hx hb dX9_doIt_242 (by decide) (fun c47 => ?_) (fun c47 => ?_)
    · replace hf := (if_pos c47).symm.trans hf
      refine lv_iconst (v := 0) hx hb dX9_doIt_249 (by decide) ?_
      exact BX9_doIt_250 X hr hlk _ _ _ _ _  hf hP hS (lv_sub hl [1] rfl)
    · replace hf := (if_neg c47).symm.trans hf
      refine lv_iconst (v := 1) hx hb dX9_doIt_245 (by decide) ?_
      refine lv_goto (tgt := 250) hx hb dX9_doIt_246 (by decide) ?_
      exact BX9_doIt_250 X hr hlk _ _ _ _ _  hf hP hS (lv_sub hl [1] rfl)
  replace hf := (if_neg c46).symm.trans hf
  by_cases c48 : x11 = (11 : Int32)
  · replace hf := (if_pos c48).symm.trans hf
    refine w_stk (st1 := .int (11 : Int32) :: _) (by rw [c48]) ?_
    refine lv_tableIn (off := 187) (tgt := 260) hx hb dX9_doIt_73 (by decide) (by decide) (by decide) (by decide) ?_
    refine lv_aload_n hx hb dX9_doIt_260 rfl (lv_at hl 1 rfl) ?_
    refine lv_iload_n hx hb dX9_doIt_261 rfl (lv_at hl 2 rfl) ?_
    refine lv_iload_n hx hb dX9_doIt_262 rfl (lv_at hl 0 rfl) ?_
    refine lv_icmp_ne (tgt := 270) hx hb dX9_doIt_263 (by decide) (fun c49 => ?_) (fun c49 => ?_)
    · replace hf := (if_neg c49).symm.trans hf
      refine lv_iconst (v := 0) hx hb dX9_doIt_270 (by decide) ?_
      exact BX9_doIt_271 X hr hlk _ _ _ _ _  hf hP hS (lv_sub hl [1] rfl)
    · replace hf := (if_pos c49).symm.trans hf
      refine lv_iconst (v := 1) hx hb dX9_doIt_266 (by decide) ?_
      refine lv_goto (tgt := 271) hx hb dX9_doIt_267 (by decide) ?_
      exact BX9_doIt_271 X hr hlk _ _ _ _ _  hf hP hS (lv_sub hl [1] rfl)
  replace hf := (if_neg c48).symm.trans hf
  by_cases c50 : x11 = (12 : Int32)
  · replace hf := (if_pos c50).symm.trans hf
    refine w_stk (st1 := .int (12 : Int32) :: _) (by rw [c50]) ?_
    refine lv_tableIn (off := 208) (tgt := 281) hx hb dX9_doIt_73 (by decide) (by decide) (by decide) (by decide) ?_
    refine lv_aload_n hx hb dX9_doIt_281 rfl (lv_at hl 1 rfl) ?_
    refine lv_aload_n hx hb dX9_doIt_282 rfl (lv_at hl 1 rfl) ?_
    refine gM_operand X hP fl_X9_35 dX9_doIt_283 ?_
    refine lv_iconst (v := 2) hx hb dX9_doIt_286 (by decide) ?_
    refine w_ialdK X hP (c0 := 30) (i0 := 22) (show 0 < lenM 22 by decide) (n := 8) (fun _ => rfl) 2 (by decide) (show ¬ ((2 : Int32) < 0 ∨ 8 ≤ ((2 : Int32)).toNatClampNeg) by decide) dX9_doIt_287 ?_
    refine pM_givenMany X hP hS fl_X9_173 dX9_doIt_288 (fun H locs hP hS => ?_)
    obtain ⟨st51, hP, hf⟩ := nm_gen (P := fun z => HW D VM la (EMf cyI la) z H) hP hf
    refine lv_iconst (v := 0) hx hb dX9_doIt_291 (by decide) ?_
    refine lv_istore_n (lv' := [(3, .int (0 : Int32)), (2, .int as0), (0, .ref (la 9 0)), (1, .int a1)]) hx hb dX9_doIt_292 rfl hl (by decide) rfl (fun ls hl => ?_)
    exact BX9_doIt_293 X hr hlk N _ _ _ _ _ _  hf hP hS (lv_sub hl [2, 1, 0] rfl)
  replace hf := (if_neg c50).symm.trans hf
  by_cases c52 : x11 = (13 : Int32)
  · replace hf := (if_pos c52).symm.trans hf
    refine w_stk (st1 := .int (13 : Int32) :: _) (by rw [c52]) ?_
    refine lv_tableIn (off := 281) (tgt := 354) hx hb dX9_doIt_73 (by decide) (by decide) (by decide) (by decide) ?_
    refine lv_aload_n hx hb dX9_doIt_354 rfl (lv_at hl 1 rfl) ?_
    refine lv_iload_n hx hb dX9_doIt_355 rfl (lv_at hl 2 rfl) ?_
    obtain ⟨st53, hr54, hf⟩ := bd_of hf
    refine w_V0 X (TX9_throwing l hr54) hP hS rfl KX9_throwing ml_X9_218 ⟨rfl, rfl⟩ ⟨by decide, by decide⟩ (x_recv (E := fun c i => (EMf cyI la) (st.1 c i) st.2 c i) (c0 := 9) (i0 := 0) X.2.2.1 hP rfl (ci := 9) rfl rfl) rfl hl.1 (Nat.le_of_ble_eq_true rfl) dX9_doIt_356 (fun H locs hP hS => ?_)
    obtain rfl := Option.some.inj hf
    exact w_vret X hr hlk hP hS dX9_doIt_359
  replace hf := (if_neg c52).symm.trans hf
  by_cases c55 : x11 = (14 : Int32)
  · replace hf := (if_pos c55).symm.trans hf
    refine w_stk (st1 := .int (14 : Int32) :: _) (by rw [c55]) ?_
    refine lv_tableIn (off := 287) (tgt := 360) hx hb dX9_doIt_73 (by decide) (by decide) (by decide) (by decide) ?_
    refine lv_aload_n hx hb dX9_doIt_360 rfl (lv_at hl 1 rfl) ?_
    refine gM_catches X hP fl_X9_53 dX9_doIt_361 ?_
    refine lv_aload_n hx hb dX9_doIt_364 rfl (lv_at hl 1 rfl) ?_
    refine gM_depth X hP fl_X9_161 dX9_doIt_365 ?_
    refine lv_iconst (v := 1) hx hb dX9_doIt_368 (by decide) ?_
    refine lv_isub hx hb dX9_doIt_369 ?_
    refine lv_aload_n hx hb dX9_doIt_370 rfl (lv_at hl 1 rfl) ?_
    refine gM_operand X hP fl_X9_35 dX9_doIt_371 ?_
    refine lv_iconst (v := 0) hx hb dX9_doIt_374 (by decide) ?_
    refine w_ialdK X hP (c0 := 30) (i0 := 22) (show 0 < lenM 22 by decide) (n := 8) (fun _ => rfl) 0 (by decide) (show ¬ ((0 : Int32) < 0 ∨ 8 ≤ ((0 : Int32)).toNatClampNeg) by decide) dX9_doIt_375 ?_
    obtain ⟨hn56, hf⟩ := ck_of hf
    refine w_iast X hP hS (c0 := 30) (i0 := 34) (show 0 < lenM 34 by decide) (n := 12) (fun _ => rfl) hn56 dX9_doIt_376 (fun H locs hP hS => ?_)
    obtain ⟨st57, hP, hf⟩ := nm_gen (P := fun z => HW D VM la (EMf cyI la) z H) hP hf
    obtain rfl := Option.some.inj hf
    exact w_vret X hr hlk hP hS dX9_doIt_377
  replace hf := (if_neg c55).symm.trans hf
  by_cases c58 : x11 = (15 : Int32)
  · replace hf := (if_pos c58).symm.trans hf
    refine w_stk (st1 := .int (15 : Int32) :: _) (by rw [c58]) ?_
    refine lv_tableIn (off := 305) (tgt := 378) hx hb dX9_doIt_73 (by decide) (by decide) (by decide) (by decide) ?_
    refine lv_aload_n hx hb dX9_doIt_378 rfl (lv_at hl 1 rfl) ?_
    refine lv_iconst (v := 0) hx hb dX9_doIt_379 (by decide) ?_
    obtain ⟨st59, hr60, hf⟩ := bd_of hf
    refine w_V0 X (TX9_ends l hr60) hP hS rfl KX9_ends ml_X9_208 ⟨rfl, rfl⟩ ⟨by decide, by decide⟩ (x_recv (E := fun c i => (EMf cyI la) (st.1 c i) st.2 c i) (c0 := 9) (i0 := 0) X.2.2.1 hP rfl (ci := 9) rfl rfl) rfl hl.1 (Nat.le_of_ble_eq_true rfl) dX9_doIt_380 (fun H locs hP hS => ?_)
    obtain rfl := Option.some.inj hf
    exact w_vret X hr hlk hP hS dX9_doIt_383
  replace hf := (if_neg c58).symm.trans hf
  have gc12 := lv_neT c12 (show ((0 : Int32)).toInt = 0 by decide)
  have gc15 := lv_neT c15 (show ((1 : Int32)).toInt = 1 by decide)
  have gc18 := lv_neT c18 (show ((2 : Int32)).toInt = 2 by decide)
  have gc19 := lv_neT c19 (show ((3 : Int32)).toInt = 3 by decide)
  have gc20 := lv_neT c20 (show ((4 : Int32)).toInt = 4 by decide)
  have gc21 := lv_neT c21 (show ((5 : Int32)).toInt = 5 by decide)
  have gc22 := lv_neT c22 (show ((6 : Int32)).toInt = 6 by decide)
  have gc23 := lv_neT c23 (show ((7 : Int32)).toInt = 7 by decide)
  have gc33 := lv_neT c33 (show ((8 : Int32)).toInt = 8 by decide)
  have gc43 := lv_neT c43 (show ((9 : Int32)).toInt = 9 by decide)
  have gc46 := lv_neT c46 (show ((10 : Int32)).toInt = 10 by decide)
  have gc48 := lv_neT c48 (show ((11 : Int32)).toInt = 11 by decide)
  have gc50 := lv_neT c50 (show ((12 : Int32)).toInt = 12 by decide)
  have gc52 := lv_neT c52 (show ((13 : Int32)).toInt = 13 by decide)
  have gc55 := lv_neT c55 (show ((14 : Int32)).toInt = 14 by decide)
  have gc58 := lv_neT c58 (show ((15 : Int32)).toInt = 15 by decide)
  refine lv_tableOut (tgt := 384) hx hb dX9_doIt_73 (by omega) (by decide) ?_
  clear gc12 gc15 gc18 gc19 gc20 gc21 gc22 gc23 gc33 gc43 gc46 gc48 gc50 gc52 gc55 gc58
  exact BX9_doIt_384 X hr hlk _ _ _ _ _  hf hP hS (lv_sub hl [1, 0] rfl)
def fX9_doIt_b67 (N : Nat) (a1 : Int32) (st : xSt) : Option xSt := fX9_doIt_b68 N a1 (0 : Int32) st
set_option maxHeartbeats 4000000 in
set_option maxRecDepth 100000 in
theorem BX9_doIt_67 {p : Program} {l : Launch} {e : Env} {s : State} {m : MethodId} {args : Array Value} {below : List Frame} {meth : Method} {c : Code} {D : va_G} {la : Nat → Nat → Nat} {cyI cyF cyM : ClassId} {t0 N : Nat} {st' : xSt} (X : xCx D VM la cyI cyF cyM t0 p m c cX9_doIt 4 s args RX9) (hr : meth.sig.returnType = none) (hlk : meth.locks = false) : ∀ (a1 : Int32) (st : xSt) (H : Heap) (locs : List Loc) (ls : Array Slot), fX9_doIt_b67 N a1 st = some st' → HW D VM la (EMf cyI la) st H → va_S (xA VM la) s.heap H locs → lv_has ls 4 [(0, .ref (la 9 0)), (1, .int a1)] → W p l e rm_X9_doIt s m args below meth c H locs 0 0 (MQ below (xQc D VM la (EMf cyI la) none st') args s 0 0 (xA VM la)) (F0 m 67 ls []) := by
  have hx := X.1.1
  have hb := X.1.2.1
  intro a1 st H locs ls hf hP hS hl
  unfold fX9_doIt_b67 at hf
  refine lv_iconst (v := 0) hx hb dX9_doIt_67 (by decide) ?_
  exact BX9_doIt_68 X hr hlk _ _ _ _ _ _  hf hP hS (lv_sub hl [0, 1] rfl)
def fX9_doIt_b33 (N : Nat) (as0 : Int32) (st : xSt) : Option xSt := if (st.1 9 0 23) ≤ (1 : Int32) then fX9_doIt_b67 N as0 st else if (144 : Int32) ≤ (st.1 30 22 1) then fX9_doIt_b67 N as0 st else bd (fX9_valueOf N (st.1 30 22 1) st) (fun v10 st8 => fX9_doIt_b68 N as0 v10 st8)
set_option maxHeartbeats 4000000 in
set_option maxRecDepth 100000 in
theorem BX9_doIt_33 {p : Program} {l : Launch} {e : Env} {s : State} {m : MethodId} {args : Array Value} {below : List Frame} {meth : Method} {c : Code} {D : va_G} {la : Nat → Nat → Nat} {cyI cyF cyM : ClassId} {t0 N : Nat} {st' : xSt} (X : xCx D VM la cyI cyF cyM t0 p m c cX9_doIt 4 s args RX9) (hr : meth.sig.returnType = none) (hlk : meth.locks = false) : ∀ (as0 : Int32) (st : xSt) (H : Heap) (locs : List Loc) (ls : Array Slot), fX9_doIt_b33 N as0 st = some st' → HW D VM la (EMf cyI la) st H → va_S (xA VM la) s.heap H locs → lv_has ls 4 [(0, .ref (la 9 0))] → W p l e rm_X9_doIt s m args below meth c H locs 0 0 (MQ below (xQc D VM la (EMf cyI la) none st') args s 0 0 (xA VM la)) (F0 m 33 ls [.int as0]) := by
  have hx := X.1.1
  have hb := X.1.2.1
  intro as0 st H locs ls hf hP hS hl
  unfold fX9_doIt_b33 at hf
  refine lv_istore_n (lv' := [(1, .int as0), (0, .ref (la 9 0))]) hx hb dX9_doIt_33 rfl hl (by decide) rfl (fun ls hl => ?_)
  refine lv_aload_n hx hb dX9_doIt_34 rfl (lv_at hl 1 rfl) ?_
  refine gM_operands X hP fl_X9_124 dX9_doIt_35 ?_
  refine lv_iconst (v := 1) hx hb dX9_doIt_38 (by decide) ?_
  refine lv_icmp_le (tgt := 67) hx hb dX9_doIt_39 (by decide) (fun c6 => ?_) (fun c6 => ?_)
  · replace hf := (if_pos c6).symm.trans hf
    exact BX9_doIt_67 X hr hlk _ _ _ _ _  hf hP hS (lv_sub hl [1, 0] rfl)
  · replace hf := (if_neg c6).symm.trans hf
    refine lv_aload_n hx hb dX9_doIt_42 rfl (lv_at hl 1 rfl) ?_
    refine gM_operand X hP fl_X9_35 dX9_doIt_43 ?_
    refine lv_iconst (v := 1) hx hb dX9_doIt_46 (by decide) ?_
    refine w_ialdK X hP (c0 := 30) (i0 := 22) (show 0 < lenM 22 by decide) (n := 8) (fun _ => rfl) 1 (by decide) (show ¬ ((1 : Int32) < 0 ∨ 8 ≤ ((1 : Int32)).toNatClampNeg) by decide) dX9_doIt_47 ?_
    refine lv_sipush (v := 144) hx hb dX9_doIt_48 (by decide) ?_
    refine lv_icmp_ge (tgt := 67) hx hb dX9_doIt_51 (by decide) (fun c7 => ?_) (fun c7 => ?_)
    · replace hf := (if_pos c7).symm.trans hf
      exact BX9_doIt_67 X hr hlk _ _ _ _ _  hf hP hS (lv_sub hl [1, 0] rfl)
    · replace hf := (if_neg c7).symm.trans hf
      refine lv_aload_n hx hb dX9_doIt_54 rfl (lv_at hl 1 rfl) ?_
      refine lv_aload_n hx hb dX9_doIt_55 rfl (lv_at hl 1 rfl) ?_
      refine gM_operand X hP fl_X9_35 dX9_doIt_56 ?_
      refine lv_iconst (v := 1) hx hb dX9_doIt_59 (by decide) ?_
      refine w_ialdK X hP (c0 := 30) (i0 := 22) (show 0 < lenM 22 by decide) (n := 8) (fun _ => rfl) 1 (by decide) (show ¬ ((1 : Int32) < 0 ∨ 8 ≤ ((1 : Int32)).toNatClampNeg) by decide) dX9_doIt_60 ?_
      obtain ⟨v10, st8, hr9, hf⟩ := bd_2 hf
      refine w_V1 X (TX9_valueOf l hr9) hP hS rfl KX9_valueOf ml_X9_205 ⟨rfl, rfl⟩ ⟨by decide, by decide⟩ (x_recv (E := fun c i => (EMf cyI la) (st.1 c i) st.2 c i) (c0 := 9) (i0 := 0) X.2.2.1 hP rfl (ci := 9) rfl rfl) rfl hl.1 (Nat.le_of_ble_eq_true rfl) dX9_doIt_61 (fun H locs hP hS => ?_)
      refine lv_goto (tgt := 68) hx hb dX9_doIt_64 (by decide) ?_
      exact BX9_doIt_68 X hr hlk _ _ _ _ _ _  hf hP hS (lv_sub hl [1, 0] rfl)
def fX9_doIt_b32 (N : Nat) (st : xSt) : Option xSt := fX9_doIt_b33 N (0 : Int32) st
set_option maxHeartbeats 4000000 in
set_option maxRecDepth 100000 in
theorem BX9_doIt_32 {p : Program} {l : Launch} {e : Env} {s : State} {m : MethodId} {args : Array Value} {below : List Frame} {meth : Method} {c : Code} {D : va_G} {la : Nat → Nat → Nat} {cyI cyF cyM : ClassId} {t0 N : Nat} {st' : xSt} (X : xCx D VM la cyI cyF cyM t0 p m c cX9_doIt 4 s args RX9) (hr : meth.sig.returnType = none) (hlk : meth.locks = false) : ∀ (st : xSt) (H : Heap) (locs : List Loc) (ls : Array Slot), fX9_doIt_b32 N st = some st' → HW D VM la (EMf cyI la) st H → va_S (xA VM la) s.heap H locs → lv_has ls 4 [(0, .ref (la 9 0))] → W p l e rm_X9_doIt s m args below meth c H locs 0 0 (MQ below (xQc D VM la (EMf cyI la) none st') args s 0 0 (xA VM la)) (F0 m 32 ls []) := by
  have hx := X.1.1
  have hb := X.1.2.1
  intro st H locs ls hf hP hS hl
  unfold fX9_doIt_b32 at hf
  refine lv_iconst (v := 0) hx hb dX9_doIt_32 (by decide) ?_
  exact BX9_doIt_33 X hr hlk _ _ _ _ _  hf hP hS (lv_sub hl [0] rfl)
def fX9_doIt (N : Nat) (st : xSt) : Option xSt := if (st.1 9 0 23) ≤ (0 : Int32) then fX9_doIt_b32 N st else if (144 : Int32) ≤ (st.1 30 22 0) then fX9_doIt_b32 N st else bd (fX9_valueOf N (st.1 30 22 0) st) (fun v5 st3 => fX9_doIt_b33 N v5 st3)
set_option maxHeartbeats 4000000 in
set_option maxRecDepth 100000 in
theorem TX9_doIt (l : Launch) {D : va_G} {la : Nat → Nat → Nat} {cyI cyF cyM : ClassId} {t0 N : Nat} {st : xSt} {st' : xSt} (hf : fX9_doIt N st = some st') : MetM D cyI cyF cyM la t0 l yX9_doIt (Cond.code yX9_doIt cX9_doIt 4 none :: xALL) rm_X9_doIt [.ref (la 9 0)] none st st' := by
  refine MetW.intro (own := RX9) (by decide) (Nat.le_of_ble_eq_true rfl) rfl ?_
  intro p e s m below meth c X hr hlk hP ls hl
  have hx := X.1.1
  have hb := X.1.2.1
  have hS : va_S (xA VM la) s.heap s.heap [] := va_S.rf
  unfold fX9_doIt at hf
  replace hl : lv_has ls 4 [(0, .ref (la 9 0))] := hl
  refine lv_aload_n hx hb dX9_doIt_0 rfl (lv_at hl 0 rfl) ?_
  refine gM_operands X hP fl_X9_124 dX9_doIt_1 ?_
  refine lv_if_le (tgt := 32) hx hb dX9_doIt_4 (by decide) (fun c1 => ?_) (fun c1 => ?_)
  · replace hf := (if_pos c1).symm.trans hf
    exact BX9_doIt_32 X hr hlk _ _ _ _  hf hP hS (lv_sub hl [0] rfl)
  · replace hf := (if_neg c1).symm.trans hf
    refine lv_aload_n hx hb dX9_doIt_7 rfl (lv_at hl 0 rfl) ?_
    refine gM_operand X hP fl_X9_35 dX9_doIt_8 ?_
    refine lv_iconst (v := 0) hx hb dX9_doIt_11 (by decide) ?_
    refine w_ialdK X hP (c0 := 30) (i0 := 22) (show 0 < lenM 22 by decide) (n := 8) (fun _ => rfl) 0 (by decide) (show ¬ ((0 : Int32) < 0 ∨ 8 ≤ ((0 : Int32)).toNatClampNeg) by decide) dX9_doIt_12 ?_
    refine lv_sipush (v := 144) hx hb dX9_doIt_13 (by decide) ?_
    refine lv_icmp_ge (tgt := 32) hx hb dX9_doIt_16 (by decide) (fun c2 => ?_) (fun c2 => ?_)
    · replace hf := (if_pos c2).symm.trans hf
      exact BX9_doIt_32 X hr hlk _ _ _ _  hf hP hS (lv_sub hl [0] rfl)
    · replace hf := (if_neg c2).symm.trans hf
      refine lv_aload_n hx hb dX9_doIt_19 rfl (lv_at hl 0 rfl) ?_
      refine lv_aload_n hx hb dX9_doIt_20 rfl (lv_at hl 0 rfl) ?_
      refine gM_operand X hP fl_X9_35 dX9_doIt_21 ?_
      refine lv_iconst (v := 0) hx hb dX9_doIt_24 (by decide) ?_
      refine w_ialdK X hP (c0 := 30) (i0 := 22) (show 0 < lenM 22 by decide) (n := 8) (fun _ => rfl) 0 (by decide) (show ¬ ((0 : Int32) < 0 ∨ 8 ≤ ((0 : Int32)).toNatClampNeg) by decide) dX9_doIt_25 ?_
      obtain ⟨v5, st3, hr4, hf⟩ := bd_2 hf
      refine w_V1 X (TX9_valueOf l hr4) hP hS rfl KX9_valueOf ml_X9_205 ⟨rfl, rfl⟩ ⟨by decide, by decide⟩ (x_recv (E := fun c i => (EMf cyI la) (st.1 c i) st.2 c i) (c0 := 9) (i0 := 0) X.2.2.1 hP rfl (ci := 9) rfl rfl) rfl hl.1 (Nat.le_of_ble_eq_true rfl) dX9_doIt_26 (fun H locs hP hS => ?_)
      refine lv_goto (tgt := 33) hx hb dX9_doIt_29 (by decide) ?_
      exact BX9_doIt_33 X hr hlk _ _ _ _ _  hf hP hS (lv_sub hl [0] rfl)
theorem KX9_doIt : xKv yX9_doIt cX9_doIt 4 none RX9 0 := ⟨cd_X9_doIt, im_X9_doIt, se_X9_doIt, in_X9, by decide +kernel⟩
