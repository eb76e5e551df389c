abbrev rm_X9_one : Room := { frames := 4, cells := 0, slots := 0, locals := 91 }
def fX9_one_b59 (N : Nat) (a1 : Int32) (as0 : Int32) (as1 : Int32) (st : xSt) : Option xSt := nm (pI st 9 0 14 (as1 + as0)) (fun st15 => if a1 < 0 ∨ 12 ≤ (a1).toNatClampNeg then none else if a1 < 0 ∨ 12 ≤ (a1).toNatClampNeg then none else Option.bind (fX9_readAt N (st15.1 30 32 (a1).toNatClampNeg) (st15.1 30 33 (a1).toNatClampNeg) st15) (fun st18 => if (st18.1 9 0 20) = (0 : Int32) then if a1 < 0 ∨ 12 ≤ (a1).toNatClampNeg then none else nm (pI st18 30 32 (a1).toNatClampNeg (st18.1 9 0 21)) (fun st22 => Option.bind (fX9_doIt N st22) (fun st23 => some st23)) else Option.bind (fX9_fails N (st18.1 9 0 20) st18) (fun st25 => some st25)))
set_option maxHeartbeats 4000000 in
set_option maxRecDepth 100000 in
theorem BX9_one_59 {p : Program} {l : Launch} {e : Env} {s : State} {m : MethodId} {args : Array Value} {below : List Frame} {meth : Method} {c : Code} {D : va_G} {la : Nat → Nat → Nat} {cyI cyF cyM : ClassId} {t0 N : Nat} {st' : xSt} (X : xCx D VM la cyI cyF cyM t0 p m c cX9_one 2 s args RX9) (hr : meth.sig.returnType = none) (hlk : meth.locks = false) : ∀ (a1 : Int32) (as0 : Int32) (as1 : Int32) (st : xSt) (H : Heap) (locs : List Loc) (ls : Array Slot), fX9_one_b59 N a1 as0 as1 st = some st' → HW D VM la (EMf cyI la) st H → va_S (xA VM la) s.heap H locs → lv_has ls 2 [(0, .ref (la 9 0)), (1, .int a1)] → W p l e rm_X9_one s m args below meth c H locs 0 0 (MQ below (xQc D VM la (EMf cyI la) none st') args s 0 0 (xA VM la)) (F0 m 59 ls [.int as0, .int as1, .ref (la 9 0)]) := by
  have hx := X.1.1
  have hb := X.1.2.1
  intro a1 as0 as1 st H locs ls hf hP hS hl
  unfold fX9_one_b59 at hf
  refine lv_iadd hx hb dX9_one_59 ?_
  refine pM_stepsMade X hP hS fl_X9_224 dX9_one_60 (fun H locs hP hS => ?_)
  obtain ⟨st15, hP, hf⟩ := nm_gen (P := fun z => HW D VM la (EMf cyI la) z H) hP hf
  refine lv_aload_n hx hb dX9_one_63 rfl (lv_at hl 0 rfl) ?_
  refine lv_aload_n hx hb dX9_one_64 rfl (lv_at hl 0 rfl) ?_
  refine gM_at X hP fl_X9_47 dX9_one_65 ?_
  refine lv_iload_n hx hb dX9_one_68 rfl (lv_at hl 1 rfl) ?_
  obtain ⟨hn16, hf⟩ := ck_of hf
  refine w_iald X hP (c0 := 30) (i0 := 32) (show 0 < lenM 32 by decide) (n := 12) rfl hn16 dX9_one_69 ?_
  refine lv_aload_n hx hb dX9_one_70 rfl (lv_at hl 0 rfl) ?_
  refine gM_locals X hP fl_X9_50 dX9_one_71 ?_
  refine lv_iload_n hx hb dX9_one_74 rfl (lv_at hl 1 rfl) ?_
  obtain ⟨hn17, hf⟩ := ck_of hf
  refine w_iald X hP (c0 := 30) (i0 := 33) (show 0 < lenM 33 by decide) (n := 12) rfl hn17 dX9_one_75 ?_
  obtain ⟨st18, hr19, hf⟩ := bd_of hf
  refine w_V0 X (TX9_readAt l hr19) hP hS rfl KX9_readAt ml_X9_136 ⟨rfl, rfl⟩ ⟨by decide, by decide⟩ (x_recv (E := fun c i => (EMf cyI la) (st15.1 c i) st15.2 c i) (c0 := 9) (i0 := 0) X.2.2.1 hP rfl (ci := 9) rfl rfl) rfl hl.1 (Nat.le_of_ble_eq_true rfl) dX9_one_76 (fun H locs hP hS => ?_)
  refine lv_aload_n hx hb dX9_one_79 rfl (lv_at hl 0 rfl) ?_
  refine gM_codeFault X hP fl_X9_107 dX9_one_80 ?_
  refine lv_if_eq (tgt := 95) hx hb dX9_one_83 (by decide) (fun c20 => ?_) (fun c20 => ?_)
  · replace hf := (if_pos c20).symm.trans hf
    refine lv_aload_n hx hb dX9_one_95 rfl (lv_at hl 0 rfl) ?_
    refine gM_at X hP fl_X9_47 dX9_one_96 ?_
    refine lv_iload_n hx hb dX9_one_99 rfl (lv_at hl 1 rfl) ?_
    refine lv_aload_n hx hb dX9_one_100 rfl (lv_at hl 0 rfl) ?_
    refine gM_behind X hP fl_X9_104 dX9_one_101 ?_
    obtain ⟨hn21, hf⟩ := ck_of hf
    refine w_iast X hP hS (c0 := 30) (i0 := 32) (show 0 < lenM 32 by decide) (n := 12) (fun _ => rfl) hn21 dX9_one_104 (fun H locs hP hS => ?_)
    obtain ⟨st22, hP, hf⟩ := nm_gen (P := fun z => HW D VM la (EMf cyI la) z H) hP hf
    refine lv_aload_n hx hb dX9_one_105 rfl (lv_at hl 0 rfl) ?_
    obtain ⟨st23, hr24, hf⟩ := bd_of hf
    refine w_V0 X (TX9_doIt l hr24) hP hS rfl KX9_doIt ml_X9_230 ⟨rfl, rfl⟩ ⟨by decide, by decide⟩ (x_recv (E := fun c i => (EMf cyI la) (st22.1 c i) st22.2 c i) (c0 := 9) (i0 := 0) X.2.2.1 hP rfl (ci := 9) rfl rfl) rfl hl.1 (Nat.le_of_ble_eq_true rfl) dX9_one_106 (fun H locs hP hS => ?_)
    obtain rfl := Option.some.inj hf
    exact w_vret X hr hlk hP hS dX9_one_109
  · replace hf := (if_neg c20).symm.trans hf
    refine lv_aload_n hx hb dX9_one_86 rfl (lv_at hl 0 rfl) ?_
    refine lv_aload_n hx hb dX9_one_87 rfl (lv_at hl 0 rfl) ?_
    refine gM_codeFault X hP fl_X9_107 dX9_one_88 ?_
    obtain ⟨st25, hr26, hf⟩ := bd_of hf
    refine w_V0 X (TX9_fails l hr26) hP hS rfl KX9_fails ml_X9_167 ⟨rfl, rfl⟩ ⟨by decide, by decide⟩ (x_recv (E := fun c i => (EMf cyI la) (st18.1 c i) st18.2 c i) (c0 := 9) (i0 := 0) X.2.2.1 hP rfl (ci := 9) rfl rfl) rfl hl.1 (Nat.le_of_ble_eq_true rfl) dX9_one_91 (fun H locs hP hS => ?_)
    obtain rfl := Option.some.inj hf
    exact w_vret X hr hlk hP hS dX9_one_94
def fX9_one (N : Nat) (st : xSt) : Option xSt := nm ((st.1 9 0 29) - (1 : Int32)) (fun x1 => if x1 < 0 ∨ 12 ≤ (x1).toNatClampNeg then none else nm (pI st 9 0 45 (st.1 30 31 (x1).toNatClampNeg)) (fun st3 => if x1 < 0 ∨ 12 ≤ (x1).toNatClampNeg then none else if x1 < 0 ∨ 12 ≤ (x1).toNatClampNeg then none else nm (pI st3 9 0 46 ((st3.1 30 32 (x1).toNatClampNeg) - (st3.1 30 31 (x1).toNatClampNeg))) (fun st6 => bd (fX9_step N st6) (fun v9 st7 => if v9 = (0 : Int32) then some st7 else bd (fX9_isMade N st7) (fun v13 st11 => if v13 = (0 : Int32) then fX9_one_b59 N x1 (0 : Int32) (st7.1 9 0 14) st11 else fX9_one_b59 N x1 (1 : Int32) (st7.1 9 0 14) st11)))))
set_option maxHeartbeats 4000000 in
set_option maxRecDepth 100000 in
theorem TX9_one (l : Launch) {D : va_G} {la : Nat → Nat → Nat} {cyI cyF cyM : ClassId} {t0 N : Nat} {st : xSt} {st' : xSt} (hf : fX9_one N st = some st') : MetM D cyI cyF cyM la t0 l yX9_one (Cond.code yX9_one cX9_one 2 none :: xALL) rm_X9_one [.ref (la 9 0)] none st st' := by
  refine MetW.intro (own := RX9) (by decide) (Nat.le_of_ble_eq_true rfl) rfl ?_
  intro p e s m below meth c X hr hlk hP ls hl
  have hx := X.1.1
  have hb := X.1.2.1
  have hS : va_S (xA VM la) s.heap s.heap [] := va_S.rf
  unfold fX9_one at hf
  replace hl : lv_has ls 2 [(0, .ref (la 9 0))] := hl
  refine lv_aload_n hx hb dX9_one_0 rfl (lv_at hl 0 rfl) ?_
  refine gM_depth X hP fl_X9_161 dX9_one_1 ?_
  refine lv_iconst (v := 1) hx hb dX9_one_4 (by decide) ?_
  refine lv_isub hx hb dX9_one_5 ?_
  refine lv_topi (fun x1 ex => ?_)
  replace hf := nm_of hf ex
  clear ex
  refine lv_istore_n (lv' := [(1, .int x1), (0, .ref (la 9 0))]) hx hb dX9_one_6 rfl hl (by decide) rfl (fun ls hl => ?_)
  refine lv_aload_n hx hb dX9_one_7 rfl (lv_at hl 1 rfl) ?_
  refine lv_aload_n hx hb dX9_one_8 rfl (lv_at hl 1 rfl) ?_
  refine gM_address X hP fl_X9_44 dX9_one_9 ?_
  refine lv_iload_n hx hb dX9_one_12 rfl (lv_at hl 0 rfl) ?_
  obtain ⟨hn2, hf⟩ := ck_of hf
  refine w_iald X hP (c0 := 30) (i0 := 31) (show 0 < lenM 31 by decide) (n := 12) rfl hn2 dX9_one_13 ?_
  refine pM_here X hP hS fl_X9_155 dX9_one_14 (fun H locs hP hS => ?_)
  obtain ⟨st3, hP, hf⟩ := nm_gen (P := fun z => HW D VM la (EMf cyI la) z H) hP hf
  refine lv_aload_n hx hb dX9_one_17 rfl (lv_at hl 1 rfl) ?_
  refine lv_aload_n hx hb dX9_one_18 rfl (lv_at hl 1 rfl) ?_
  refine gM_at X hP fl_X9_47 dX9_one_19 ?_
  refine lv_iload_n hx hb dX9_one_22 rfl (lv_at hl 0 rfl) ?_
  obtain ⟨hn4, hf⟩ := ck_of hf
  refine w_iald X hP (c0 := 30) (i0 := 32) (show 0 < lenM 32 by decide) (n := 12) rfl hn4 dX9_one_23 ?_
  refine lv_aload_n hx hb dX9_one_24 rfl (lv_at hl 1 rfl) ?_
  refine gM_address X hP fl_X9_44 dX9_one_25 ?_
  refine lv_iload_n hx hb dX9_one_28 rfl (lv_at hl 0 rfl) ?_
  obtain ⟨hn5, hf⟩ := ck_of hf
  refine w_iald X hP (c0 := 30) (i0 := 31) (show 0 < lenM 31 by decide) (n := 12) rfl hn5 dX9_one_29 ?_
  refine lv_isub hx hb dX9_one_30 ?_
  refine pM_hereOffset X hP hS fl_X9_158 dX9_one_31 (fun H locs hP hS => ?_)
  obtain ⟨st6, hP, hf⟩ := nm_gen (P := fun z => HW D VM la (EMf cyI la) z H) hP hf
  refine lv_aload_n hx hb dX9_one_34 rfl (lv_at hl 1 rfl) ?_
  obtain ⟨v9, st7, hr8, hf⟩ := bd_2 hf
  refine w_V1 X (TX9_step l hr8) hP hS rfl KX9_step ml_X9_176 ⟨rfl, rfl⟩ ⟨by decide, by decide⟩ (x_recv (E := fun c i => (EMf cyI la) (st6.1 c i) st6.2 c i) (c0 := 9) (i0 := 0) X.2.2.1 hP rfl (ci := 9) rfl rfl) rfl hl.1 (Nat.le_of_ble_eq_true rfl) dX9_one_35 (fun H locs hP hS => ?_)
  refine lv_if_ne (tgt := 42) hx hb dX9_one_38 (by decide) (fun c10 => ?_) (fun c10 => ?_)
  · replace hf := (if_neg c10).symm.trans hf
    refine lv_aload_n hx hb dX9_one_42 rfl (lv_at hl 1 rfl) ?_
    refine lv_dup hx hb dX9_one_43 rfl ?_
    refine gM_stepsMade X hP fl_X9_224 dX9_one_44 ?_
    refine lv_aload_n hx hb dX9_one_47 rfl (lv_at hl 1 rfl) ?_
    obtain ⟨v13, st11, hr12, hf⟩ := bd_2 hf
    refine w_V1 X (TX9_isMade l hr12) hP hS rfl KX9_isMade ml_X9_227 ⟨rfl, rfl⟩ ⟨by decide, by decide⟩ (x_recv (E := fun c i => (EMf cyI la) (st7.1 c i) st7.2 c i) (c0 := 9) (i0 := 0) X.2.2.1 hP rfl (ci := 9) rfl rfl) rfl hl.1 (Nat.le_of_ble_eq_true rfl) dX9_one_48 (fun H locs hP hS => ?_)
    refine lv_if_eq (tgt := 58) hx hb dX9_one_51 (by decide) (fun c14 => ?_) (fun c14 => ?_)
    · replace hf := (if_pos c14).symm.trans hf
      refine lv_iconst (v := 0) hx hb dX9_one_58 (by decide) ?_
      exact BX9_one_59 X hr hlk _ _ _ _ _ _ _  hf hP hS (lv_sub hl [1, 0] rfl)
    · replace hf := (if_neg c14).symm.trans hf
      refine lv_iconst (v := 1) hx hb dX9_one_54 (by decide) ?_
      refine lv_goto (tgt := 59) hx hb dX9_one_55 (by decide) ?_
      exact BX9_one_59 X hr hlk _ _ _ _ _ _ _  hf hP hS (lv_sub hl [1, 0] rfl)
  · replace hf := (if_pos c10).symm.trans hf
    obtain rfl := Option.some.inj hf
    exact w_vret X hr hlk hP hS dX9_one_41
theorem KX9_one : xKv yX9_one cX9_one 2 none RX9 0 := ⟨cd_X9_one, im_X9_one, se_X9_one, in_X9, by decide +kernel⟩
abbrev rm_X9_goes : Room := { frames := 5, cells := 0, slots := 0, locals := 112 }
def fX9_goes_b148 (N : Nat) (st : xSt) : Option (Int32 × xSt) := if (st.1 9 0 40) = (0 : Int32) then some ((0 : Int32), st) else nm (pI st 9 0 44 (0 : Int32)) (fun st33 => nm (pI st33 9 0 17 ((st33.1 9 0 17) + (1 : Int32))) (fun st34 => some (((-10 : Int32) - (st34.1 9 0 40)), st34)))
set_option maxHeartbeats 4000000 in
set_option maxRecDepth 100000 in
theorem BX9_goes_148 {p : Program} {l : Launch} {e : Env} {s : State} {m : MethodId} {args : Array Value} {below : List Frame} {meth : Method} {c : Code} {D : va_G} {la : Nat → Nat → Nat} {cyI cyF cyM : ClassId} {t0 N : Nat} {r : Int32} {st' : xSt} (X : xCx D VM la cyI cyF cyM t0 p m c cX9_goes 5 s args RX9) (hr : meth.sig.returnType = (some .int)) (hlk : meth.locks = false) : ∀ (st : xSt) (H : Heap) (locs : List Loc) (ls : Array Slot), fX9_goes_b148 N st = some (r, st') → HW D VM la (EMf cyI la) st H → va_S (xA VM la) s.heap H locs → lv_has ls 5 [(0, .ref (la 9 0))] → W p l e rm_X9_goes s m args below meth c H locs 0 0 (MQ below (xQc D VM la (EMf cyI la) (some (.int r)) st') args s 0 0 (xA VM la)) (F0 m 148 ls []) := by
  have hx := X.1.1
  have hb := X.1.2.1
  intro st H locs ls hf hP hS hl
  unfold fX9_goes_b148 at hf
  refine lv_aload_n hx hb dX9_goes_148 rfl (lv_at hl 0 rfl) ?_
  refine gM_fault X hP fl_X9_152 dX9_goes_149 ?_
  refine lv_if_ne (tgt := 157) hx hb dX9_goes_152 (by decide) (fun c32 => ?_) (fun c32 => ?_)
  · replace hf := (if_neg c32).symm.trans hf
    refine lv_aload_n hx hb dX9_goes_157 rfl (lv_at hl 0 rfl) ?_
    refine lv_iconst (v := 0) hx hb dX9_goes_158 (by decide) ?_
    refine pM_result X hP hS fl_X9_186 dX9_goes_159 (fun H locs hP hS => ?_)
    obtain ⟨st33, hP, hf⟩ := nm_gen (P := fun z => HW D VM la (EMf cyI la) z H) hP hf
    refine lv_aload_n hx hb dX9_goes_162 rfl (lv_at hl 0 rfl) ?_
    refine lv_dup hx hb dX9_goes_163 rfl ?_
    refine gM_faults X hP fl_X9_233 dX9_goes_164 ?_
    refine lv_iconst (v := 1) hx hb dX9_goes_167 (by decide) ?_
    refine lv_iadd hx hb dX9_goes_168 ?_
    refine pM_faults X hP hS fl_X9_233 dX9_goes_169 (fun H locs hP hS => ?_)
    obtain ⟨st34, hP, hf⟩ := nm_gen (P := fun z => HW D VM la (EMf cyI la) z H) hP hf
    refine lv_bipush (v := -10) hx hb dX9_goes_172 (by decide) ?_
    refine lv_aload_n hx hb dX9_goes_174 rfl (lv_at hl 0 rfl) ?_
    refine gM_fault X hP fl_X9_152 dX9_goes_175 ?_
    refine lv_isub hx hb dX9_goes_178 ?_
    obtain ⟨rfl, rfl⟩ := sp_2 hf
    exact w_iret X hr hlk hP hS dX9_goes_179
  · replace hf := (if_pos c32).symm.trans hf
    refine lv_iconst (v := 0) hx hb dX9_goes_155 (by decide) ?_
    obtain ⟨rfl, rfl⟩ := sp_2 hf
    exact w_iret X hr hlk hP hS dX9_goes_156
def fX9_goes_b127 (N : Nat) : Nat → xSt → Option (Int32 × xSt)
  | 0, _ => none
  | n + 1, st => if (st.1 9 0 29) ≤ (0 : Int32) then fX9_goes_b148 N st else if (st.1 9 0 40) = (0 : Int32) then Option.bind (fX9_one N st) (fun st30 => fX9_goes_b127 N n st30) else fX9_goes_b148 N st
set_option maxHeartbeats 4000000 in
set_option maxRecDepth 100000 in
theorem BX9_goes_127 {p : Program} {l : Launch} {e : Env} {s : State} {m : MethodId} {args : Array Value} {below : List Frame} {meth : Method} {c : Code} {D : va_G} {la : Nat → Nat → Nat} {cyI cyF cyM : ClassId} {t0 N : Nat} {r : Int32} {st' : xSt} (X : xCx D VM la cyI cyF cyM t0 p m c cX9_goes 5 s args RX9) (hr : meth.sig.returnType = (some .int)) (hlk : meth.locks = false) : ∀ n : Nat, ∀ (st : xSt) (H : Heap) (locs : List Loc) (ls : Array Slot), fX9_goes_b127 N n st = some (r, st') → HW D VM la (EMf cyI la) st H → va_S (xA VM la) s.heap H locs → lv_has ls 5 [(0, .ref (la 9 0))] → W p l e rm_X9_goes s m args below meth c H locs 0 0 (MQ below (xQc D VM la (EMf cyI la) (some (.int r)) st') args s 0 0 (xA VM la)) (F0 m 127 ls []) := by
  have hx := X.1.1
  have hb := X.1.2.1
  intro n
  induction n with
  | zero =>
    intro st H locs ls hf hP hS hl
    rw [fX9_goes_b127] at hf
    cases hf
  | succ n ih =>
    intro st H locs ls hf hP hS hl
    rw [fX9_goes_b127] at hf
    refine lv_aload_n hx hb dX9_goes_127 rfl (lv_at hl 0 rfl) ?_
    refine gM_depth X hP fl_X9_161 dX9_goes_128 ?_
    refine lv_if_le (tgt := 148) hx hb dX9_goes_131 (by decide) (fun c28 => ?_) (fun c28 => ?_)
    · replace hf := (if_pos c28).symm.trans hf
      exact BX9_goes_148 X hr hlk _ _ _ _  hf hP hS (lv_sub hl [0] rfl)
    · replace hf := (if_neg c28).symm.trans hf
      refine lv_aload_n hx hb dX9_goes_134 rfl (lv_at hl 0 rfl) ?_
      refine gM_fault X hP fl_X9_152 dX9_goes_135 ?_
      refine lv_if_ne (tgt := 148) hx hb dX9_goes_138 (by decide) (fun c29 => ?_) (fun c29 => ?_)
      · replace hf := (if_neg c29).symm.trans hf
        exact BX9_goes_148 X hr hlk _ _ _ _  hf hP hS (lv_sub hl [0] rfl)
      · replace hf := (if_pos c29).symm.trans hf
        refine lv_aload_n hx hb dX9_goes_141 rfl (lv_at hl 0 rfl) ?_
        obtain ⟨st30, hr31, hf⟩ := bd_of hf
        refine w_V0 X (TX9_one l hr31) hP hS rfl KX9_one ml_X9_236 ⟨rfl, rfl⟩ ⟨by decide, by decide⟩ (x_recv (E := fun c i => (EMf cyI la) (st.1 c i) st.2 c i) (c0 := 9) (i0 := 0) X.2.2.1 hP rfl (ci := 9) rfl rfl) rfl hl.1 (Nat.le_of_ble_eq_true rfl) dX9_goes_142 (fun H locs hP hS => ?_)
        refine lv_goto (tgt := 127) hx hb dX9_goes_145 (by decide) ?_
        exact ih _ _ _ _  hf hP hS (lv_sub hl [0] rfl)
def fX9_goes_b95 (N : Nat) : Nat → Int32 → Int32 → Int32 → xSt → Option (Int32 × xSt)
  | 0, _, _, _, _ => none
  | n + 1, a1, a2, a4, st => if a2 ≤ a4 then Option.bind (fX9_go N a1 (-1 : Int32) st) (fun st22 => fX9_goes_b127 N N st22) else if a4 < 0 ∨ 4 ≤ (a4).toNatClampNeg then none else if a4 < 0 ∨ 4 ≤ (a4).toNatClampNeg then none else nm (pI st 30 38 (a4).toNatClampNeg (st.1 30 3 (a4).toNatClampNeg)) (fun st26 => nm (a4 + (1 : Int32)) (fun x27 => fX9_goes_b95 N n a1 a2 x27 st26))
set_option maxHeartbeats 4000000 in
set_option maxRecDepth 100000 in
theorem BX9_goes_95 {p : Program} {l : Launch} {e : Env} {s : State} {m : MethodId} {args : Array Value} {below : List Frame} {meth : Method} {c : Code} {D : va_G} {la : Nat → Nat → Nat} {cyI cyF cyM : ClassId} {t0 N : Nat} {r : Int32} {st' : xSt} (X : xCx D VM la cyI cyF cyM t0 p m c cX9_goes 5 s args RX9) (hr : meth.sig.returnType = (some .int)) (hlk : meth.locks = false) : ∀ n : Nat, ∀ (a1 : Int32) (a2 : Int32) (a4 : Int32) (st : xSt) (H : Heap) (locs : List Loc) (ls : Array Slot), fX9_goes_b95 N n a1 a2 a4 st = some (r, st') → HW D VM la (EMf cyI la) st H → va_S (xA VM la) s.heap H locs → lv_has ls 5 [(0, .ref (la 9 0)), (1, .int a1), (2, .int a2), (4, .int a4)] → W p l e rm_X9_goes s m args below meth c H locs 0 0 (MQ below (xQc D VM la (EMf cyI la) (some (.int r)) st') args s 0 0 (xA VM la)) (F0 m 95 ls []) := by
  have hx := X.1.1
  have hb := X.1.2.1
  intro n
  induction n with
  | zero =>
    intro a1 a2 a4 st H locs ls hf hP hS hl
    rw [fX9_goes_b95] at hf
    cases hf
  | succ n ih =>
    intro a1 a2 a4 st H locs ls hf hP hS hl
    rw [fX9_goes_b95] at hf
    refine lv_iload hx hb dX9_goes_95 (lv_at hl 3 rfl) ?_
    refine lv_iload_n hx hb dX9_goes_97 rfl (lv_at hl 2 rfl) ?_
    refine lv_icmp_ge (tgt := 121) hx hb dX9_goes_98 (by decide) (fun c21 => ?_) (fun c21 => ?_)
    · replace hf := (if_pos c21).symm.trans hf
      refine lv_aload_n hx hb dX9_goes_121 rfl (lv_at hl 0 rfl) ?_
      refine lv_iload_n hx hb dX9_goes_122 rfl (lv_at hl 1 rfl) ?_
      refine lv_iconst (v := -1) hx hb dX9_goes_123 (by decide) ?_
      obtain ⟨st22, hr23, hf⟩ := bd_of hf
      refine w_V0 X (TX9_go l hr23) hP hS rfl KX9_go ml_X9_215 ⟨rfl, rfl⟩ ⟨by decide, by decide⟩ (x_recv (E := fun c i => (EMf cyI la) (st.1 c i) st.2 c i) (c0 := 9) (i0 := 0) X.2.2.1 hP rfl (ci := 9) rfl rfl) rfl hl.1 (Nat.le_of_ble_eq_true rfl) dX9_goes_124 (fun H locs hP hS => ?_)
      exact BX9_goes_127 X hr hlk N _ _ _ _  hf hP hS (lv_sub hl [0] rfl)
    · replace hf := (if_neg c21).symm.trans hf
      refine lv_aload_n hx hb dX9_goes_101 rfl (lv_at hl 0 rfl) ?_
      refine gM_given X hP fl_X9_65 dX9_goes_102 ?_
      refine lv_iload hx hb dX9_goes_105 (lv_at hl 3 rfl) ?_
      refine lv_aload_n hx hb dX9_goes_107 rfl (lv_at hl 0 rfl) ?_
      refine gM_arguments X hP fl_X9_16 dX9_goes_108 ?_
      refine lv_iload hx hb dX9_goes_111 (lv_at hl 3 rfl) ?_
      obtain ⟨hn24, hf⟩ := ck_of hf
      refine w_iald X hP (c0 := 30) (i0 := 3) (show 0 < lenM 3 by decide) (n := 4) rfl hn24 dX9_goes_113 ?_
      obtain ⟨hn25, hf⟩ := ck_of hf
      refine w_iast X hP hS (c0 := 30) (i0 := 38) (show 0 < lenM 38 by decide) (n := 4) (fun _ => rfl) hn25 dX9_goes_114 (fun H locs hP hS => ?_)
      obtain ⟨st26, hP, hf⟩ := nm_gen (P := fun z => HW D VM la (EMf cyI la) z H) hP hf
      obtain ⟨x27, ex⟩ : ∃ y : Int32, y = (a4 + (1 : Int32)) := ⟨_, rfl⟩
      replace hf := nm_of hf ex
      refine lv_iinc (v := x27) (lv' := [(4, .int x27), (0, .ref (la 9 0)), (1, .int a1), (2, .int a2)]) hx hb dX9_goes_115 hl (k := 3) rfl (by rw [ex]; rfl) (by decide) rfl (fun ls hl => ?_)
      clear ex
      refine lv_goto (tgt := 95) hx hb dX9_goes_118 (by decide) ?_
      exact ih _ _ _ _ _ _ _  hf hP hS (lv_sub hl [1, 2, 3, 0] rfl)
def fX9_goes (N : Nat) (a1 : Int32) (a2 : Int32) (a3 : Int32) (st : xSt) : Option (Int32 × xSt) := nm (pI st 9 0 0 (0 : Int32)) (fun st1 => if a2 < (0 : Int32) then some ((-2 : Int32), st1) else if (4 : Int32) < a2 then some ((-2 : Int32), st1) else bd (fX9_isAddress N a1 st1) (fun v6 st4 => if v6 = (0 : Int32) then some ((-2 : Int32), st4) else if (st4.1 9 0 17) < (500 : Int32) then if ¬ (a3 = 0 ∨ a3 = 1) then none else nm (pI st4 9 0 30 a3) (fun st10 => nm (pI st10 9 0 28 (0 : Int32)) (fun st11 => nm (pI st11 9 0 29 (0 : Int32)) (fun st12 => nm (pI st12 9 0 40 (0 : Int32)) (fun st13 => nm (pI st13 9 0 41 (-1 : Int32)) (fun st14 => nm (pI st14 9 0 42 (-1 : Int32)) (fun st15 => nm (pI st15 9 0 43 (0 : Int32)) (fun st16 => nm (pI st16 9 0 44 (0 : Int32)) (fun st17 => nm (pI st17 9 0 45 a1) (fun st18 => nm (pI st18 9 0 46 (0 : Int32)) (fun st19 => nm (pI st19 9 0 39 a2) (fun st20 => fX9_goes_b95 N N a1 a2 (0 : Int32) st20))))))))))) else some ((-3 : Int32), st4)))
set_option maxHeartbeats 4000000 in
set_option maxRecDepth 100000 in
theorem TX9_goes (l : Launch) {D : va_G} {la : Nat → Nat → Nat} {cyI cyF cyM : ClassId} {t0 N : Nat} {a1 : Int32} {a2 : Int32} {a3 : Int32} {st : xSt} {r : Int32} {st' : xSt} (hf : fX9_goes N a1 a2 a3 st = some (r, st')) : MetM D cyI cyF cyM la t0 l yX9_goes (Cond.code yX9_goes cX9_goes 5 (some .int) :: xALL) rm_X9_goes [.ref (la 9 0), .int a1, .int a2, .int a3] (some (.int r)) st st' := by
  refine MetW.intro (own := RX9) (by decide) (Nat.le_of_ble_eq_true rfl) rfl ?_
  intro p e s m below meth c X hr hlk hP ls hl
  have hx := X.1.1
  have hb := X.1.2.1
  have hS : va_S (xA VM la) s.heap s.heap [] := va_S.rf
  unfold fX9_goes at hf
  replace hl : lv_has ls 5 [(0, .ref (la 9 0)), (1, .int a1), (2, .int a2), (3, .int a3)] := hl
  refine lv_aload_n hx hb dX9_goes_0 rfl (lv_at hl 0 rfl) ?_
  refine lv_iconst (v := 0) hx hb dX9_goes_1 (by decide) ?_
  refine pM_thrown X hP hS fl_X9_77 dX9_goes_2 (fun H locs hP hS => ?_)
  obtain ⟨st1, hP, hf⟩ := nm_gen (P := fun z => HW D VM la (EMf cyI la) z H) hP hf
  refine lv_iload_n hx hb dX9_goes_5 rfl (lv_at hl 2 rfl) ?_
  refine lv_if_lt (tgt := 21) hx hb dX9_goes_6 (by decide) (fun c2 => ?_) (fun c2 => ?_)
  · replace hf := (if_pos c2).symm.trans hf
    refine lv_bipush (v := -2) hx hb dX9_goes_21 (by decide) ?_
    obtain ⟨rfl, rfl⟩ := sp_2 hf
    exact w_iret X hr hlk hP hS dX9_goes_23
  · replace hf := (if_neg c2).symm.trans hf
    refine lv_iload_n hx hb dX9_goes_9 rfl (lv_at hl 2 rfl) ?_
    refine lv_iconst (v := 4) hx hb dX9_goes_10 (by decide) ?_
    refine lv_icmp_gt (tgt := 21) hx hb dX9_goes_11 (by decide) (fun c3 => ?_) (fun c3 => ?_)
    · replace hf := (if_pos c3).symm.trans hf
      refine lv_bipush (v := -2) hx hb dX9_goes_21 (by decide) ?_
      obtain ⟨rfl, rfl⟩ := sp_2 hf
      exact w_iret X hr hlk hP hS dX9_goes_23
    · replace hf := (if_neg c3).symm.trans hf
      refine lv_iload_n hx hb dX9_goes_14 rfl (lv_at hl 1 rfl) ?_
      obtain ⟨v6, st4, hr5, hf⟩ := bd_2 hf
      refine w_S1 X (TX9_isAddress l hr5) hP hS rfl KX9_isAddress ml_X9_140 ⟨rfl, rfl⟩ ⟨by decide, by decide⟩ rfl hl.1 (Nat.le_of_ble_eq_true rfl) dX9_goes_15 (fun H locs hP hS => ?_)
      refine lv_if_ne (tgt := 24) hx hb dX9_goes_18 (by decide) (fun c7 => ?_) (fun c7 => ?_)
      · replace hf := (if_neg c7).symm.trans hf
        refine lv_aload_n hx hb dX9_goes_24 rfl (lv_at hl 0 rfl) ?_
        refine gM_faults X hP fl_X9_233 dX9_goes_25 ?_
        refine lv_sipush (v := 500) hx hb dX9_goes_28 (by decide) ?_
        refine lv_icmp_lt (tgt := 37) hx hb dX9_goes_31 (by decide) (fun c8 => ?_) (fun c8 => ?_)
        · replace hf := (if_pos c8).symm.trans hf
          refine lv_aload_n hx hb dX9_goes_37 rfl (lv_at hl 0 rfl) ?_
          refine lv_iload_n hx hb dX9_goes_38 rfl (lv_at hl 3 rfl) ?_
          obtain ⟨hz9, hf⟩ := ck_of hf
          refine pM_byMade X hP hS (Decidable.not_not.mp hz9) fl_X9_189 dX9_goes_39 (fun H locs hP hS => ?_)
          obtain ⟨st10, hP, hf⟩ := nm_gen (P := fun z => HW D VM la (EMf cyI la) z H) hP hf
          refine lv_aload_n hx hb dX9_goes_42 rfl (lv_at hl 0 rfl) ?_
          refine lv_iconst (v := 0) hx hb dX9_goes_43 (by decide) ?_
          refine pM_steps X hP hS fl_X9_164 dX9_goes_44 (fun H locs hP hS => ?_)
          obtain ⟨st11, hP, hf⟩ := nm_gen (P := fun z => HW D VM la (EMf cyI la) z H) hP hf
          refine lv_aload_n hx hb dX9_goes_47 rfl (lv_at hl 0 rfl) ?_
          refine lv_iconst (v := 0) hx hb dX9_goes_48 (by decide) ?_
          refine pM_depth X hP hS fl_X9_161 dX9_goes_49 (fun H locs hP hS => ?_)
          obtain ⟨st12, hP, hf⟩ := nm_gen (P := fun z => HW D VM la (EMf cyI la) z H) hP hf
          refine lv_aload_n hx hb dX9_goes_52 rfl (lv_at hl 0 rfl) ?_
          refine lv_iconst (v := 0) hx hb dX9_goes_53 (by decide) ?_
          refine pM_fault X hP hS fl_X9_152 dX9_goes_54 (fun H locs hP hS => ?_)
          obtain ⟨st13, hP, hf⟩ := nm_gen (P := fun z => HW D VM la (EMf cyI la) z H) hP hf
          refine lv_aload_n hx hb dX9_goes_57 rfl (lv_at hl 0 rfl) ?_
          refine lv_iconst (v := -1) hx hb dX9_goes_58 (by decide) ?_
          refine pM_faultAddress X hP hS fl_X9_68 dX9_goes_59 (fun H locs hP hS => ?_)
          obtain ⟨st14, hP, hf⟩ := nm_gen (P := fun z => HW D VM la (EMf cyI la) z H) hP hf
          refine lv_aload_n hx hb dX9_goes_62 rfl (lv_at hl 0 rfl) ?_
          refine lv_iconst (v := -1) hx hb dX9_goes_63 (by decide) ?_
          refine pM_faultOffset X hP hS fl_X9_71 dX9_goes_64 (fun H locs hP hS => ?_)
          obtain ⟨st15, hP, hf⟩ := nm_gen (P := fun z => HW D VM la (EMf cyI la) z H) hP hf
          refine lv_aload_n hx hb dX9_goes_67 rfl (lv_at hl 0 rfl) ?_
          refine lv_iconst (v := 0) hx hb dX9_goes_68 (by decide) ?_
          refine pM_faultNumber X hP hS fl_X9_199 dX9_goes_69 (fun H locs hP hS => ?_)
          obtain ⟨st16, hP, hf⟩ := nm_gen (P := fun z => HW D VM la (EMf cyI la) z H) hP hf
          refine lv_aload_n hx hb dX9_goes_72 rfl (lv_at hl 0 rfl) ?_
          refine lv_iconst (v := 0) hx hb dX9_goes_73 (by decide) ?_
          refine pM_result X hP hS fl_X9_186 dX9_goes_74 (fun H locs hP hS => ?_)
          obtain ⟨st17, hP, hf⟩ := nm_gen (P := fun z => HW D VM la (EMf cyI la) z H) hP hf
          refine lv_aload_n hx hb dX9_goes_77 rfl (lv_at hl 0 rfl) ?_
          refine lv_iload_n hx hb dX9_goes_78 rfl (lv_at hl 1 rfl) ?_
          refine pM_here X hP hS fl_X9_155 dX9_goes_79 (fun H locs hP hS => ?_)
          obtain ⟨st18, hP, hf⟩ := nm_gen (P := fun z => HW D VM la (EMf cyI la) z H) hP hf
          refine lv_aload_n hx hb dX9_goes_82 rfl (lv_at hl 0 rfl) ?_
          refine lv_iconst (v := 0) hx hb dX9_goes_83 (by decide) ?_
          refine pM_hereOffset X hP hS fl_X9_158 dX9_goes_84 (fun H locs hP hS => ?_)
          obtain ⟨st19, hP, hf⟩ := nm_gen (P := fun z => HW D VM la (EMf cyI la) z H) hP hf
          refine lv_aload_n hx hb dX9_goes_87 rfl (lv_at hl 0 rfl) ?_
          refine lv_iload_n hx hb dX9_goes_88 rfl (lv_at hl 2 rfl) ?_
          refine pM_givenMany X hP hS fl_X9_173 dX9_goes_89 (fun H locs hP hS => ?_)
          obtain ⟨st20, hP, hf⟩ := nm_gen (P := fun z => HW D VM la (EMf cyI la) z H) hP hf
          refine lv_iconst (v := 0) hx hb dX9_goes_92 (by decide) ?_
          refine lv_istore (lv' := [(4, .int (0 : Int32)), (0, .ref (la 9 0)), (1, .int a1), (2, .int a2), (3, .int a3)]) hx hb dX9_goes_93 hl (by decide) rfl (fun ls hl => ?_)
          exact BX9_goes_95 X hr hlk N _ _ _ _ _ _ _  hf hP hS (lv_sub hl [1, 2, 3, 0] rfl)
        · replace hf := (if_neg c8).symm.trans hf
          refine lv_bipush (v := -3) hx hb dX9_goes_34 (by decide) ?_
          obtain ⟨rfl, rfl⟩ := sp_2 hf
          exact w_iret X hr hlk hP hS dX9_goes_36
      · replace hf := (if_pos c7).symm.trans hf
        refine lv_bipush (v := -2) hx hb dX9_goes_21 (by decide) ?_
        obtain ⟨rfl, rfl⟩ := sp_2 hf
        exact w_iret X hr hlk hP hS dX9_goes_23
theorem KX9_goes : xKv yX9_goes cX9_goes 5 (some .int) RX9 3 := ⟨cd_X9_goes, im_X9_goes, se_X9_goes, in_X9, by decide +kernel⟩
abbrev rm_X9_argument : Room := { frames := 0, cells := 0, slots := 0, locals := 0 }
def fX9_argument (N : Nat) (a1 : Int32) (a2 : Int32) (st : xSt) : Option (Int32 × xSt) := nm (pI st 9 0 0 (0 : Int32)) (fun st1 => if a1 < (0 : Int32) then some ((-2 : Int32), st1) else if a1 ≤ (3 : Int32) then if a1 < 0 ∨ 4 ≤ (a1).toNatClampNeg then none else nm (pI st1 30 3 (a1).toNatClampNeg a2) (fun st5 => some ((1 : Int32), st5)) else some ((-2 : Int32), st1))
set_option maxHeartbeats 4000000 in
set_option maxRecDepth 100000 in
theorem TX9_argument (l : Launch) {D : va_G} {la : Nat → Nat → Nat} {cyI cyF cyM : ClassId} {t0 N : Nat} {a1 : Int32} {a2 : Int32} {st : xSt} {r : Int32} {st' : xSt} (hf : fX9_argument N a1 a2 st = some (r, st')) : MetM D cyI cyF cyM la t0 l yX9_argument (Cond.code yX9_argument cX9_argument 3 (some .int) :: xALL) rm_X9_argument [.ref (la 9 0), .int a1, .int a2] (some (.int r)) st st' := by
  refine MetW.intro (own := RX9) (by decide) (Nat.le_of_ble_eq_true rfl) rfl ?_
  intro p e s m below meth c X hr hlk hP ls hl
  have hx := X.1.1
  have hb := X.1.2.1
  have hS : va_S (xA VM la) s.heap s.heap [] := va_S.rf
  unfold fX9_argument at hf
  replace hl : lv_has ls 3 [(0, .ref (la 9 0)), (1, .int a1), (2, .int a2)] := hl
  refine lv_aload_n hx hb dX9_argument_0 rfl (lv_at hl 0 rfl) ?_
  refine lv_iconst (v := 0) hx hb dX9_argument_1 (by decide) ?_
  refine pM_thrown X hP hS fl_X9_77 dX9_argument_2 (fun H locs hP hS => ?_)
  obtain ⟨st1, hP, hf⟩ := nm_gen (P := fun z => HW D VM la (EMf cyI la) z H) hP hf
  refine lv_iload_n hx hb dX9_argument_5 rfl (lv_at hl 1 rfl) ?_
  refine lv_if_lt (tgt := 14) hx hb dX9_argument_6 (by decide) (fun c2 => ?_) (fun c2 => ?_)
  · replace hf := (if_pos c2).symm.trans hf
    refine lv_bipush (v := -2) hx hb dX9_argument_14 (by decide) ?_
    obtain ⟨rfl, rfl⟩ := sp_2 hf
    exact w_iret X hr hlk hP hS dX9_argument_16
  · replace hf := (if_neg c2).symm.trans hf
    refine lv_iload_n hx hb dX9_argument_9 rfl (lv_at hl 1 rfl) ?_
    refine lv_iconst (v := 3) hx hb dX9_argument_10 (by decide) ?_
    refine lv_icmp_le (tgt := 17) hx hb dX9_argument_11 (by decide) (fun c3 => ?_) (fun c3 => ?_)
    · replace hf := (if_pos c3).symm.trans hf
      refine lv_aload_n hx hb dX9_argument_17 rfl (lv_at hl 0 rfl) ?_
      refine gM_arguments X hP fl_X9_16 dX9_argument_18 ?_
      refine lv_iload_n hx hb dX9_argument_21 rfl (lv_at hl 1 rfl) ?_
      refine lv_iload_n hx hb dX9_argument_22 rfl (lv_at hl 2 rfl) ?_
      obtain ⟨hn4, hf⟩ := ck_of hf
      refine w_iast X hP hS (c0 := 30) (i0 := 3) (show 0 < lenM 3 by decide) (n := 4) (fun _ => rfl) hn4 dX9_argument_23 (fun H locs hP hS => ?_)
      obtain ⟨st5, hP, hf⟩ := nm_gen (P := fun z => HW D VM la (EMf cyI la) z H) hP hf
      refine lv_iconst (v := 1) hx hb dX9_argument_24 (by decide) ?_
      obtain ⟨rfl, rfl⟩ := sp_2 hf
      exact w_iret X hr hlk hP hS dX9_argument_25
    · replace hf := (if_neg c3).symm.trans hf
      refine lv_bipush (v := -2) hx hb dX9_argument_14 (by decide) ?_
      obtain ⟨rfl, rfl⟩ := sp_2 hf
      exact w_iret X hr hlk hP hS dX9_argument_16
theorem KX9_argument : xKv yX9_argument cX9_argument 3 (some .int) RX9 2 := ⟨cd_X9_argument, im_X9_argument, se_X9_argument, in_X9, by decide +kernel⟩
abbrev rm_X9_call : Room := { frames := 6, cells := 0, slots := 0, locals := 136 }
def fX9_call (N : Nat) (a1 : Int32) (a2 : Int32) (st : xSt) : Option (Int32 × xSt) := bd (fX9_goes N a1 a2 (1 : Int32) st) (fun v3 st1 => some (v3, st1))
set_option maxHeartbeats 4000000 in
set_option maxRecDepth 100000 in
theorem TX9_call (l : Launch) {D : va_G} {la : Nat → Nat → Nat} {cyI cyF cyM : ClassId} {t0 N : Nat} {a1 : Int32} {a2 : Int32} {st : xSt} {r : Int32} {st' : xSt} (hf : fX9_call N a1 a2 st = some (r, st')) : MetM D cyI cyF cyM la t0 l yX9_call (Cond.code yX9_call cX9_call 3 (some .int) :: xALL) rm_X9_call [.ref (la 9 0), .int a1, .int a2] (some (.int r)) st st' := by
  refine MetW.intro (own := RX9) (by decide) (Nat.le_of_ble_eq_true rfl) rfl ?_
  intro p e s m below meth c X hr hlk hP ls hl
  have hx := X.1.1
  have hb := X.1.2.1
  have hS : va_S (xA VM la) s.heap s.heap [] := va_S.rf
  unfold fX9_call at hf
  replace hl : lv_has ls 3 [(0, .ref (la 9 0)), (1, .int a1), (2, .int a2)] := hl
  refine lv_aload_n hx hb dX9_call_0 rfl (lv_at hl 0 rfl) ?_
  refine lv_iload_n hx hb dX9_call_1 rfl (lv_at hl 1 rfl) ?_
  refine lv_iload_n hx hb dX9_call_2 rfl (lv_at hl 2 rfl) ?_
  refine lv_iconst (v := 1) hx hb dX9_call_3 (by decide) ?_
  obtain ⟨v3, st1, hr2, hf⟩ := bd_2 hf
  refine w_V1 X (TX9_goes l hr2) hP hS rfl KX9_goes ml_X9_239 ⟨rfl, rfl⟩ ⟨by decide, by decide⟩ (x_recv (E := fun c i => (EMf cyI la) (st.1 c i) st.2 c i) (c0 := 9) (i0 := 0) X.2.2.1 hP rfl (ci := 9) rfl rfl) rfl hl.1 (Nat.le_of_ble_eq_true rfl) dX9_call_4 (fun H locs hP hS => ?_)
  obtain ⟨rfl, rfl⟩ := sp_2 hf
  exact w_iret X hr hlk hP hS dX9_call_7
theorem KX9_call : xKv yX9_call cX9_call 3 (some .int) RX9 2 := ⟨cd_X9_call, im_X9_call, se_X9_call, in_X9, by decide +kernel⟩
abbrev rm_X9_walk : Room := { frames := 6, cells := 0, slots := 0, locals := 136 }
def fX9_walk (N : Nat) (a1 : Int32) (a2 : Int32) (st : xSt) : Option (Int32 × xSt) := bd (fX9_goes N a1 a2 (0 : Int32) st) (fun v3 st1 => some (v3, st1))
set_option maxHeartbeats 4000000 in
set_option maxRecDepth 100000 in
theorem TX9_walk (l : Launch) {D : va_G} {la : Nat → Nat → Nat} {cyI cyF cyM : ClassId} {t0 N : Nat} {a1 : Int32} {a2 : Int32} {st : xSt} {r : Int32} {st' : xSt} (hf : fX9_walk N a1 a2 st = some (r, st')) : MetM D cyI cyF cyM la t0 l yX9_walk (Cond.code yX9_walk cX9_walk 3 (some .int) :: xALL) rm_X9_walk [.ref (la 9 0), .int a1, .int a2] (some (.int r)) st st' := by
  refine MetW.intro (own := RX9) (by decide) (Nat.le_of_ble_eq_true rfl) rfl ?_
  intro p e s m below meth c X hr hlk hP ls hl
  have hx := X.1.1
  have hb := X.1.2.1
  have hS : va_S (xA VM la) s.heap s.heap [] := va_S.rf
  unfold fX9_walk at hf
  replace hl : lv_has ls 3 [(0, .ref (la 9 0)), (1, .int a1), (2, .int a2)] := hl
  refine lv_aload_n hx hb dX9_walk_0 rfl (lv_at hl 0 rfl) ?_
  refine lv_iload_n hx hb dX9_walk_1 rfl (lv_at hl 1 rfl) ?_
  refine lv_iload_n hx hb dX9_walk_2 rfl (lv_at hl 2 rfl) ?_
  refine lv_iconst (v := 0) hx hb dX9_walk_3 (by decide) ?_
  obtain ⟨v3, st1, hr2, hf⟩ := bd_2 hf
  refine w_V1 X (TX9_goes l hr2) hP hS rfl KX9_goes ml_X9_239 ⟨rfl, rfl⟩ ⟨by decide, by decide⟩ (x_recv (E := fun c i => (EMf cyI la) (st.1 c i) st.2 c i) (c0 := 9) (i0 := 0) X.2.2.1 hP rfl (ci := 9) rfl rfl) rfl hl.1 (Nat.le_of_ble_eq_true rfl) dX9_walk_4 (fun H locs hP hS => ?_)
  obtain ⟨rfl, rfl⟩ := sp_2 hf
  exact w_iret X hr hlk hP hS dX9_walk_7
theorem KX9_walk : xKv yX9_walk cX9_walk 3 (some .int) RX9 2 := ⟨cd_X9_walk, im_X9_walk, se_X9_walk, in_X9, by decide +kernel⟩
abbrev rm_X9_result : Room := { frames := 0, cells := 0, slots := 0, locals := 0 }
def fX9_result (N : Nat) (st : xSt) : Option (Int32 × xSt) := nm (pI st 9 0 0 (0 : Int32)) (fun st1 => some ((st1.1 9 0 44), st1))
set_option maxHeartbeats 4000000 in
set_option maxRecDepth 100000 in
theorem TX9_result (l : Launch) {D : va_G} {la : Nat → Nat → Nat} {cyI cyF cyM : ClassId} {t0 N : Nat} {st : xSt} {r : Int32} {st' : xSt} (hf : fX9_result N st = some (r, st')) : MetM D cyI cyF cyM la t0 l yX9_result (Cond.code yX9_result cX9_result 1 (some .int) :: xALL) rm_X9_result [.ref (la 9 0)] (some (.int r)) st st' := by
  refine MetW.intro (own := RX9) (by decide) (Nat.le_of_ble_eq_true rfl) rfl ?_
  intro p e s m below meth c X hr hlk hP ls hl
  have hx := X.1.1
  have hb := X.1.2.1
  have hS : va_S (xA VM la) s.heap s.heap [] := va_S.rf
  unfold fX9_result at hf
  replace hl : lv_has ls 1 [(0, .ref (la 9 0))] := hl
  refine lv_aload_n hx hb dX9_result_0 rfl (lv_at hl 0 rfl) ?_
  refine lv_iconst (v := 0) hx hb dX9_result_1 (by decide) ?_
  refine pM_thrown X hP hS fl_X9_77 dX9_result_2 (fun H locs hP hS => ?_)
  obtain ⟨st1, hP, hf⟩ := nm_gen (P := fun z => HW D VM la (EMf cyI la) z H) hP hf
  refine lv_aload_n hx hb dX9_result_5 rfl (lv_at hl 0 rfl) ?_
  refine gM_result X hP fl_X9_186 dX9_result_6 ?_
  obtain ⟨rfl, rfl⟩ := sp_2 hf
  exact w_iret X hr hlk hP hS dX9_result_9
theorem KX9_result : xKv yX9_result cX9_result 1 (some .int) RX9 0 := ⟨cd_X9_result, im_X9_result, se_X9_result, in_X9, by decide +kernel⟩
abbrev rm_X9_fault : Room := { frames := 0, cells := 0, slots := 0, locals := 0 }
def fX9_fault (N : Nat) (a1 : Int32) (st : xSt) : Option (Int32 × xSt) := nm (pI st 9 0 0 (0 : Int32)) (fun st1 => if a1 = (0 : Int32) then some ((st1.1 9 0 41), st1) else if a1 = (1 : Int32) then some ((st1.1 9 0 42), st1) else if a1 = (2 : Int32) then some ((st1.1 9 0 43), st1) else some ((-2 : Int32), st1))
set_option maxHeartbeats 4000000 in
set_option maxRecDepth 100000 in
theorem TX9_fault (l : Launch) {D : va_G} {la : Nat → Nat → Nat} {cyI cyF cyM : ClassId} {t0 N : Nat} {a1 : Int32} {st : xSt} {r : Int32} {st' : xSt} (hf : fX9_fault N a1 st = some (r, st')) : MetM D cyI cyF cyM la t0 l yX9_fault (Cond.code yX9_fault cX9_fault 2 (some .int) :: xALL) rm_X9_fault [.ref (la 9 0), .int a1] (some (.int r)) st st' := by
  refine MetW.intro (own := RX9) (by decide) (Nat.le_of_ble_eq_true rfl) rfl ?_
  intro p e s m below meth c X hr hlk hP ls hl
  have hx := X.1.1
  have hb := X.1.2.1
  have hS : va_S (xA VM la) s.heap s.heap [] := va_S.rf
  unfold fX9_fault at hf
  replace hl : lv_has ls 2 [(0, .ref (la 9 0)), (1, .int a1)] := hl
  refine lv_aload_n hx hb dX9_fault_0 rfl (lv_at hl 0 rfl) ?_
  refine lv_iconst (v := 0) hx hb dX9_fault_1 (by decide) ?_
  refine pM_thrown X hP hS fl_X9_77 dX9_fault_2 (fun H locs hP hS => ?_)
  obtain ⟨st1, hP, hf⟩ := nm_gen (P := fun z => HW D VM la (EMf cyI la) z H) hP hf
  refine lv_iload_n hx hb dX9_fault_5 rfl (lv_at hl 1 rfl) ?_
  refine lv_if_ne (tgt := 16) hx hb dX9_fault_6 (by decide) (fun c2 => ?_) (fun c2 => ?_)
  · replace hf := (if_neg c2).symm.trans hf
    refine lv_iload_n hx hb dX9_fault_16 rfl (lv_at hl 1 rfl) ?_
    refine lv_iconst (v := 1) hx hb dX9_fault_17 (by decide) ?_
    refine lv_icmp_ne (tgt := 28) hx hb dX9_fault_18 (by decide) (fun c3 => ?_) (fun c3 => ?_)
    · replace hf := (if_neg c3).symm.trans hf
      refine lv_iload_n hx hb dX9_fault_28 rfl (lv_at hl 1 rfl) ?_
      refine lv_iconst (v := 2) hx hb dX9_fault_29 (by decide) ?_
      refine lv_icmp_ne (tgt := 40) hx hb dX9_fault_30 (by decide) (fun c4 => ?_) (fun c4 => ?_)
      · replace hf := (if_neg c4).symm.trans hf
        refine lv_bipush (v := -2) hx hb dX9_fault_40 (by decide) ?_
        obtain ⟨rfl, rfl⟩ := sp_2 hf
        exact w_iret X hr hlk hP hS dX9_fault_42
      · replace hf := (if_pos c4).symm.trans hf
        refine lv_aload_n hx hb dX9_fault_33 rfl (lv_at hl 0 rfl) ?_
        refine gM_faultNumber X hP fl_X9_199 dX9_fault_34 ?_
        refine lv_goto (tgt := 42) hx hb dX9_fault_37 (by decide) ?_
        obtain ⟨rfl, rfl⟩ := sp_2 hf
        exact w_iret X hr hlk hP hS dX9_fault_42
    · replace hf := (if_pos c3).symm.trans hf
      refine lv_aload_n hx hb dX9_fault_21 rfl (lv_at hl 0 rfl) ?_
      refine gM_faultOffset X hP fl_X9_71 dX9_fault_22 ?_
      refine lv_goto (tgt := 42) hx hb dX9_fault_25 (by decide) ?_
      obtain ⟨rfl, rfl⟩ := sp_2 hf
      exact w_iret X hr hlk hP hS dX9_fault_42
  · replace hf := (if_pos c2).symm.trans hf
    refine lv_aload_n hx hb dX9_fault_9 rfl (lv_at hl 0 rfl) ?_
    refine gM_faultAddress X hP fl_X9_68 dX9_fault_10 ?_
    refine lv_goto (tgt := 42) hx hb dX9_fault_13 (by decide) ?_
    obtain ⟨rfl, rfl⟩ := sp_2 hf
    exact w_iret X hr hlk hP hS dX9_fault_42
theorem KX9_fault : xKv yX9_fault cX9_fault 2 (some .int) RX9 1 := ⟨cd_X9_fault, im_X9_fault, se_X9_fault, in_X9, by decide +kernel⟩
abbrev rm_X9_accelerate : Room := { frames := 1, cells := 0, slots := 0, locals := 20 }
def fX9_accelerate (N : Nat) (a1 : Int32) (a2 : Int32) (st : xSt) : Option (Int32 × xSt) := nm (pI st 9 0 0 (0 : Int32)) (fun st1 => bd (fX9_isAddress N a1 st1) (fun v4 st2 => if v4 = (0 : Int32) then some ((-2 : Int32), st2) else if a2 < (0 : Int32) then some ((-2 : Int32), st2) else if a2 ≤ (4 : Int32) then if (a1 / (4 : Int32)) < 0 ∨ 256 ≤ ((a1 / (4 : Int32))).toNatClampNeg then none else nm (st2.1 30 4 ((a1 / (4 : Int32))).toNatClampNeg) (fun x9 => if (a1 / (4 : Int32)) < 0 ∨ 256 ≤ ((a1 / (4 : Int32))).toNatClampNeg then none else nm (pI st2 30 4 ((a1 / (4 : Int32))).toNatClampNeg a2) (fun st11 => some (x9, st11))) else some ((-2 : Int32), st2)))
set_option maxHeartbeats 4000000 in
set_option maxRecDepth 100000 in
theorem TX9_accelerate (l : Launch) {D : va_G} {la : Nat → Nat → Nat} {cyI cyF cyM : ClassId} {t0 N : Nat} {a1 : Int32} {a2 : Int32} {st : xSt} {r : Int32} {st' : xSt} (hf : fX9_accelerate N a1 a2 st = some (r, st')) : MetM D cyI cyF cyM la t0 l yX9_accelerate (Cond.code yX9_accelerate cX9_accelerate 4 (some .int) :: xALL) rm_X9_accelerate [.ref (la 9 0), .int a1, .int a2] (some (.int r)) st st' := by
  refine MetW.intro (own := RX9) (by decide) (Nat.le_of_ble_eq_true rfl) rfl ?_
  intro p e s m below meth c X hr hlk hP ls hl
  have hx := X.1.1
  have hb := X.1.2.1
  have hS : va_S (xA VM la) s.heap s.heap [] := va_S.rf
  unfold fX9_accelerate at hf
  replace hl : lv_has ls 4 [(0, .ref (la 9 0)), (1, .int a1), (2, .int a2)] := hl
  refine lv_aload_n hx hb dX9_accelerate_0 rfl (lv_at hl 0 rfl) ?_
  refine lv_iconst (v := 0) hx hb dX9_accelerate_1 (by decide) ?_
  refine pM_thrown X hP hS fl_X9_77 dX9_accelerate_2 (fun H locs hP hS => ?_)
  obtain ⟨st1, hP, hf⟩ := nm_gen (P := fun z => HW D VM la (EMf cyI la) z H) hP hf
  refine lv_iload_n hx hb dX9_accelerate_5 rfl (lv_at hl 1 rfl) ?_
  obtain ⟨v4, st2, hr3, hf⟩ := bd_2 hf
  refine w_S1 X (TX9_isAddress l hr3) hP hS rfl KX9_isAddress ml_X9_140 ⟨rfl, rfl⟩ ⟨by decide, by decide⟩ rfl hl.1 (Nat.le_of_ble_eq_true rfl) dX9_accelerate_6 (fun H locs hP hS => ?_)
  refine lv_if_eq (tgt := 21) hx hb dX9_accelerate_9 (by decide) (fun c5 => ?_) (fun c5 => ?_)
  · replace hf := (if_pos c5).symm.trans hf
    refine lv_bipush (v := -2) hx hb dX9_accelerate_21 (by decide) ?_
    obtain ⟨rfl, rfl⟩ := sp_2 hf
    exact w_iret X hr hlk hP hS dX9_accelerate_23
  · replace hf := (if_neg c5).symm.trans hf
    refine lv_iload_n hx hb dX9_accelerate_12 rfl (lv_at hl 2 rfl) ?_
    refine lv_if_lt (tgt := 21) hx hb dX9_accelerate_13 (by decide) (fun c6 => ?_) (fun c6 => ?_)
    · replace hf := (if_pos c6).symm.trans hf
      refine lv_bipush (v := -2) hx hb dX9_accelerate_21 (by decide) ?_
      obtain ⟨rfl, rfl⟩ := sp_2 hf
      exact w_iret X hr hlk hP hS dX9_accelerate_23
    · replace hf := (if_neg c6).symm.trans hf
      refine lv_iload_n hx hb dX9_accelerate_16 rfl (lv_at hl 2 rfl) ?_
      refine lv_iconst (v := 4) hx hb dX9_accelerate_17 (by decide) ?_
      refine lv_icmp_le (tgt := 24) hx hb dX9_accelerate_18 (by decide) (fun c7 => ?_) (fun c7 => ?_)
      · replace hf := (if_pos c7).symm.trans hf
        refine lv_aload_n hx hb dX9_accelerate_24 rfl (lv_at hl 0 rfl) ?_
        refine gM_accelerated X hP fl_X9_19 dX9_accelerate_25 ?_
        refine lv_iload_n hx hb dX9_accelerate_28 rfl (lv_at hl 1 rfl) ?_
        refine lv_iconst (v := 4) hx hb dX9_accelerate_29 (by decide) ?_
        refine lv_idiv hx hb dX9_accelerate_30 (by decide) ?_
        obtain ⟨hn8, hf⟩ := ck_of hf
        refine w_iald X hP (c0 := 30) (i0 := 4) (show 0 < lenM 4 by decide) (n := 256) rfl hn8 dX9_accelerate_31 ?_
        refine lv_topi (fun x9 ex => ?_)
        replace hf := nm_of hf ex
        clear ex
        refine lv_istore_n (lv' := [(3, .int x9), (0, .ref (la 9 0)), (1, .int a1), (2, .int a2)]) hx hb dX9_accelerate_32 rfl hl (by decide) rfl (fun ls hl => ?_)
        refine lv_aload_n hx hb dX9_accelerate_33 rfl (lv_at hl 1 rfl) ?_
        refine gM_accelerated X hP fl_X9_19 dX9_accelerate_34 ?_
        refine lv_iload_n hx hb dX9_accelerate_37 rfl (lv_at hl 2 rfl) ?_
        refine lv_iconst (v := 4) hx hb dX9_accelerate_38 (by decide) ?_
        refine lv_idiv hx hb dX9_accelerate_39 (by decide) ?_
        refine lv_iload_n hx hb dX9_accelerate_40 rfl (lv_at hl 3 rfl) ?_
        obtain ⟨hn10, hf⟩ := ck_of hf
        refine w_iast X hP hS (c0 := 30) (i0 := 4) (show 0 < lenM 4 by decide) (n := 256) (fun _ => rfl) hn10 dX9_accelerate_41 (fun H locs hP hS => ?_)
        obtain ⟨st11, hP, hf⟩ := nm_gen (P := fun z => HW D VM la (EMf cyI la) z H) hP hf
        refine lv_iload_n hx hb dX9_accelerate_42 rfl (lv_at hl 0 rfl) ?_
        obtain ⟨rfl, rfl⟩ := sp_2 hf
        exact w_iret X hr hlk hP hS dX9_accelerate_43
      · replace hf := (if_neg c7).symm.trans hf
        refine lv_bipush (v := -2) hx hb dX9_accelerate_21 (by decide) ?_
        obtain ⟨rfl, rfl⟩ := sp_2 hf
        exact w_iret X hr hlk hP hS dX9_accelerate_23
theorem KX9_accelerate : xKv yX9_accelerate cX9_accelerate 4 (some .int) RX9 2 := ⟨cd_X9_accelerate, im_X9_accelerate, se_X9_accelerate, in_X9, by decide +kernel⟩
abbrev rm_X9_kept : Room := { frames := 0, cells := 0, slots := 0, locals := 0 }
def fX9_kept (N : Nat) (a1 : Int32) (st : xSt) : Option (Int32 × xSt) := nm (pI st 9 0 0 (0 : Int32)) (fun st1 => if a1 < (0 : Int32) then some ((-1 : Int32), st1) else if (st1.1 9 0 6) ≤ a1 then some ((-1 : Int32), st1) else if a1 < 0 ∨ 21 ≤ (a1).toNatClampNeg then none else some ((st1.1 30 7 (a1).toNatClampNeg), st1))
set_option maxHeartbeats 4000000 in
set_option maxRecDepth 100000 in
theorem TX9_kept (l : Launch) {D : va_G} {la : Nat → Nat → Nat} {cyI cyF cyM : ClassId} {t0 N : Nat} {a1 : Int32} {st : xSt} {r : Int32} {st' : xSt} (hf : fX9_kept N a1 st = some (r, st')) : MetM D cyI cyF cyM la t0 l yX9_kept (Cond.code yX9_kept cX9_kept 2 (some .int) :: xALL) rm_X9_kept [.ref (la 9 0), .int a1] (some (.int r)) st st' := by
  refine MetW.intro (own := RX9) (by decide) (Nat.le_of_ble_eq_true rfl) rfl ?_
  intro p e s m below meth c X hr hlk hP ls hl
  have hx := X.1.1
  have hb := X.1.2.1
  have hS : va_S (xA VM la) s.heap s.heap [] := va_S.rf
  unfold fX9_kept at hf
  replace hl : lv_has ls 2 [(0, .ref (la 9 0)), (1, .int a1)] := hl
  refine lv_aload_n hx hb dX9_kept_0 rfl (lv_at hl 0 rfl) ?_
  refine lv_iconst (v := 0) hx hb dX9_kept_1 (by decide) ?_
  refine pM_thrown X hP hS fl_X9_77 dX9_kept_2 (fun H locs hP hS => ?_)
  obtain ⟨st1, hP, hf⟩ := nm_gen (P := fun z => HW D VM la (EMf cyI la) z H) hP hf
  refine lv_iload_n hx hb dX9_kept_5 rfl (lv_at hl 1 rfl) ?_
  refine lv_if_lt (tgt := 26) hx hb dX9_kept_6 (by decide) (fun c2 => ?_) (fun c2 => ?_)
  · replace hf := (if_pos c2).symm.trans hf
    refine lv_iconst (v := -1) hx hb dX9_kept_26 (by decide) ?_
    obtain ⟨rfl, rfl⟩ := sp_2 hf
    exact w_iret X hr hlk hP hS dX9_kept_27
  · replace hf := (if_neg c2).symm.trans hf
    refine lv_iload_n hx hb dX9_kept_9 rfl (lv_at hl 1 rfl) ?_
    refine lv_aload_n hx hb dX9_kept_10 rfl (lv_at hl 0 rfl) ?_
    refine gM_kept X hP fl_X9_80 dX9_kept_11 ?_
    refine lv_icmp_ge (tgt := 26) hx hb dX9_kept_14 (by decide) (fun c3 => ?_) (fun c3 => ?_)
    · replace hf := (if_pos c3).symm.trans hf
      refine lv_iconst (v := -1) hx hb dX9_kept_26 (by decide) ?_
      obtain ⟨rfl, rfl⟩ := sp_2 hf
      exact w_iret X hr hlk hP hS dX9_kept_27
    · replace hf := (if_neg c3).symm.trans hf
      refine lv_aload_n hx hb dX9_kept_17 rfl (lv_at hl 0 rfl) ?_
      refine gM_keptAddress X hP fl_X9_22 dX9_kept_18 ?_
      refine lv_iload_n hx hb dX9_kept_21 rfl (lv_at hl 1 rfl) ?_
      obtain ⟨hn4, hf⟩ := ck_of hf
      refine w_iald X hP (c0 := 30) (i0 := 7) (show 0 < lenM 7 by decide) (n := 21) rfl hn4 dX9_kept_22 ?_
      refine lv_goto (tgt := 27) hx hb dX9_kept_23 (by decide) ?_
      obtain ⟨rfl, rfl⟩ := sp_2 hf
      exact w_iret X hr hlk hP hS dX9_kept_27
theorem KX9_kept : xKv yX9_kept cX9_kept 2 (some .int) RX9 1 := ⟨cd_X9_kept, im_X9_kept, se_X9_kept, in_X9, by decide +kernel⟩
abbrev rm_X9_drop : Room := { frames := 2, cells := 0, slots := 0, locals := 45 }
def fX9_drop_b15 (N : Nat) (st : xSt) : Option (Int32 × xSt) := some ((-2 : Int32), st)
set_option maxHeartbeats 4000000 in
set_option maxRecDepth 100000 in
theorem BX9_drop_15 {p : Program} {l : Launch} {e : Env} {s : State} {m : MethodId} {args : Array Value} {below : List Frame} {meth : Method} {c : Code} {D : va_G} {la : Nat → Nat → Nat} {cyI cyF cyM : ClassId} {t0 N : Nat} {r : Int32} {st' : xSt} (X : xCx D VM la cyI cyF cyM t0 p m c cX9_drop 2 s args RX9) (hr : meth.sig.returnType = (some .int)) (hlk : meth.locks = false) : ∀ (st : xSt) (H : Heap) (locs : List Loc) (ls : Array Slot), fX9_drop_b15 N st = some (r, st') → HW D VM la (EMf cyI la) st H → va_S (xA VM la) s.heap H locs → lv_has ls 2 [] → W p l e rm_X9_drop s m args below meth c H locs 0 0 (MQ below (xQc D VM la (EMf cyI la) (some (.int r)) st') args s 0 0 (xA VM la)) (F0 m 15 ls []) := by
  have hx := X.1.1
  have hb := X.1.2.1
  intro st H locs ls hf hP hS hl
  unfold fX9_drop_b15 at hf
  refine lv_bipush (v := -2) hx hb dX9_drop_15 (by decide) ?_
  refine lv_goto (tgt := 25) hx hb dX9_drop_17 (by decide) ?_
  obtain ⟨rfl, rfl⟩ := sp_2 hf
  exact w_iret X hr hlk hP hS dX9_drop_25
def fX9_drop (N : Nat) (a1 : Int32) (st : xSt) : Option (Int32 × xSt) := nm (pI st 9 0 0 (0 : Int32)) (fun st1 => if a1 < (0 : Int32) then fX9_drop_b15 N st1 else if a1 ≤ (15 : Int32) then bd (fX9_dropPage N a1 st1) (fun v6 st4 => some (v6, st4)) else fX9_drop_b15 N st1)
set_option maxHeartbeats 4000000 in
set_option maxRecDepth 100000 in
theorem TX9_drop (l : Launch) {D : va_G} {la : Nat → Nat → Nat} {cyI cyF cyM : ClassId} {t0 N : Nat} {a1 : Int32} {st : xSt} {r : Int32} {st' : xSt} (hf : fX9_drop N a1 st = some (r, st')) : MetM D cyI cyF cyM la t0 l yX9_drop (Cond.code yX9_drop cX9_drop 2 (some .int) :: xALL) rm_X9_drop [.ref (la 9 0), .int a1] (some (.int r)) st st' := by
  refine MetW.intro (own := RX9) (by decide) (Nat.le_of_ble_eq_true rfl) rfl ?_
  intro p e s m below meth c X hr hlk hP ls hl
  have hx := X.1.1
  have hb := X.1.2.1
  have hS : va_S (xA VM la) s.heap s.heap [] := va_S.rf
  unfold fX9_drop at hf
  replace hl : lv_has ls 2 [(0, .ref (la 9 0)), (1, .int a1)] := hl
  refine lv_aload_n hx hb dX9_drop_0 rfl (lv_at hl 0 rfl) ?_
  refine lv_iconst (v := 0) hx hb dX9_drop_1 (by decide) ?_
  refine pM_thrown X hP hS fl_X9_77 dX9_drop_2 (fun H locs hP hS => ?_)
  obtain ⟨st1, hP, hf⟩ := nm_gen (P := fun z => HW D VM la (EMf cyI la) z H) hP hf
  refine lv_iload_n hx hb dX9_drop_5 rfl (lv_at hl 1 rfl) ?_
  refine lv_if_lt (tgt := 15) hx hb dX9_drop_6 (by decide) (fun c2 => ?_) (fun c2 => ?_)
  · replace hf := (if_pos c2).symm.trans hf
    exact BX9_drop_15 X hr hlk _ _ _ _  hf hP hS (lv_sub hl [] rfl)
  · replace hf := (if_neg c2).symm.trans hf
    refine lv_iload_n hx hb dX9_drop_9 rfl (lv_at hl 1 rfl) ?_
    refine lv_bipush (v := 15) hx hb dX9_drop_10 (by decide) ?_
    refine lv_icmp_le (tgt := 20) hx hb dX9_drop_12 (by decide) (fun c3 => ?_) (fun c3 => ?_)
    · replace hf := (if_pos c3).symm.trans hf
      refine lv_aload_n hx hb dX9_drop_20 rfl (lv_at hl 0 rfl) ?_
      refine lv_iload_n hx hb dX9_drop_21 rfl (lv_at hl 1 rfl) ?_
      obtain ⟨v6, st4, hr5, hf⟩ := bd_2 hf
      refine w_V1 X (TX9_dropPage l hr5) hP hS rfl KX9_dropPage ml_X9_90 ⟨rfl, rfl⟩ ⟨by decide, by decide⟩ (x_recv (E := fun c i => (EMf cyI la) (st1.1 c i) st1.2 c i) (c0 := 9) (i0 := 0) X.2.2.1 hP rfl (ci := 9) rfl rfl) rfl hl.1 (Nat.le_of_ble_eq_true rfl) dX9_drop_22 (fun H locs hP hS => ?_)
      obtain ⟨rfl, rfl⟩ := sp_2 hf
      exact w_iret X hr hlk hP hS dX9_drop_25
    · replace hf := (if_neg c3).symm.trans hf
      exact BX9_drop_15 X hr hlk _ _ _ _  hf hP hS (lv_sub hl [] rfl)
theorem KX9_drop : xKv yX9_drop cX9_drop 2 (some .int) RX9 1 := ⟨cd_X9_drop, im_X9_drop, se_X9_drop, in_X9, by decide +kernel⟩
abbrev rm_X9_count : Room := { frames := 0, cells := 0, slots := 0, locals := 0 }
def fX9_count (N : Nat) (a1 : Int32) (st : xSt) : Option (Int32 × xSt) := nm (pI st 9 0 0 (0 : Int32)) (fun st1 => if a1 = (0 : Int32) then some ((st1.1 9 0 11), st1) else if a1 = (1 : Int32) then some ((st1.1 9 0 12), st1) else if a1 = (2 : Int32) then some ((st1.1 9 0 13), st1) else if a1 = (3 : Int32) then some ((st1.1 9 0 14), st1) else if a1 = (4 : Int32) then some ((st1.1 9 0 15), st1) else if a1 = (5 : Int32) then some ((st1.1 9 0 16), st1) else if a1 = (6 : Int32) then some ((st1.1 9 0 17), st1) else if a1 = (7 : Int32) then some ((st1.1 9 0 18), st1) else some ((-2 : Int32), st1))
set_option maxHeartbeats 4000000 in
set_option maxRecDepth 100000 in
theorem TX9_count (l : Launch) {D : va_G} {la : Nat → Nat → Nat} {cyI cyF cyM : ClassId} {t0 N : Nat} {a1 : Int32} {st : xSt} {r : Int32} {st' : xSt} (hf : fX9_count N a1 st = some (r, st')) : MetM D cyI cyF cyM la t0 l yX9_count (Cond.code yX9_count cX9_count 2 (some .int) :: xALL) rm_X9_count [.ref (la 9 0), .int a1] (some (.int r)) st st' := by
  refine MetW.intro (own := RX9) (by decide) (Nat.le_of_ble_eq_true rfl) rfl ?_
  intro p e s m below meth c X hr hlk hP ls hl
  have hx := X.1.1
  have hb := X.1.2.1
  have hS : va_S (xA VM la) s.heap s.heap [] := va_S.rf
  unfold fX9_count at hf
  replace hl : lv_has ls 2 [(0, .ref (la 9 0)), (1, .int a1)] := hl
  refine lv_aload_n hx hb dX9_count_0 rfl (lv_at hl 0 rfl) ?_
  refine lv_iconst (v := 0) hx hb dX9_count_1 (by decide) ?_
  refine pM_thrown X hP hS fl_X9_77 dX9_count_2 (fun H locs hP hS => ?_)
  obtain ⟨st1, hP, hf⟩ := nm_gen (P := fun z => HW D VM la (EMf cyI la) z H) hP hf
  refine lv_iload_n hx hb dX9_count_5 rfl (lv_at hl 1 rfl) ?_
  by_cases c2 : a1 = (0 : Int32)
  · replace hf := (if_pos c2).symm.trans hf
    refine w_stk (st1 := .int (0 : Int32) :: _) (by rw [c2]) ?_
    refine lv_tableIn (off := 46) (tgt := 52) hx hb dX9_count_6 (by decide) (by decide) (by decide) (by decide) ?_
    refine lv_aload_n hx hb dX9_count_52 rfl (lv_at hl 0 rfl) ?_
    refine gM_made X hP fl_X9_149 dX9_count_53 ?_
    obtain ⟨rfl, rfl⟩ := sp_2 hf
    exact w_iret X hr hlk hP hS dX9_count_56
  replace hf := (if_neg c2).symm.trans hf
  by_cases c3 : a1 = (1 : Int32)
  · replace hf := (if_pos c3).symm.trans hf
    refine w_stk (st1 := .int (1 : Int32) :: _) (by rw [c3]) ?_
    refine lv_tableIn (off := 51) (tgt := 57) hx hb dX9_count_6 (by decide) (by decide) (by decide) (by decide) ?_
    refine lv_aload_n hx hb dX9_count_57 rfl (lv_at hl 0 rfl) ?_
    refine gM_dropped X hP fl_X9_83 dX9_count_58 ?_
    obtain ⟨rfl, rfl⟩ := sp_2 hf
    exact w_iret X hr hlk hP hS dX9_count_61
  replace hf := (if_neg c3).symm.trans hf
  by_cases c4 : a1 = (2 : Int32)
  · replace hf := (if_pos c4).symm.trans hf
    refine w_stk (st1 := .int (2 : Int32) :: _) (by rw [c4]) ?_
    refine lv_tableIn (off := 56) (tgt := 62) hx hb dX9_count_6 (by decide) (by decide) (by decide) (by decide) ?_
    refine lv_aload_n hx hb dX9_count_62 rfl (lv_at hl 0 rfl) ?_
    refine gM_stepsEver X hP fl_X9_170 dX9_count_63 ?_
    obtain ⟨rfl, rfl⟩ := sp_2 hf
    exact w_iret X hr hlk hP hS dX9_count_66
  replace hf := (if_neg c4).symm.trans hf
  by_cases c5 : a1 = (3 : Int32)
  · replace hf := (if_pos c5).symm.trans hf
    refine w_stk (st1 := .int (3 : Int32) :: _) (by rw [c5]) ?_
    refine lv_tableIn (off := 61) (tgt := 67) hx hb dX9_count_6 (by decide) (by decide) (by decide) (by decide) ?_
    refine lv_aload_n hx hb dX9_count_67 rfl (lv_at hl 0 rfl) ?_
    refine gM_stepsMade X hP fl_X9_224 dX9_count_68 ?_
    obtain ⟨rfl, rfl⟩ := sp_2 hf
    exact w_iret X hr hlk hP hS dX9_count_71
  replace hf := (if_neg c5).symm.trans hf
  by_cases c6 : a1 = (4 : Int32)
  · replace hf := (if_pos c6).symm.trans hf
    refine w_stk (st1 := .int (4 : Int32) :: _) (by rw [c6]) ?_
    refine lv_tableIn (off := 66) (tgt := 72) hx hb dX9_count_6 (by decide) (by decide) (by decide) (by decide) ?_
    refine lv_aload_n hx hb dX9_count_72 rfl (lv_at hl 0 rfl) ?_
    refine gM_callsEver X hP fl_X9_193 dX9_count_73 ?_
    obtain ⟨rfl, rfl⟩ := sp_2 hf
    exact w_iret X hr hlk hP hS dX9_count_76
  replace hf := (if_neg c6).symm.trans hf
  by_cases c7 : a1 = (5 : Int32)
  · replace hf := (if_pos c7).symm.trans hf
    refine w_stk (st1 := .int (5 : Int32) :: _) (by rw [c7]) ?_
    refine lv_tableIn (off := 71) (tgt := 77) hx hb dX9_count_6 (by decide) (by decide) (by decide) (by decide) ?_
    refine lv_aload_n hx hb dX9_count_77 rfl (lv_at hl 0 rfl) ?_
    refine gM_callsMade X hP fl_X9_196 dX9_count_78 ?_
    obtain ⟨rfl, rfl⟩ := sp_2 hf
    exact w_iret X hr hlk hP hS dX9_count_81
  replace hf := (if_neg c7).symm.trans hf
  by_cases c8 : a1 = (6 : Int32)
  · replace hf := (if_pos c8).symm.trans hf
    refine w_stk (st1 := .int (6 : Int32) :: _) (by rw [c8]) ?_
    refine lv_tableIn (off := 76) (tgt := 82) hx hb dX9_count_6 (by decide) (by decide) (by decide) (by decide) ?_
    refine lv_aload_n hx hb dX9_count_82 rfl (lv_at hl 0 rfl) ?_
    refine gM_faults X hP fl_X9_233 dX9_count_83 ?_
    obtain ⟨rfl, rfl⟩ := sp_2 hf
    exact w_iret X hr hlk hP hS dX9_count_86
  replace hf := (if_neg c8).symm.trans hf
  by_cases c9 : a1 = (7 : Int32)
  · replace hf := (if_pos c9).symm.trans hf
    refine w_stk (st1 := .int (7 : Int32) :: _) (by rw [c9]) ?_
    refine lv_tableIn (off := 81) (tgt := 87) hx hb dX9_count_6 (by decide) (by decide) (by decide) (by decide) ?_
    refine lv_aload_n hx hb dX9_count_87 rfl (lv_at hl 0 rfl) ?_
    refine gM_caught X hP fl_X9_202 dX9_count_88 ?_
    obtain ⟨rfl, rfl⟩ := sp_2 hf
    exact w_iret X hr hlk hP hS dX9_count_91
  replace hf := (if_neg c9).symm.trans hf
  have gc2 := lv_neT c2 (show ((0 : Int32)).toInt = 0 by decide)
  have gc3 := lv_neT c3 (show ((1 : Int32)).toInt = 1 by decide)
  have gc4 := lv_neT c4 (show ((2 : Int32)).toInt = 2 by decide)
  have gc5 := lv_neT c5 (show ((3 : Int32)).toInt = 3 by decide)
  have gc6 := lv_neT c6 (show ((4 : Int32)).toInt = 4 by decide)
  have gc7 := lv_neT c7 (show ((5 : Int32)).toInt = 5 by decide)
  have gc8 := lv_neT c8 (show ((6 : Int32)).toInt = 6 by decide)
  have gc9 := lv_neT c9 (show ((7 : Int32)).toInt = 7 by decide)
  refine lv_tableOut (tgt := 92) hx hb dX9_count_6 (by omega) (by decide) ?_
  clear gc2 gc3 gc4 gc5 gc6 gc7 gc8 gc9
  refine lv_bipush (v := -2) hx hb dX9_count_92 (by decide) ?_
  obtain ⟨rfl, rfl⟩ := sp_2 hf
  exact w_iret X hr hlk hP hS dX9_count_94
theorem KX9_count : xKv yX9_count cX9_count 2 (some .int) RX9 1 := ⟨cd_X9_count, im_X9_count, se_X9_count, in_X9, by decide +kernel⟩
