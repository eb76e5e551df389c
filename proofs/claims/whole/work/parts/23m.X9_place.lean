abbrev rm_X9_place : Room := { frames := 0, cells := 0, slots := 0, locals := 0 }
def fX9_place (N : Nat) (st : xSt) : Option (Int32 × xSt) := nm (pI st 9 0 0 (0 : Int32)) (fun st1 => some ((st1.1 9 0 10), st1))
set_option maxHeartbeats 4000000 in
set_option maxRecDepth 100000 in
theorem TX9_place (l : Launch) {D : va_G} {la : Nat → Nat → Nat} {cyI cyF cyM : ClassId} {t0 N : Nat} {st : xSt} {r : Int32} {st' : xSt} (hf : fX9_place N st = some (r, st')) : MetM D cyI cyF cyM la t0 l yX9_place (Cond.code yX9_place cX9_place 1 (some .int) :: xALL) rm_X9_place [.ref (la 9 0)] (some (.int r)) st st' := by
  refine MetW.intro (own := RX9) (by decide) (Nat.le_of_ble_eq_true rfl) rfl ?_
  intro p e s m below meth c X hr hlk hP ls hl
  have hx := X.1.1
  have hb := X.1.2.1
  have hS : va_S (xA VM la) s.heap s.heap [] := va_S.rf
  unfold fX9_place at hf
  replace hl : lv_has ls 1 [(0, .ref (la 9 0))] := hl
  refine lv_aload_n hx hb dX9_place_0 rfl (lv_at hl 0 rfl) ?_
  refine lv_iconst (v := 0) hx hb dX9_place_1 (by decide) ?_
  refine pM_thrown X hP hS fl_X9_77 dX9_place_2 (fun H locs hP hS => ?_)
  obtain ⟨st1, hP, hf⟩ := nm_gen (P := fun z => HW D VM la (EMf cyI la) z H) hP hf
  refine lv_aload_n hx hb dX9_place_5 rfl (lv_at hl 0 rfl) ?_
  refine gM_placeTold X hP fl_X9_31 dX9_place_6 ?_
  obtain ⟨rfl, rfl⟩ := sp_2 hf
  exact w_iret X hr hlk hP hS dX9_place_9
theorem KX9_place : xKv yX9_place cX9_place 1 (some .int) RX9 0 := ⟨cd_X9_place, im_X9_place, se_X9_place, in_X9, by decide +kernel⟩
abbrev rm_X9_fails : Room := { frames := 0, cells := 0, slots := 0, locals := 0 }
def fX9_fails (N : Nat) (a1 : Int32) (st : xSt) : Option xSt := nm (pI st 9 0 40 a1) (fun st1 => nm (pI st1 9 0 41 (st1.1 9 0 45)) (fun st2 => nm (pI st2 9 0 42 (st2.1 9 0 46)) (fun st3 => some st3)))
set_option maxHeartbeats 4000000 in
set_option maxRecDepth 100000 in
theorem TX9_fails (l : Launch) {D : va_G} {la : Nat → Nat → Nat} {cyI cyF cyM : ClassId} {t0 N : Nat} {a1 : Int32} {st : xSt} {st' : xSt} (hf : fX9_fails N a1 st = some st') : MetM D cyI cyF cyM la t0 l yX9_fails (Cond.code yX9_fails cX9_fails 2 none :: xALL) rm_X9_fails [.ref (la 9 0), .int a1] none st st' := by
  refine MetW.intro (own := RX9) (by decide) (Nat.le_of_ble_eq_true rfl) rfl ?_
  intro p e s m below meth c X hr hlk hP ls hl
  have hx := X.1.1
  have hb := X.1.2.1
  have hS : va_S (xA VM la) s.heap s.heap [] := va_S.rf
  unfold fX9_fails at hf
  replace hl : lv_has ls 2 [(0, .ref (la 9 0)), (1, .int a1)] := hl
  refine lv_aload_n hx hb dX9_fails_0 rfl (lv_at hl 0 rfl) ?_
  refine lv_iload_n hx hb dX9_fails_1 rfl (lv_at hl 1 rfl) ?_
  refine pM_fault X hP hS fl_X9_152 dX9_fails_2 (fun H locs hP hS => ?_)
  obtain ⟨st1, hP, hf⟩ := nm_gen (P := fun z => HW D VM la (EMf cyI la) z H) hP hf
  refine lv_aload_n hx hb dX9_fails_5 rfl (lv_at hl 0 rfl) ?_
  refine lv_aload_n hx hb dX9_fails_6 rfl (lv_at hl 0 rfl) ?_
  refine gM_here X hP fl_X9_155 dX9_fails_7 ?_
  refine pM_faultAddress X hP hS fl_X9_68 dX9_fails_10 (fun H locs hP hS => ?_)
  obtain ⟨st2, hP, hf⟩ := nm_gen (P := fun z => HW D VM la (EMf cyI la) z H) hP hf
  refine lv_aload_n hx hb dX9_fails_13 rfl (lv_at hl 0 rfl) ?_
  refine lv_aload_n hx hb dX9_fails_14 rfl (lv_at hl 0 rfl) ?_
  refine gM_hereOffset X hP fl_X9_158 dX9_fails_15 ?_
  refine pM_faultOffset X hP hS fl_X9_71 dX9_fails_18 (fun H locs hP hS => ?_)
  obtain ⟨st3, hP, hf⟩ := nm_gen (P := fun z => HW D VM la (EMf cyI la) z H) hP hf
  obtain rfl := Option.some.inj hf
  exact w_vret X hr hlk hP hS dX9_fails_21
theorem KX9_fails : xKv yX9_fails cX9_fails 2 none RX9 1 := ⟨cd_X9_fails, im_X9_fails, se_X9_fails, in_X9, by decide +kernel⟩
abbrev rm_X9_valueOf : Room := { frames := 0, cells := 0, slots := 0, locals := 0 }
def fX9_valueOf (N : Nat) (a1 : Int32) (st : xSt) : Option (Int32 × xSt) := if (128 : Int32) ≤ a1 then if (136 : Int32) ≤ a1 then if (a1 - (136 : Int32)) < 0 ∨ 8 ≤ ((a1 - (136 : Int32))).toNatClampNeg then none else some ((st.1 30 2 ((a1 - (136 : Int32))).toNatClampNeg), st) else if ((((8 : Int32) * ((st.1 9 0 29) - (1 : Int32))) + a1) - (128 : Int32)) < 0 ∨ 96 ≤ (((((8 : Int32) * ((st.1 9 0 29) - (1 : Int32))) + a1) - (128 : Int32))).toNatClampNeg then none else nm (st.1 30 37 (((((8 : Int32) * ((st.1 9 0 29) - (1 : Int32))) + a1) - (128 : Int32))).toNatClampNeg) (fun x5 => some (x5, st)) else some (a1, st)
set_option maxHeartbeats 4000000 in
set_option maxRecDepth 100000 in
theorem TX9_valueOf (l : Launch) {D : va_G} {la : Nat → Nat → Nat} {cyI cyF cyM : ClassId} {t0 N : Nat} {a1 : Int32} {st : xSt} {r : Int32} {st' : xSt} (hf : fX9_valueOf N a1 st = some (r, st')) : MetM D cyI cyF cyM la t0 l yX9_valueOf (Cond.code yX9_valueOf cX9_valueOf 2 (some .int) :: xALL) rm_X9_valueOf [.ref (la 9 0), .int a1] (some (.int r)) st st' := by
  refine MetW.intro (own := RX9) (by decide) (Nat.le_of_ble_eq_true rfl) rfl ?_
  intro p e s m below meth c X hr hlk hP ls hl
  have hx := X.1.1
  have hb := X.1.2.1
  have hS : va_S (xA VM la) s.heap s.heap [] := va_S.rf
  unfold fX9_valueOf at hf
  replace hl : lv_has ls 2 [(0, .ref (la 9 0)), (1, .int a1)] := hl
  refine lv_iload_n hx hb dX9_valueOf_0 rfl (lv_at hl 1 rfl) ?_
  refine lv_sipush (v := 128) hx hb dX9_valueOf_1 (by decide) ?_
  refine lv_icmp_ge (tgt := 11) hx hb dX9_valueOf_4 (by decide) (fun c1 => ?_) (fun c1 => ?_)
  · replace hf := (if_pos c1).symm.trans hf
    refine lv_iload_n hx hb dX9_valueOf_11 rfl (lv_at hl 1 rfl) ?_
    refine lv_sipush (v := 136) hx hb dX9_valueOf_12 (by decide) ?_
    refine lv_icmp_ge (tgt := 41) hx hb dX9_valueOf_15 (by decide) (fun c2 => ?_) (fun c2 => ?_)
    · replace hf := (if_pos c2).symm.trans hf
      refine lv_aload_n hx hb dX9_valueOf_41 rfl (lv_at hl 0 rfl) ?_
      refine gM_globals X hP fl_X9_13 dX9_valueOf_42 ?_
      refine lv_iload_n hx hb dX9_valueOf_45 rfl (lv_at hl 1 rfl) ?_
      refine lv_sipush (v := 136) hx hb dX9_valueOf_46 (by decide) ?_
      refine lv_isub hx hb dX9_valueOf_49 ?_
      obtain ⟨hn3, hf⟩ := ck_of hf
      refine w_iald X hP (c0 := 30) (i0 := 2) (show 0 < lenM 2 by decide) (n := 8) rfl hn3 dX9_valueOf_50 ?_
      obtain ⟨rfl, rfl⟩ := sp_2 hf
      exact w_iret X hr hlk hP hS dX9_valueOf_51
    · replace hf := (if_neg c2).symm.trans hf
      refine lv_aload_n hx hb dX9_valueOf_18 rfl (lv_at hl 0 rfl) ?_
      refine gM_local X hP fl_X9_62 dX9_valueOf_19 ?_
      refine lv_bipush (v := 8) hx hb dX9_valueOf_22 (by decide) ?_
      refine lv_aload_n hx hb dX9_valueOf_24 rfl (lv_at hl 0 rfl) ?_
      refine gM_depth X hP fl_X9_161 dX9_valueOf_25 ?_
      refine lv_iconst (v := 1) hx hb dX9_valueOf_28 (by decide) ?_
      refine lv_isub hx hb dX9_valueOf_29 ?_
      refine lv_imul hx hb dX9_valueOf_30 ?_
      refine lv_iload_n hx hb dX9_valueOf_31 rfl (lv_at hl 1 rfl) ?_
      refine lv_iadd hx hb dX9_valueOf_32 ?_
      refine lv_sipush (v := 128) hx hb dX9_valueOf_33 (by decide) ?_
      refine lv_isub hx hb dX9_valueOf_36 ?_
      obtain ⟨hn4, hf⟩ := ck_of hf
      refine w_iald X hP (c0 := 30) (i0 := 37) (show 0 < lenM 37 by decide) (n := 96) rfl hn4 dX9_valueOf_37 ?_
      refine lv_topi (fun x5 ex => ?_)
      replace hf := nm_of hf ex
      clear ex
      refine lv_goto (tgt := 51) hx hb dX9_valueOf_38 (by decide) ?_
      obtain ⟨rfl, rfl⟩ := sp_2 hf
      exact w_iret X hr hlk hP hS dX9_valueOf_51
  · replace hf := (if_neg c1).symm.trans hf
    refine lv_iload_n hx hb dX9_valueOf_7 rfl (lv_at hl 1 rfl) ?_
    refine lv_goto (tgt := 51) hx hb dX9_valueOf_8 (by decide) ?_
    obtain ⟨rfl, rfl⟩ := sp_2 hf
    exact w_iret X hr hlk hP hS dX9_valueOf_51
theorem KX9_valueOf : xKv yX9_valueOf cX9_valueOf 2 (some .int) RX9 1 := ⟨cd_X9_valueOf, im_X9_valueOf, se_X9_valueOf, in_X9, by decide +kernel⟩
abbrev rm_X9_becomes : Room := { frames := 0, cells := 0, slots := 0, locals := 0 }
def fX9_becomes (N : Nat) (a1 : Int32) (a2 : Int32) (st : xSt) : Option xSt := if (136 : Int32) ≤ a1 then if (a1 - (136 : Int32)) < 0 ∨ 8 ≤ ((a1 - (136 : Int32))).toNatClampNeg then none else nm (pI st 30 2 ((a1 - (136 : Int32))).toNatClampNeg a2) (fun st3 => some st3) else if ((((8 : Int32) * ((st.1 9 0 29) - (1 : Int32))) + a1) - (128 : Int32)) < 0 ∨ 96 ≤ (((((8 : Int32) * ((st.1 9 0 29) - (1 : Int32))) + a1) - (128 : Int32))).toNatClampNeg then none else nm (pI st 30 37 (((((8 : Int32) * ((st.1 9 0 29) - (1 : Int32))) + a1) - (128 : Int32))).toNatClampNeg a2) (fun st5 => some st5)
set_option maxHeartbeats 4000000 in
set_option maxRecDepth 100000 in
theorem TX9_becomes (l : Launch) {D : va_G} {la : Nat → Nat → Nat} {cyI cyF cyM : ClassId} {t0 N : Nat} {a1 : Int32} {a2 : Int32} {st : xSt} {st' : xSt} (hf : fX9_becomes N a1 a2 st = some st') : MetM D cyI cyF cyM la t0 l yX9_becomes (Cond.code yX9_becomes cX9_becomes 3 none :: xALL) rm_X9_becomes [.ref (la 9 0), .int a1, .int a2] none st st' := by
  refine MetW.intro (own := RX9) (by decide) (Nat.le_of_ble_eq_true rfl) rfl ?_
  intro p e s m below meth c X hr hlk hP ls hl
  have hx := X.1.1
  have hb := X.1.2.1
  have hS : va_S (xA VM la) s.heap s.heap [] := va_S.rf
  unfold fX9_becomes at hf
  replace hl : lv_has ls 3 [(0, .ref (la 9 0)), (1, .int a1), (2, .int a2)] := hl
  refine lv_iload_n hx hb dX9_becomes_0 rfl (lv_at hl 1 rfl) ?_
  refine lv_sipush (v := 136) hx hb dX9_becomes_1 (by decide) ?_
  refine lv_icmp_ge (tgt := 31) hx hb dX9_becomes_4 (by decide) (fun c1 => ?_) (fun c1 => ?_)
  · replace hf := (if_pos c1).symm.trans hf
    refine lv_aload_n hx hb dX9_becomes_31 rfl (lv_at hl 0 rfl) ?_
    refine gM_globals X hP fl_X9_13 dX9_becomes_32 ?_
    refine lv_iload_n hx hb dX9_becomes_35 rfl (lv_at hl 1 rfl) ?_
    refine lv_sipush (v := 136) hx hb dX9_becomes_36 (by decide) ?_
    refine lv_isub hx hb dX9_becomes_39 ?_
    refine lv_iload_n hx hb dX9_becomes_40 rfl (lv_at hl 2 rfl) ?_
    obtain ⟨hn2, hf⟩ := ck_of hf
    refine w_iast X hP hS (c0 := 30) (i0 := 2) (show 0 < lenM 2 by decide) (n := 8) (fun _ => rfl) hn2 dX9_becomes_41 (fun H locs hP hS => ?_)
    obtain ⟨st3, hP, hf⟩ := nm_gen (P := fun z => HW D VM la (EMf cyI la) z H) hP hf
    obtain rfl := Option.some.inj hf
    exact w_vret X hr hlk hP hS dX9_becomes_42
  · replace hf := (if_neg c1).symm.trans hf
    refine lv_aload_n hx hb dX9_becomes_7 rfl (lv_at hl 0 rfl) ?_
    refine gM_local X hP fl_X9_62 dX9_becomes_8 ?_
    refine lv_bipush (v := 8) hx hb dX9_becomes_11 (by decide) ?_
    refine lv_aload_n hx hb dX9_becomes_13 rfl (lv_at hl 0 rfl) ?_
    refine gM_depth X hP fl_X9_161 dX9_becomes_14 ?_
    refine lv_iconst (v := 1) hx hb dX9_becomes_17 (by decide) ?_
    refine lv_isub hx hb dX9_becomes_18 ?_
    refine lv_imul hx hb dX9_becomes_19 ?_
    refine lv_iload_n hx hb dX9_becomes_20 rfl (lv_at hl 1 rfl) ?_
    refine lv_iadd hx hb dX9_becomes_21 ?_
    refine lv_sipush (v := 128) hx hb dX9_becomes_22 (by decide) ?_
    refine lv_isub hx hb dX9_becomes_25 ?_
    refine lv_iload_n hx hb dX9_becomes_26 rfl (lv_at hl 2 rfl) ?_
    obtain ⟨hn4, hf⟩ := ck_of hf
    refine w_iast X hP hS (c0 := 30) (i0 := 37) (show 0 < lenM 37 by decide) (n := 96) (fun _ => rfl) hn4 dX9_becomes_27 (fun H locs hP hS => ?_)
    obtain ⟨st5, hP, hf⟩ := nm_gen (P := fun z => HW D VM la (EMf cyI la) z H) hP hf
    refine lv_goto (tgt := 42) hx hb dX9_becomes_28 (by decide) ?_
    obtain rfl := Option.some.inj hf
    exact w_vret X hr hlk hP hS dX9_becomes_42
theorem KX9_becomes : xKv yX9_becomes cX9_becomes 3 none RX9 2 := ⟨cd_X9_becomes, im_X9_becomes, se_X9_becomes, in_X9, by decide +kernel⟩
abbrev rm_X9_step : Room := { frames := 1, cells := 0, slots := 0, locals := 21 }
def fX9_step (N : Nat) (st : xSt) : Option (Int32 × xSt) := if (st.1 9 0 28) = (400 : Int32) then Option.bind (fX9_fails N (5 : Int32) st) (fun st4 => some ((0 : Int32), st4)) else nm (pI st 9 0 28 ((st.1 9 0 28) + (1 : Int32))) (fun st2 => nm (pI st2 9 0 13 ((st2.1 9 0 13) + (1 : Int32))) (fun st3 => some ((1 : Int32), st3)))
set_option maxHeartbeats 4000000 in
set_option maxRecDepth 100000 in
theorem TX9_step (l : Launch) {D : va_G} {la : Nat → Nat → Nat} {cyI cyF cyM : ClassId} {t0 N : Nat} {st : xSt} {r : Int32} {st' : xSt} (hf : fX9_step N st = some (r, st')) : MetM D cyI cyF cyM la t0 l yX9_step (Cond.code yX9_step cX9_step 1 (some .boolean) :: xALL) rm_X9_step [.ref (la 9 0)] (some (.int r)) st st' := by
  refine MetW.intro (own := RX9) (by decide) (Nat.le_of_ble_eq_true rfl) rfl ?_
  intro p e s m below meth c X hr hlk hP ls hl
  have hx := X.1.1
  have hb := X.1.2.1
  have hS : va_S (xA VM la) s.heap s.heap [] := va_S.rf
  unfold fX9_step at hf
  replace hl : lv_has ls 1 [(0, .ref (la 9 0))] := hl
  refine lv_aload_n hx hb dX9_step_0 rfl (lv_at hl 0 rfl) ?_
  refine gM_steps X hP fl_X9_164 dX9_step_1 ?_
  refine lv_sipush (v := 400) hx hb dX9_step_4 (by decide) ?_
  refine lv_icmp_ne (tgt := 17) hx hb dX9_step_7 (by decide) (fun c1 => ?_) (fun c1 => ?_)
  · replace hf := (if_neg c1).symm.trans hf
    refine lv_aload_n hx hb dX9_step_17 rfl (lv_at hl 0 rfl) ?_
    refine lv_dup hx hb dX9_step_18 rfl ?_
    refine gM_steps X hP fl_X9_164 dX9_step_19 ?_
    refine lv_iconst (v := 1) hx hb dX9_step_22 (by decide) ?_
    refine lv_iadd hx hb dX9_step_23 ?_
    refine pM_steps X hP hS fl_X9_164 dX9_step_24 (fun H locs hP hS => ?_)
    obtain ⟨st2, hP, hf⟩ := nm_gen (P := fun z => HW D VM la (EMf cyI la) z H) hP hf
    refine lv_aload_n hx hb dX9_step_27 rfl (lv_at hl 0 rfl) ?_
    refine lv_dup hx hb dX9_step_28 rfl ?_
    refine gM_stepsEver X hP fl_X9_170 dX9_step_29 ?_
    refine lv_iconst (v := 1) hx hb dX9_step_32 (by decide) ?_
    refine lv_iadd hx hb dX9_step_33 ?_
    refine pM_stepsEver X hP hS fl_X9_170 dX9_step_34 (fun H locs hP hS => ?_)
    obtain ⟨st3, hP, hf⟩ := nm_gen (P := fun z => HW D VM la (EMf cyI la) z H) hP hf
    refine lv_iconst (v := 1) hx hb dX9_step_37 (by decide) ?_
    obtain ⟨rfl, rfl⟩ := sp_2 hf
    exact w_zret X hr hlk (by decide) hP hS dX9_step_38
  · replace hf := (if_pos c1).symm.trans hf
    refine lv_aload_n hx hb dX9_step_10 rfl (lv_at hl 0 rfl) ?_
    refine lv_iconst (v := 5) hx hb dX9_step_11 (by decide) ?_
    obtain ⟨st4, hr5, hf⟩ := bd_of hf
    refine w_V0 X (TX9_fails l hr5) hP hS rfl KX9_fails ml_X9_167 ⟨rfl, rfl⟩ ⟨by decide, by decide⟩ (x_recv (E := fun c i => (EMf cyI la) (st.1 c i) st.2 c i) (c0 := 9) (i0 := 0) X.2.2.1 hP rfl (ci := 9) rfl rfl) rfl hl.1 (Nat.le_of_ble_eq_true rfl) dX9_step_12 (fun H locs hP hS => ?_)
    refine lv_iconst (v := 0) hx hb dX9_step_15 (by decide) ?_
    obtain ⟨rfl, rfl⟩ := sp_2 hf
    exact w_zret X hr hlk (by decide) hP hS dX9_step_16
theorem KX9_step : xKv yX9_step cX9_step 1 (some .boolean) RX9 0 := ⟨cd_X9_step, im_X9_step, se_X9_step, in_X9, by decide +kernel⟩
abbrev rm_X9_builtIn : Room := { frames := 1, cells := 0, slots := 0, locals := 21 }
def fX9_builtIn_b30 (N : Nat) : Nat → Int32 → Int32 → xSt → Option (Int32 × xSt)
  | 0, _, _, _ => none
  | n + 1, a2, a3, st => if (st.1 9 0 39) ≤ a3 then some (a2, st) else if a3 < 0 ∨ 4 ≤ (a3).toNatClampNeg then none else nm (a2 + (st.1 30 38 (a3).toNatClampNeg)) (fun x12 => nm (a3 + (1 : Int32)) (fun x13 => fX9_builtIn_b30 N n x12 x13 st))
set_option maxHeartbeats 4000000 in
set_option maxRecDepth 100000 in
theorem BX9_builtIn_30 {p : Program} {l : Launch} {e : Env} {s : State} {m : MethodId} {args : Array Value} {below : List Frame} {meth : Method} {c : Code} {D : va_G} {la : Nat → Nat → Nat} {cyI cyF cyM : ClassId} {t0 N : Nat} {r : Int32} {st' : xSt} (X : xCx D VM la cyI cyF cyM t0 p m c cX9_builtIn 4 s args RX9) (hr : meth.sig.returnType = (some .int)) (hlk : meth.locks = false) : ∀ n : Nat, ∀ (a2 : Int32) (a3 : Int32) (st : xSt) (H : Heap) (locs : List Loc) (ls : Array Slot), fX9_builtIn_b30 N n a2 a3 st = some (r, st') → HW D VM la (EMf cyI la) st H → va_S (xA VM la) s.heap H locs → lv_has ls 4 [(0, .ref (la 9 0)), (2, .int a2), (3, .int a3)] → W p l e rm_X9_builtIn s m args below meth c H locs 0 0 (MQ below (xQc D VM la (EMf cyI la) (some (.int r)) st') args s 0 0 (xA VM la)) (F0 m 30 ls []) := by
  have hx := X.1.1
  have hb := X.1.2.1
  intro n
  induction n with
  | zero =>
    intro a2 a3 st H locs ls hf hP hS hl
    rw [fX9_builtIn_b30] at hf
    cases hf
  | succ n ih =>
    intro a2 a3 st H locs ls hf hP hS hl
    rw [fX9_builtIn_b30] at hf
    refine lv_iload_n hx hb dX9_builtIn_30 rfl (lv_at hl 2 rfl) ?_
    refine lv_aload_n hx hb dX9_builtIn_31 rfl (lv_at hl 0 rfl) ?_
    refine gM_givenMany X hP fl_X9_173 dX9_builtIn_32 ?_
    refine lv_icmp_ge (tgt := 53) hx hb dX9_builtIn_35 (by decide) (fun c10 => ?_) (fun c10 => ?_)
    · replace hf := (if_pos c10).symm.trans hf
      refine lv_iload_n hx hb dX9_builtIn_53 rfl (lv_at hl 1 rfl) ?_
      obtain ⟨rfl, rfl⟩ := sp_2 hf
      exact w_iret X hr hlk hP hS dX9_builtIn_54
    · replace hf := (if_neg c10).symm.trans hf
      refine lv_iload_n hx hb dX9_builtIn_38 rfl (lv_at hl 1 rfl) ?_
      refine lv_aload_n hx hb dX9_builtIn_39 rfl (lv_at hl 0 rfl) ?_
      refine gM_given X hP fl_X9_65 dX9_builtIn_40 ?_
      refine lv_iload_n hx hb dX9_builtIn_43 rfl (lv_at hl 2 rfl) ?_
      obtain ⟨hn11, hf⟩ := ck_of hf
      refine w_iald X hP (c0 := 30) (i0 := 38) (show 0 < lenM 38 by decide) (n := 4) rfl hn11 dX9_builtIn_44 ?_
      refine lv_iadd hx hb dX9_builtIn_45 ?_
      refine lv_topi (fun x12 ex => ?_)
      replace hf := nm_of hf ex
      clear ex
      refine lv_istore_n (lv' := [(2, .int x12), (0, .ref (la 9 0)), (3, .int a3)]) hx hb dX9_builtIn_46 rfl hl (by decide) rfl (fun ls hl => ?_)
      obtain ⟨x13, ex⟩ : ∃ y : Int32, y = (a3 + (1 : Int32)) := ⟨_, rfl⟩
      replace hf := nm_of hf ex
      refine lv_iinc (v := x13) (lv' := [(3, .int x13), (2, .int x12), (0, .ref (la 9 0))]) hx hb dX9_builtIn_47 hl (k := 2) rfl (by rw [ex]; rfl) (by decide) rfl (fun ls hl => ?_)
      clear ex
      refine lv_goto (tgt := 30) hx hb dX9_builtIn_50 (by decide) ?_
      exact ih _ _ _ _ _ _  hf hP hS (lv_sub hl [2, 1, 0] rfl)
def fX9_builtIn_b89 (N : Nat) (k57 : Int32 → Int32 → xSt → Option (Int32 × xSt)) (a3 : Int32) (as0 : Int32) (st : xSt) : Option (Int32 × xSt) := nm (a3 + (1 : Int32)) (fun x24 => k57 as0 x24 st)
set_option maxHeartbeats 4000000 in
set_option maxRecDepth 100000 in
theorem BX9_builtIn_89 {p : Program} {l : Launch} {e : Env} {s : State} {m : MethodId} {args : Array Value} {below : List Frame} {meth : Method} {c : Code} {D : va_G} {la : Nat → Nat → Nat} {cyI cyF cyM : ClassId} {t0 N : Nat} {k57 : Int32 → Int32 → xSt → Option (Int32 × xSt)} {r : Int32} {st' : xSt} (X : xCx D VM la cyI cyF cyM t0 p m c cX9_builtIn 4 s args RX9) (hr : meth.sig.returnType = (some .int)) (hlk : meth.locks = false) (hk57 : ∀ (a2 : Int32) (a3 : Int32) (st : xSt) (H : Heap) (locs : List Loc) (ls : Array Slot), k57 a2 a3 st = some (r, st') → HW D VM la (EMf cyI la) st H → va_S (xA VM la) s.heap H locs → lv_has ls 4 [(0, .ref (la 9 0)), (2, .int a2), (3, .int a3)] → W p l e rm_X9_builtIn s m args below meth c H locs 0 0 (MQ below (xQc D VM la (EMf cyI la) (some (.int r)) st') args s 0 0 (xA VM la)) (F0 m 57 ls [])) : ∀ (a3 : Int32) (as0 : Int32) (st : xSt) (H : Heap) (locs : List Loc) (ls : Array Slot), fX9_builtIn_b89 N k57 a3 as0 st = some (r, st') → HW D VM la (EMf cyI la) st H → va_S (xA VM la) s.heap H locs → lv_has ls 4 [(0, .ref (la 9 0)), (3, .int a3)] → W p l e rm_X9_builtIn s m args below meth c H locs 0 0 (MQ below (xQc D VM la (EMf cyI la) (some (.int r)) st') args s 0 0 (xA VM la)) (F0 m 89 ls [.int as0]) := by
  have hx := X.1.1
  have hb := X.1.2.1
  intro a3 as0 st H locs ls hf hP hS hl
  unfold fX9_builtIn_b89 at hf
  refine lv_istore_n (lv' := [(2, .int as0), (0, .ref (la 9 0)), (3, .int a3)]) hx hb dX9_builtIn_89 rfl hl (by decide) rfl (fun ls hl => ?_)
  obtain ⟨x24, ex⟩ : ∃ y : Int32, y = (a3 + (1 : Int32)) := ⟨_, rfl⟩
  replace hf := nm_of hf ex
  refine lv_iinc (v := x24) (lv' := [(3, .int x24), (2, .int as0), (0, .ref (la 9 0))]) hx hb dX9_builtIn_90 hl (k := 2) rfl (by rw [ex]; rfl) (by decide) rfl (fun ls hl => ?_)
  clear ex
  refine lv_goto (tgt := 57) hx hb dX9_builtIn_93 (by decide) ?_
  exact hk57 _ _ _ _ _ _  hf hP hS (lv_sub hl [2, 1, 0] rfl)
def fX9_builtIn_b79 (N : Nat) (k57 : Int32 → Int32 → xSt → Option (Int32 × xSt)) (a3 : Int32) (st : xSt) : Option (Int32 × xSt) := if a3 < 0 ∨ 4 ≤ (a3).toNatClampNeg then none else fX9_builtIn_b89 N k57 a3 (st.1 30 38 (a3).toNatClampNeg) st
set_option maxHeartbeats 4000000 in
set_option maxRecDepth 100000 in
theorem BX9_builtIn_79 {p : Program} {l : Launch} {e : Env} {s : State} {m : MethodId} {args : Array Value} {below : List Frame} {meth : Method} {c : Code} {D : va_G} {la : Nat → Nat → Nat} {cyI cyF cyM : ClassId} {t0 N : Nat} {k57 : Int32 → Int32 → xSt → Option (Int32 × xSt)} {r : Int32} {st' : xSt} (X : xCx D VM la cyI cyF cyM t0 p m c cX9_builtIn 4 s args RX9) (hr : meth.sig.returnType = (some .int)) (hlk : meth.locks = false) (hk57 : ∀ (a2 : Int32) (a3 : Int32) (st : xSt) (H : Heap) (locs : List Loc) (ls : Array Slot), k57 a2 a3 st = some (r, st') → HW D VM la (EMf cyI la) st H → va_S (xA VM la) s.heap H locs → lv_has ls 4 [(0, .ref (la 9 0)), (2, .int a2), (3, .int a3)] → W p l e rm_X9_builtIn s m args below meth c H locs 0 0 (MQ below (xQc D VM la (EMf cyI la) (some (.int r)) st') args s 0 0 (xA VM la)) (F0 m 57 ls [])) : ∀ (a3 : Int32) (st : xSt) (H : Heap) (locs : List Loc) (ls : Array Slot), fX9_builtIn_b79 N k57 a3 st = some (r, st') → HW D VM la (EMf cyI la) st H → va_S (xA VM la) s.heap H locs → lv_has ls 4 [(0, .ref (la 9 0)), (3, .int a3)] → W p l e rm_X9_builtIn s m args below meth c H locs 0 0 (MQ below (xQc D VM la (EMf cyI la) (some (.int r)) st') args s 0 0 (xA VM la)) (F0 m 79 ls []) := by
  have hx := X.1.1
  have hb := X.1.2.1
  intro a3 st H locs ls hf hP hS hl
  unfold fX9_builtIn_b79 at hf
  refine lv_aload_n hx hb dX9_builtIn_79 rfl (lv_at hl 0 rfl) ?_
  refine gM_given X hP fl_X9_65 dX9_builtIn_80 ?_
  refine lv_iload_n hx hb dX9_builtIn_83 rfl (lv_at hl 1 rfl) ?_
  obtain ⟨hn23, hf⟩ := ck_of hf
  refine w_iald X hP (c0 := 30) (i0 := 38) (show 0 < lenM 38 by decide) (n := 4) rfl hn23 dX9_builtIn_84 ?_
  refine lv_goto (tgt := 89) hx hb dX9_builtIn_85 (by decide) ?_
  exact BX9_builtIn_89 X hr hlk hk57 _ _ _ _ _ _  hf hP hS (lv_sub hl [0, 1] rfl)
def fX9_builtIn_b57 (N : Nat) : Nat → Int32 → Int32 → xSt → Option (Int32 × xSt)
  | 0, _, _, _ => none
  | n + 1, a2, a3, st => if (st.1 9 0 39) ≤ a3 then some (a2, st) else if a3 = (0 : Int32) then fX9_builtIn_b79 N (fX9_builtIn_b57 N n) a3 st else if a3 < 0 ∨ 4 ≤ (a3).toNatClampNeg then none else if (st.1 30 38 (a3).toNatClampNeg) ≤ a2 then fX9_builtIn_b89 N (fX9_builtIn_b57 N n) a3 a2 st else fX9_builtIn_b79 N (fX9_builtIn_b57 N n) a3 st
set_option maxHeartbeats 4000000 in
set_option maxRecDepth 100000 in
theorem BX9_builtIn_57 {p : Program} {l : Launch} {e : Env} {s : State} {m : MethodId} {args : Array Value} {below : List Frame} {meth : Method} {c : Code} {D : va_G} {la : Nat → Nat → Nat} {cyI cyF cyM : ClassId} {t0 N : Nat} {r : Int32} {st' : xSt} (X : xCx D VM la cyI cyF cyM t0 p m c cX9_builtIn 4 s args RX9) (hr : meth.sig.returnType = (some .int)) (hlk : meth.locks = false) : ∀ n : Nat, ∀ (a2 : Int32) (a3 : Int32) (st : xSt) (H : Heap) (locs : List Loc) (ls : Array Slot), fX9_builtIn_b57 N n a2 a3 st = some (r, st') → HW D VM la (EMf cyI la) st H → va_S (xA VM la) s.heap H locs → lv_has ls 4 [(0, .ref (la 9 0)), (2, .int a2), (3, .int a3)] → W p l e rm_X9_builtIn s m args below meth c H locs 0 0 (MQ below (xQc D VM la (EMf cyI la) (some (.int r)) st') args s 0 0 (xA VM la)) (F0 m 57 ls []) := by
  have hx := X.1.1
  have hb := X.1.2.1
  intro n
  induction n with
  | zero =>
    intro a2 a3 st H locs ls hf hP hS hl
    rw [fX9_builtIn_b57] at hf
    cases hf
  | succ n ih =>
    intro a2 a3 st H locs ls hf hP hS hl
    rw [fX9_builtIn_b57] at hf
    refine lv_iload_n hx hb dX9_builtIn_57 rfl (lv_at hl 2 rfl) ?_
    refine lv_aload_n hx hb dX9_builtIn_58 rfl (lv_at hl 0 rfl) ?_
    refine gM_givenMany X hP fl_X9_173 dX9_builtIn_59 ?_
    refine lv_icmp_ge (tgt := 96) hx hb dX9_builtIn_62 (by decide) (fun c14 => ?_) (fun c14 => ?_)
    · replace hf := (if_pos c14).symm.trans hf
      refine lv_iload_n hx hb dX9_builtIn_96 rfl (lv_at hl 1 rfl) ?_
      obtain ⟨rfl, rfl⟩ := sp_2 hf
      exact w_iret X hr hlk hP hS dX9_builtIn_97
    · replace hf := (if_neg c14).symm.trans hf
      refine lv_iload_n hx hb dX9_builtIn_65 rfl (lv_at hl 2 rfl) ?_
      refine lv_if_eq (tgt := 79) hx hb dX9_builtIn_66 (by decide) (fun c15 => ?_) (fun c15 => ?_)
      · replace hf := (if_pos c15).symm.trans hf
        exact BX9_builtIn_79 X hr hlk ih _ _ _ _ _  hf hP hS (lv_sub hl [0, 2] rfl)
      · replace hf := (if_neg c15).symm.trans hf
        refine lv_aload_n hx hb dX9_builtIn_69 rfl (lv_at hl 0 rfl) ?_
        refine gM_given X hP fl_X9_65 dX9_builtIn_70 ?_
        refine lv_iload_n hx hb dX9_builtIn_73 rfl (lv_at hl 2 rfl) ?_
        obtain ⟨hn16, hf⟩ := ck_of hf
        refine w_iald X hP (c0 := 30) (i0 := 38) (show 0 < lenM 38 by decide) (n := 4) rfl hn16 dX9_builtIn_74 ?_
        refine lv_iload_n hx hb dX9_builtIn_75 rfl (lv_at hl 1 rfl) ?_
        refine lv_icmp_le (tgt := 88) hx hb dX9_builtIn_76 (by decide) (fun c17 => ?_) (fun c17 => ?_)
        · replace hf := (if_pos c17).symm.trans hf
          refine lv_iload_n hx hb dX9_builtIn_88 rfl (lv_at hl 1 rfl) ?_
          exact BX9_builtIn_89 X hr hlk ih _ _ _ _ _ _  hf hP hS (lv_sub hl [0, 2] rfl)
        · replace hf := (if_neg c17).symm.trans hf
          exact BX9_builtIn_79 X hr hlk ih _ _ _ _ _  hf hP hS (lv_sub hl [0, 2] rfl)
def fX9_builtIn_b123 (N : Nat) (k100 : Int32 → Int32 → xSt → Option (Int32 × xSt)) (a3 : Int32) (as0 : Int32) (as1 : Int32) (st : xSt) : Option (Int32 × xSt) := nm (as1 + as0) (fun x25 => nm (a3 + (1 : Int32)) (fun x26 => k100 x25 x26 st))
set_option maxHeartbeats 4000000 in
set_option maxRecDepth 100000 in
theorem BX9_builtIn_123 {p : Program} {l : Launch} {e : Env} {s : State} {m : MethodId} {args : Array Value} {below : List Frame} {meth : Method} {c : Code} {D : va_G} {la : Nat → Nat → Nat} {cyI cyF cyM : ClassId} {t0 N : Nat} {k100 : Int32 → Int32 → xSt → Option (Int32 × xSt)} {r : Int32} {st' : xSt} (X : xCx D VM la cyI cyF cyM t0 p m c cX9_builtIn 4 s args RX9) (hr : meth.sig.returnType = (some .int)) (hlk : meth.locks = false) (hk100 : ∀ (a2 : Int32) (a3 : Int32) (st : xSt) (H : Heap) (locs : List Loc) (ls : Array Slot), k100 a2 a3 st = some (r, st') → HW D VM la (EMf cyI la) st H → va_S (xA VM la) s.heap H locs → lv_has ls 4 [(0, .ref (la 9 0)), (2, .int a2), (3, .int a3)] → W p l e rm_X9_builtIn s m args below meth c H locs 0 0 (MQ below (xQc D VM la (EMf cyI la) (some (.int r)) st') args s 0 0 (xA VM la)) (F0 m 100 ls [])) : ∀ (a3 : Int32) (as0 : Int32) (as1 : Int32) (st : xSt) (H : Heap) (locs : List Loc) (ls : Array Slot), fX9_builtIn_b123 N k100 a3 as0 as1 st = some (r, st') → HW D VM la (EMf cyI la) st H → va_S (xA VM la) s.heap H locs → lv_has ls 4 [(0, .ref (la 9 0)), (3, .int a3)] → W p l e rm_X9_builtIn s m args below meth c H locs 0 0 (MQ below (xQc D VM la (EMf cyI la) (some (.int r)) st') args s 0 0 (xA VM la)) (F0 m 123 ls [.int as0, .int as1]) := by
  have hx := X.1.1
  have hb := X.1.2.1
  intro a3 as0 as1 st H locs ls hf hP hS hl
  unfold fX9_builtIn_b123 at hf
  refine lv_iadd hx hb dX9_builtIn_123 ?_
  refine lv_topi (fun x25 ex => ?_)
  replace hf := nm_of hf ex
  clear ex
  refine lv_istore_n (lv' := [(2, .int x25), (0, .ref (la 9 0)), (3, .int a3)]) hx hb dX9_builtIn_124 rfl hl (by decide) rfl (fun ls hl => ?_)
  obtain ⟨x26, ex⟩ : ∃ y : Int32, y = (a3 + (1 : Int32)) := ⟨_, rfl⟩
  replace hf := nm_of hf ex
  refine lv_iinc (v := x26) (lv' := [(3, .int x26), (2, .int x25), (0, .ref (la 9 0))]) hx hb dX9_builtIn_125 hl (k := 2) rfl (by rw [ex]; rfl) (by decide) rfl (fun ls hl => ?_)
  clear ex
  refine lv_goto (tgt := 100) hx hb dX9_builtIn_128 (by decide) ?_
  exact hk100 _ _ _ _ _ _  hf hP hS (lv_sub hl [2, 1, 0] rfl)
def fX9_builtIn_b100 (N : Nat) : Nat → Int32 → Int32 → xSt → Option (Int32 × xSt)
  | 0, _, _, _ => none
  | n + 1, a2, a3, st => if (st.1 9 0 39) ≤ a3 then some (a2, st) else if a3 < 0 ∨ 4 ≤ (a3).toNatClampNeg then none else if (st.1 30 38 (a3).toNatClampNeg) = (0 : Int32) then fX9_builtIn_b123 N (fX9_builtIn_b100 N n) a3 (0 : Int32) a2 st else fX9_builtIn_b123 N (fX9_builtIn_b100 N n) a3 (1 : Int32) a2 st
set_option maxHeartbeats 4000000 in
set_option maxRecDepth 100000 in
theorem BX9_builtIn_100 {p : Program} {l : Launch} {e : Env} {s : State} {m : MethodId} {args : Array Value} {below : List Frame} {meth : Method} {c : Code} {D : va_G} {la : Nat → Nat → Nat} {cyI cyF cyM : ClassId} {t0 N : Nat} {r : Int32} {st' : xSt} (X : xCx D VM la cyI cyF cyM t0 p m c cX9_builtIn 4 s args RX9) (hr : meth.sig.returnType = (some .int)) (hlk : meth.locks = false) : ∀ n : Nat, ∀ (a2 : Int32) (a3 : Int32) (st : xSt) (H : Heap) (locs : List Loc) (ls : Array Slot), fX9_builtIn_b100 N n a2 a3 st = some (r, st') → HW D VM la (EMf cyI la) st H → va_S (xA VM la) s.heap H locs → lv_has ls 4 [(0, .ref (la 9 0)), (2, .int a2), (3, .int a3)] → W p l e rm_X9_builtIn s m args below meth c H locs 0 0 (MQ below (xQc D VM la (EMf cyI la) (some (.int r)) st') args s 0 0 (xA VM la)) (F0 m 100 ls []) := by
  have hx := X.1.1
  have hb := X.1.2.1
  intro n
  induction n with
  | zero =>
    intro a2 a3 st H locs ls hf hP hS hl
    rw [fX9_builtIn_b100] at hf
    cases hf
  | succ n ih =>
    intro a2 a3 st H locs ls hf hP hS hl
    rw [fX9_builtIn_b100] at hf
    refine lv_iload_n hx hb dX9_builtIn_100 rfl (lv_at hl 2 rfl) ?_
    refine lv_aload_n hx hb dX9_builtIn_101 rfl (lv_at hl 0 rfl) ?_
    refine gM_givenMany X hP fl_X9_173 dX9_builtIn_102 ?_
    refine lv_icmp_ge (tgt := 131) hx hb dX9_builtIn_105 (by decide) (fun c18 => ?_) (fun c18 => ?_)
    · replace hf := (if_pos c18).symm.trans hf
      refine lv_iload_n hx hb dX9_builtIn_131 rfl (lv_at hl 1 rfl) ?_
      obtain ⟨rfl, rfl⟩ := sp_2 hf
      exact w_iret X hr hlk hP hS dX9_builtIn_132
    · replace hf := (if_neg c18).symm.trans hf
      refine lv_iload_n hx hb dX9_builtIn_108 rfl (lv_at hl 1 rfl) ?_
      refine lv_aload_n hx hb dX9_builtIn_109 rfl (lv_at hl 0 rfl) ?_
      refine gM_given X hP fl_X9_65 dX9_builtIn_110 ?_
      refine lv_iload_n hx hb dX9_builtIn_113 rfl (lv_at hl 2 rfl) ?_
      obtain ⟨hn19, hf⟩ := ck_of hf
      refine w_iald X hP (c0 := 30) (i0 := 38) (show 0 < lenM 38 by decide) (n := 4) rfl hn19 dX9_builtIn_114 ?_
      refine lv_if_eq (tgt := 122) hx hb dX9_builtIn_115 (by decide) (fun c20 => ?_) (fun c20 => ?_)
      · replace hf := (if_pos c20).symm.trans hf
        refine lv_iconst (v := 0) hx hb dX9_builtIn_122 (by decide) ?_
        exact BX9_builtIn_123 X hr hlk ih _ _ _ _ _ _ _  hf hP hS (lv_sub hl [0, 2] rfl)
      · replace hf := (if_neg c20).symm.trans hf
        refine lv_iconst (v := 1) hx hb dX9_builtIn_118 (by decide) ?_
        refine lv_goto (tgt := 123) hx hb dX9_builtIn_119 (by decide) ?_
        exact BX9_builtIn_123 X hr hlk ih _ _ _ _ _ _ _  hf hP hS (lv_sub hl [0, 2] rfl)
def fX9_builtIn_b153 (N : Nat) (st : xSt) : Option (Int32 × xSt) := Option.bind (fX9_fails N (1 : Int32) st) (fun st21 => some ((0 : Int32), st21))
set_option maxHeartbeats 4000000 in
set_option maxRecDepth 100000 in
theorem BX9_builtIn_153 {p : Program} {l : Launch} {e : Env} {s : State} {m : MethodId} {args : Array Value} {below : List Frame} {meth : Method} {c : Code} {D : va_G} {la : Nat → Nat → Nat} {cyI cyF cyM : ClassId} {t0 N : Nat} {r : Int32} {st' : xSt} (X : xCx D VM la cyI cyF cyM t0 p m c cX9_builtIn 4 s args RX9) (hr : meth.sig.returnType = (some .int)) (hlk : meth.locks = false) : ∀ (st : xSt) (H : Heap) (locs : List Loc) (ls : Array Slot), fX9_builtIn_b153 N st = some (r, st') → HW D VM la (EMf cyI la) st H → va_S (xA VM la) s.heap H locs → lv_has ls 4 [(0, .ref (la 9 0))] → W p l e rm_X9_builtIn s m args below meth c H locs 0 0 (MQ below (xQc D VM la (EMf cyI la) (some (.int r)) st') args s 0 0 (xA VM la)) (F0 m 153 ls []) := by
  have hx := X.1.1
  have hb := X.1.2.1
  intro st H locs ls hf hP hS hl
  unfold fX9_builtIn_b153 at hf
  refine lv_aload_n hx hb dX9_builtIn_153 rfl (lv_at hl 0 rfl) ?_
  refine lv_iconst (v := 1) hx hb dX9_builtIn_154 (by decide) ?_
  obtain ⟨st21, hr22, hf⟩ := bd_of hf
  refine w_V0 X (TX9_fails l hr22) hP hS rfl KX9_fails ml_X9_167 ⟨rfl, rfl⟩ ⟨by decide, by decide⟩ (x_recv (E := fun c i => (EMf cyI la) (st.1 c i) st.2 c i) (c0 := 9) (i0 := 0) X.2.2.1 hP rfl (ci := 9) rfl rfl) rfl hl.1 (Nat.le_of_ble_eq_true rfl) dX9_builtIn_155 (fun H locs hP hS => ?_)
  refine lv_iconst (v := 0) hx hb dX9_builtIn_158 (by decide) ?_
  obtain ⟨rfl, rfl⟩ := sp_2 hf
  exact w_iret X hr hlk hP hS dX9_builtIn_159
def fX9_builtIn (N : Nat) (a1 : Int32) (st : xSt) : Option (Int32 × xSt) := if a1 = (1 : Int32) then fX9_builtIn_b30 N N (0 : Int32) (0 : Int32) st else if a1 = (2 : Int32) then fX9_builtIn_b57 N N (0 : Int32) (0 : Int32) st else if a1 = (3 : Int32) then fX9_builtIn_b100 N N (0 : Int32) (0 : Int32) st else if (st.1 9 0 39) = (0 : Int32) then fX9_builtIn_b153 N st else bd (fX9_isPlace N (st.1 30 38 0) st) (fun v7 st5 => if v7 = (0 : Int32) then fX9_builtIn_b153 N st5 else if (st5.1 30 38 0) < 0 ∨ 1024 ≤ ((st5.1 30 38 0)).toNatClampNeg then none else some ((st5.1 30 1 ((st5.1 30 38 0)).toNatClampNeg), st5))
set_option maxHeartbeats 4000000 in
set_option maxRecDepth 100000 in
theorem TX9_builtIn (l : Launch) {D : va_G} {la : Nat → Nat → Nat} {cyI cyF cyM : ClassId} {t0 N : Nat} {a1 : Int32} {st : xSt} {r : Int32} {st' : xSt} (hf : fX9_builtIn N a1 st = some (r, st')) : MetM D cyI cyF cyM la t0 l yX9_builtIn (Cond.code yX9_builtIn cX9_builtIn 4 (some .int) :: xALL) rm_X9_builtIn [.ref (la 9 0), .int a1] (some (.int r)) st st' := by
  refine MetW.intro (own := RX9) (by decide) (Nat.le_of_ble_eq_true rfl) rfl ?_
  intro p e s m below meth c X hr hlk hP ls hl
  have hx := X.1.1
  have hb := X.1.2.1
  have hS : va_S (xA VM la) s.heap s.heap [] := va_S.rf
  unfold fX9_builtIn at hf
  replace hl : lv_has ls 4 [(0, .ref (la 9 0)), (1, .int a1)] := hl
  refine lv_iconst (v := 0) hx hb dX9_builtIn_0 (by decide) ?_
  refine lv_istore_n (lv' := [(2, .int (0 : Int32)), (0, .ref (la 9 0)), (1, .int a1)]) hx hb dX9_builtIn_1 rfl hl (by decide) rfl (fun ls hl => ?_)
  refine lv_iload_n hx hb dX9_builtIn_2 rfl (lv_at hl 2 rfl) ?_
  by_cases c1 : a1 = (1 : Int32)
  · replace hf := (if_pos c1).symm.trans hf
    refine w_stk (st1 := .int (1 : Int32) :: _) (by rw [c1]) ?_
    refine lv_tableIn (off := 25) (tgt := 28) hx hb dX9_builtIn_3 (by decide) (by decide) (by decide) (by decide) ?_
    refine lv_iconst (v := 0) hx hb dX9_builtIn_28 (by decide) ?_
    refine lv_istore_n (lv' := [(3, .int (0 : Int32)), (2, .int (0 : Int32)), (0, .ref (la 9 0)), (1, .int a1)]) hx hb dX9_builtIn_29 rfl hl (by decide) rfl (fun ls hl => ?_)
    exact BX9_builtIn_30 X hr hlk N _ _ _ _ _ _  hf hP hS (lv_sub hl [2, 1, 0] rfl)
  replace hf := (if_neg c1).symm.trans hf
  by_cases c2 : a1 = (2 : Int32)
  · replace hf := (if_pos c2).symm.trans hf
    refine w_stk (st1 := .int (2 : Int32) :: _) (by rw [c2]) ?_
    refine lv_tableIn (off := 52) (tgt := 55) hx hb dX9_builtIn_3 (by decide) (by decide) (by decide) (by decide) ?_
    refine lv_iconst (v := 0) hx hb dX9_builtIn_55 (by decide) ?_
    refine lv_istore_n (lv' := [(3, .int (0 : Int32)), (2, .int (0 : Int32)), (0, .ref (la 9 0)), (1, .int a1)]) hx hb dX9_builtIn_56 rfl hl (by decide) rfl (fun ls hl => ?_)
    exact BX9_builtIn_57 X hr hlk N _ _ _ _ _ _  hf hP hS (lv_sub hl [2, 1, 0] rfl)
  replace hf := (if_neg c2).symm.trans hf
  by_cases c3 : a1 = (3 : Int32)
  · replace hf := (if_pos c3).symm.trans hf
    refine w_stk (st1 := .int (3 : Int32) :: _) (by rw [c3]) ?_
    refine lv_tableIn (off := 95) (tgt := 98) hx hb dX9_builtIn_3 (by decide) (by decide) (by decide) (by decide) ?_
    refine lv_iconst (v := 0) hx hb dX9_builtIn_98 (by decide) ?_
    refine lv_istore_n (lv' := [(3, .int (0 : Int32)), (2, .int (0 : Int32)), (0, .ref (la 9 0)), (1, .int a1)]) hx hb dX9_builtIn_99 rfl hl (by decide) rfl (fun ls hl => ?_)
    exact BX9_builtIn_100 X hr hlk N _ _ _ _ _ _  hf hP hS (lv_sub hl [2, 1, 0] rfl)
  replace hf := (if_neg c3).symm.trans hf
  have gc1 := lv_neT c1 (show ((1 : Int32)).toInt = 1 by decide)
  have gc2 := lv_neT c2 (show ((2 : Int32)).toInt = 2 by decide)
  have gc3 := lv_neT c3 (show ((3 : Int32)).toInt = 3 by decide)
  refine lv_tableOut (tgt := 133) hx hb dX9_builtIn_3 (by omega) (by decide) ?_
  clear gc1 gc2 gc3
  refine lv_aload_n hx hb dX9_builtIn_133 rfl (lv_at hl 1 rfl) ?_
  refine gM_givenMany X hP fl_X9_173 dX9_builtIn_134 ?_
  refine lv_if_eq (tgt := 153) hx hb dX9_builtIn_137 (by decide) (fun c4 => ?_) (fun c4 => ?_)
  · replace hf := (if_pos c4).symm.trans hf
    exact BX9_builtIn_153 X hr hlk _ _ _ _  hf hP hS (lv_sub hl [1] rfl)
  · replace hf := (if_neg c4).symm.trans hf
    refine lv_aload_n hx hb dX9_builtIn_140 rfl (lv_at hl 1 rfl) ?_
    refine lv_aload_n hx hb dX9_builtIn_141 rfl (lv_at hl 1 rfl) ?_
    refine gM_given X hP fl_X9_65 dX9_builtIn_142 ?_
    refine lv_iconst (v := 0) hx hb dX9_builtIn_145 (by decide) ?_
    refine w_ialdK X hP (c0 := 30) (i0 := 38) (show 0 < lenM 38 by decide) (n := 4) (fun _ => rfl) 0 (by decide) (show ¬ ((0 : Int32) < 0 ∨ 4 ≤ ((0 : Int32)).toNatClampNeg) by decide) dX9_builtIn_146 ?_
    obtain ⟨v7, st5, hr6, hf⟩ := bd_2 hf
    refine w_V1 X (TX9_isPlace l hr6) hP hS rfl KX9_isPlace ml_X9_94 ⟨rfl, rfl⟩ ⟨by decide, by decide⟩ (x_recv (E := fun c i => (EMf cyI la) (st.1 c i) st.2 c i) (c0 := 9) (i0 := 0) X.2.2.1 hP rfl (ci := 9) rfl rfl) rfl hl.1 (Nat.le_of_ble_eq_true rfl) dX9_builtIn_147 (fun H locs hP hS => ?_)
    refine lv_if_ne (tgt := 160) hx hb dX9_builtIn_150 (by decide) (fun c8 => ?_) (fun c8 => ?_)
    · replace hf := (if_neg c8).symm.trans hf
      refine lv_aload_n hx hb dX9_builtIn_160 rfl (lv_at hl 1 rfl) ?_
      refine gM_memory X hP fl_X9_7 dX9_builtIn_161 ?_
      refine lv_aload_n hx hb dX9_builtIn_164 rfl (lv_at hl 1 rfl) ?_
      refine gM_given X hP fl_X9_65 dX9_builtIn_165 ?_
      refine lv_iconst (v := 0) hx hb dX9_builtIn_168 (by decide) ?_
      refine w_ialdK X hP (c0 := 30) (i0 := 38) (show 0 < lenM 38 by decide) (n := 4) (fun _ => rfl) 0 (by decide) (show ¬ ((0 : Int32) < 0 ∨ 4 ≤ ((0 : Int32)).toNatClampNeg) by decide) dX9_builtIn_169 ?_
      obtain ⟨hn9, hf⟩ := ck_of hf
      refine w_iald X hP (c0 := 30) (i0 := 1) (show 0 < lenM 1 by decide) (n := 1024) rfl hn9 dX9_builtIn_170 ?_
      obtain ⟨rfl, rfl⟩ := sp_2 hf
      exact w_iret X hr hlk hP hS dX9_builtIn_171
    · replace hf := (if_pos c8).symm.trans hf
      exact BX9_builtIn_153 X hr hlk _ _ _ _  hf hP hS (lv_sub hl [1] rfl)
theorem KX9_builtIn : xKv yX9_builtIn cX9_builtIn 4 (some .int) RX9 1 := ⟨cd_X9_builtIn, im_X9_builtIn, se_X9_builtIn, in_X9, by decide +kernel⟩
