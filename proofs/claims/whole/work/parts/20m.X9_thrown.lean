abbrev rm_X9_thrown : Room := { frames := 0, cells := 0, slots := 0, locals := 0 }
def fX9_thrown (N : Nat) (st : xSt) : Option (Int32 × xSt) := some ((st.1 9 0 0), st)
set_option maxHeartbeats 4000000 in
set_option maxRecDepth 100000 in
theorem TX9_thrown (l : Launch) {D : va_G} {la : Nat → Nat → Nat} {cyI cyF cyM : ClassId} {t0 N : Nat} {st : xSt} {r : Int32} {st' : xSt} (hf : fX9_thrown N st = some (r, st')) : MetM D cyI cyF cyM la t0 l yX9_thrown (Cond.code yX9_thrown cX9_thrown 1 (some .int) :: xALL) rm_X9_thrown [.ref (la 9 0)] (some (.int r)) st st' := by
  refine MetW.intro (own := RX9) (by decide) (Nat.le_of_ble_eq_true rfl) rfl ?_
  intro p e s m below meth c X hr hlk hP ls hl
  have hx := X.1.1
  have hb := X.1.2.1
  have hS : va_S (xA VM la) s.heap s.heap [] := va_S.rf
  unfold fX9_thrown at hf
  replace hl : lv_has ls 1 [(0, .ref (la 9 0))] := hl
  refine lv_aload_n hx hb dX9_thrown_0 rfl (lv_at hl 0 rfl) ?_
  refine gM_thrown X hP fl_X9_77 dX9_thrown_1 ?_
  obtain ⟨rfl, rfl⟩ := sp_2 hf
  exact w_iret X hr hlk hP hS dX9_thrown_4
theorem KX9_thrown : xKv yX9_thrown cX9_thrown 1 (some .int) RX9 0 := ⟨cd_X9_thrown, im_X9_thrown, se_X9_thrown, in_X9, by decide +kernel⟩
abbrev rm_X9_isPlace : Room := { frames := 0, cells := 0, slots := 0, locals := 0 }
def fX9_isPlace (N : Nat) (a1 : Int32) (st : xSt) : Option (Int32 × xSt) := if a1 < (0 : Int32) then some ((0 : Int32), st) else if (1024 : Int32) ≤ a1 then some ((0 : Int32), st) else some ((1 : Int32), st)
set_option maxHeartbeats 4000000 in
set_option maxRecDepth 100000 in
theorem TX9_isPlace (l : Launch) {D : va_G} {la : Nat → Nat → Nat} {cyI cyF cyM : ClassId} {t0 N : Nat} {a1 : Int32} {st : xSt} {r : Int32} {st' : xSt} (hf : fX9_isPlace N a1 st = some (r, st')) : MetM D cyI cyF cyM la t0 l yX9_isPlace (Cond.code yX9_isPlace cX9_isPlace 2 (some .boolean) :: xALL) rm_X9_isPlace [.ref (la 9 0), .int a1] (some (.int r)) st st' := by
  refine MetW.intro (own := RX9) (by decide) (Nat.le_of_ble_eq_true rfl) rfl ?_
  intro p e s m below meth c X hr hlk hP ls hl
  have hx := X.1.1
  have hb := X.1.2.1
  have hS : va_S (xA VM la) s.heap s.heap [] := va_S.rf
  unfold fX9_isPlace at hf
  replace hl : lv_has ls 2 [(0, .ref (la 9 0)), (1, .int a1)] := hl
  refine lv_iload_n hx hb dX9_isPlace_0 rfl (lv_at hl 1 rfl) ?_
  refine lv_if_lt (tgt := 15) hx hb dX9_isPlace_1 (by decide) (fun c1 => ?_) (fun c1 => ?_)
  · replace hf := (if_pos c1).symm.trans hf
    refine lv_iconst (v := 0) hx hb dX9_isPlace_15 (by decide) ?_
    obtain ⟨rfl, rfl⟩ := sp_2 hf
    exact w_zret X hr hlk (by decide) hP hS dX9_isPlace_16
  · replace hf := (if_neg c1).symm.trans hf
    refine lv_iload_n hx hb dX9_isPlace_4 rfl (lv_at hl 1 rfl) ?_
    refine lv_sipush (v := 1024) hx hb dX9_isPlace_5 (by decide) ?_
    refine lv_icmp_ge (tgt := 15) hx hb dX9_isPlace_8 (by decide) (fun c2 => ?_) (fun c2 => ?_)
    · replace hf := (if_pos c2).symm.trans hf
      refine lv_iconst (v := 0) hx hb dX9_isPlace_15 (by decide) ?_
      obtain ⟨rfl, rfl⟩ := sp_2 hf
      exact w_zret X hr hlk (by decide) hP hS dX9_isPlace_16
    · replace hf := (if_neg c2).symm.trans hf
      refine lv_iconst (v := 1) hx hb dX9_isPlace_11 (by decide) ?_
      refine lv_goto (tgt := 16) hx hb dX9_isPlace_12 (by decide) ?_
      obtain ⟨rfl, rfl⟩ := sp_2 hf
      exact w_zret X hr hlk (by decide) hP hS dX9_isPlace_16
theorem KX9_isPlace : xKv yX9_isPlace cX9_isPlace 2 (some .boolean) RX9 1 := ⟨cd_X9_isPlace, im_X9_isPlace, se_X9_isPlace, in_X9, by decide +kernel⟩
abbrev rm_X9_away : Room := { frames := 0, cells := 0, slots := 0, locals := 0 }
def fX9_away_b22 (N : Nat) : Nat → Int32 → xSt → Option xSt
  | 0, _, _ => none
  | n + 1, a2, st => if (st.1 9 0 6) ≤ a2 then some st else if (a2 + (1 : Int32)) < 0 ∨ 21 ≤ ((a2 + (1 : Int32))).toNatClampNeg then none else if a2 < 0 ∨ 21 ≤ (a2).toNatClampNeg then none else nm (pI st 30 7 (a2).toNatClampNeg (st.1 30 7 ((a2 + (1 : Int32))).toNatClampNeg)) (fun st6 => if (a2 + (1 : Int32)) < 0 ∨ 21 ≤ ((a2 + (1 : Int32))).toNatClampNeg then none else if a2 < 0 ∨ 21 ≤ (a2).toNatClampNeg then none else nm (pI st6 30 8 (a2).toNatClampNeg (st6.1 30 8 ((a2 + (1 : Int32))).toNatClampNeg)) (fun st9 => if (a2 + (1 : Int32)) < 0 ∨ 21 ≤ ((a2 + (1 : Int32))).toNatClampNeg then none else if a2 < 0 ∨ 21 ≤ (a2).toNatClampNeg then none else nm (pI st9 30 9 (a2).toNatClampNeg (st9.1 30 9 ((a2 + (1 : Int32))).toNatClampNeg)) (fun st12 => nm (a2 + (1 : Int32)) (fun x13 => fX9_away_b22 N n x13 st12))))
set_option maxHeartbeats 4000000 in
set_option maxRecDepth 100000 in
theorem BX9_away_22 {p : Program} {l : Launch} {e : Env} {s : State} {m : MethodId} {args : Array Value} {below : List Frame} {meth : Method} {c : Code} {D : va_G} {la : Nat → Nat → Nat} {cyI cyF cyM : ClassId} {t0 N : Nat} {st' : xSt} (X : xCx D VM la cyI cyF cyM t0 p m c cX9_away 3 s args RX9) (hr : meth.sig.returnType = none) (hlk : meth.locks = false) : ∀ n : Nat, ∀ (a2 : Int32) (st : xSt) (H : Heap) (locs : List Loc) (ls : Array Slot), fX9_away_b22 N n a2 st = some st' → HW D VM la (EMf cyI la) st H → va_S (xA VM la) s.heap H locs → lv_has ls 3 [(0, .ref (la 9 0)), (2, .int a2)] → W p l e rm_X9_away s m args below meth c H locs 0 0 (MQ below (xQc D VM la (EMf cyI la) none st') args s 0 0 (xA VM la)) (F0 m 22 ls []) := by
  have hx := X.1.1
  have hb := X.1.2.1
  intro n
  induction n with
  | zero =>
    intro a2 st H locs ls hf hP hS hl
    rw [fX9_away_b22] at hf
    cases hf
  | succ n ih =>
    intro a2 st H locs ls hf hP hS hl
    rw [fX9_away_b22] at hf
    refine lv_iload_n hx hb dX9_away_22 rfl (lv_at hl 1 rfl) ?_
    refine lv_aload_n hx hb dX9_away_23 rfl (lv_at hl 0 rfl) ?_
    refine gM_kept X hP fl_X9_80 dX9_away_24 ?_
    refine lv_icmp_ge (tgt := 78) hx hb dX9_away_27 (by decide) (fun c3 => ?_) (fun c3 => ?_)
    · replace hf := (if_pos c3).symm.trans hf
      obtain rfl := Option.some.inj hf
      exact w_vret X hr hlk hP hS dX9_away_78
    · replace hf := (if_neg c3).symm.trans hf
      refine lv_aload_n hx hb dX9_away_30 rfl (lv_at hl 0 rfl) ?_
      refine gM_keptAddress X hP fl_X9_22 dX9_away_31 ?_
      refine lv_iload_n hx hb dX9_away_34 rfl (lv_at hl 1 rfl) ?_
      refine lv_aload_n hx hb dX9_away_35 rfl (lv_at hl 0 rfl) ?_
      refine gM_keptAddress X hP fl_X9_22 dX9_away_36 ?_
      refine lv_iload_n hx hb dX9_away_39 rfl (lv_at hl 1 rfl) ?_
      refine lv_iconst (v := 1) hx hb dX9_away_40 (by decide) ?_
      refine lv_iadd hx hb dX9_away_41 ?_
      obtain ⟨hn4, hf⟩ := ck_of hf
      refine w_iald X hP (c0 := 30) (i0 := 7) (show 0 < lenM 7 by decide) (n := 21) rfl hn4 dX9_away_42 ?_
      obtain ⟨hn5, hf⟩ := ck_of hf
      refine w_iast X hP hS (c0 := 30) (i0 := 7) (show 0 < lenM 7 by decide) (n := 21) (fun _ => rfl) hn5 dX9_away_43 (fun H locs hP hS => ?_)
      obtain ⟨st6, hP, hf⟩ := nm_gen (P := fun z => HW D VM la (EMf cyI la) z H) hP hf
      refine lv_aload_n hx hb dX9_away_44 rfl (lv_at hl 0 rfl) ?_
      refine gM_keptEnd X hP fl_X9_25 dX9_away_45 ?_
      refine lv_iload_n hx hb dX9_away_48 rfl (lv_at hl 1 rfl) ?_
      refine lv_aload_n hx hb dX9_away_49 rfl (lv_at hl 0 rfl) ?_
      refine gM_keptEnd X hP fl_X9_25 dX9_away_50 ?_
      refine lv_iload_n hx hb dX9_away_53 rfl (lv_at hl 1 rfl) ?_
      refine lv_iconst (v := 1) hx hb dX9_away_54 (by decide) ?_
      refine lv_iadd hx hb dX9_away_55 ?_
      obtain ⟨hn7, hf⟩ := ck_of hf
      refine w_iald X hP (c0 := 30) (i0 := 8) (show 0 < lenM 8 by decide) (n := 21) rfl hn7 dX9_away_56 ?_
      obtain ⟨hn8, hf⟩ := ck_of hf
      refine w_iast X hP hS (c0 := 30) (i0 := 8) (show 0 < lenM 8 by decide) (n := 21) (fun _ => rfl) hn8 dX9_away_57 (fun H locs hP hS => ?_)
      obtain ⟨st9, hP, hf⟩ := nm_gen (P := fun z => HW D VM la (EMf cyI la) z H) hP hf
      refine lv_aload_n hx hb dX9_away_58 rfl (lv_at hl 0 rfl) ?_
      refine gM_keptNumber X hP fl_X9_28 dX9_away_59 ?_
      refine lv_iload_n hx hb dX9_away_62 rfl (lv_at hl 1 rfl) ?_
      refine lv_aload_n hx hb dX9_away_63 rfl (lv_at hl 0 rfl) ?_
      refine gM_keptNumber X hP fl_X9_28 dX9_away_64 ?_
      refine lv_iload_n hx hb dX9_away_67 rfl (lv_at hl 1 rfl) ?_
      refine lv_iconst (v := 1) hx hb dX9_away_68 (by decide) ?_
      refine lv_iadd hx hb dX9_away_69 ?_
      obtain ⟨hn10, hf⟩ := ck_of hf
      refine w_iald X hP (c0 := 30) (i0 := 9) (show 0 < lenM 9 by decide) (n := 21) rfl hn10 dX9_away_70 ?_
      obtain ⟨hn11, hf⟩ := ck_of hf
      refine w_iast X hP hS (c0 := 30) (i0 := 9) (show 0 < lenM 9 by decide) (n := 21) (fun _ => rfl) hn11 dX9_away_71 (fun H locs hP hS => ?_)
      obtain ⟨st12, hP, hf⟩ := nm_gen (P := fun z => HW D VM la (EMf cyI la) z H) hP hf
      obtain ⟨x13, ex⟩ : ∃ y : Int32, y = (a2 + (1 : Int32)) := ⟨_, rfl⟩
      replace hf := nm_of hf ex
      refine lv_iinc (v := x13) (lv' := [(2, .int x13), (0, .ref (la 9 0))]) hx hb dX9_away_72 hl (k := 1) rfl (by rw [ex]; rfl) (by decide) rfl (fun ls hl => ?_)
      clear ex
      refine lv_goto (tgt := 22) hx hb dX9_away_75 (by decide) ?_
      exact ih _ _ _ _ _  hf hP hS (lv_sub hl [1, 0] rfl)
def fX9_away (N : Nat) (a1 : Int32) (st : xSt) : Option xSt := nm (pI st 9 0 6 ((st.1 9 0 6) - (1 : Int32))) (fun st1 => nm (pI st1 9 0 12 ((st1.1 9 0 12) + (1 : Int32))) (fun st2 => fX9_away_b22 N N a1 st2))
set_option maxHeartbeats 4000000 in
set_option maxRecDepth 100000 in
theorem TX9_away (l : Launch) {D : va_G} {la : Nat → Nat → Nat} {cyI cyF cyM : ClassId} {t0 N : Nat} {a1 : Int32} {st : xSt} {st' : xSt} (hf : fX9_away N a1 st = some st') : MetM D cyI cyF cyM la t0 l yX9_away (Cond.code yX9_away cX9_away 3 none :: xALL) rm_X9_away [.ref (la 9 0), .int a1] none st st' := by
  refine MetW.intro (own := RX9) (by decide) (Nat.le_of_ble_eq_true rfl) rfl ?_
  intro p e s m below meth c X hr hlk hP ls hl
  have hx := X.1.1
  have hb := X.1.2.1
  have hS : va_S (xA VM la) s.heap s.heap [] := va_S.rf
  unfold fX9_away at hf
  replace hl : lv_has ls 3 [(0, .ref (la 9 0)), (1, .int a1)] := hl
  refine lv_aload_n hx hb dX9_away_0 rfl (lv_at hl 0 rfl) ?_
  refine lv_dup hx hb dX9_away_1 rfl ?_
  refine gM_kept X hP fl_X9_80 dX9_away_2 ?_
  refine lv_iconst (v := 1) hx hb dX9_away_5 (by decide) ?_
  refine lv_isub hx hb dX9_away_6 ?_
  refine pM_kept X hP hS fl_X9_80 dX9_away_7 (fun H locs hP hS => ?_)
  obtain ⟨st1, hP, hf⟩ := nm_gen (P := fun z => HW D VM la (EMf cyI la) z H) hP hf
  refine lv_aload_n hx hb dX9_away_10 rfl (lv_at hl 0 rfl) ?_
  refine lv_dup hx hb dX9_away_11 rfl ?_
  refine gM_dropped X hP fl_X9_83 dX9_away_12 ?_
  refine lv_iconst (v := 1) hx hb dX9_away_15 (by decide) ?_
  refine lv_iadd hx hb dX9_away_16 ?_
  refine pM_dropped X hP hS fl_X9_83 dX9_away_17 (fun H locs hP hS => ?_)
  obtain ⟨st2, hP, hf⟩ := nm_gen (P := fun z => HW D VM la (EMf cyI la) z H) hP hf
  refine lv_iload_n hx hb dX9_away_20 rfl (lv_at hl 1 rfl) ?_
  refine lv_istore_n (lv' := [(2, .int a1), (0, .ref (la 9 0)), (1, .int a1)]) hx hb dX9_away_21 rfl hl (by decide) rfl (fun ls hl => ?_)
  exact BX9_away_22 X hr hlk N _ _ _ _ _  hf hP hS (lv_sub hl [1, 0] rfl)
theorem KX9_away : xKv yX9_away cX9_away 3 none RX9 1 := ⟨cd_X9_away, im_X9_away, se_X9_away, in_X9, by decide +kernel⟩
abbrev rm_X9_dropPage : Room := { frames := 1, cells := 0, slots := 0, locals := 22 }
def fX9_dropPage_b47 (N : Nat) (k12 : Int32 → Int32 → Int32 → xSt → Option (Int32 × xSt)) (a1 : Int32) (a2 : Int32) (a3 : Int32) (st : xSt) : Option (Int32 × xSt) := nm (a3 + (-1 : Int32)) (fun x10 => k12 a1 a2 x10 st)
set_option maxHeartbeats 4000000 in
set_option maxRecDepth 100000 in
theorem BX9_dropPage_47 {p : Program} {l : Launch} {e : Env} {s : State} {m : MethodId} {args : Array Value} {below : List Frame} {meth : Method} {c : Code} {D : va_G} {la : Nat → Nat → Nat} {cyI cyF cyM : ClassId} {t0 N : Nat} {k12 : Int32 → Int32 → Int32 → xSt → Option (Int32 × xSt)} {r : Int32} {st' : xSt} (X : xCx D VM la cyI cyF cyM t0 p m c cX9_dropPage 4 s args RX9) (hr : meth.sig.returnType = (some .int)) (hlk : meth.locks = false) (hk12 : ∀ (a1 : Int32) (a2 : Int32) (a3 : Int32) (st : xSt) (H : Heap) (locs : List Loc) (ls : Array Slot), k12 a1 a2 a3 st = some (r, st') → HW D VM la (EMf cyI la) st H → va_S (xA VM la) s.heap H locs → lv_has ls 4 [(0, .ref (la 9 0)), (1, .int a1), (2, .int a2), (3, .int a3)] → W p l e rm_X9_dropPage s m args below meth c H locs 0 0 (MQ below (xQc D VM la (EMf cyI la) (some (.int r)) st') args s 0 0 (xA VM la)) (F0 m 12 ls [])) : ∀ (a1 : Int32) (a2 : Int32) (a3 : Int32) (st : xSt) (H : Heap) (locs : List Loc) (ls : Array Slot), fX9_dropPage_b47 N k12 a1 a2 a3 st = some (r, st') → HW D VM la (EMf cyI la) st H → va_S (xA VM la) s.heap H locs → lv_has ls 4 [(0, .ref (la 9 0)), (1, .int a1), (2, .int a2), (3, .int a3)] → W p l e rm_X9_dropPage s m args below meth c H locs 0 0 (MQ below (xQc D VM la (EMf cyI la) (some (.int r)) st') args s 0 0 (xA VM la)) (F0 m 47 ls []) := by
  have hx := X.1.1
  have hb := X.1.2.1
  intro a1 a2 a3 st H locs ls hf hP hS hl
  unfold fX9_dropPage_b47 at hf
  obtain ⟨x10, ex⟩ : ∃ y : Int32, y = (a3 + (-1 : Int32)) := ⟨_, rfl⟩
  replace hf := nm_of hf ex
  refine lv_iinc (v := x10) (lv' := [(3, .int x10), (0, .ref (la 9 0)), (1, .int a1), (2, .int a2)]) hx hb dX9_dropPage_47 hl (k := 3) rfl (by rw [ex]; rfl) (by decide) rfl (fun ls hl => ?_)
  clear ex
  refine lv_goto (tgt := 12) hx hb dX9_dropPage_50 (by decide) ?_
  exact hk12 _ _ _ _ _ _ _  hf hP hS (lv_sub hl [1, 2, 3, 0] rfl)
def fX9_dropPage_b12 (N : Nat) : Nat → Int32 → Int32 → Int32 → xSt → Option (Int32 × xSt)
  | 0, _, _, _, _ => none
  | n + 1, a1, a2, a3, st => if a3 < (0 : Int32) then some ((a2 - (st.1 9 0 6)), st) else if a3 < 0 ∨ 21 ≤ (a3).toNatClampNeg then none else if a1 < ((st.1 30 7 (a3).toNatClampNeg) / (64 : Int32)) then fX9_dropPage_b47 N (fX9_dropPage_b12 N n) a1 a2 a3 st else if a3 < 0 ∨ 21 ≤ (a3).toNatClampNeg then none else if ((st.1 30 8 (a3).toNatClampNeg) / (64 : Int32)) < a1 then fX9_dropPage_b47 N (fX9_dropPage_b12 N n) a1 a2 a3 st else Option.bind (fX9_away N a3 st) (fun st8 => fX9_dropPage_b47 N (fX9_dropPage_b12 N n) a1 a2 a3 st8)
set_option maxHeartbeats 4000000 in
set_option maxRecDepth 100000 in
theorem BX9_dropPage_12 {p : Program} {l : Launch} {e : Env} {s : State} {m : MethodId} {args : Array Value} {below : List Frame} {meth : Method} {c : Code} {D : va_G} {la : Nat → Nat → Nat} {cyI cyF cyM : ClassId} {t0 N : Nat} {r : Int32} {st' : xSt} (X : xCx D VM la cyI cyF cyM t0 p m c cX9_dropPage 4 s args RX9) (hr : meth.sig.returnType = (some .int)) (hlk : meth.locks = false) : ∀ n : Nat, ∀ (a1 : Int32) (a2 : Int32) (a3 : Int32) (st : xSt) (H : Heap) (locs : List Loc) (ls : Array Slot), fX9_dropPage_b12 N n a1 a2 a3 st = some (r, st') → HW D VM la (EMf cyI la) st H → va_S (xA VM la) s.heap H locs → lv_has ls 4 [(0, .ref (la 9 0)), (1, .int a1), (2, .int a2), (3, .int a3)] → W p l e rm_X9_dropPage s m args below meth c H locs 0 0 (MQ below (xQc D VM la (EMf cyI la) (some (.int r)) st') args s 0 0 (xA VM la)) (F0 m 12 ls []) := by
  have hx := X.1.1
  have hb := X.1.2.1
  intro n
  induction n with
  | zero =>
    intro a1 a2 a3 st H locs ls hf hP hS hl
    rw [fX9_dropPage_b12] at hf
    cases hf
  | succ n ih =>
    intro a1 a2 a3 st H locs ls hf hP hS hl
    rw [fX9_dropPage_b12] at hf
    refine lv_iload_n hx hb dX9_dropPage_12 rfl (lv_at hl 3 rfl) ?_
    refine lv_if_lt (tgt := 53) hx hb dX9_dropPage_13 (by decide) (fun c3 => ?_) (fun c3 => ?_)
    · replace hf := (if_pos c3).symm.trans hf
      refine lv_iload_n hx hb dX9_dropPage_53 rfl (lv_at hl 2 rfl) ?_
      refine lv_aload_n hx hb dX9_dropPage_54 rfl (lv_at hl 0 rfl) ?_
      refine gM_kept X hP fl_X9_80 dX9_dropPage_55 ?_
      refine lv_isub hx hb dX9_dropPage_58 ?_
      obtain ⟨rfl, rfl⟩ := sp_2 hf
      exact w_iret X hr hlk hP hS dX9_dropPage_59
    · replace hf := (if_neg c3).symm.trans hf
      refine lv_aload_n hx hb dX9_dropPage_16 rfl (lv_at hl 0 rfl) ?_
      refine gM_keptAddress X hP fl_X9_22 dX9_dropPage_17 ?_
      refine lv_iload_n hx hb dX9_dropPage_20 rfl (lv_at hl 3 rfl) ?_
      obtain ⟨hn4, hf⟩ := ck_of hf
      refine w_iald X hP (c0 := 30) (i0 := 7) (show 0 < lenM 7 by decide) (n := 21) rfl hn4 dX9_dropPage_21 ?_
      refine lv_bipush (v := 64) hx hb dX9_dropPage_22 (by decide) ?_
      refine lv_idiv hx hb dX9_dropPage_24 (by decide) ?_
      refine lv_iload_n hx hb dX9_dropPage_25 rfl (lv_at hl 1 rfl) ?_
      refine lv_icmp_gt (tgt := 47) hx hb dX9_dropPage_26 (by decide) (fun c5 => ?_) (fun c5 => ?_)
      · replace hf := (if_pos c5).symm.trans hf
        exact BX9_dropPage_47 X hr hlk ih _ _ _ _ _ _ _  hf hP hS (lv_sub hl [0, 1, 2, 3] rfl)
      · replace hf := (if_neg c5).symm.trans hf
        refine lv_aload_n hx hb dX9_dropPage_29 rfl (lv_at hl 0 rfl) ?_
        refine gM_keptEnd X hP fl_X9_25 dX9_dropPage_30 ?_
        refine lv_iload_n hx hb dX9_dropPage_33 rfl (lv_at hl 3 rfl) ?_
        obtain ⟨hn6, hf⟩ := ck_of hf
        refine w_iald X hP (c0 := 30) (i0 := 8) (show 0 < lenM 8 by decide) (n := 21) rfl hn6 dX9_dropPage_34 ?_
        refine lv_bipush (v := 64) hx hb dX9_dropPage_35 (by decide) ?_
        refine lv_idiv hx hb dX9_dropPage_37 (by decide) ?_
        refine lv_iload_n hx hb dX9_dropPage_38 rfl (lv_at hl 1 rfl) ?_
        refine lv_icmp_lt (tgt := 47) hx hb dX9_dropPage_39 (by decide) (fun c7 => ?_) (fun c7 => ?_)
        · replace hf := (if_pos c7).symm.trans hf
          exact BX9_dropPage_47 X hr hlk ih _ _ _ _ _ _ _  hf hP hS (lv_sub hl [0, 1, 2, 3] rfl)
        · replace hf := (if_neg c7).symm.trans hf
          refine lv_aload_n hx hb dX9_dropPage_42 rfl (lv_at hl 0 rfl) ?_
          refine lv_iload_n hx hb dX9_dropPage_43 rfl (lv_at hl 3 rfl) ?_
          obtain ⟨st8, hr9, hf⟩ := bd_of hf
          refine w_V0 X (TX9_away l hr9) hP hS rfl KX9_away ml_X9_86 ⟨rfl, rfl⟩ ⟨by decide, by decide⟩ (x_recv (E := fun c i => (EMf cyI la) (st.1 c i) st.2 c i) (c0 := 9) (i0 := 0) X.2.2.1 hP rfl (ci := 9) rfl rfl) rfl hl.1 (Nat.le_of_ble_eq_true rfl) dX9_dropPage_44 (fun H locs hP hS => ?_)
          exact BX9_dropPage_47 X hr hlk ih _ _ _ _ _ _ _  hf hP hS (lv_sub hl [0, 1, 2, 3] rfl)
def fX9_dropPage (N : Nat) (a1 : Int32) (st : xSt) : Option (Int32 × xSt) := nm (st.1 9 0 6) (fun x1 => nm ((st.1 9 0 6) - (1 : Int32)) (fun x2 => fX9_dropPage_b12 N N a1 x1 x2 st))
set_option maxHeartbeats 4000000 in
set_option maxRecDepth 100000 in
theorem TX9_dropPage (l : Launch) {D : va_G} {la : Nat → Nat → Nat} {cyI cyF cyM : ClassId} {t0 N : Nat} {a1 : Int32} {st : xSt} {r : Int32} {st' : xSt} (hf : fX9_dropPage N a1 st = some (r, st')) : MetM D cyI cyF cyM la t0 l yX9_dropPage (Cond.code yX9_dropPage cX9_dropPage 4 (some .int) :: xALL) rm_X9_dropPage [.ref (la 9 0), .int a1] (some (.int r)) st st' := by
  refine MetW.intro (own := RX9) (by decide) (Nat.le_of_ble_eq_true rfl) rfl ?_
  intro p e s m below meth c X hr hlk hP ls hl
  have hx := X.1.1
  have hb := X.1.2.1
  have hS : va_S (xA VM la) s.heap s.heap [] := va_S.rf
  unfold fX9_dropPage at hf
  replace hl : lv_has ls 4 [(0, .ref (la 9 0)), (1, .int a1)] := hl
  refine lv_aload_n hx hb dX9_dropPage_0 rfl (lv_at hl 0 rfl) ?_
  refine gM_kept X hP fl_X9_80 dX9_dropPage_1 ?_
  refine lv_topi (fun x1 ex => ?_)
  replace hf := nm_of hf ex
  clear ex
  refine lv_istore_n (lv' := [(2, .int x1), (0, .ref (la 9 0)), (1, .int a1)]) hx hb dX9_dropPage_4 rfl hl (by decide) rfl (fun ls hl => ?_)
  refine lv_aload_n hx hb dX9_dropPage_5 rfl (lv_at hl 1 rfl) ?_
  refine gM_kept X hP fl_X9_80 dX9_dropPage_6 ?_
  refine lv_iconst (v := 1) hx hb dX9_dropPage_9 (by decide) ?_
  refine lv_isub hx hb dX9_dropPage_10 ?_
  refine lv_topi (fun x2 ex => ?_)
  replace hf := nm_of hf ex
  clear ex
  refine lv_istore_n (lv' := [(3, .int x2), (2, .int x1), (0, .ref (la 9 0)), (1, .int a1)]) hx hb dX9_dropPage_11 rfl hl (by decide) rfl (fun ls hl => ?_)
  exact BX9_dropPage_12 X hr hlk N _ _ _ _ _ _ _  hf hP hS (lv_sub hl [2, 3, 1, 0] rfl)
theorem KX9_dropPage : xKv yX9_dropPage cX9_dropPage 4 (some .int) RX9 1 := ⟨cd_X9_dropPage, im_X9_dropPage, se_X9_dropPage, in_X9, by decide +kernel⟩
abbrev rm_X9_write : Room := { frames := 2, cells := 0, slots := 0, locals := 45 }
def fX9_write (N : Nat) (a1 : Int32) (a2 : Int32) (st : xSt) : Option (Int32 × xSt) := nm (a2 &&& (255 : Int32)) (fun x1 => if a1 < 0 ∨ 1024 ≤ (a1).toNatClampNeg then none else if (st.1 30 1 (a1).toNatClampNeg) = x1 then some ((0 : Int32), st) else if a1 < 0 ∨ 1024 ≤ (a1).toNatClampNeg then none else nm (pI st 30 1 (a1).toNatClampNeg x1) (fun st5 => bd (fX9_dropPage N (a1 / (64 : Int32)) st5) (fun v8 st6 => some (v8, st6))))
set_option maxHeartbeats 4000000 in
set_option maxRecDepth 100000 in
theorem TX9_write (l : Launch) {D : va_G} {la : Nat → Nat → Nat} {cyI cyF cyM : ClassId} {t0 N : Nat} {a1 : Int32} {a2 : Int32} {st : xSt} {r : Int32} {st' : xSt} (hf : fX9_write N a1 a2 st = some (r, st')) : MetM D cyI cyF cyM la t0 l yX9_write (Cond.code yX9_write cX9_write 4 (some .int) :: xALL) rm_X9_write [.ref (la 9 0), .int a1, .int a2] (some (.int r)) st st' := by
  refine MetW.intro (own := RX9) (by decide) (Nat.le_of_ble_eq_true rfl) rfl ?_
  intro p e s m below meth c X hr hlk hP ls hl
  have hx := X.1.1
  have hb := X.1.2.1
  have hS : va_S (xA VM la) s.heap s.heap [] := va_S.rf
  unfold fX9_write at hf
  replace hl : lv_has ls 4 [(0, .ref (la 9 0)), (1, .int a1), (2, .int a2)] := hl
  refine lv_iload_n hx hb dX9_write_0 rfl (lv_at hl 2 rfl) ?_
  refine lv_sipush (v := 255) hx hb dX9_write_1 (by decide) ?_
  refine lv_iand hx hb dX9_write_4 ?_
  refine lv_topi (fun x1 ex => ?_)
  replace hf := nm_of hf ex
  clear ex
  refine lv_istore_n (lv' := [(3, .int x1), (0, .ref (la 9 0)), (1, .int a1), (2, .int a2)]) hx hb dX9_write_5 rfl hl (by decide) rfl (fun ls hl => ?_)
  refine lv_aload_n hx hb dX9_write_6 rfl (lv_at hl 1 rfl) ?_
  refine gM_memory X hP fl_X9_7 dX9_write_7 ?_
  refine lv_iload_n hx hb dX9_write_10 rfl (lv_at hl 2 rfl) ?_
  obtain ⟨hn2, hf⟩ := ck_of hf
  refine w_iald X hP (c0 := 30) (i0 := 1) (show 0 < lenM 1 by decide) (n := 1024) rfl hn2 dX9_write_11 ?_
  refine lv_iload_n hx hb dX9_write_12 rfl (lv_at hl 0 rfl) ?_
  refine lv_icmp_ne (tgt := 18) hx hb dX9_write_13 (by decide) (fun c3 => ?_) (fun c3 => ?_)
  · replace hf := (if_neg c3).symm.trans hf
    refine lv_aload_n hx hb dX9_write_18 rfl (lv_at hl 1 rfl) ?_
    refine gM_memory X hP fl_X9_7 dX9_write_19 ?_
    refine lv_iload_n hx hb dX9_write_22 rfl (lv_at hl 2 rfl) ?_
    refine lv_iload_n hx hb dX9_write_23 rfl (lv_at hl 0 rfl) ?_
    obtain ⟨hn4, hf⟩ := ck_of hf
    refine w_iast X hP hS (c0 := 30) (i0 := 1) (show 0 < lenM 1 by decide) (n := 1024) (fun _ => rfl) hn4 dX9_write_24 (fun H locs hP hS => ?_)
    obtain ⟨st5, hP, hf⟩ := nm_gen (P := fun z => HW D VM la (EMf cyI la) z H) hP hf
    refine lv_aload_n hx hb dX9_write_25 rfl (lv_at hl 1 rfl) ?_
    refine lv_iload_n hx hb dX9_write_26 rfl (lv_at hl 2 rfl) ?_
    refine lv_bipush (v := 64) hx hb dX9_write_27 (by decide) ?_
    refine lv_idiv hx hb dX9_write_29 (by decide) ?_
    obtain ⟨v8, st6, hr7, hf⟩ := bd_2 hf
    refine w_V1 X (TX9_dropPage l hr7) hP hS rfl KX9_dropPage ml_X9_90 ⟨rfl, rfl⟩ ⟨by decide, by decide⟩ (x_recv (E := fun c i => (EMf cyI la) (st5.1 c i) st5.2 c i) (c0 := 9) (i0 := 0) X.2.2.1 hP rfl (ci := 9) rfl rfl) rfl hl.1 (Nat.le_of_ble_eq_true rfl) dX9_write_30 (fun H locs hP hS => ?_)
    obtain ⟨rfl, rfl⟩ := sp_2 hf
    exact w_iret X hr hlk hP hS dX9_write_33
  · replace hf := (if_pos c3).symm.trans hf
    refine lv_iconst (v := 0) hx hb dX9_write_16 (by decide) ?_
    obtain ⟨rfl, rfl⟩ := sp_2 hf
    exact w_iret X hr hlk hP hS dX9_write_17
theorem KX9_write : xKv yX9_write cX9_write 4 (some .int) RX9 2 := ⟨cd_X9_write, im_X9_write, se_X9_write, in_X9, by decide +kernel⟩
abbrev rm_X9_poke : Room := { frames := 3, cells := 0, slots := 0, locals := 68 }
def fX9_poke_b14 (N : Nat) (a1 : Int32) (a2 : Int32) (as0 : Int32) (st : xSt) : Option (Int32 × xSt) := nm (pI st 9 0 0 as0) (fun st5 => if (st5.1 9 0 0) ≤ (0 : Int32) then if a1 < 0 ∨ 1024 ≤ (a1).toNatClampNeg then none else nm (st5.1 30 1 (a1).toNatClampNeg) (fun x8 => bd (fX9_write N a1 a2 st5) (fun v11 st9 => some (x8, st9))) else some ((0 : Int32), st5))
set_option maxHeartbeats 4000000 in
set_option maxRecDepth 100000 in
theorem BX9_poke_14 {p : Program} {l : Launch} {e : Env} {s : State} {m : MethodId} {args : Array Value} {below : List Frame} {meth : Method} {c : Code} {D : va_G} {la : Nat → Nat → Nat} {cyI cyF cyM : ClassId} {t0 N : Nat} {r : Int32} {st' : xSt} (X : xCx D VM la cyI cyF cyM t0 p m c cX9_poke 5 s args RX9) (hr : meth.sig.returnType = (some .int)) (hlk : meth.locks = false) : ∀ (a1 : Int32) (a2 : Int32) (as0 : Int32) (st : xSt) (H : Heap) (locs : List Loc) (ls : Array Slot), fX9_poke_b14 N a1 a2 as0 st = some (r, st') → HW D VM la (EMf cyI la) st H → va_S (xA VM la) s.heap H locs → lv_has ls 5 [(0, .ref (la 9 0)), (1, .int a1), (2, .int a2)] → W p l e rm_X9_poke s m args below meth c H locs 0 0 (MQ below (xQc D VM la (EMf cyI la) (some (.int r)) st') args s 0 0 (xA VM la)) (F0 m 14 ls [.int as0, .ref (la 9 0)]) := by
  have hx := X.1.1
  have hb := X.1.2.1
  intro a1 a2 as0 st H locs ls hf hP hS hl
  unfold fX9_poke_b14 at hf
  refine pM_thrown X hP hS fl_X9_77 dX9_poke_14 (fun H locs hP hS => ?_)
  obtain ⟨st5, hP, hf⟩ := nm_gen (P := fun z => HW D VM la (EMf cyI la) z H) hP hf
  refine lv_aload_n hx hb dX9_poke_17 rfl (lv_at hl 0 rfl) ?_
  refine gM_thrown X hP fl_X9_77 dX9_poke_18 ?_
  refine lv_if_le (tgt := 26) hx hb dX9_poke_21 (by decide) (fun c6 => ?_) (fun c6 => ?_)
  · replace hf := (if_pos c6).symm.trans hf
    refine lv_aload_n hx hb dX9_poke_26 rfl (lv_at hl 0 rfl) ?_
    refine gM_memory X hP fl_X9_7 dX9_poke_27 ?_
    refine lv_iload_n hx hb dX9_poke_30 rfl (lv_at hl 1 rfl) ?_
    obtain ⟨hn7, hf⟩ := ck_of hf
    refine w_iald X hP (c0 := 30) (i0 := 1) (show 0 < lenM 1 by decide) (n := 1024) rfl hn7 dX9_poke_31 ?_
    refine lv_topi (fun x8 ex => ?_)
    replace hf := nm_of hf ex
    clear ex
    refine lv_istore_n (lv' := [(3, .int x8), (0, .ref (la 9 0)), (1, .int a1), (2, .int a2)]) hx hb dX9_poke_32 rfl hl (by decide) rfl (fun ls hl => ?_)
    refine lv_aload_n hx hb dX9_poke_33 rfl (lv_at hl 1 rfl) ?_
    refine lv_iload_n hx hb dX9_poke_34 rfl (lv_at hl 2 rfl) ?_
    refine lv_iload_n hx hb dX9_poke_35 rfl (lv_at hl 3 rfl) ?_
    obtain ⟨v11, st9, hr10, hf⟩ := bd_2 hf
    refine w_V1 X (TX9_write l hr10) hP hS rfl KX9_write ml_X9_98 ⟨rfl, rfl⟩ ⟨by decide, by decide⟩ (x_recv (E := fun c i => (EMf cyI la) (st5.1 c i) st5.2 c i) (c0 := 9) (i0 := 0) X.2.2.1 hP rfl (ci := 9) rfl rfl) rfl hl.1 (Nat.le_of_ble_eq_true rfl) dX9_poke_36 (fun H locs hP hS => ?_)
    refine lv_istore (lv' := [(4, .int v11), (3, .int x8), (0, .ref (la 9 0)), (1, .int a1), (2, .int a2)]) hx hb dX9_poke_39 hl (by decide) rfl (fun ls hl => ?_)
    refine lv_iload_n hx hb dX9_poke_41 rfl (lv_at hl 1 rfl) ?_
    obtain ⟨rfl, rfl⟩ := sp_2 hf
    exact w_iret X hr hlk hP hS dX9_poke_42
  · replace hf := (if_neg c6).symm.trans hf
    refine lv_iconst (v := 0) hx hb dX9_poke_24 (by decide) ?_
    obtain ⟨rfl, rfl⟩ := sp_2 hf
    exact w_iret X hr hlk hP hS dX9_poke_25
def fX9_poke (N : Nat) (a1 : Int32) (a2 : Int32) (st : xSt) : Option (Int32 × xSt) := bd (fX9_isPlace N a1 st) (fun v3 st1 => if v3 = (0 : Int32) then fX9_poke_b14 N a1 a2 (1 : Int32) st1 else fX9_poke_b14 N a1 a2 (0 : Int32) st1)
set_option maxHeartbeats 4000000 in
set_option maxRecDepth 100000 in
theorem TX9_poke (l : Launch) {D : va_G} {la : Nat → Nat → Nat} {cyI cyF cyM : ClassId} {t0 N : Nat} {a1 : Int32} {a2 : Int32} {st : xSt} {r : Int32} {st' : xSt} (hf : fX9_poke N a1 a2 st = some (r, st')) : MetM D cyI cyF cyM la t0 l yX9_poke (Cond.code yX9_poke cX9_poke 5 (some .int) :: xALL) rm_X9_poke [.ref (la 9 0), .int a1, .int a2] (some (.int r)) st st' := by
  refine MetW.intro (own := RX9) (by decide) (Nat.le_of_ble_eq_true rfl) rfl ?_
  intro p e s m below meth c X hr hlk hP ls hl
  have hx := X.1.1
  have hb := X.1.2.1
  have hS : va_S (xA VM la) s.heap s.heap [] := va_S.rf
  unfold fX9_poke at hf
  replace hl : lv_has ls 5 [(0, .ref (la 9 0)), (1, .int a1), (2, .int a2)] := hl
  refine lv_aload_n hx hb dX9_poke_0 rfl (lv_at hl 0 rfl) ?_
  refine lv_aload_n hx hb dX9_poke_1 rfl (lv_at hl 0 rfl) ?_
  refine lv_iload_n hx hb dX9_poke_2 rfl (lv_at hl 1 rfl) ?_
  obtain ⟨v3, st1, hr2, hf⟩ := bd_2 hf
  refine w_V1 X (TX9_isPlace l hr2) hP hS rfl KX9_isPlace ml_X9_94 ⟨rfl, rfl⟩ ⟨by decide, by decide⟩ (x_recv (E := fun c i => (EMf cyI la) (st.1 c i) st.2 c i) (c0 := 9) (i0 := 0) X.2.2.1 hP rfl (ci := 9) rfl rfl) rfl hl.1 (Nat.le_of_ble_eq_true rfl) dX9_poke_3 (fun H locs hP hS => ?_)
  refine lv_if_eq (tgt := 13) hx hb dX9_poke_6 (by decide) (fun c4 => ?_) (fun c4 => ?_)
  · replace hf := (if_pos c4).symm.trans hf
    refine lv_iconst (v := 1) hx hb dX9_poke_13 (by decide) ?_
    exact BX9_poke_14 X hr hlk _ _ _ _ _ _ _  hf hP hS (lv_sub hl [0, 1, 2] rfl)
  · replace hf := (if_neg c4).symm.trans hf
    refine lv_iconst (v := 0) hx hb dX9_poke_9 (by decide) ?_
    refine lv_goto (tgt := 14) hx hb dX9_poke_10 (by decide) ?_
    exact BX9_poke_14 X hr hlk _ _ _ _ _ _ _  hf hP hS (lv_sub hl [0, 1, 2] rfl)
theorem KX9_poke : xKv yX9_poke cX9_poke 5 (some .int) RX9 2 := ⟨cd_X9_poke, im_X9_poke, se_X9_poke, in_X9, by decide +kernel⟩
abbrev rm_X9_feed : Room := { frames := 3, cells := 0, slots := 0, locals := 68 }
def fX9_feed_b38 (N : Nat) : Nat → Int32 → Int32 → Int64 → Int32 → Int32 → xSt → Option (Int32 × xSt)
  | 0, _, _, _, _, _, _ => none
  | n + 1, a1, a2, a3, a5, a6, st => if a2 ≤ a6 then some (a5, st) else nm (Int64.toInt32 ((a3 >>> ((((8 : Int32) * ((a2 - (1 : Int32)) - a6))).toInt64 &&& 63)) &&& (255 : Int64))) (fun x7 => bd (fX9_write N (a1 + a6) x7 st) (fun v10 st8 => nm (a5 + v10) (fun x11 => nm (a6 + (1 : Int32)) (fun x12 => fX9_feed_b38 N n a1 a2 a3 x11 x12 st8))))
set_option maxHeartbeats 4000000 in
set_option maxRecDepth 100000 in
theorem BX9_feed_38 {p : Program} {l : Launch} {e : Env} {s : State} {m : MethodId} {args : Array Value} {below : List Frame} {meth : Method} {c : Code} {D : va_G} {la : Nat → Nat → Nat} {cyI cyF cyM : ClassId} {t0 N : Nat} {r : Int32} {st' : xSt} (X : xCx D VM la cyI cyF cyM t0 p m c cX9_feed 7 s args RX9) (hr : meth.sig.returnType = (some .int)) (hlk : meth.locks = false) : ∀ n : Nat, ∀ (a1 : Int32) (a2 : Int32) (a3 : Int64) (a5 : Int32) (a6 : Int32) (st : xSt) (H : Heap) (locs : List Loc) (ls : Array Slot), fX9_feed_b38 N n a1 a2 a3 a5 a6 st = some (r, st') → HW D VM la (EMf cyI la) st H → va_S (xA VM la) s.heap H locs → lv_has ls 7 [(0, .ref (la 9 0)), (1, .int a1), (2, .int a2), (3, .long a3), (5, .int a5), (6, .int a6)] → W p l e rm_X9_feed s m args below meth c H locs 0 0 (MQ below (xQc D VM la (EMf cyI la) (some (.int r)) st') args s 0 0 (xA VM la)) (F0 m 38 ls []) := by
  have hx := X.1.1
  have hb := X.1.2.1
  intro n
  induction n with
  | zero =>
    intro a1 a2 a3 a5 a6 st H locs ls hf hP hS hl
    rw [fX9_feed_b38] at hf
    cases hf
  | succ n ih =>
    intro a1 a2 a3 a5 a6 st H locs ls hf hP hS hl
    rw [fX9_feed_b38] at hf
    refine lv_iload hx hb dX9_feed_38 (lv_at hl 5 rfl) ?_
    refine lv_iload_n hx hb dX9_feed_40 rfl (lv_at hl 2 rfl) ?_
    refine lv_icmp_ge (tgt := 79) hx hb dX9_feed_41 (by decide) (fun c6 => ?_) (fun c6 => ?_)
    · replace hf := (if_pos c6).symm.trans hf
      refine lv_iload hx hb dX9_feed_79 (lv_at hl 4 rfl) ?_
      obtain ⟨rfl, rfl⟩ := sp_2 hf
      exact w_iret X hr hlk hP hS dX9_feed_81
    · replace hf := (if_neg c6).symm.trans hf
      refine lv_iload hx hb dX9_feed_44 (lv_at hl 4 rfl) ?_
      refine lv_aload_n hx hb dX9_feed_46 rfl (lv_at hl 0 rfl) ?_
      refine lv_iload_n hx hb dX9_feed_47 rfl (lv_at hl 1 rfl) ?_
      refine lv_iload hx hb dX9_feed_48 (lv_at hl 5 rfl) ?_
      refine lv_iadd hx hb dX9_feed_50 ?_
      refine lv_lload_n hx hb dX9_feed_51 rfl (lv_at hl 3 rfl) ?_
      refine lv_bipush (v := 8) hx hb dX9_feed_52 (by decide) ?_
      refine lv_iload_n hx hb dX9_feed_54 rfl (lv_at hl 2 rfl) ?_
      refine lv_iconst (v := 1) hx hb dX9_feed_55 (by decide) ?_
      refine lv_isub hx hb dX9_feed_56 ?_
      refine lv_iload hx hb dX9_feed_57 (lv_at hl 5 rfl) ?_
      refine lv_isub hx hb dX9_feed_59 ?_
      refine lv_imul hx hb dX9_feed_60 ?_
      refine lv_lshr hx hb dX9_feed_61 rfl ?_
      refine lv_ldc2 (v := 255) hx hb X.1.2.2.2.1 (X.1.2.2.2.2 _ kl_X9_102) dX9_feed_62 ?_
      refine lv_land hx hb dX9_feed_65 ?_
      refine lv_l2i hx hb dX9_feed_66 rfl ?_
      refine lv_topi (fun x7 ex => ?_)
      replace hf := nm_of hf ex
      clear ex
      obtain ⟨v10, st8, hr9, hf⟩ := bd_2 hf
      refine w_V1 X (TX9_write l hr9) hP hS rfl KX9_write ml_X9_98 ⟨rfl, rfl⟩ ⟨by decide, by decide⟩ (x_recv (E := fun c i => (EMf cyI la) (st.1 c i) st.2 c i) (c0 := 9) (i0 := 0) X.2.2.1 hP rfl (ci := 9) rfl rfl) rfl hl.1 (Nat.le_of_ble_eq_true rfl) dX9_feed_67 (fun H locs hP hS => ?_)
      refine lv_iadd hx hb dX9_feed_70 ?_
      refine lv_topi (fun x11 ex => ?_)
      replace hf := nm_of hf ex
      clear ex
      refine lv_istore (lv' := [(5, .int x11), (0, .ref (la 9 0)), (1, .int a1), (2, .int a2), (3, .long a3), (6, .int a6)]) hx hb dX9_feed_71 hl (by decide) rfl (fun ls hl => ?_)
      obtain ⟨x12, ex⟩ : ∃ y : Int32, y = (a6 + (1 : Int32)) := ⟨_, rfl⟩
      replace hf := nm_of hf ex
      refine lv_iinc (v := x12) (lv' := [(6, .int x12), (5, .int x11), (0, .ref (la 9 0)), (1, .int a1), (2, .int a2), (3, .long a3)]) hx hb dX9_feed_73 hl (k := 5) rfl (by rw [ex]; rfl) (by decide) rfl (fun ls hl => ?_)
      clear ex
      refine lv_goto (tgt := 38) hx hb dX9_feed_76 (by decide) ?_
      exact ih _ _ _ _ _ _ _ _ _  hf hP hS (lv_sub hl [2, 3, 4, 5, 1, 0] rfl)
def fX9_feed (N : Nat) (a1 : Int32) (a2 : Int32) (a3 : Int64) (st : xSt) : Option (Int32 × xSt) := nm (pI st 9 0 0 (0 : Int32)) (fun st1 => if a2 < (1 : Int32) then some ((-2 : Int32), st1) else if (8 : Int32) < a2 then some ((-2 : Int32), st1) else if a1 < (0 : Int32) then some ((-2 : Int32), st1) else if a1 ≤ ((1024 : Int32) - a2) then fX9_feed_b38 N N a1 a2 a3 (0 : Int32) (0 : Int32) st1 else some ((-2 : Int32), st1))
set_option maxHeartbeats 4000000 in
set_option maxRecDepth 100000 in
theorem TX9_feed (l : Launch) {D : va_G} {la : Nat → Nat → Nat} {cyI cyF cyM : ClassId} {t0 N : Nat} {a1 : Int32} {a2 : Int32} {a3 : Int64} {st : xSt} {r : Int32} {st' : xSt} (hf : fX9_feed N a1 a2 a3 st = some (r, st')) : MetM D cyI cyF cyM la t0 l yX9_feed (Cond.code yX9_feed cX9_feed 7 (some .int) :: xALL) rm_X9_feed [.ref (la 9 0), .int a1, .int a2, .long a3] (some (.int r)) st st' := by
  refine MetW.intro (own := RX9) (by decide) (Nat.le_of_ble_eq_true rfl) rfl ?_
  intro p e s m below meth c X hr hlk hP ls hl
  have hx := X.1.1
  have hb := X.1.2.1
  have hS : va_S (xA VM la) s.heap s.heap [] := va_S.rf
  unfold fX9_feed at hf
  replace hl : lv_has ls 7 [(0, .ref (la 9 0)), (1, .int a1), (2, .int a2), (3, .long a3)] := hl
  refine lv_aload_n hx hb dX9_feed_0 rfl (lv_at hl 0 rfl) ?_
  refine lv_iconst (v := 0) hx hb dX9_feed_1 (by decide) ?_
  refine pM_thrown X hP hS fl_X9_77 dX9_feed_2 (fun H locs hP hS => ?_)
  obtain ⟨st1, hP, hf⟩ := nm_gen (P := fun z => HW D VM la (EMf cyI la) z H) hP hf
  refine lv_iload_n hx hb dX9_feed_5 rfl (lv_at hl 2 rfl) ?_
  refine lv_iconst (v := 1) hx hb dX9_feed_6 (by decide) ?_
  refine lv_icmp_lt (tgt := 29) hx hb dX9_feed_7 (by decide) (fun c2 => ?_) (fun c2 => ?_)
  · replace hf := (if_pos c2).symm.trans hf
    refine lv_bipush (v := -2) hx hb dX9_feed_29 (by decide) ?_
    obtain ⟨rfl, rfl⟩ := sp_2 hf
    exact w_iret X hr hlk hP hS dX9_feed_31
  · replace hf := (if_neg c2).symm.trans hf
    refine lv_iload_n hx hb dX9_feed_10 rfl (lv_at hl 2 rfl) ?_
    refine lv_bipush (v := 8) hx hb dX9_feed_11 (by decide) ?_
    refine lv_icmp_gt (tgt := 29) hx hb dX9_feed_13 (by decide) (fun c3 => ?_) (fun c3 => ?_)
    · replace hf := (if_pos c3).symm.trans hf
      refine lv_bipush (v := -2) hx hb dX9_feed_29 (by decide) ?_
      obtain ⟨rfl, rfl⟩ := sp_2 hf
      exact w_iret X hr hlk hP hS dX9_feed_31
    · replace hf := (if_neg c3).symm.trans hf
      refine lv_iload_n hx hb dX9_feed_16 rfl (lv_at hl 1 rfl) ?_
      refine lv_if_lt (tgt := 29) hx hb dX9_feed_17 (by decide) (fun c4 => ?_) (fun c4 => ?_)
      · replace hf := (if_pos c4).symm.trans hf
        refine lv_bipush (v := -2) hx hb dX9_feed_29 (by decide) ?_
        obtain ⟨rfl, rfl⟩ := sp_2 hf
        exact w_iret X hr hlk hP hS dX9_feed_31
      · replace hf := (if_neg c4).symm.trans hf
        refine lv_iload_n hx hb dX9_feed_20 rfl (lv_at hl 1 rfl) ?_
        refine lv_sipush (v := 1024) hx hb dX9_feed_21 (by decide) ?_
        refine lv_iload_n hx hb dX9_feed_24 rfl (lv_at hl 2 rfl) ?_
        refine lv_isub hx hb dX9_feed_25 ?_
        refine lv_icmp_le (tgt := 32) hx hb dX9_feed_26 (by decide) (fun c5 => ?_) (fun c5 => ?_)
        · replace hf := (if_pos c5).symm.trans hf
          refine lv_iconst (v := 0) hx hb dX9_feed_32 (by decide) ?_
          refine lv_istore (lv' := [(5, .int (0 : Int32)), (0, .ref (la 9 0)), (1, .int a1), (2, .int a2), (3, .long a3)]) hx hb dX9_feed_33 hl (by decide) rfl (fun ls hl => ?_)
          refine lv_iconst (v := 0) hx hb dX9_feed_35 (by decide) ?_
          refine lv_istore (lv' := [(6, .int (0 : Int32)), (5, .int (0 : Int32)), (0, .ref (la 9 0)), (1, .int a1), (2, .int a2), (3, .long a3)]) hx hb dX9_feed_36 hl (by decide) rfl (fun ls hl => ?_)
          exact BX9_feed_38 X hr hlk N _ _ _ _ _ _ _ _ _  hf hP hS (lv_sub hl [2, 3, 4, 5, 1, 0] rfl)
        · replace hf := (if_neg c5).symm.trans hf
          refine lv_bipush (v := -2) hx hb dX9_feed_29 (by decide) ?_
          obtain ⟨rfl, rfl⟩ := sp_2 hf
          exact w_iret X hr hlk hP hS dX9_feed_31
theorem KX9_feed : xKv yX9_feed cX9_feed 7 (some .int) RX9 3 := ⟨cd_X9_feed, im_X9_feed, se_X9_feed, in_X9, by decide +kernel⟩
abbrev rm_X9_peek : Room := { frames := 1, cells := 0, slots := 0, locals := 21 }
def fX9_peek_b14 (N : Nat) (a1 : Int32) (as0 : Int32) (st : xSt) : Option (Int32 × xSt) := nm (pI st 9 0 0 as0) (fun st5 => if (st5.1 9 0 0) ≤ (0 : Int32) then if a1 < 0 ∨ 1024 ≤ (a1).toNatClampNeg then none else some ((st5.1 30 1 (a1).toNatClampNeg), st5) else some ((0 : Int32), st5))
set_option maxHeartbeats 4000000 in
set_option maxRecDepth 100000 in
theorem BX9_peek_14 {p : Program} {l : Launch} {e : Env} {s : State} {m : MethodId} {args : Array Value} {below : List Frame} {meth : Method} {c : Code} {D : va_G} {la : Nat → Nat → Nat} {cyI cyF cyM : ClassId} {t0 N : Nat} {r : Int32} {st' : xSt} (X : xCx D VM la cyI cyF cyM t0 p m c cX9_peek 2 s args RX9) (hr : meth.sig.returnType = (some .int)) (hlk : meth.locks = false) : ∀ (a1 : Int32) (as0 : Int32) (st : xSt) (H : Heap) (locs : List Loc) (ls : Array Slot), fX9_peek_b14 N a1 as0 st = some (r, st') → HW D VM la (EMf cyI la) st H → va_S (xA VM la) s.heap H locs → lv_has ls 2 [(0, .ref (la 9 0)), (1, .int a1)] → W p l e rm_X9_peek s m args below meth c H locs 0 0 (MQ below (xQc D VM la (EMf cyI la) (some (.int r)) st') args s 0 0 (xA VM la)) (F0 m 14 ls [.int as0, .ref (la 9 0)]) := by
  have hx := X.1.1
  have hb := X.1.2.1
  intro a1 as0 st H locs ls hf hP hS hl
  unfold fX9_peek_b14 at hf
  refine pM_thrown X hP hS fl_X9_77 dX9_peek_14 (fun H locs hP hS => ?_)
  obtain ⟨st5, hP, hf⟩ := nm_gen (P := fun z => HW D VM la (EMf cyI la) z H) hP hf
  refine lv_aload_n hx hb dX9_peek_17 rfl (lv_at hl 0 rfl) ?_
  refine gM_thrown X hP fl_X9_77 dX9_peek_18 ?_
  refine lv_if_le (tgt := 28) hx hb dX9_peek_21 (by decide) (fun c6 => ?_) (fun c6 => ?_)
  · replace hf := (if_pos c6).symm.trans hf
    refine lv_aload_n hx hb dX9_peek_28 rfl (lv_at hl 0 rfl) ?_
    refine gM_memory X hP fl_X9_7 dX9_peek_29 ?_
    refine lv_iload_n hx hb dX9_peek_32 rfl (lv_at hl 1 rfl) ?_
    obtain ⟨hn7, hf⟩ := ck_of hf
    refine w_iald X hP (c0 := 30) (i0 := 1) (show 0 < lenM 1 by decide) (n := 1024) rfl hn7 dX9_peek_33 ?_
    obtain ⟨rfl, rfl⟩ := sp_2 hf
    exact w_iret X hr hlk hP hS dX9_peek_34
  · replace hf := (if_neg c6).symm.trans hf
    refine lv_iconst (v := 0) hx hb dX9_peek_24 (by decide) ?_
    refine lv_goto (tgt := 34) hx hb dX9_peek_25 (by decide) ?_
    obtain ⟨rfl, rfl⟩ := sp_2 hf
    exact w_iret X hr hlk hP hS dX9_peek_34
def fX9_peek (N : Nat) (a1 : Int32) (st : xSt) : Option (Int32 × xSt) := bd (fX9_isPlace N a1 st) (fun v3 st1 => if v3 = (0 : Int32) then fX9_peek_b14 N a1 (1 : Int32) st1 else fX9_peek_b14 N a1 (0 : Int32) st1)
set_option maxHeartbeats 4000000 in
set_option maxRecDepth 100000 in
theorem TX9_peek (l : Launch) {D : va_G} {la : Nat → Nat → Nat} {cyI cyF cyM : ClassId} {t0 N : Nat} {a1 : Int32} {st : xSt} {r : Int32} {st' : xSt} (hf : fX9_peek N a1 st = some (r, st')) : MetM D cyI cyF cyM la t0 l yX9_peek (Cond.code yX9_peek cX9_peek 2 (some .int) :: xALL) rm_X9_peek [.ref (la 9 0), .int a1] (some (.int r)) st st' := by
  refine MetW.intro (own := RX9) (by decide) (Nat.le_of_ble_eq_true rfl) rfl ?_
  intro p e s m below meth c X hr hlk hP ls hl
  have hx := X.1.1
  have hb := X.1.2.1
  have hS : va_S (xA VM la) s.heap s.heap [] := va_S.rf
  unfold fX9_peek at hf
  replace hl : lv_has ls 2 [(0, .ref (la 9 0)), (1, .int a1)] := hl
  refine lv_aload_n hx hb dX9_peek_0 rfl (lv_at hl 0 rfl) ?_
  refine lv_aload_n hx hb dX9_peek_1 rfl (lv_at hl 0 rfl) ?_
  refine lv_iload_n hx hb dX9_peek_2 rfl (lv_at hl 1 rfl) ?_
  obtain ⟨v3, st1, hr2, hf⟩ := bd_2 hf
  refine w_V1 X (TX9_isPlace l hr2) hP hS rfl KX9_isPlace ml_X9_94 ⟨rfl, rfl⟩ ⟨by decide, by decide⟩ (x_recv (E := fun c i => (EMf cyI la) (st.1 c i) st.2 c i) (c0 := 9) (i0 := 0) X.2.2.1 hP rfl (ci := 9) rfl rfl) rfl hl.1 (Nat.le_of_ble_eq_true rfl) dX9_peek_3 (fun H locs hP hS => ?_)
  refine lv_if_eq (tgt := 13) hx hb dX9_peek_6 (by decide) (fun c4 => ?_) (fun c4 => ?_)
  · replace hf := (if_pos c4).symm.trans hf
    refine lv_iconst (v := 1) hx hb dX9_peek_13 (by decide) ?_
    exact BX9_peek_14 X hr hlk _ _ _ _ _ _  hf hP hS (lv_sub hl [0, 1] rfl)
  · replace hf := (if_neg c4).symm.trans hf
    refine lv_iconst (v := 0) hx hb dX9_peek_9 (by decide) ?_
    refine lv_goto (tgt := 14) hx hb dX9_peek_10 (by decide) ?_
    exact BX9_peek_14 X hr hlk _ _ _ _ _ _  hf hP hS (lv_sub hl [0, 1] rfl)
theorem KX9_peek : xKv yX9_peek cX9_peek 2 (some .int) RX9 1 := ⟨cd_X9_peek, im_X9_peek, se_X9_peek, in_X9, by decide +kernel⟩
abbrev rm_X9_global : Room := { frames := 0, cells := 0, slots := 0, locals := 0 }
def fX9_global_b16 (N : Nat) (a1 : Int32) (a2 : Int32) (as0 : Int32) (st : xSt) : Option (Int32 × xSt) := nm (pI st 9 0 0 as0) (fun st3 => if (st3.1 9 0 0) ≤ (0 : Int32) then if a1 < 0 ∨ 8 ≤ (a1).toNatClampNeg then none else nm (st3.1 30 2 (a1).toNatClampNeg) (fun x6 => if a1 < 0 ∨ 8 ≤ (a1).toNatClampNeg then none else nm (pI st3 30 2 (a1).toNatClampNeg a2) (fun st8 => some (x6, st8))) else some ((0 : Int32), st3))
set_option maxHeartbeats 4000000 in
set_option maxRecDepth 100000 in
theorem BX9_global_16 {p : Program} {l : Launch} {e : Env} {s : State} {m : MethodId} {args : Array Value} {below : List Frame} {meth : Method} {c : Code} {D : va_G} {la : Nat → Nat → Nat} {cyI cyF cyM : ClassId} {t0 N : Nat} {r : Int32} {st' : xSt} (X : xCx D VM la cyI cyF cyM t0 p m c cX9_global 4 s args RX9) (hr : meth.sig.returnType = (some .int)) (hlk : meth.locks = false) : ∀ (a1 : Int32) (a2 : Int32) (as0 : Int32) (st : xSt) (H : Heap) (locs : List Loc) (ls : Array Slot), fX9_global_b16 N a1 a2 as0 st = some (r, st') → HW D VM la (EMf cyI la) st H → va_S (xA VM la) s.heap H locs → lv_has ls 4 [(0, .ref (la 9 0)), (1, .int a1), (2, .int a2)] → W p l e rm_X9_global s m args below meth c H locs 0 0 (MQ below (xQc D VM la (EMf cyI la) (some (.int r)) st') args s 0 0 (xA VM la)) (F0 m 16 ls [.int as0, .ref (la 9 0)]) := by
  have hx := X.1.1
  have hb := X.1.2.1
  intro a1 a2 as0 st H locs ls hf hP hS hl
  unfold fX9_global_b16 at hf
  refine pM_thrown X hP hS fl_X9_77 dX9_global_16 (fun H locs hP hS => ?_)
  obtain ⟨st3, hP, hf⟩ := nm_gen (P := fun z => HW D VM la (EMf cyI la) z H) hP hf
  refine lv_aload_n hx hb dX9_global_19 rfl (lv_at hl 0 rfl) ?_
  refine gM_thrown X hP fl_X9_77 dX9_global_20 ?_
  refine lv_if_le (tgt := 28) hx hb dX9_global_23 (by decide) (fun c4 => ?_) (fun c4 => ?_)
  · replace hf := (if_pos c4).symm.trans hf
    refine lv_aload_n hx hb dX9_global_28 rfl (lv_at hl 0 rfl) ?_
    refine gM_globals X hP fl_X9_13 dX9_global_29 ?_
    refine lv_iload_n hx hb dX9_global_32 rfl (lv_at hl 1 rfl) ?_
    obtain ⟨hn5, hf⟩ := ck_of hf
    refine w_iald X hP (c0 := 30) (i0 := 2) (show 0 < lenM 2 by decide) (n := 8) rfl hn5 dX9_global_33 ?_
    refine lv_topi (fun x6 ex => ?_)
    replace hf := nm_of hf ex
    clear ex
    refine lv_istore_n (lv' := [(3, .int x6), (0, .ref (la 9 0)), (1, .int a1), (2, .int a2)]) hx hb dX9_global_34 rfl hl (by decide) rfl (fun ls hl => ?_)
    refine lv_aload_n hx hb dX9_global_35 rfl (lv_at hl 1 rfl) ?_
    refine gM_globals X hP fl_X9_13 dX9_global_36 ?_
    refine lv_iload_n hx hb dX9_global_39 rfl (lv_at hl 2 rfl) ?_
    refine lv_iload_n hx hb dX9_global_40 rfl (lv_at hl 3 rfl) ?_
    obtain ⟨hn7, hf⟩ := ck_of hf
    refine w_iast X hP hS (c0 := 30) (i0 := 2) (show 0 < lenM 2 by decide) (n := 8) (fun _ => rfl) hn7 dX9_global_41 (fun H locs hP hS => ?_)
    obtain ⟨st8, hP, hf⟩ := nm_gen (P := fun z => HW D VM la (EMf cyI la) z H) hP hf
    refine lv_iload_n hx hb dX9_global_42 rfl (lv_at hl 0 rfl) ?_
    obtain ⟨rfl, rfl⟩ := sp_2 hf
    exact w_iret X hr hlk hP hS dX9_global_43
  · replace hf := (if_neg c4).symm.trans hf
    refine lv_iconst (v := 0) hx hb dX9_global_26 (by decide) ?_
    obtain ⟨rfl, rfl⟩ := sp_2 hf
    exact w_iret X hr hlk hP hS dX9_global_27
def fX9_global_b15 (N : Nat) (a1 : Int32) (a2 : Int32) (st : xSt) : Option (Int32 × xSt) := fX9_global_b16 N a1 a2 (1 : Int32) st
set_option maxHeartbeats 4000000 in
set_option maxRecDepth 100000 in
theorem BX9_global_15 {p : Program} {l : Launch} {e : Env} {s : State} {m : MethodId} {args : Array Value} {below : List Frame} {meth : Method} {c : Code} {D : va_G} {la : Nat → Nat → Nat} {cyI cyF cyM : ClassId} {t0 N : Nat} {r : Int32} {st' : xSt} (X : xCx D VM la cyI cyF cyM t0 p m c cX9_global 4 s args RX9) (hr : meth.sig.returnType = (some .int)) (hlk : meth.locks = false) : ∀ (a1 : Int32) (a2 : Int32) (st : xSt) (H : Heap) (locs : List Loc) (ls : Array Slot), fX9_global_b15 N a1 a2 st = some (r, st') → HW D VM la (EMf cyI la) st H → va_S (xA VM la) s.heap H locs → lv_has ls 4 [(0, .ref (la 9 0)), (1, .int a1), (2, .int a2)] → W p l e rm_X9_global s m args below meth c H locs 0 0 (MQ below (xQc D VM la (EMf cyI la) (some (.int r)) st') args s 0 0 (xA VM la)) (F0 m 15 ls [.ref (la 9 0)]) := by
  have hx := X.1.1
  have hb := X.1.2.1
  intro a1 a2 st H locs ls hf hP hS hl
  unfold fX9_global_b15 at hf
  refine lv_iconst (v := 1) hx hb dX9_global_15 (by decide) ?_
  exact BX9_global_16 X hr hlk _ _ _ _ _ _ _  hf hP hS (lv_sub hl [0, 1, 2] rfl)
def fX9_global (N : Nat) (a1 : Int32) (a2 : Int32) (st : xSt) : Option (Int32 × xSt) := if a1 < (0 : Int32) then fX9_global_b15 N a1 a2 st else if (8 : Int32) ≤ a1 then fX9_global_b15 N a1 a2 st else fX9_global_b16 N a1 a2 (0 : Int32) st
set_option maxHeartbeats 4000000 in
set_option maxRecDepth 100000 in
theorem TX9_global (l : Launch) {D : va_G} {la : Nat → Nat → Nat} {cyI cyF cyM : ClassId} {t0 N : Nat} {a1 : Int32} {a2 : Int32} {st : xSt} {r : Int32} {st' : xSt} (hf : fX9_global N a1 a2 st = some (r, st')) : MetM D cyI cyF cyM la t0 l yX9_global (Cond.code yX9_global cX9_global 4 (some .int) :: xALL) rm_X9_global [.ref (la 9 0), .int a1, .int a2] (some (.int r)) st st' := by
  refine MetW.intro (own := RX9) (by decide) (Nat.le_of_ble_eq_true rfl) rfl ?_
  intro p e s m below meth c X hr hlk hP ls hl
  have hx := X.1.1
  have hb := X.1.2.1
  have hS : va_S (xA VM la) s.heap s.heap [] := va_S.rf
  unfold fX9_global at hf
  replace hl : lv_has ls 4 [(0, .ref (la 9 0)), (1, .int a1), (2, .int a2)] := hl
  refine lv_aload_n hx hb dX9_global_0 rfl (lv_at hl 0 rfl) ?_
  refine lv_iload_n hx hb dX9_global_1 rfl (lv_at hl 1 rfl) ?_
  refine lv_if_lt (tgt := 15) hx hb dX9_global_2 (by decide) (fun c1 => ?_) (fun c1 => ?_)
  · replace hf := (if_pos c1).symm.trans hf
    exact BX9_global_15 X hr hlk _ _ _ _ _ _  hf hP hS (lv_sub hl [0, 1, 2] rfl)
  · replace hf := (if_neg c1).symm.trans hf
    refine lv_iload_n hx hb dX9_global_5 rfl (lv_at hl 1 rfl) ?_
    refine lv_bipush (v := 8) hx hb dX9_global_6 (by decide) ?_
    refine lv_icmp_ge (tgt := 15) hx hb dX9_global_8 (by decide) (fun c2 => ?_) (fun c2 => ?_)
    · replace hf := (if_pos c2).symm.trans hf
      exact BX9_global_15 X hr hlk _ _ _ _ _ _  hf hP hS (lv_sub hl [0, 1, 2] rfl)
    · replace hf := (if_neg c2).symm.trans hf
      refine lv_iconst (v := 0) hx hb dX9_global_11 (by decide) ?_
      refine lv_goto (tgt := 16) hx hb dX9_global_12 (by decide) ?_
      exact BX9_global_16 X hr hlk _ _ _ _ _ _ _  hf hP hS (lv_sub hl [0, 1, 2] rfl)
theorem KX9_global : xKv yX9_global cX9_global 4 (some .int) RX9 2 := ⟨cd_X9_global, im_X9_global, se_X9_global, in_X9, by decide +kernel⟩
abbrev rm_X9_nextByte : Room := { frames := 0, cells := 0, slots := 0, locals := 0 }
def fX9_nextByte (N : Nat) (st : xSt) : Option (Int32 × xSt) := if (st.1 9 0 21) < (1024 : Int32) then nm (pI st 9 0 21 ((st.1 9 0 21) + (1 : Int32))) (fun st2 => if ((st2.1 9 0 21) - (1 : Int32)) < 0 ∨ 1024 ≤ (((st2.1 9 0 21) - (1 : Int32))).toNatClampNeg then none else some ((st2.1 30 1 (((st2.1 9 0 21) - (1 : Int32))).toNatClampNeg), st2)) else if (st.1 9 0 20) = (0 : Int32) then nm (pI st 9 0 20 (1 : Int32)) (fun st6 => some ((0 : Int32), st6)) else nm (pI st 9 0 20 (st.1 9 0 20)) (fun st5 => some ((0 : Int32), st5))
set_option maxHeartbeats 4000000 in
set_option maxRecDepth 100000 in
theorem TX9_nextByte (l : Launch) {D : va_G} {la : Nat → Nat → Nat} {cyI cyF cyM : ClassId} {t0 N : Nat} {st : xSt} {r : Int32} {st' : xSt} (hf : fX9_nextByte N st = some (r, st')) : MetM D cyI cyF cyM la t0 l yX9_nextByte (Cond.code yX9_nextByte cX9_nextByte 1 (some .int) :: xALL) rm_X9_nextByte [.ref (la 9 0)] (some (.int r)) st st' := by
  refine MetW.intro (own := RX9) (by decide) (Nat.le_of_ble_eq_true rfl) rfl ?_
  intro p e s m below meth c X hr hlk hP ls hl
  have hx := X.1.1
  have hb := X.1.2.1
  have hS : va_S (xA VM la) s.heap s.heap [] := va_S.rf
  unfold fX9_nextByte at hf
  replace hl : lv_has ls 1 [(0, .ref (la 9 0))] := hl
  refine lv_aload_n hx hb dX9_nextByte_0 rfl (lv_at hl 0 rfl) ?_
  refine gM_behind X hP fl_X9_104 dX9_nextByte_1 ?_
  refine lv_sipush (v := 1024) hx hb dX9_nextByte_4 (by decide) ?_
  refine lv_icmp_lt (tgt := 31) hx hb dX9_nextByte_7 (by decide) (fun c1 => ?_) (fun c1 => ?_)
  · replace hf := (if_pos c1).symm.trans hf
    refine lv_aload_n hx hb dX9_nextByte_31 rfl (lv_at hl 0 rfl) ?_
    refine lv_dup hx hb dX9_nextByte_32 rfl ?_
    refine gM_behind X hP fl_X9_104 dX9_nextByte_33 ?_
    refine lv_iconst (v := 1) hx hb dX9_nextByte_36 (by decide) ?_
    refine lv_iadd hx hb dX9_nextByte_37 ?_
    refine pM_behind X hP hS fl_X9_104 dX9_nextByte_38 (fun H locs hP hS => ?_)
    obtain ⟨st2, hP, hf⟩ := nm_gen (P := fun z => HW D VM la (EMf cyI la) z H) hP hf
    refine lv_aload_n hx hb dX9_nextByte_41 rfl (lv_at hl 0 rfl) ?_
    refine gM_memory X hP fl_X9_7 dX9_nextByte_42 ?_
    refine lv_aload_n hx hb dX9_nextByte_45 rfl (lv_at hl 0 rfl) ?_
    refine gM_behind X hP fl_X9_104 dX9_nextByte_46 ?_
    refine lv_iconst (v := 1) hx hb dX9_nextByte_49 (by decide) ?_
    refine lv_isub hx hb dX9_nextByte_50 ?_
    obtain ⟨hn3, hf⟩ := ck_of hf
    refine w_iald X hP (c0 := 30) (i0 := 1) (show 0 < lenM 1 by decide) (n := 1024) rfl hn3 dX9_nextByte_51 ?_
    obtain ⟨rfl, rfl⟩ := sp_2 hf
    exact w_iret X hr hlk hP hS dX9_nextByte_52
  · replace hf := (if_neg c1).symm.trans hf
    refine lv_aload_n hx hb dX9_nextByte_10 rfl (lv_at hl 0 rfl) ?_
    refine lv_aload_n hx hb dX9_nextByte_11 rfl (lv_at hl 0 rfl) ?_
    refine gM_codeFault X hP fl_X9_107 dX9_nextByte_12 ?_
    refine lv_if_ne (tgt := 22) hx hb dX9_nextByte_15 (by decide) (fun c4 => ?_) (fun c4 => ?_)
    · replace hf := (if_neg c4).symm.trans hf
      refine lv_aload_n hx hb dX9_nextByte_22 rfl (lv_at hl 0 rfl) ?_
      refine gM_codeFault X hP fl_X9_107 dX9_nextByte_23 ?_
      refine pM_codeFault X hP hS fl_X9_107 dX9_nextByte_26 (fun H locs hP hS => ?_)
      obtain ⟨st5, hP, hf⟩ := nm_gen (P := fun z => HW D VM la (EMf cyI la) z H) hP hf
      refine lv_iconst (v := 0) hx hb dX9_nextByte_29 (by decide) ?_
      obtain ⟨rfl, rfl⟩ := sp_2 hf
      exact w_iret X hr hlk hP hS dX9_nextByte_30
    · replace hf := (if_pos c4).symm.trans hf
      refine lv_iconst (v := 1) hx hb dX9_nextByte_18 (by decide) ?_
      refine lv_goto (tgt := 26) hx hb dX9_nextByte_19 (by decide) ?_
      refine pM_codeFault X hP hS fl_X9_107 dX9_nextByte_26 (fun H locs hP hS => ?_)
      obtain ⟨st6, hP, hf⟩ := nm_gen (P := fun z => HW D VM la (EMf cyI la) z H) hP hf
      refine lv_iconst (v := 0) hx hb dX9_nextByte_29 (by decide) ?_
      obtain ⟨rfl, rfl⟩ := sp_2 hf
      exact w_iret X hr hlk hP hS dX9_nextByte_30
theorem KX9_nextByte : xKv yX9_nextByte cX9_nextByte 1 (some .int) RX9 0 := ⟨cd_X9_nextByte, im_X9_nextByte, se_X9_nextByte, in_X9, by decide +kernel⟩
abbrev rm_X9_bad : Room := { frames := 0, cells := 0, slots := 0, locals := 0 }
def fX9_bad (N : Nat) (a1 : Int32) (st : xSt) : Option xSt := if a1 = (0 : Int32) then nm (pI st 9 0 20 (st.1 9 0 20)) (fun st2 => some st2) else if (st.1 9 0 20) = (0 : Int32) then nm (pI st 9 0 20 (7 : Int32)) (fun st5 => some st5) else nm (pI st 9 0 20 (st.1 9 0 20)) (fun st4 => some st4)
set_option maxHeartbeats 4000000 in
set_option maxRecDepth 100000 in
theorem TX9_bad (l : Launch) {D : va_G} {la : Nat → Nat → Nat} {cyI cyF cyM : ClassId} {t0 N : Nat} {a1 : Int32} {st : xSt} {st' : xSt} (hf : fX9_bad N a1 st = some st') : MetM D cyI cyF cyM la t0 l yX9_bad (Cond.code yX9_bad cX9_bad 2 none :: xALL) rm_X9_bad [.ref (la 9 0), .int a1] none st st' := by
  refine MetW.intro (own := RX9) (by decide) (Nat.le_of_ble_eq_true rfl) rfl ?_
  intro p e s m below meth c X hr hlk hP ls hl
  have hx := X.1.1
  have hb := X.1.2.1
  have hS : va_S (xA VM la) s.heap s.heap [] := va_S.rf
  unfold fX9_bad at hf
  replace hl : lv_has ls 2 [(0, .ref (la 9 0)), (1, .int a1)] := hl
  refine lv_aload_n hx hb dX9_bad_0 rfl (lv_at hl 0 rfl) ?_
  refine lv_iload_n hx hb dX9_bad_1 rfl (lv_at hl 1 rfl) ?_
  refine lv_if_eq (tgt := 17) hx hb dX9_bad_2 (by decide) (fun c1 => ?_) (fun c1 => ?_)
  · replace hf := (if_pos c1).symm.trans hf
    refine lv_aload_n hx hb dX9_bad_17 rfl (lv_at hl 0 rfl) ?_
    refine gM_codeFault X hP fl_X9_107 dX9_bad_18 ?_
    refine pM_codeFault X hP hS fl_X9_107 dX9_bad_21 (fun H locs hP hS => ?_)
    obtain ⟨st2, hP, hf⟩ := nm_gen (P := fun z => HW D VM la (EMf cyI la) z H) hP hf
    obtain rfl := Option.some.inj hf
    exact w_vret X hr hlk hP hS dX9_bad_24
  · replace hf := (if_neg c1).symm.trans hf
    refine lv_aload_n hx hb dX9_bad_5 rfl (lv_at hl 0 rfl) ?_
    refine gM_codeFault X hP fl_X9_107 dX9_bad_6 ?_
    refine lv_if_ne (tgt := 17) hx hb dX9_bad_9 (by decide) (fun c3 => ?_) (fun c3 => ?_)
    · replace hf := (if_neg c3).symm.trans hf
      refine lv_aload_n hx hb dX9_bad_17 rfl (lv_at hl 0 rfl) ?_
      refine gM_codeFault X hP fl_X9_107 dX9_bad_18 ?_
      refine pM_codeFault X hP hS fl_X9_107 dX9_bad_21 (fun H locs hP hS => ?_)
      obtain ⟨st4, hP, hf⟩ := nm_gen (P := fun z => HW D VM la (EMf cyI la) z H) hP hf
      obtain rfl := Option.some.inj hf
      exact w_vret X hr hlk hP hS dX9_bad_24
    · replace hf := (if_pos c3).symm.trans hf
      refine lv_bipush (v := 7) hx hb dX9_bad_12 (by decide) ?_
      refine lv_goto (tgt := 21) hx hb dX9_bad_14 (by decide) ?_
      refine pM_codeFault X hP hS fl_X9_107 dX9_bad_21 (fun H locs hP hS => ?_)
      obtain ⟨st5, hP, hf⟩ := nm_gen (P := fun z => HW D VM la (EMf cyI la) z H) hP hf
      obtain rfl := Option.some.inj hf
      exact w_vret X hr hlk hP hS dX9_bad_24
theorem KX9_bad : xKv yX9_bad cX9_bad 2 none RX9 1 := ⟨cd_X9_bad, im_X9_bad, se_X9_bad, in_X9, by decide +kernel⟩
