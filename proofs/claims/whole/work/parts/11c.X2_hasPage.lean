abbrev rm_X2_hasPage : Room := { frames := 0, cells := 0, slots := 0, locals := 0 }
def fX2_hasPage (N mo : Nat) (j0 : Nat) (a1 : Int32) (st : xSt) : Option (Int32 × xSt) := if a1 < (st.1 3 j0 4) then some ((0 : Int32), st) else if (st.1 3 j0 5) < a1 then some ((0 : Int32), st) else some ((1 : Int32), st)
set_option maxHeartbeats 4000000 in
set_option maxRecDepth 100000 in
theorem TX2_hasPage (l : Launch) {D : va_G} {la : Nat → Nat → Nat} {cyI cyF cyM : ClassId} {t0 mo N : Nat} {j0 : Nat} {a1 : Int32} (hj0 : VC mo 3 j0) {st : xSt} {r : Int32} {st' : xSt} (hf : fX2_hasPage N mo j0 a1 st = some (r, st')) : MetC D cyI cyF cyM mo la t0 l yX2_hasPage (Cond.code yX2_hasPage cX2_hasPage 2 (some .boolean) :: xALL) rm_X2_hasPage [.ref (la 3 j0), .int a1] (some (.int r)) st st' := by
  refine MetW.intro (own := RX2) (by decide) (Nat.le_of_ble_eq_true rfl) rfl ?_
  intro p e s m below meth c X hr hlk hP ls hl
  have hx := X.1.1
  have hb := X.1.2.1
  have hS : va_S (xA (VC mo) la) s.heap s.heap [] := va_S.rf
  unfold fX2_hasPage at hf
  replace hl : lv_has ls 2 [(0, .ref (la 3 j0)), (1, .int a1)] := hl
  refine lv_iload_n hx hb dX2_hasPage_0 rfl (lv_at hl 1 rfl) ?_
  refine lv_aload_n hx hb dX2_hasPage_1 rfl (lv_at hl 0 rfl) ?_
  refine gC_Made_firstPage X hP hj0 fl_X2_35 dX2_hasPage_2 ?_
  refine lv_icmp_lt (tgt := 20) hx hb dX2_hasPage_5 (by decide) (fun c1 => ?_) (fun c1 => ?_)
  · replace hf := (if_pos c1).symm.trans hf
    refine lv_iconst (v := 0) hx hb dX2_hasPage_20 (by decide) ?_
    obtain ⟨rfl, rfl⟩ := sp_2 hf
    exact w_zret X hr hlk (by decide) hP hS dX2_hasPage_21
  · replace hf := (if_neg c1).symm.trans hf
    refine lv_iload_n hx hb dX2_hasPage_8 rfl (lv_at hl 1 rfl) ?_
    refine lv_aload_n hx hb dX2_hasPage_9 rfl (lv_at hl 0 rfl) ?_
    refine gC_Made_lastPage X hP hj0 fl_X2_38 dX2_hasPage_10 ?_
    refine lv_icmp_gt (tgt := 20) hx hb dX2_hasPage_13 (by decide) (fun c2 => ?_) (fun c2 => ?_)
    · replace hf := (if_pos c2).symm.trans hf
      refine lv_iconst (v := 0) hx hb dX2_hasPage_20 (by decide) ?_
      obtain ⟨rfl, rfl⟩ := sp_2 hf
      exact w_zret X hr hlk (by decide) hP hS dX2_hasPage_21
    · replace hf := (if_neg c2).symm.trans hf
      refine lv_iconst (v := 1) hx hb dX2_hasPage_16 (by decide) ?_
      refine lv_goto (tgt := 21) hx hb dX2_hasPage_17 (by decide) ?_
      obtain ⟨rfl, rfl⟩ := sp_2 hf
      exact w_zret X hr hlk (by decide) hP hS dX2_hasPage_21
theorem KX2_hasPage : xKv yX2_hasPage cX2_hasPage 2 (some .boolean) RX2 1 := ⟨cd_X2_hasPage, im_X2_hasPage, se_X2_hasPage, in_X2, by decide +kernel⟩
abbrev rm_X7_dropAt : Room := { frames := 0, cells := 0, slots := 0, locals := 0 }
def fX7_dropAt_b9 (N mo : Nat) : Nat → Nat → Int32 → xSt → Option xSt
  | 0, _, _, _ => none
  | n + 1, j2, a3, st => if (st.1 7 0 0) ≤ a3 then if (st.1 7 0 0) < 0 ∨ (mo + 1) ≤ ((st.1 7 0 0)).toNatClampNeg then none else nm (pQ st 0 ((st.1 7 0 0)).toNatClampNeg j2) (fun st5 => nm (pI st5 3 j2 3 (0 : Int32)) (fun st6 => nm (pI st6 7 0 3 ((st6.1 7 0 3) - (1 : Int32))) (fun st7 => nm (pI st7 20 0 1 ((st7.1 20 0 1) + (1 : Int32))) (fun st8 => some st8)))) else if (a3 + (1 : Int32)) < 0 ∨ (mo + 1) ≤ ((a3 + (1 : Int32))).toNatClampNeg then none else nm ((min (st.2 0 ((a3 + (1 : Int32))).toNatClampNeg) mo)) (fun j10 => if a3 < 0 ∨ (mo + 1) ≤ (a3).toNatClampNeg then none else nm (pQ st 0 (a3).toNatClampNeg j10) (fun st12 => nm (a3 + (1 : Int32)) (fun x13 => fX7_dropAt_b9 N mo n j2 x13 st12)))
set_option maxHeartbeats 4000000 in
set_option maxRecDepth 100000 in
theorem BX7_dropAt_9 {p : Program} {l : Launch} {e : Env} {s : State} {m : MethodId} {args : Array Value} {below : List Frame} {meth : Method} {c : Code} {D : va_G} {la : Nat → Nat → Nat} {cyI cyF cyM : ClassId} {t0 mo N : Nat} {st' : xSt} (X : xCx D (VC mo) la cyI cyF cyM t0 p m c cX7_dropAt 4 s args RX7) (hr : meth.sig.returnType = none) (hlk : meth.locks = false) : ∀ n : Nat, ∀ (j2 : Nat) (a3 : Int32) (st : xSt) (H : Heap) (locs : List Loc) (ls : Array Slot), VC mo 3 j2 → fX7_dropAt_b9 N mo n j2 a3 st = some st' → HW D (VC mo) la (ECf cyI cyF cyM mo la) st H → va_S (xA (VC mo) la) s.heap H locs → lv_has ls 4 [(0, .ref (la 7 0)), (2, .ref (la 3 j2)), (3, .int a3)] → W p l e rm_X7_dropAt s m args below meth c H locs 0 0 (MQ below (xQc D (VC mo) la (ECf cyI cyF cyM mo la) none st') args s 0 0 (xA (VC mo) la)) (F0 m 9 ls []) := by
  have hx := X.1.1
  have hb := X.1.2.1
  intro n
  induction n with
  | zero =>
    intro j2 a3 st H locs ls hj2 hf hP hS hl
    rw [fX7_dropAt_b9] at hf
    cases hf
  | succ n ih =>
    intro j2 a3 st H locs ls hj2 hf hP hS hl
    rw [fX7_dropAt_b9] at hf
    refine lv_iload_n hx hb dX7_dropAt_9 rfl (lv_at hl 2 rfl) ?_
    refine lv_aload_n hx hb dX7_dropAt_10 rfl (lv_at hl 0 rfl) ?_
    refine gC_Shelf_most X hP fl_X7_9 dX7_dropAt_11 ?_
    refine lv_icmp_ge (tgt := 37) hx hb dX7_dropAt_14 (by decide) (fun c3 => ?_) (fun c3 => ?_)
    · replace hf := (if_pos c3).symm.trans hf
      refine lv_aload_n hx hb dX7_dropAt_37 rfl (lv_at hl 0 rfl) ?_
      refine gC_Shelf_all X hP fl_X7_21 dX7_dropAt_38 ?_
      refine lv_aload_n hx hb dX7_dropAt_41 rfl (lv_at hl 0 rfl) ?_
      refine gC_Shelf_most X hP fl_X7_9 dX7_dropAt_42 ?_
      refine lv_aload_n hx hb dX7_dropAt_45 rfl (lv_at hl 1 rfl) ?_
      obtain ⟨hn4, hf⟩ := ck_of hf
      refine pC_all X hP hS hj2 hn4 dX7_dropAt_46 (fun H locs hP hS => ?_)
      obtain ⟨st5, hP, hf⟩ := nm_gen (P := fun z => HW D (VC mo) la (ECf cyI cyF cyM mo la) z H) hP hf
      refine lv_aload_n hx hb dX7_dropAt_47 rfl (lv_at hl 1 rfl) ?_
      refine lv_iconst (v := 0) hx hb dX7_dropAt_48 (by decide) ?_
      refine pC_Made_isKept X hP hS hj2 (by decide) fl_X7_33 dX7_dropAt_49 (fun H locs hP hS => ?_)
      obtain ⟨st6, hP, hf⟩ := nm_gen (P := fun z => HW D (VC mo) la (ECf cyI cyF cyM mo la) z H) hP hf
      refine lv_aload_n hx hb dX7_dropAt_52 rfl (lv_at hl 0 rfl) ?_
      refine lv_dup hx hb dX7_dropAt_53 rfl ?_
      refine gC_Shelf_size X hP fl_X7_26 dX7_dropAt_54 ?_
      refine lv_iconst (v := 1) hx hb dX7_dropAt_57 (by decide) ?_
      refine lv_isub hx hb dX7_dropAt_58 ?_
      refine pC_Shelf_size X hP hS fl_X7_26 dX7_dropAt_59 (fun H locs hP hS => ?_)
      obtain ⟨st7, hP, hf⟩ := nm_gen (P := fun z => HW D (VC mo) la (ECf cyI cyF cyM mo la) z H) hP hf
      refine lv_aload_n hx hb dX7_dropAt_62 rfl (lv_at hl 0 rfl) ?_
      refine gC_Shelf_counts X hP fl_X7_15 dX7_dropAt_63 ?_
      refine lv_iconst (v := 1) hx hb dX7_dropAt_66 (by decide) ?_
      refine lv_dup2_11 hx hb dX7_dropAt_67 rfl rfl ?_
      refine w_ialdK X hP (c0 := 20) (i0 := 0) (show 0 < 7 by decide) (n := 8) (fun _ => rfl) 1 (by decide) (show ¬ ((1 : Int32) < 0 ∨ 8 ≤ ((1 : Int32)).toNatClampNeg) by decide) dX7_dropAt_68 ?_
      refine lv_iconst (v := 1) hx hb dX7_dropAt_69 (by decide) ?_
      refine lv_iadd hx hb dX7_dropAt_70 ?_
      refine w_iastK X hP hS (c0 := 20) (i0 := 0) (show 0 < 7 by decide) (n := 8) (fun _ => rfl) 1 (by decide) (show ¬ ((1 : Int32) < 0 ∨ 8 ≤ ((1 : Int32)).toNatClampNeg) by decide) dX7_dropAt_71 (fun H locs hP hS => ?_)
      obtain ⟨st8, hP, hf⟩ := nm_gen (P := fun z => HW D (VC mo) la (ECf cyI cyF cyM mo la) z H) hP hf
      obtain rfl := Option.some.inj hf
      exact w_vret X hr hlk hP hS dX7_dropAt_72
    · replace hf := (if_neg c3).symm.trans hf
      refine lv_aload_n hx hb dX7_dropAt_17 rfl (lv_at hl 0 rfl) ?_
      refine gC_Shelf_all X hP fl_X7_21 dX7_dropAt_18 ?_
      refine lv_iload_n hx hb dX7_dropAt_21 rfl (lv_at hl 2 rfl) ?_
      refine lv_aload_n hx hb dX7_dropAt_22 rfl (lv_at hl 0 rfl) ?_
      refine gC_Shelf_all X hP fl_X7_21 dX7_dropAt_23 ?_
      refine lv_iload_n hx hb dX7_dropAt_26 rfl (lv_at hl 2 rfl) ?_
      refine lv_iconst (v := 1) hx hb dX7_dropAt_27 (by decide) ?_
      refine lv_iadd hx hb dX7_dropAt_28 ?_
      obtain ⟨hn9, hf⟩ := ck_of hf
      refine gC_all X hP hn9 dX7_dropAt_29 ?_
      obtain ⟨j10, ej, hj10⟩ : ∃ y : Nat, y = (min (st.2 0 ((a3 + (1 : Int32))).toNatClampNeg) mo) ∧ VC mo 3 y := ⟨_, rfl, (VC_m mo _)⟩
      refine w_top (v' := .ref (la 3 j10)) (by rw [ej]) ?_
      replace hf := nm_of hf ej
      clear ej
      obtain ⟨hn11, hf⟩ := ck_of hf
      refine pC_all X hP hS hj10 hn11 dX7_dropAt_30 (fun H locs hP hS => ?_)
      obtain ⟨st12, hP, hf⟩ := nm_gen (P := fun z => HW D (VC mo) la (ECf cyI cyF cyM mo la) z H) hP hf
      obtain ⟨x13, ex⟩ : ∃ y : Int32, y = (a3 + (1 : Int32)) := ⟨_, rfl⟩
      replace hf := nm_of hf ex
      refine lv_iinc (v := x13) (lv' := [(3, .int x13), (0, .ref (la 7 0)), (2, .ref (la 3 j2))]) hx hb dX7_dropAt_31 hl (k := 2) rfl (by rw [ex]; rfl) (by decide) rfl (fun ls hl => ?_)
      clear ex
      refine lv_goto (tgt := 9) hx hb dX7_dropAt_34 (by decide) ?_
      exact ih _ _ _ _ _ _ hj2 hf hP hS (lv_sub hl [1, 2, 0] rfl)
def fX7_dropAt (N mo : Nat) (a1 : Int32) (st : xSt) : Option xSt := if a1 < 0 ∨ (mo + 1) ≤ (a1).toNatClampNeg then none else nm ((min (st.2 0 (a1).toNatClampNeg) mo)) (fun j2 => fX7_dropAt_b9 N mo N j2 a1 st)
set_option maxHeartbeats 4000000 in
set_option maxRecDepth 100000 in
theorem TX7_dropAt (l : Launch) {D : va_G} {la : Nat → Nat → Nat} {cyI cyF cyM : ClassId} {t0 mo N : Nat} {a1 : Int32} {st : xSt} {st' : xSt} (hf : fX7_dropAt N mo a1 st = some st') : MetC D cyI cyF cyM mo la t0 l yX7_dropAt (Cond.code yX7_dropAt cX7_dropAt 4 none :: xALL) rm_X7_dropAt [.ref (la 7 0), .int a1] none st st' := by
  refine MetW.intro (own := RX7) (by decide) (Nat.le_of_ble_eq_true rfl) rfl ?_
  intro p e s m below meth c X hr hlk hP ls hl
  have hx := X.1.1
  have hb := X.1.2.1
  have hS : va_S (xA (VC mo) la) s.heap s.heap [] := va_S.rf
  unfold fX7_dropAt at hf
  replace hl : lv_has ls 4 [(0, .ref (la 7 0)), (1, .int a1)] := hl
  refine lv_aload_n hx hb dX7_dropAt_0 rfl (lv_at hl 0 rfl) ?_
  refine gC_Shelf_all X hP fl_X7_21 dX7_dropAt_1 ?_
  refine lv_iload_n hx hb dX7_dropAt_4 rfl (lv_at hl 1 rfl) ?_
  obtain ⟨hn1, hf⟩ := ck_of hf
  refine gC_all X hP hn1 dX7_dropAt_5 ?_
  obtain ⟨j2, ej, hj2⟩ : ∃ y : Nat, y = (min (st.2 0 (a1).toNatClampNeg) mo) ∧ VC mo 3 y := ⟨_, rfl, (VC_m mo _)⟩
  refine w_top (v' := .ref (la 3 j2)) (by rw [ej]) ?_
  replace hf := nm_of hf ej
  clear ej
  refine lv_astore_n (lv' := [(2, .ref (la 3 j2)), (0, .ref (la 7 0)), (1, .int a1)]) hx hb dX7_dropAt_6 rfl hl (by decide) rfl (fun ls hl => ?_)
  refine lv_iload_n hx hb dX7_dropAt_7 rfl (lv_at hl 2 rfl) ?_
  refine lv_istore_n (lv' := [(3, .int a1), (2, .ref (la 3 j2)), (0, .ref (la 7 0)), (1, .int a1)]) hx hb dX7_dropAt_8 rfl hl (by decide) rfl (fun ls hl => ?_)
  exact BX7_dropAt_9 X hr hlk N _ _ _ _ _ _ hj2 hf hP hS (lv_sub hl [2, 1, 0] rfl)
theorem KX7_dropAt : xKv yX7_dropAt cX7_dropAt 4 none RX7 1 := ⟨cd_X7_dropAt, im_X7_dropAt, se_X7_dropAt, in_X7, by decide +kernel⟩
abbrev rm_X7_dropPage : Room := { frames := 1, cells := 0, slots := 0, locals := 23 }
def fX7_dropPage_b34 (N mo : Nat) (k9 : Int32 → Int32 → Int32 → xSt → Option (Int32 × xSt)) (a1 : Int32) (a2 : Int32) (a3 : Int32) (st : xSt) : Option (Int32 × xSt) := nm (a3 + (-1 : Int32)) (fun x12 => k9 a1 a2 x12 st)
set_option maxHeartbeats 4000000 in
set_option maxRecDepth 100000 in
theorem BX7_dropPage_34 {p : Program} {l : Launch} {e : Env} {s : State} {m : MethodId} {args : Array Value} {below : List Frame} {meth : Method} {c : Code} {D : va_G} {la : Nat → Nat → Nat} {cyI cyF cyM : ClassId} {t0 mo N : Nat} {k9 : Int32 → Int32 → Int32 → xSt → Option (Int32 × xSt)} {r : Int32} {st' : xSt} (X : xCx D (VC mo) la cyI cyF cyM t0 p m c cX7_dropPage 4 s args RX7) (hr : meth.sig.returnType = (some .int)) (hlk : meth.locks = false) (hk9 : ∀ (a1 : Int32) (a2 : Int32) (a3 : Int32) (st : xSt) (H : Heap) (locs : List Loc) (ls : Array Slot), k9 a1 a2 a3 st = some (r, st') → HW D (VC mo) la (ECf cyI cyF cyM mo la) st H → va_S (xA (VC mo) la) s.heap H locs → lv_has ls 4 [(0, .ref (la 7 0)), (1, .int a1), (2, .int a2), (3, .int a3)] → W p l e rm_X7_dropPage s m args below meth c H locs 0 0 (MQ below (xQc D (VC mo) la (ECf cyI cyF cyM mo la) (some (.int r)) st') args s 0 0 (xA (VC mo) la)) (F0 m 9 ls [])) : ∀ (a1 : Int32) (a2 : Int32) (a3 : Int32) (st : xSt) (H : Heap) (locs : List Loc) (ls : Array Slot), fX7_dropPage_b34 N mo k9 a1 a2 a3 st = some (r, st') → HW D (VC mo) la (ECf cyI cyF cyM mo la) st H → va_S (xA (VC mo) la) s.heap H locs → lv_has ls 4 [(0, .ref (la 7 0)), (1, .int a1), (2, .int a2), (3, .int a3)] → W p l e rm_X7_dropPage s m args below meth c H locs 0 0 (MQ below (xQc D (VC mo) la (ECf cyI cyF cyM mo la) (some (.int r)) st') args s 0 0 (xA (VC mo) la)) (F0 m 34 ls []) := by
  have hx := X.1.1
  have hb := X.1.2.1
  intro a1 a2 a3 st H locs ls hf hP hS hl
  unfold fX7_dropPage_b34 at hf
  obtain ⟨x12, ex⟩ : ∃ y : Int32, y = (a3 + (-1 : Int32)) := ⟨_, rfl⟩
  replace hf := nm_of hf ex
  refine lv_iinc (v := x12) (lv' := [(3, .int x12), (0, .ref (la 7 0)), (1, .int a1), (2, .int a2)]) hx hb dX7_dropPage_34 hl (k := 3) rfl (by rw [ex]; rfl) (by decide) rfl (fun ls hl => ?_)
  clear ex
  refine lv_goto (tgt := 9) hx hb dX7_dropPage_37 (by decide) ?_
  exact hk9 _ _ _ _ _ _ _  hf hP hS (lv_sub hl [1, 2, 3, 0] rfl)
def fX7_dropPage_b9 (N mo : Nat) : Nat → Int32 → Int32 → Int32 → xSt → Option (Int32 × xSt)
  | 0, _, _, _, _ => none
  | n + 1, a1, a2, a3, st => if a3 < (0 : Int32) then some (a2, st) else if a3 < 0 ∨ (mo + 1) ≤ (a3).toNatClampNeg then none else nm ((min (st.2 0 (a3).toNatClampNeg) mo)) (fun j4 => bd (fX2_hasPage N mo j4 a1 st) (fun v7 st5 => if v7 = (0 : Int32) then fX7_dropPage_b34 N mo (fX7_dropPage_b9 N mo n) a1 a2 a3 st5 else Option.bind (fX7_dropAt N mo a3 st5) (fun st9 => nm (a2 + (1 : Int32)) (fun x11 => fX7_dropPage_b34 N mo (fX7_dropPage_b9 N mo n) a1 x11 a3 st9))))
set_option maxHeartbeats 4000000 in
set_option maxRecDepth 100000 in
theorem BX7_dropPage_9 {p : Program} {l : Launch} {e : Env} {s : State} {m : MethodId} {args : Array Value} {below : List Frame} {meth : Method} {c : Code} {D : va_G} {la : Nat → Nat → Nat} {cyI cyF cyM : ClassId} {t0 mo N : Nat} {r : Int32} {st' : xSt} (X : xCx D (VC mo) la cyI cyF cyM t0 p m c cX7_dropPage 4 s args RX7) (hr : meth.sig.returnType = (some .int)) (hlk : meth.locks = false) : ∀ n : Nat, ∀ (a1 : Int32) (a2 : Int32) (a3 : Int32) (st : xSt) (H : Heap) (locs : List Loc) (ls : Array Slot), fX7_dropPage_b9 N mo n a1 a2 a3 st = some (r, st') → HW D (VC mo) la (ECf cyI cyF cyM mo la) st H → va_S (xA (VC mo) la) s.heap H locs → lv_has ls 4 [(0, .ref (la 7 0)), (1, .int a1), (2, .int a2), (3, .int a3)] → W p l e rm_X7_dropPage s m args below meth c H locs 0 0 (MQ below (xQc D (VC mo) la (ECf cyI cyF cyM mo la) (some (.int r)) st') args s 0 0 (xA (VC mo) la)) (F0 m 9 ls []) := by
  have hx := X.1.1
  have hb := X.1.2.1
  intro n
  induction n with
  | zero =>
    intro a1 a2 a3 st H locs ls hf hP hS hl
    rw [fX7_dropPage_b9] at hf
    cases hf
  | succ n ih =>
    intro a1 a2 a3 st H locs ls hf hP hS hl
    rw [fX7_dropPage_b9] at hf
    refine lv_iload_n hx hb dX7_dropPage_9 rfl (lv_at hl 3 rfl) ?_
    refine lv_if_lt (tgt := 40) hx hb dX7_dropPage_10 (by decide) (fun c2 => ?_) (fun c2 => ?_)
    · replace hf := (if_pos c2).symm.trans hf
      refine lv_iload_n hx hb dX7_dropPage_40 rfl (lv_at hl 2 rfl) ?_
      obtain ⟨rfl, rfl⟩ := sp_2 hf
      exact w_iret X hr hlk hP hS dX7_dropPage_41
    · replace hf := (if_neg c2).symm.trans hf
      refine lv_aload_n hx hb dX7_dropPage_13 rfl (lv_at hl 0 rfl) ?_
      refine gC_Shelf_all X hP fl_X7_21 dX7_dropPage_14 ?_
      refine lv_iload_n hx hb dX7_dropPage_17 rfl (lv_at hl 3 rfl) ?_
      obtain ⟨hn3, hf⟩ := ck_of hf
      refine gC_all X hP hn3 dX7_dropPage_18 ?_
      obtain ⟨j4, ej, hj4⟩ : ∃ y : Nat, y = (min (st.2 0 (a3).toNatClampNeg) mo) ∧ VC mo 3 y := ⟨_, rfl, (VC_m mo _)⟩
      refine w_top (v' := .ref (la 3 j4)) (by rw [ej]) ?_
      replace hf := nm_of hf ej
      clear ej
      refine lv_iload_n hx hb dX7_dropPage_19 rfl (lv_at hl 1 rfl) ?_
      obtain ⟨v7, st5, hr6, hf⟩ := bd_2 hf
      refine w_V1 X (TX2_hasPage l hj4 hr6) hP hS rfl KX2_hasPage ml_X7_40 ⟨rfl, rfl⟩ ⟨by decide, by decide⟩ (x_recv (E := fun c i => (ECf cyI cyF cyM mo la) (st.1 c i) st.2 c i) (c0 := 3) (i0 := j4) X.2.2.1 hP hj4 (ci := 3) rfl rfl) rfl hl.1 (Nat.le_of_ble_eq_true rfl) dX7_dropPage_20 (fun H locs hP hS => ?_)
      refine lv_if_eq (tgt := 34) hx hb dX7_dropPage_23 (by decide) (fun c8 => ?_) (fun c8 => ?_)
      · replace hf := (if_pos c8).symm.trans hf
        exact BX7_dropPage_34 X hr hlk ih _ _ _ _ _ _ _  hf hP hS (lv_sub hl [0, 1, 2, 3] rfl)
      · replace hf := (if_neg c8).symm.trans hf
        refine lv_aload_n hx hb dX7_dropPage_26 rfl (lv_at hl 0 rfl) ?_
        refine lv_iload_n hx hb dX7_dropPage_27 rfl (lv_at hl 3 rfl) ?_
        obtain ⟨st9, hr10, hf⟩ := bd_of hf
        refine w_V0 X (TX7_dropAt l hr10) hP hS rfl KX7_dropAt ml_X7_29 ⟨rfl, rfl⟩ ⟨by decide, by decide⟩ (x_recv (E := fun c i => (ECf cyI cyF cyM mo la) (st5.1 c i) st5.2 c i) (c0 := 7) (i0 := 0) X.2.2.1 hP rfl (ci := 7) rfl rfl) rfl hl.1 (Nat.le_of_ble_eq_true rfl) dX7_dropPage_28 (fun H locs hP hS => ?_)
        obtain ⟨x11, ex⟩ : ∃ y : Int32, y = (a2 + (1 : Int32)) := ⟨_, rfl⟩
        replace hf := nm_of hf ex
        refine lv_iinc (v := x11) (lv' := [(2, .int x11), (0, .ref (la 7 0)), (1, .int a1), (3, .int a3)]) hx hb dX7_dropPage_31 hl (k := 2) rfl (by rw [ex]; rfl) (by decide) rfl (fun ls hl => ?_)
        clear ex
        exact BX7_dropPage_34 X hr hlk ih _ _ _ _ _ _ _  hf hP hS (lv_sub hl [1, 2, 0, 3] rfl)
def fX7_dropPage (N mo : Nat) (a1 : Int32) (st : xSt) : Option (Int32 × xSt) := nm ((st.1 7 0 3) - (1 : Int32)) (fun x1 => fX7_dropPage_b9 N mo N a1 (0 : Int32) x1 st)
set_option maxHeartbeats 4000000 in
set_option maxRecDepth 100000 in
theorem TX7_dropPage (l : Launch) {D : va_G} {la : Nat → Nat → Nat} {cyI cyF cyM : ClassId} {t0 mo N : Nat} {a1 : Int32} {st : xSt} {r : Int32} {st' : xSt} (hf : fX7_dropPage N mo a1 st = some (r, st')) : MetC D cyI cyF cyM mo la t0 l yX7_dropPage (Cond.code yX7_dropPage cX7_dropPage 4 (some .int) :: xALL) rm_X7_dropPage [.ref (la 7 0), .int a1] (some (.int r)) st st' := by
  refine MetW.intro (own := RX7) (by decide) (Nat.le_of_ble_eq_true rfl) rfl ?_
  intro p e s m below meth c X hr hlk hP ls hl
  have hx := X.1.1
  have hb := X.1.2.1
  have hS : va_S (xA (VC mo) la) s.heap s.heap [] := va_S.rf
  unfold fX7_dropPage at hf
  replace hl : lv_has ls 4 [(0, .ref (la 7 0)), (1, .int a1)] := hl
  refine lv_iconst (v := 0) hx hb dX7_dropPage_0 (by decide) ?_
  refine lv_istore_n (lv' := [(2, .int (0 : Int32)), (0, .ref (la 7 0)), (1, .int a1)]) hx hb dX7_dropPage_1 rfl hl (by decide) rfl (fun ls hl => ?_)
  refine lv_aload_n hx hb dX7_dropPage_2 rfl (lv_at hl 1 rfl) ?_
  refine gC_Shelf_size X hP fl_X7_26 dX7_dropPage_3 ?_
  refine lv_iconst (v := 1) hx hb dX7_dropPage_6 (by decide) ?_
  refine lv_isub hx hb dX7_dropPage_7 ?_
  refine lv_topi (fun x1 ex => ?_)
  replace hf := nm_of hf ex
  clear ex
  refine lv_istore_n (lv' := [(3, .int x1), (2, .int (0 : Int32)), (0, .ref (la 7 0)), (1, .int a1)]) hx hb dX7_dropPage_8 rfl hl (by decide) rfl (fun ls hl => ?_)
  exact BX7_dropPage_9 X hr hlk N _ _ _ _ _ _ _  hf hP hS (lv_sub hl [2, 3, 1, 0] rfl)
theorem KX7_dropPage : xKv yX7_dropPage cX7_dropPage 4 (some .int) RX7 1 := ⟨cd_X7_dropPage, im_X7_dropPage, se_X7_dropPage, in_X7, by decide +kernel⟩
abbrev rm_X3_change : Room := { frames := 2, cells := 0, slots := 0, locals := 46 }
def fX3_change (N mo : Nat) (a1 : Int32) (a2 : Int32) (st : xSt) : Option (Int32 × xSt) := nm (a2 &&& (255 : Int32)) (fun x1 => if a1 < 0 ∨ 1024 ≤ (a1).toNatClampNeg then none else if (st.1 20 3 (a1).toNatClampNeg) = x1 then some ((0 : Int32), st) else if a1 < 0 ∨ 1024 ≤ (a1).toNatClampNeg then none else nm (pI st 20 3 (a1).toNatClampNeg x1) (fun st5 => bd (fX7_dropPage N mo (a1 / (64 : Int32)) st5) (fun v8 st6 => some (v8, st6))))
set_option maxHeartbeats 4000000 in
set_option maxRecDepth 100000 in
theorem TX3_change (l : Launch) {D : va_G} {la : Nat → Nat → Nat} {cyI cyF cyM : ClassId} {t0 mo N : Nat} {a1 : Int32} {a2 : Int32} {st : xSt} {r : Int32} {st' : xSt} (hf : fX3_change N mo a1 a2 st = some (r, st')) : MetC D cyI cyF cyM mo la t0 l yX3_change (Cond.code yX3_change cX3_change 4 (some .int) :: xALL) rm_X3_change [.ref (la 4 0), .int a1, .int a2] (some (.int r)) st st' := by
  refine MetW.intro (own := RX3) (by decide) (Nat.le_of_ble_eq_true rfl) rfl ?_
  intro p e s m below meth c X hr hlk hP ls hl
  have hx := X.1.1
  have hb := X.1.2.1
  have hS : va_S (xA (VC mo) la) s.heap s.heap [] := va_S.rf
  unfold fX3_change at hf
  replace hl : lv_has ls 4 [(0, .ref (la 4 0)), (1, .int a1), (2, .int a2)] := hl
  refine lv_iload_n hx hb dX3_change_0 rfl (lv_at hl 2 rfl) ?_
  refine lv_sipush (v := 255) hx hb dX3_change_1 (by decide) ?_
  refine lv_iand hx hb dX3_change_4 ?_
  refine lv_topi (fun x1 ex => ?_)
  replace hf := nm_of hf ex
  clear ex
  refine lv_istore_n (lv' := [(3, .int x1), (0, .ref (la 4 0)), (1, .int a1), (2, .int a2)]) hx hb dX3_change_5 rfl hl (by decide) rfl (fun ls hl => ?_)
  refine lv_aload_n hx hb dX3_change_6 rfl (lv_at hl 1 rfl) ?_
  refine gC_Memory_bytes X hP fl_X3_9 dX3_change_7 ?_
  refine lv_iload_n hx hb dX3_change_10 rfl (lv_at hl 2 rfl) ?_
  obtain ⟨hn2, hf⟩ := ck_of hf
  refine w_iald X hP (c0 := 20) (i0 := 3) (show 3 < 7 by decide) (n := 1024) rfl hn2 dX3_change_11 ?_
  refine lv_iload_n hx hb dX3_change_12 rfl (lv_at hl 0 rfl) ?_
  refine lv_icmp_ne (tgt := 18) hx hb dX3_change_13 (by decide) (fun c3 => ?_) (fun c3 => ?_)
  · replace hf := (if_neg c3).symm.trans hf
    refine lv_aload_n hx hb dX3_change_18 rfl (lv_at hl 1 rfl) ?_
    refine gC_Memory_bytes X hP fl_X3_9 dX3_change_19 ?_
    refine lv_iload_n hx hb dX3_change_22 rfl (lv_at hl 2 rfl) ?_
    refine lv_iload_n hx hb dX3_change_23 rfl (lv_at hl 0 rfl) ?_
    obtain ⟨hn4, hf⟩ := ck_of hf
    refine w_iast X hP hS (c0 := 20) (i0 := 3) (show 3 < 7 by decide) (n := 1024) (fun _ => rfl) hn4 dX3_change_24 (fun H locs hP hS => ?_)
    obtain ⟨st5, hP, hf⟩ := nm_gen (P := fun z => HW D (VC mo) la (ECf cyI cyF cyM mo la) z H) hP hf
    refine lv_aload_n hx hb dX3_change_25 rfl (lv_at hl 1 rfl) ?_
    refine gC_Memory_shelf X hP fl_X3_15 dX3_change_26 ?_
    refine lv_iload_n hx hb dX3_change_29 rfl (lv_at hl 2 rfl) ?_
    refine lv_bipush (v := 64) hx hb dX3_change_30 (by decide) ?_
    refine lv_idiv hx hb dX3_change_32 (by decide) ?_
    obtain ⟨v8, st6, hr7, hf⟩ := bd_2 hf
    refine w_V1 X (TX7_dropPage l hr7) hP hS rfl KX7_dropPage ml_X3_19 ⟨rfl, rfl⟩ ⟨by decide, by decide⟩ (x_recv (E := fun c i => (ECf cyI cyF cyM mo la) (st5.1 c i) st5.2 c i) (c0 := 7) (i0 := 0) X.2.2.1 hP rfl (ci := 7) rfl rfl) rfl hl.1 (Nat.le_of_ble_eq_true rfl) dX3_change_33 (fun H locs hP hS => ?_)
    obtain ⟨rfl, rfl⟩ := sp_2 hf
    exact w_iret X hr hlk hP hS dX3_change_36
  · replace hf := (if_pos c3).symm.trans hf
    refine lv_iconst (v := 0) hx hb dX3_change_16 (by decide) ?_
    obtain ⟨rfl, rfl⟩ := sp_2 hf
    exact w_iret X hr hlk hP hS dX3_change_17
theorem KX3_change : xKv yX3_change cX3_change 4 (some .int) RX3 2 := ⟨cd_X3_change, im_X3_change, se_X3_change, in_X3, by decide +kernel⟩
abbrev rm_X8_feed : Room := { frames := 3, cells := 0, slots := 0, locals := 69 }
def fX8_feed_b33 (N mo : Nat) : Nat → Int32 → Int32 → Int64 → Int32 → Int32 → xSt → Option (Int32 × xSt)
  | 0, _, _, _, _, _, _ => none
  | n + 1, a1, a2, a3, a5, a6, st => if a2 ≤ a6 then some (a5, st) else nm (Int64.toInt32 (((a3).toUInt64 >>> ((((8 : Int32) * ((a2 - (1 : Int32)) - a6))).toInt64.toUInt64 &&& Int64.toUInt64 63)).toInt64)) (fun x6 => bd (fX3_change N mo (a1 + a6) x6 st) (fun v9 st7 => nm (a5 + v9) (fun x10 => nm (a6 + (1 : Int32)) (fun x11 => fX8_feed_b33 N mo n a1 a2 a3 x10 x11 st7))))
set_option maxHeartbeats 4000000 in
set_option maxRecDepth 100000 in
theorem BX8_feed_33 {p : Program} {l : Launch} {e : Env} {s : State} {m : MethodId} {args : Array Value} {below : List Frame} {meth : Method} {c : Code} {D : va_G} {la : Nat → Nat → Nat} {cyI cyF cyM : ClassId} {t0 mo N : Nat} {r : Int32} {st' : xSt} (X : xCx D (VC mo) la cyI cyF cyM t0 p m c cX8_feed 7 s args RX8) (hr : meth.sig.returnType = (some .int)) (hlk : meth.locks = false) : ∀ n : Nat, ∀ (a1 : Int32) (a2 : Int32) (a3 : Int64) (a5 : Int32) (a6 : Int32) (st : xSt) (H : Heap) (locs : List Loc) (ls : Array Slot), fX8_feed_b33 N mo n a1 a2 a3 a5 a6 st = some (r, st') → HW D (VC mo) la (ECf cyI cyF cyM mo la) st H → va_S (xA (VC mo) la) s.heap H locs → lv_has ls 7 [(0, .ref (la 8 0)), (1, .int a1), (2, .int a2), (3, .long a3), (5, .int a5), (6, .int a6)] → W p l e rm_X8_feed s m args below meth c H locs 0 0 (MQ below (xQc D (VC mo) la (ECf cyI cyF cyM mo la) (some (.int r)) st') args s 0 0 (xA (VC mo) la)) (F0 m 33 ls []) := by
  have hx := X.1.1
  have hb := X.1.2.1
  intro n
  induction n with
  | zero =>
    intro a1 a2 a3 a5 a6 st H locs ls hf hP hS hl
    rw [fX8_feed_b33] at hf
    cases hf
  | succ n ih =>
    intro a1 a2 a3 a5 a6 st H locs ls hf hP hS hl
    rw [fX8_feed_b33] at hf
    refine lv_iload hx hb dX8_feed_33 (lv_at hl 5 rfl) ?_
    refine lv_iload_n hx hb dX8_feed_35 rfl (lv_at hl 2 rfl) ?_
    refine lv_icmp_ge (tgt := 73) hx hb dX8_feed_36 (by decide) (fun c5 => ?_) (fun c5 => ?_)
    · replace hf := (if_pos c5).symm.trans hf
      refine lv_iload hx hb dX8_feed_73 (lv_at hl 4 rfl) ?_
      obtain ⟨rfl, rfl⟩ := sp_2 hf
      exact w_iret X hr hlk hP hS dX8_feed_75
    · replace hf := (if_neg c5).symm.trans hf
      refine lv_iload hx hb dX8_feed_39 (lv_at hl 4 rfl) ?_
      refine lv_aload_n hx hb dX8_feed_41 rfl (lv_at hl 0 rfl) ?_
      refine gC_MadeCalls_memory X hP fl_X8_42 dX8_feed_42 ?_
      refine lv_iload_n hx hb dX8_feed_45 rfl (lv_at hl 1 rfl) ?_
      refine lv_iload hx hb dX8_feed_46 (lv_at hl 5 rfl) ?_
      refine lv_iadd hx hb dX8_feed_48 ?_
      refine lv_lload_n hx hb dX8_feed_49 rfl (lv_at hl 3 rfl) ?_
      refine lv_bipush (v := 8) hx hb dX8_feed_50 (by decide) ?_
      refine lv_iload_n hx hb dX8_feed_52 rfl (lv_at hl 2 rfl) ?_
      refine lv_iconst (v := 1) hx hb dX8_feed_53 (by decide) ?_
      refine lv_isub hx hb dX8_feed_54 ?_
      refine lv_iload hx hb dX8_feed_55 (lv_at hl 5 rfl) ?_
      refine lv_isub hx hb dX8_feed_57 ?_
      refine lv_imul hx hb dX8_feed_58 ?_
      refine lv_lushr hx hb dX8_feed_59 rfl ?_
      refine lv_l2i hx hb dX8_feed_60 rfl ?_
      refine lv_topi (fun x6 ex => ?_)
      replace hf := nm_of hf ex
      clear ex
      obtain ⟨v9, st7, hr8, hf⟩ := bd_2 hf
      refine w_V1 X (TX3_change l hr8) hP hS rfl KX3_change ml_X8_73 ⟨rfl, rfl⟩ ⟨by decide, by decide⟩ (x_recv (E := fun c i => (ECf cyI cyF cyM mo la) (st.1 c i) st.2 c i) (c0 := 4) (i0 := 0) X.2.2.1 hP rfl (ci := 4) rfl rfl) rfl hl.1 (Nat.le_of_ble_eq_true rfl) dX8_feed_61 (fun H locs hP hS => ?_)
      refine lv_iadd hx hb dX8_feed_64 ?_
      refine lv_topi (fun x10 ex => ?_)
      replace hf := nm_of hf ex
      clear ex
      refine lv_istore (lv' := [(5, .int x10), (0, .ref (la 8 0)), (1, .int a1), (2, .int a2), (3, .long a3), (6, .int a6)]) hx hb dX8_feed_65 hl (by decide) rfl (fun ls hl => ?_)
      obtain ⟨x11, ex⟩ : ∃ y : Int32, y = (a6 + (1 : Int32)) := ⟨_, rfl⟩
      replace hf := nm_of hf ex
      refine lv_iinc (v := x11) (lv' := [(6, .int x11), (5, .int x10), (0, .ref (la 8 0)), (1, .int a1), (2, .int a2), (3, .long a3)]) hx hb dX8_feed_67 hl (k := 5) rfl (by rw [ex]; rfl) (by decide) rfl (fun ls hl => ?_)
      clear ex
      refine lv_goto (tgt := 33) hx hb dX8_feed_70 (by decide) ?_
      exact ih _ _ _ _ _ _ _ _ _  hf hP hS (lv_sub hl [2, 3, 4, 5, 1, 0] rfl)
def fX8_feed (N mo : Nat) (a1 : Int32) (a2 : Int32) (a3 : Int64) (st : xSt) : Option (Int32 × xSt) := if a2 < (1 : Int32) then some ((-2 : Int32), st) else if (8 : Int32) < a2 then some ((-2 : Int32), st) else if a1 < (0 : Int32) then some ((-2 : Int32), st) else if a1 ≤ ((1024 : Int32) - a2) then fX8_feed_b33 N mo N a1 a2 a3 (0 : Int32) (0 : Int32) st else some ((-2 : Int32), st)
set_option maxHeartbeats 4000000 in
set_option maxRecDepth 100000 in
theorem TX8_feed (l : Launch) {D : va_G} {la : Nat → Nat → Nat} {cyI cyF cyM : ClassId} {t0 mo N : Nat} {a1 : Int32} {a2 : Int32} {a3 : Int64} {st : xSt} {r : Int32} {st' : xSt} (hf : fX8_feed N mo a1 a2 a3 st = some (r, st')) : MetC D cyI cyF cyM mo la t0 l yX8_feed (Cond.code yX8_feed cX8_feed 7 (some .int) :: xALL) rm_X8_feed [.ref (la 8 0), .int a1, .int a2, .long a3] (some (.int r)) st st' := by
  refine MetW.intro (own := RX8) (by decide) (Nat.le_of_ble_eq_true rfl) rfl ?_
  intro p e s m below meth c X hr hlk hP ls hl
  have hx := X.1.1
  have hb := X.1.2.1
  have hS : va_S (xA (VC mo) la) s.heap s.heap [] := va_S.rf
  unfold fX8_feed at hf
  replace hl : lv_has ls 7 [(0, .ref (la 8 0)), (1, .int a1), (2, .int a2), (3, .long a3)] := hl
  refine lv_iload_n hx hb dX8_feed_0 rfl (lv_at hl 2 rfl) ?_
  refine lv_iconst (v := 1) hx hb dX8_feed_1 (by decide) ?_
  refine lv_icmp_lt (tgt := 24) hx hb dX8_feed_2 (by decide) (fun c1 => ?_) (fun c1 => ?_)
  · replace hf := (if_pos c1).symm.trans hf
    refine lv_bipush (v := -2) hx hb dX8_feed_24 (by decide) ?_
    obtain ⟨rfl, rfl⟩ := sp_2 hf
    exact w_iret X hr hlk hP hS dX8_feed_26
  · replace hf := (if_neg c1).symm.trans hf
    refine lv_iload_n hx hb dX8_feed_5 rfl (lv_at hl 2 rfl) ?_
    refine lv_bipush (v := 8) hx hb dX8_feed_6 (by decide) ?_
    refine lv_icmp_gt (tgt := 24) hx hb dX8_feed_8 (by decide) (fun c2 => ?_) (fun c2 => ?_)
    · replace hf := (if_pos c2).symm.trans hf
      refine lv_bipush (v := -2) hx hb dX8_feed_24 (by decide) ?_
      obtain ⟨rfl, rfl⟩ := sp_2 hf
      exact w_iret X hr hlk hP hS dX8_feed_26
    · replace hf := (if_neg c2).symm.trans hf
      refine lv_iload_n hx hb dX8_feed_11 rfl (lv_at hl 1 rfl) ?_
      refine lv_if_lt (tgt := 24) hx hb dX8_feed_12 (by decide) (fun c3 => ?_) (fun c3 => ?_)
      · replace hf := (if_pos c3).symm.trans hf
        refine lv_bipush (v := -2) hx hb dX8_feed_24 (by decide) ?_
        obtain ⟨rfl, rfl⟩ := sp_2 hf
        exact w_iret X hr hlk hP hS dX8_feed_26
      · replace hf := (if_neg c3).symm.trans hf
        refine lv_iload_n hx hb dX8_feed_15 rfl (lv_at hl 1 rfl) ?_
        refine lv_sipush (v := 1024) hx hb dX8_feed_16 (by decide) ?_
        refine lv_iload_n hx hb dX8_feed_19 rfl (lv_at hl 2 rfl) ?_
        refine lv_isub hx hb dX8_feed_20 ?_
        refine lv_icmp_le (tgt := 27) hx hb dX8_feed_21 (by decide) (fun c4 => ?_) (fun c4 => ?_)
        · replace hf := (if_pos c4).symm.trans hf
          refine lv_iconst (v := 0) hx hb dX8_feed_27 (by decide) ?_
          refine lv_istore (lv' := [(5, .int (0 : Int32)), (0, .ref (la 8 0)), (1, .int a1), (2, .int a2), (3, .long a3)]) hx hb dX8_feed_28 hl (by decide) rfl (fun ls hl => ?_)
          refine lv_iconst (v := 0) hx hb dX8_feed_30 (by decide) ?_
          refine lv_istore (lv' := [(6, .int (0 : Int32)), (5, .int (0 : Int32)), (0, .ref (la 8 0)), (1, .int a1), (2, .int a2), (3, .long a3)]) hx hb dX8_feed_31 hl (by decide) rfl (fun ls hl => ?_)
          exact BX8_feed_33 X hr hlk N _ _ _ _ _ _ _ _ _  hf hP hS (lv_sub hl [2, 3, 4, 5, 1, 0] rfl)
        · replace hf := (if_neg c4).symm.trans hf
          refine lv_bipush (v := -2) hx hb dX8_feed_24 (by decide) ?_
          obtain ⟨rfl, rfl⟩ := sp_2 hf
          exact w_iret X hr hlk hP hS dX8_feed_26
theorem KX8_feed : xKv yX8_feed cX8_feed 7 (some .int) RX8 3 := ⟨cd_X8_feed, im_X8_feed, se_X8_feed, in_X8, by decide +kernel⟩
abbrev rm_X8_isAddress : Room := { frames := 0, cells := 0, slots := 0, locals := 0 }
def fX8_isAddress (N mo : Nat) (a0 : Int32) (st : xSt) : Option (Int32 × xSt) := if a0 < (0 : Int32) then some ((0 : Int32), st) else if (1020 : Int32) < a0 then some ((0 : Int32), st) else if (a0 - a0 / (4 : Int32) * (4 : Int32)) = (0 : Int32) then some ((1 : Int32), st) else some ((0 : Int32), st)
set_option maxHeartbeats 4000000 in
set_option maxRecDepth 100000 in
theorem TX8_isAddress (l : Launch) {D : va_G} {la : Nat → Nat → Nat} {cyI cyF cyM : ClassId} {t0 mo N : Nat} {a0 : Int32} {st : xSt} {r : Int32} {st' : xSt} (hf : fX8_isAddress N mo a0 st = some (r, st')) : MetC D cyI cyF cyM mo la t0 l yX8_isAddress (Cond.code yX8_isAddress cX8_isAddress 1 (some .boolean) :: xALL) rm_X8_isAddress [.int a0] (some (.int r)) st st' := by
  refine MetW.intro (own := RX8) (by decide) (Nat.le_of_ble_eq_true rfl) rfl ?_
  intro p e s m below meth c X hr hlk hP ls hl
  have hx := X.1.1
  have hb := X.1.2.1
  have hS : va_S (xA (VC mo) la) s.heap s.heap [] := va_S.rf
  unfold fX8_isAddress at hf
  replace hl : lv_has ls 1 [(0, .int a0)] := hl
  refine lv_iload_n hx hb dX8_isAddress_0 rfl (lv_at hl 0 rfl) ?_
  refine lv_if_lt (tgt := 21) hx hb dX8_isAddress_1 (by decide) (fun c1 => ?_) (fun c1 => ?_)
  · replace hf := (if_pos c1).symm.trans hf
    refine lv_iconst (v := 0) hx hb dX8_isAddress_21 (by decide) ?_
    obtain ⟨rfl, rfl⟩ := sp_2 hf
    exact w_zret X hr hlk (by decide) hP hS dX8_isAddress_22
  · replace hf := (if_neg c1).symm.trans hf
    refine lv_iload_n hx hb dX8_isAddress_4 rfl (lv_at hl 0 rfl) ?_
    refine lv_sipush (v := 1020) hx hb dX8_isAddress_5 (by decide) ?_
    refine lv_icmp_gt (tgt := 21) hx hb dX8_isAddress_8 (by decide) (fun c2 => ?_) (fun c2 => ?_)
    · replace hf := (if_pos c2).symm.trans hf
      refine lv_iconst (v := 0) hx hb dX8_isAddress_21 (by decide) ?_
      obtain ⟨rfl, rfl⟩ := sp_2 hf
      exact w_zret X hr hlk (by decide) hP hS dX8_isAddress_22
    · replace hf := (if_neg c2).symm.trans hf
      refine lv_iload_n hx hb dX8_isAddress_11 rfl (lv_at hl 0 rfl) ?_
      refine lv_iconst (v := 4) hx hb dX8_isAddress_12 (by decide) ?_
      refine lv_irem hx hb dX8_isAddress_13 (by decide) ?_
      refine lv_if_ne (tgt := 21) hx hb dX8_isAddress_14 (by decide) (fun c3 => ?_) (fun c3 => ?_)
      · replace hf := (if_neg c3).symm.trans hf
        refine lv_iconst (v := 0) hx hb dX8_isAddress_21 (by decide) ?_
        obtain ⟨rfl, rfl⟩ := sp_2 hf
        exact w_zret X hr hlk (by decide) hP hS dX8_isAddress_22
      · replace hf := (if_pos c3).symm.trans hf
        refine lv_iconst (v := 1) hx hb dX8_isAddress_17 (by decide) ?_
        refine lv_goto (tgt := 22) hx hb dX8_isAddress_18 (by decide) ?_
        obtain ⟨rfl, rfl⟩ := sp_2 hf
        exact w_zret X hr hlk (by decide) hP hS dX8_isAddress_22
theorem KX8_isAddress : xKs yX8_isAddress cX8_isAddress 1 (some .boolean) RX8 1 := ⟨cd_X8_isAddress, ss_X8_isAddress, in_X8, by decide +kernel⟩
abbrev rm_X3_hasRoutine : Room := { frames := 0, cells := 0, slots := 0, locals := 0 }
def fX3_hasRoutine (N mo : Nat) (a1 : Int32) (st : xSt) : Option (Int32 × xSt) := if a1 < 0 ∨ 1024 ≤ (a1).toNatClampNeg then none else if (8 : Int32) < (st.1 20 3 (a1).toNatClampNeg) then some ((0 : Int32), st) else some ((1 : Int32), st)
set_option maxHeartbeats 4000000 in
set_option maxRecDepth 100000 in
theorem TX3_hasRoutine (l : Launch) {D : va_G} {la : Nat → Nat → Nat} {cyI cyF cyM : ClassId} {t0 mo N : Nat} {a1 : Int32} {st : xSt} {r : Int32} {st' : xSt} (hf : fX3_hasRoutine N mo a1 st = some (r, st')) : MetC D cyI cyF cyM mo la t0 l yX3_hasRoutine (Cond.code yX3_hasRoutine cX3_hasRoutine 2 (some .boolean) :: xALL) rm_X3_hasRoutine [.ref (la 4 0), .int a1] (some (.int r)) st st' := by
  refine MetW.intro (own := RX3) (by decide) (Nat.le_of_ble_eq_true rfl) rfl ?_
  intro p e s m below meth c X hr hlk hP ls hl
  have hx := X.1.1
  have hb := X.1.2.1
  have hS : va_S (xA (VC mo) la) s.heap s.heap [] := va_S.rf
  unfold fX3_hasRoutine at hf
  replace hl : lv_has ls 2 [(0, .ref (la 4 0)), (1, .int a1)] := hl
  refine lv_aload_n hx hb dX3_hasRoutine_0 rfl (lv_at hl 0 rfl) ?_
  refine gC_Memory_bytes X hP fl_X3_9 dX3_hasRoutine_1 ?_
  refine lv_iload_n hx hb dX3_hasRoutine_4 rfl (lv_at hl 1 rfl) ?_
  obtain ⟨hn1, hf⟩ := ck_of hf
  refine w_iald X hP (c0 := 20) (i0 := 3) (show 3 < 7 by decide) (n := 1024) rfl hn1 dX3_hasRoutine_5 ?_
  refine lv_bipush (v := 8) hx hb dX3_hasRoutine_6 (by decide) ?_
  refine lv_icmp_gt (tgt := 15) hx hb dX3_hasRoutine_8 (by decide) (fun c2 => ?_) (fun c2 => ?_)
  · replace hf := (if_pos c2).symm.trans hf
    refine lv_iconst (v := 0) hx hb dX3_hasRoutine_15 (by decide) ?_
    obtain ⟨rfl, rfl⟩ := sp_2 hf
    exact w_zret X hr hlk (by decide) hP hS dX3_hasRoutine_16
  · replace hf := (if_neg c2).symm.trans hf
    refine lv_iconst (v := 1) hx hb dX3_hasRoutine_11 (by decide) ?_
    refine lv_goto (tgt := 16) hx hb dX3_hasRoutine_12 (by decide) ?_
    obtain ⟨rfl, rfl⟩ := sp_2 hf
    exact w_zret X hr hlk (by decide) hP hS dX3_hasRoutine_16
theorem KX3_hasRoutine : xKv yX3_hasRoutine cX3_hasRoutine 2 (some .boolean) RX3 1 := ⟨cd_X3_hasRoutine, im_X3_hasRoutine, se_X3_hasRoutine, in_X3, by decide +kernel⟩
abbrev rm_X7_draft : Room := { frames := 0, cells := 0, slots := 0, locals := 0 }
def fX7_draft (N mo : Nat) (st : xSt) : Option (Nat × xSt) := if (st.1 7 0 3) < 0 ∨ (mo + 1) ≤ ((st.1 7 0 3)).toNatClampNeg then none else nm ((min (st.2 0 ((st.1 7 0 3)).toNatClampNeg) mo)) (fun j2 => some ((j2 + 1), st))
set_option maxHeartbeats 4000000 in
set_option maxRecDepth 100000 in
theorem TX7_draft (l : Launch) {D : va_G} {la : Nat → Nat → Nat} {cyI cyF cyM : ClassId} {t0 mo N : Nat} {st : xSt} {r : Nat} {st' : xSt} (hf : fX7_draft N mo st = some (r, st')) : MetC D cyI cyF cyM mo la t0 l yX7_draft (Cond.code yX7_draft cX7_draft 1 (some (.object "MadeCalls$Made")) :: xALL) rm_X7_draft [.ref (la 7 0)] (some (va_rf (mrf la mo r))) st st' := by
  refine MetW.intro (own := RX7) (by decide) (Nat.le_of_ble_eq_true rfl) rfl ?_
  intro p e s m below meth c X hr hlk hP ls hl
  have hx := X.1.1
  have hb := X.1.2.1
  have hS : va_S (xA (VC mo) la) s.heap s.heap [] := va_S.rf
  unfold fX7_draft at hf
  replace hl : lv_has ls 1 [(0, .ref (la 7 0))] := hl
  refine lv_aload_n hx hb dX7_draft_0 rfl (lv_at hl 0 rfl) ?_
  refine gC_Shelf_all X hP fl_X7_21 dX7_draft_1 ?_
  refine lv_aload_n hx hb dX7_draft_4 rfl (lv_at hl 0 rfl) ?_
  refine gC_Shelf_size X hP fl_X7_26 dX7_draft_5 ?_
  obtain ⟨hn1, hf⟩ := ck_of hf
  refine gC_all X hP hn1 dX7_draft_8 ?_
  obtain ⟨j2, ej, hj2⟩ : ∃ y : Nat, y = (min (st.2 0 ((st.1 7 0 3)).toNatClampNeg) mo) ∧ VC mo 3 y := ⟨_, rfl, (VC_m mo _)⟩
  refine w_top (v' := .ref (la 3 j2)) (by rw [ej]) ?_
  replace hf := nm_of hf ej
  clear ej
  obtain ⟨rfl, rfl⟩ := sp_2 hf
  refine w_top (mrf_s hj2) ?_
  exact w_aret X hr hlk mrf_or hP hS dX7_draft_9
theorem KX7_draft : xKv yX7_draft cX7_draft 1 (some (.object "MadeCalls$Made")) RX7 0 := ⟨cd_X7_draft, im_X7_draft, se_X7_draft, in_X7, by decide +kernel⟩
abbrev rm_X8_isPlace : Room := { frames := 0, cells := 0, slots := 0, locals := 0 }
def fX8_isPlace (N mo : Nat) (a0 : Int32) (st : xSt) : Option (Int32 × xSt) := if a0 < (0 : Int32) then some ((0 : Int32), st) else if (1024 : Int32) ≤ a0 then some ((0 : Int32), st) else some ((1 : Int32), st)
set_option maxHeartbeats 4000000 in
set_option maxRecDepth 100000 in
theorem TX8_isPlace (l : Launch) {D : va_G} {la : Nat → Nat → Nat} {cyI cyF cyM : ClassId} {t0 mo N : Nat} {a0 : Int32} {st : xSt} {r : Int32} {st' : xSt} (hf : fX8_isPlace N mo a0 st = some (r, st')) : MetC D cyI cyF cyM mo la t0 l yX8_isPlace (Cond.code yX8_isPlace cX8_isPlace 1 (some .boolean) :: xALL) rm_X8_isPlace [.int a0] (some (.int r)) st st' := by
  refine MetW.intro (own := RX8) (by decide) (Nat.le_of_ble_eq_true rfl) rfl ?_
  intro p e s m below meth c X hr hlk hP ls hl
  have hx := X.1.1
  have hb := X.1.2.1
  have hS : va_S (xA (VC mo) la) s.heap s.heap [] := va_S.rf
  unfold fX8_isPlace at hf
  replace hl : lv_has ls 1 [(0, .int a0)] := hl
  refine lv_iload_n hx hb dX8_isPlace_0 rfl (lv_at hl 0 rfl) ?_
  refine lv_if_lt (tgt := 15) hx hb dX8_isPlace_1 (by decide) (fun c1 => ?_) (fun c1 => ?_)
  · replace hf := (if_pos c1).symm.trans hf
    refine lv_iconst (v := 0) hx hb dX8_isPlace_15 (by decide) ?_
    obtain ⟨rfl, rfl⟩ := sp_2 hf
    exact w_zret X hr hlk (by decide) hP hS dX8_isPlace_16
  · replace hf := (if_neg c1).symm.trans hf
    refine lv_iload_n hx hb dX8_isPlace_4 rfl (lv_at hl 0 rfl) ?_
    refine lv_sipush (v := 1024) hx hb dX8_isPlace_5 (by decide) ?_
    refine lv_icmp_ge (tgt := 15) hx hb dX8_isPlace_8 (by decide) (fun c2 => ?_) (fun c2 => ?_)
    · replace hf := (if_pos c2).symm.trans hf
      refine lv_iconst (v := 0) hx hb dX8_isPlace_15 (by decide) ?_
      obtain ⟨rfl, rfl⟩ := sp_2 hf
      exact w_zret X hr hlk (by decide) hP hS dX8_isPlace_16
    · replace hf := (if_neg c2).symm.trans hf
      refine lv_iconst (v := 1) hx hb dX8_isPlace_11 (by decide) ?_
      refine lv_goto (tgt := 16) hx hb dX8_isPlace_12 (by decide) ?_
      obtain ⟨rfl, rfl⟩ := sp_2 hf
      exact w_zret X hr hlk (by decide) hP hS dX8_isPlace_16
theorem KX8_isPlace : xKs yX8_isPlace cX8_isPlace 1 (some .boolean) RX8 1 := ⟨cd_X8_isPlace, ss_X8_isPlace, in_X8, by decide +kernel⟩
abbrev rm_X0_isCode : Room := { frames := 0, cells := 0, slots := 0, locals := 0 }
def fX0_isCode (N mo : Nat) (a0 : Int32) (st : xSt) : Option (Int32 × xSt) := if a0 < (0 : Int32) then some ((0 : Int32), st) else if (15 : Int32) < a0 then some ((0 : Int32), st) else some ((1 : Int32), st)
set_option maxHeartbeats 4000000 in
set_option maxRecDepth 100000 in
theorem TX0_isCode (l : Launch) {D : va_G} {la : Nat → Nat → Nat} {cyI cyF cyM : ClassId} {t0 mo N : Nat} {a0 : Int32} {st : xSt} {r : Int32} {st' : xSt} (hf : fX0_isCode N mo a0 st = some (r, st')) : MetC D cyI cyF cyM mo la t0 l yX0_isCode (Cond.code yX0_isCode cX0_isCode 1 (some .boolean) :: xALL) rm_X0_isCode [.int a0] (some (.int r)) st st' := by
  refine MetW.intro (own := RX0) (by decide) (Nat.le_of_ble_eq_true rfl) rfl ?_
  intro p e s m below meth c X hr hlk hP ls hl
  have hx := X.1.1
  have hb := X.1.2.1
  have hS : va_S (xA (VC mo) la) s.heap s.heap [] := va_S.rf
  unfold fX0_isCode at hf
  replace hl : lv_has ls 1 [(0, .int a0)] := hl
  refine lv_iload_n hx hb dX0_isCode_0 rfl (lv_at hl 0 rfl) ?_
  refine lv_if_lt (tgt := 14) hx hb dX0_isCode_1 (by decide) (fun c1 => ?_) (fun c1 => ?_)
  · replace hf := (if_pos c1).symm.trans hf
    refine lv_iconst (v := 0) hx hb dX0_isCode_14 (by decide) ?_
    obtain ⟨rfl, rfl⟩ := sp_2 hf
    exact w_zret X hr hlk (by decide) hP hS dX0_isCode_15
  · replace hf := (if_neg c1).symm.trans hf
    refine lv_iload_n hx hb dX0_isCode_4 rfl (lv_at hl 0 rfl) ?_
    refine lv_bipush (v := 15) hx hb dX0_isCode_5 (by decide) ?_
    refine lv_icmp_gt (tgt := 14) hx hb dX0_isCode_7 (by decide) (fun c2 => ?_) (fun c2 => ?_)
    · replace hf := (if_pos c2).symm.trans hf
      refine lv_iconst (v := 0) hx hb dX0_isCode_14 (by decide) ?_
      obtain ⟨rfl, rfl⟩ := sp_2 hf
      exact w_zret X hr hlk (by decide) hP hS dX0_isCode_15
    · replace hf := (if_neg c2).symm.trans hf
      refine lv_iconst (v := 1) hx hb dX0_isCode_10 (by decide) ?_
      refine lv_goto (tgt := 15) hx hb dX0_isCode_11 (by decide) ?_
      obtain ⟨rfl, rfl⟩ := sp_2 hf
      exact w_zret X hr hlk (by decide) hP hS dX0_isCode_15
theorem KX0_isCode : xKs yX0_isCode cX0_isCode 1 (some .boolean) RX0 1 := ⟨cd_X0_isCode, ss_X0_isCode, in_X0, by decide +kernel⟩
abbrev rm_X0_formOf : Room := { frames := 1, cells := 0, slots := 0, locals := 20 }
def fX0_formOf (N mo : Nat) (a0 : Int32) (st : xSt) : Option (Int32 × xSt) := bd (fX0_isCode N mo a0 st) (fun v3 st1 => if v3 = (0 : Int32) then some ((0 : Int32), st1) else if a0 < 0 ∨ 16 ≤ (a0).toNatClampNeg then none else some ((xForm (a0).toNatClampNeg), st1))
set_option maxHeartbeats 4000000 in
set_option maxRecDepth 100000 in
theorem TX0_formOf (l : Launch) {D : va_G} {la : Nat → Nat → Nat} {cyI cyF cyM : ClassId} {t0 mo N : Nat} {a0 : Int32} {st : xSt} {r : Int32} {st' : xSt} (hf : fX0_formOf N mo a0 st = some (r, st')) : MetC D cyI cyF cyM mo la t0 l yX0_formOf (Cond.code yX0_formOf cX0_formOf 1 (some .int) :: xALL) rm_X0_formOf [.int a0] (some (.int r)) st st' := by
  refine MetW.intro (own := RX0) (by decide) (Nat.le_of_ble_eq_true rfl) rfl ?_
  intro p e s m below meth c X hr hlk hP ls hl
  have hx := X.1.1
  have hb := X.1.2.1
  have hS : va_S (xA (VC mo) la) s.heap s.heap [] := va_S.rf
  unfold fX0_formOf at hf
  replace hl : lv_has ls 1 [(0, .int a0)] := hl
  refine lv_iload_n hx hb dX0_formOf_0 rfl (lv_at hl 0 rfl) ?_
  obtain ⟨v3, st1, hr2, hf⟩ := bd_2 hf
  refine w_S1 X (TX0_isCode l hr2) hP hS rfl KX0_isCode ml_X0_11 ⟨rfl, rfl⟩ ⟨by decide, by decide⟩ rfl hl.1 (Nat.le_of_ble_eq_true rfl) dX0_formOf_1 (fun H locs hP hS => ?_)
  refine lv_if_eq (tgt := 15) hx hb dX0_formOf_4 (by decide) (fun c4 => ?_) (fun c4 => ?_)
  · replace hf := (if_pos c4).symm.trans hf
    refine lv_iconst (v := 0) hx hb dX0_formOf_15 (by decide) ?_
    obtain ⟨rfl, rfl⟩ := sp_2 hf
    exact w_iret X hr hlk hP hS dX0_formOf_16
  · replace hf := (if_neg c4).symm.trans hf
    refine w_forms X hS fl_X0_15 dX0_formOf_7 ?_
    refine lv_iload_n hx hb dX0_formOf_10 rfl (lv_at hl 0 rfl) ?_
    obtain ⟨hn5, hf⟩ := ck_of hf
    refine w_form X hS hn5 dX0_formOf_11 ?_
    refine lv_goto (tgt := 16) hx hb dX0_formOf_12 (by decide) ?_
    obtain ⟨rfl, rfl⟩ := sp_2 hf
    exact w_iret X hr hlk hP hS dX0_formOf_16
theorem KX0_formOf : xKs yX0_formOf cX0_formOf 1 (some .int) RX0 1 := ⟨cd_X0_formOf, ss_X0_formOf, in_X0, by decide +kernel⟩
abbrev rm_X0_isCell : Room := { frames := 0, cells := 0, slots := 0, locals := 0 }
def fX0_isCell_b30 (N mo : Nat) (st : xSt) : Option (Int32 × xSt) := some ((1 : Int32), st)
set_option maxHeartbeats 4000000 in
set_option maxRecDepth 100000 in
theorem BX0_isCell_30 {p : Program} {l : Launch} {e : Env} {s : State} {m : MethodId} {args : Array Value} {below : List Frame} {meth : Method} {c : Code} {D : va_G} {la : Nat → Nat → Nat} {cyI cyF cyM : ClassId} {t0 mo N : Nat} {r : Int32} {st' : xSt} (X : xCx D (VC mo) la cyI cyF cyM t0 p m c cX0_isCell 2 s args RX0) (hr : meth.sig.returnType = (some .boolean)) (hlk : meth.locks = false) : ∀ (st : xSt) (H : Heap) (locs : List Loc) (ls : Array Slot), fX0_isCell_b30 N mo st = some (r, st') → HW D (VC mo) la (ECf cyI cyF cyM mo la) st H → va_S (xA (VC mo) la) s.heap H locs → lv_has ls 2 [] → W p l e rm_X0_isCell s m args below meth c H locs 0 0 (MQ below (xQc D (VC mo) la (ECf cyI cyF cyM mo la) (some (.int r)) st') args s 0 0 (xA (VC mo) la)) (F0 m 30 ls []) := by
  have hx := X.1.1
  have hb := X.1.2.1
  intro st H locs ls hf hP hS hl
  unfold fX0_isCell_b30 at hf
  refine lv_iconst (v := 1) hx hb dX0_isCell_30 (by decide) ?_
  refine lv_goto (tgt := 35) hx hb dX0_isCell_31 (by decide) ?_
  obtain ⟨rfl, rfl⟩ := sp_2 hf
  exact w_zret X hr hlk (by decide) hP hS dX0_isCell_35
def fX0_isCell_b16 (N mo : Nat) (a0 : Int32) (st : xSt) : Option (Int32 × xSt) := if a0 < (136 : Int32) then some ((0 : Int32), st) else if (144 : Int32) ≤ a0 then some ((0 : Int32), st) else fX0_isCell_b30 N mo st
set_option maxHeartbeats 4000000 in
set_option maxRecDepth 100000 in
theorem BX0_isCell_16 {p : Program} {l : Launch} {e : Env} {s : State} {m : MethodId} {args : Array Value} {below : List Frame} {meth : Method} {c : Code} {D : va_G} {la : Nat → Nat → Nat} {cyI cyF cyM : ClassId} {t0 mo N : Nat} {r : Int32} {st' : xSt} (X : xCx D (VC mo) la cyI cyF cyM t0 p m c cX0_isCell 2 s args RX0) (hr : meth.sig.returnType = (some .boolean)) (hlk : meth.locks = false) : ∀ (a0 : Int32) (st : xSt) (H : Heap) (locs : List Loc) (ls : Array Slot), fX0_isCell_b16 N mo a0 st = some (r, st') → HW D (VC mo) la (ECf cyI cyF cyM mo la) st H → va_S (xA (VC mo) la) s.heap H locs → lv_has ls 2 [(0, .int a0)] → W p l e rm_X0_isCell s m args below meth c H locs 0 0 (MQ below (xQc D (VC mo) la (ECf cyI cyF cyM mo la) (some (.int r)) st') args s 0 0 (xA (VC mo) la)) (F0 m 16 ls []) := by
  have hx := X.1.1
  have hb := X.1.2.1
  intro a0 st H locs ls hf hP hS hl
  unfold fX0_isCell_b16 at hf
  refine lv_iload_n hx hb dX0_isCell_16 rfl (lv_at hl 0 rfl) ?_
  refine lv_sipush (v := 136) hx hb dX0_isCell_17 (by decide) ?_
  refine lv_icmp_lt (tgt := 34) hx hb dX0_isCell_20 (by decide) (fun c3 => ?_) (fun c3 => ?_)
  · replace hf := (if_pos c3).symm.trans hf
    refine lv_iconst (v := 0) hx hb dX0_isCell_34 (by decide) ?_
    obtain ⟨rfl, rfl⟩ := sp_2 hf
    exact w_zret X hr hlk (by decide) hP hS dX0_isCell_35
  · replace hf := (if_neg c3).symm.trans hf
    refine lv_iload_n hx hb dX0_isCell_23 rfl (lv_at hl 0 rfl) ?_
    refine lv_sipush (v := 144) hx hb dX0_isCell_24 (by decide) ?_
    refine lv_icmp_ge (tgt := 34) hx hb dX0_isCell_27 (by decide) (fun c4 => ?_) (fun c4 => ?_)
    · replace hf := (if_pos c4).symm.trans hf
      refine lv_iconst (v := 0) hx hb dX0_isCell_34 (by decide) ?_
      obtain ⟨rfl, rfl⟩ := sp_2 hf
      exact w_zret X hr hlk (by decide) hP hS dX0_isCell_35
    · replace hf := (if_neg c4).symm.trans hf
      exact BX0_isCell_30 X hr hlk _ _ _ _  hf hP hS (lv_sub hl [] rfl)
def fX0_isCell (N mo : Nat) (a0 : Int32) (a1 : Int32) (st : xSt) : Option (Int32 × xSt) := if a0 < (128 : Int32) then fX0_isCell_b16 N mo a0 st else if a0 < ((128 : Int32) + a1) then fX0_isCell_b30 N mo st else fX0_isCell_b16 N mo a0 st
set_option maxHeartbeats 4000000 in
set_option maxRecDepth 100000 in
theorem TX0_isCell (l : Launch) {D : va_G} {la : Nat → Nat → Nat} {cyI cyF cyM : ClassId} {t0 mo N : Nat} {a0 : Int32} {a1 : Int32} {st : xSt} {r : Int32} {st' : xSt} (hf : fX0_isCell N mo a0 a1 st = some (r, st')) : MetC D cyI cyF cyM mo la t0 l yX0_isCell (Cond.code yX0_isCell cX0_isCell 2 (some .boolean) :: xALL) rm_X0_isCell [.int a0, .int a1] (some (.int r)) st st' := by
  refine MetW.intro (own := RX0) (by decide) (Nat.le_of_ble_eq_true rfl) rfl ?_
  intro p e s m below meth c X hr hlk hP ls hl
  have hx := X.1.1
  have hb := X.1.2.1
  have hS : va_S (xA (VC mo) la) s.heap s.heap [] := va_S.rf
  unfold fX0_isCell at hf
  replace hl : lv_has ls 2 [(0, .int a0), (1, .int a1)] := hl
  refine lv_iload_n hx hb dX0_isCell_0 rfl (lv_at hl 0 rfl) ?_
  refine lv_sipush (v := 128) hx hb dX0_isCell_1 (by decide) ?_
  refine lv_icmp_lt (tgt := 16) hx hb dX0_isCell_4 (by decide) (fun c1 => ?_) (fun c1 => ?_)
  · replace hf := (if_pos c1).symm.trans hf
    exact BX0_isCell_16 X hr hlk _ _ _ _ _  hf hP hS (lv_sub hl [0] rfl)
  · replace hf := (if_neg c1).symm.trans hf
    refine lv_iload_n hx hb dX0_isCell_7 rfl (lv_at hl 0 rfl) ?_
    refine lv_sipush (v := 128) hx hb dX0_isCell_8 (by decide) ?_
    refine lv_iload_n hx hb dX0_isCell_11 rfl (lv_at hl 1 rfl) ?_
    refine lv_iadd hx hb dX0_isCell_12 ?_
    refine lv_icmp_lt (tgt := 30) hx hb dX0_isCell_13 (by decide) (fun c2 => ?_) (fun c2 => ?_)
    · replace hf := (if_pos c2).symm.trans hf
      exact BX0_isCell_30 X hr hlk _ _ _ _  hf hP hS (lv_sub hl [] rfl)
    · replace hf := (if_neg c2).symm.trans hf
      exact BX0_isCell_16 X hr hlk _ _ _ _ _  hf hP hS (lv_sub hl [0] rfl)
theorem KX0_isCell : xKs yX0_isCell cX0_isCell 2 (some .boolean) RX0 2 := ⟨cd_X0_isCell, ss_X0_isCell, in_X0, by decide +kernel⟩
abbrev rm_X0_fits : Room := { frames := 1, cells := 0, slots := 0, locals := 21 }
def fX0_fits_b47 (N mo : Nat) (st : xSt) : Option (Int32 × xSt) := some ((1 : Int32), st)
set_option maxHeartbeats 4000000 in
set_option maxRecDepth 100000 in
theorem BX0_fits_47 {p : Program} {l : Launch} {e : Env} {s : State} {m : MethodId} {args : Array Value} {below : List Frame} {meth : Method} {c : Code} {D : va_G} {la : Nat → Nat → Nat} {cyI cyF cyM : ClassId} {t0 mo N : Nat} {r : Int32} {st' : xSt} (X : xCx D (VC mo) la cyI cyF cyM t0 p m c cX0_fits 3 s args RX0) (hr : meth.sig.returnType = (some .boolean)) (hlk : meth.locks = false) : ∀ (st : xSt) (H : Heap) (locs : List Loc) (ls : Array Slot), fX0_fits_b47 N mo st = some (r, st') → HW D (VC mo) la (ECf cyI cyF cyM mo la) st H → va_S (xA (VC mo) la) s.heap H locs → lv_has ls 3 [] → W p l e rm_X0_fits s m args below meth c H locs 0 0 (MQ below (xQc D (VC mo) la (ECf cyI cyF cyM mo la) (some (.int r)) st') args s 0 0 (xA (VC mo) la)) (F0 m 47 ls []) := by
  have hx := X.1.1
  have hb := X.1.2.1
  intro st H locs ls hf hP hS hl
  unfold fX0_fits_b47 at hf
  refine lv_iconst (v := 1) hx hb dX0_fits_47 (by decide) ?_
  refine lv_goto (tgt := 52) hx hb dX0_fits_48 (by decide) ?_
  obtain ⟨rfl, rfl⟩ := sp_2 hf
  exact w_zret X hr hlk (by decide) hP hS dX0_fits_52
def fX0_fits (N mo : Nat) (a0 : Int32) (a1 : Int32) (a2 : Int32) (st : xSt) : Option (Int32 × xSt) := nm (a0 &&& (15 : Int32)) (fun x1 => if x1 = (1 : Int32) then if a1 < (128 : Int32) then fX0_fits_b47 N mo st else bd (fX0_isCell N mo a1 a2 st) (fun v6 st4 => if v6 = (0 : Int32) then some ((0 : Int32), st4) else fX0_fits_b47 N mo st4) else if x1 = (2 : Int32) then bd (fX0_isCell N mo a1 a2 st) (fun v11 st9 => if ¬ (v11 = 0 ∨ v11 = 1) then none else some (v11, st9)) else if x1 = (3 : Int32) then some ((1 : Int32), st) else if (4 : Int32) < a1 then some ((0 : Int32), st) else some ((1 : Int32), st))
set_option maxHeartbeats 4000000 in
set_option maxRecDepth 100000 in
theorem TX0_fits (l : Launch) {D : va_G} {la : Nat → Nat → Nat} {cyI cyF cyM : ClassId} {t0 mo N : Nat} {a0 : Int32} {a1 : Int32} {a2 : Int32} {st : xSt} {r : Int32} {st' : xSt} (hf : fX0_fits N mo a0 a1 a2 st = some (r, st')) : MetC D cyI cyF cyM mo la t0 l yX0_fits (Cond.code yX0_fits cX0_fits 3 (some .boolean) :: xALL) rm_X0_fits [.int a0, .int a1, .int a2] (some (.int r)) st st' := by
  refine MetW.intro (own := RX0) (by decide) (Nat.le_of_ble_eq_true rfl) rfl ?_
  intro p e s m below meth c X hr hlk hP ls hl
  have hx := X.1.1
  have hb := X.1.2.1
  have hS : va_S (xA (VC mo) la) s.heap s.heap [] := va_S.rf
  unfold fX0_fits at hf
  replace hl : lv_has ls 3 [(0, .int a0), (1, .int a1), (2, .int a2)] := hl
  refine lv_iload_n hx hb dX0_fits_0 rfl (lv_at hl 0 rfl) ?_
  refine lv_bipush (v := 15) hx hb dX0_fits_1 (by decide) ?_
  refine lv_iand hx hb dX0_fits_3 ?_
  refine lv_topi (fun x1 ex => ?_)
  replace hf := nm_of hf ex
  clear ex
  by_cases c2 : x1 = (1 : Int32)
  · replace hf := (if_pos c2).symm.trans hf
    refine w_stk (st1 := .int (1 : Int32) :: _) (by rw [c2]) ?_
    refine lv_tableIn (off := 28) (tgt := 32) hx hb dX0_fits_4 (by decide) (by decide) (by decide) (by decide) ?_
    refine lv_iload_n hx hb dX0_fits_32 rfl (lv_at hl 1 rfl) ?_
    refine lv_sipush (v := 128) hx hb dX0_fits_33 (by decide) ?_
    refine lv_icmp_lt (tgt := 47) hx hb dX0_fits_36 (by decide) (fun c3 => ?_) (fun c3 => ?_)
    · replace hf := (if_pos c3).symm.trans hf
      exact BX0_fits_47 X hr hlk _ _ _ _  hf hP hS (lv_sub hl [] rfl)
    · replace hf := (if_neg c3).symm.trans hf
      refine lv_iload_n hx hb dX0_fits_39 rfl (lv_at hl 1 rfl) ?_
      refine lv_iload_n hx hb dX0_fits_40 rfl (lv_at hl 2 rfl) ?_
      obtain ⟨v6, st4, hr5, hf⟩ := bd_2 hf
      refine w_S1 X (TX0_isCell l hr5) hP hS rfl KX0_isCell ml_X0_19 ⟨rfl, rfl⟩ ⟨by decide, by decide⟩ rfl hl.1 (Nat.le_of_ble_eq_true rfl) dX0_fits_41 (fun H locs hP hS => ?_)
      refine lv_if_eq (tgt := 51) hx hb dX0_fits_44 (by decide) (fun c7 => ?_) (fun c7 => ?_)
      · replace hf := (if_pos c7).symm.trans hf
        refine lv_iconst (v := 0) hx hb dX0_fits_51 (by decide) ?_
        obtain ⟨rfl, rfl⟩ := sp_2 hf
        exact w_zret X hr hlk (by decide) hP hS dX0_fits_52
      · replace hf := (if_neg c7).symm.trans hf
        exact BX0_fits_47 X hr hlk _ _ _ _  hf hP hS (lv_sub hl [] rfl)
  replace hf := (if_neg c2).symm.trans hf
  by_cases c8 : x1 = (2 : Int32)
  · replace hf := (if_pos c8).symm.trans hf
    refine w_stk (st1 := .int (2 : Int32) :: _) (by rw [c8]) ?_
    refine lv_tableIn (off := 49) (tgt := 53) hx hb dX0_fits_4 (by decide) (by decide) (by decide) (by decide) ?_
    refine lv_iload_n hx hb dX0_fits_53 rfl (lv_at hl 1 rfl) ?_
    refine lv_iload_n hx hb dX0_fits_54 rfl (lv_at hl 2 rfl) ?_
    obtain ⟨v11, st9, hr10, hf⟩ := bd_2 hf
    refine w_S1 X (TX0_isCell l hr10) hP hS rfl KX0_isCell ml_X0_19 ⟨rfl, rfl⟩ ⟨by decide, by decide⟩ rfl hl.1 (Nat.le_of_ble_eq_true rfl) dX0_fits_55 (fun H locs hP hS => ?_)
    obtain ⟨hz12, hf⟩ := ck_of hf
    obtain ⟨rfl, rfl⟩ := sp_2 hf
    exact w_zret X hr hlk (Decidable.not_not.mp hz12) hP hS dX0_fits_58
  replace hf := (if_neg c8).symm.trans hf
  by_cases c13 : x1 = (3 : Int32)
  · replace hf := (if_pos c13).symm.trans hf
    refine w_stk (st1 := .int (3 : Int32) :: _) (by rw [c13]) ?_
    refine lv_tableIn (off := 55) (tgt := 59) hx hb dX0_fits_4 (by decide) (by decide) (by decide) (by decide) ?_
    refine lv_iconst (v := 1) hx hb dX0_fits_59 (by decide) ?_
    obtain ⟨rfl, rfl⟩ := sp_2 hf
    exact w_zret X hr hlk (by decide) hP hS dX0_fits_60
  replace hf := (if_neg c13).symm.trans hf
  have gc2 := lv_neT c2 (show ((1 : Int32)).toInt = 1 by decide)
  have gc8 := lv_neT c8 (show ((2 : Int32)).toInt = 2 by decide)
  have gc13 := lv_neT c13 (show ((3 : Int32)).toInt = 3 by decide)
  refine lv_tableOut (tgt := 61) hx hb dX0_fits_4 (by omega) (by decide) ?_
  clear gc2 gc8 gc13
  refine lv_iload_n hx hb dX0_fits_61 rfl (lv_at hl 1 rfl) ?_
  refine lv_iconst (v := 4) hx hb dX0_fits_62 (by decide) ?_
  refine lv_icmp_gt (tgt := 70) hx hb dX0_fits_63 (by decide) (fun c14 => ?_) (fun c14 => ?_)
  · replace hf := (if_pos c14).symm.trans hf
    refine lv_iconst (v := 0) hx hb dX0_fits_70 (by decide) ?_
    obtain ⟨rfl, rfl⟩ := sp_2 hf
    exact w_zret X hr hlk (by decide) hP hS dX0_fits_71
  · replace hf := (if_neg c14).symm.trans hf
    refine lv_iconst (v := 1) hx hb dX0_fits_66 (by decide) ?_
    refine lv_goto (tgt := 71) hx hb dX0_fits_67 (by decide) ?_
    obtain ⟨rfl, rfl⟩ := sp_2 hf
    exact w_zret X hr hlk (by decide) hP hS dX0_fits_71
theorem KX0_fits : xKs yX0_fits cX0_fits 3 (some .boolean) RX0 3 := ⟨cd_X0_fits, ss_X0_fits, in_X0, by decide +kernel⟩
