abbrev rm_X7_find : Room := { frames := 0, cells := 0, slots := 0, locals := 0 }
def fX7_find_b2 (N mo : Nat) : Nat → Int32 → Int32 → xSt → Option (Nat × xSt)
  | 0, _, _, _ => none
  | n + 1, a1, a2, st => if (st.1 7 0 3) ≤ a2 then some (0, st) else if a2 < 0 ∨ (mo + 1) ≤ (a2).toNatClampNeg then none else nm ((min (st.2 0 (a2).toNatClampNeg) mo)) (fun j3 => if (st.1 3 j3 2) = a1 then if a2 < 0 ∨ (mo + 1) ≤ (a2).toNatClampNeg then none else nm ((min (st.2 0 (a2).toNatClampNeg) mo)) (fun j7 => some ((j7 + 1), st)) else nm (a2 + (1 : Int32)) (fun x5 => fX7_find_b2 N mo n a1 x5 st))
set_option maxHeartbeats 4000000 in
set_option maxRecDepth 100000 in
theorem BX7_find_2 {p : Program} {l : Launch} {e : Env} {s : State} {m : MethodId} {args : Array Value} {below : List Frame} {meth : Method} {c : Code} {D : va_G} {la : Nat → Nat → Nat} {cyI cyF cyM : ClassId} {t0 mo N : Nat} {r : Nat} {st' : xSt} (X : xCx D (VC mo) la cyI cyF cyM t0 p m c cX7_find 3 s args RX7) (hr : meth.sig.returnType = (some (.object "MadeCalls$Made"))) (hlk : meth.locks = false) : ∀ n : Nat, ∀ (a1 : Int32) (a2 : Int32) (st : xSt) (H : Heap) (locs : List Loc) (ls : Array Slot), fX7_find_b2 N mo n a1 a2 st = some (r, st') → HW D (VC mo) la (ECf cyI cyF cyM mo la) st H → va_S (xA (VC mo) la) s.heap H locs → lv_has ls 3 [(0, .ref (la 7 0)), (1, .int a1), (2, .int a2)] → W p l e rm_X7_find s m args below meth c H locs 0 0 (MQ below (xQc D (VC mo) la (ECf cyI cyF cyM mo la) (some (va_rf (mrf la mo r))) st') args s 0 0 (xA (VC mo) la)) (F0 m 2 ls []) := by
  have hx := X.1.1
  have hb := X.1.2.1
  intro n
  induction n with
  | zero =>
    intro a1 a2 st H locs ls hf hP hS hl
    rw [fX7_find_b2] at hf
    cases hf
  | succ n ih =>
    intro a1 a2 st H locs ls hf hP hS hl
    rw [fX7_find_b2] at hf
    refine lv_iload_n hx hb dX7_find_2 rfl (lv_at hl 2 rfl) ?_
    refine lv_aload_n hx hb dX7_find_3 rfl (lv_at hl 0 rfl) ?_
    refine gC_Shelf_size X hP fl_X7_26 dX7_find_4 ?_
    refine lv_icmp_ge (tgt := 36) hx hb dX7_find_7 (by decide) (fun c1 => ?_) (fun c1 => ?_)
    · replace hf := (if_pos c1).symm.trans hf
      refine lv_null hx hb dX7_find_36 ?_
      obtain ⟨rfl, rfl⟩ := sp_2 hf
      refine w_top ((mrf_0 (la := la) (mo := mo) (k := 0) rfl).symm) ?_
      exact w_aret X hr hlk mrf_or hP hS dX7_find_37
    · replace hf := (if_neg c1).symm.trans hf
      refine lv_aload_n hx hb dX7_find_10 rfl (lv_at hl 0 rfl) ?_
      refine gC_Shelf_all X hP fl_X7_21 dX7_find_11 ?_
      refine lv_iload_n hx hb dX7_find_14 rfl (lv_at hl 2 rfl) ?_
      obtain ⟨hn2, hf⟩ := ck_of hf
      refine gC_all X hP hn2 dX7_find_15 ?_
      obtain ⟨j3, ej, hj3⟩ : ∃ y : Nat, y = (min (st.2 0 (a2).toNatClampNeg) mo) ∧ VC mo 3 y := ⟨_, rfl, (VC_m mo _)⟩
      refine w_top (v' := .ref (la 3 j3)) (by rw [ej]) ?_
      replace hf := nm_of hf ej
      clear ej
      refine gC_Made_address X hP hj3 fl_X7_37 dX7_find_16 ?_
      refine lv_iload_n hx hb dX7_find_19 rfl (lv_at hl 1 rfl) ?_
      refine lv_icmp_ne (tgt := 30) hx hb dX7_find_20 (by decide) (fun c4 => ?_) (fun c4 => ?_)
      · replace hf := (if_neg c4).symm.trans hf
        obtain ⟨x5, ex⟩ : ∃ y : Int32, y = (a2 + (1 : Int32)) := ⟨_, rfl⟩
        replace hf := nm_of hf ex
        refine lv_iinc (v := x5) (lv' := [(2, .int x5), (0, .ref (la 7 0)), (1, .int a1)]) hx hb dX7_find_30 hl (k := 2) rfl (by rw [ex]; rfl) (by decide) rfl (fun ls hl => ?_)
        clear ex
        refine lv_goto (tgt := 2) hx hb dX7_find_33 (by decide) ?_
        exact ih _ _ _ _ _ _  hf hP hS (lv_sub hl [1, 2, 0] rfl)
      · replace hf := (if_pos c4).symm.trans hf
        refine lv_aload_n hx hb dX7_find_23 rfl (lv_at hl 0 rfl) ?_
        refine gC_Shelf_all X hP fl_X7_21 dX7_find_24 ?_
        refine lv_iload_n hx hb dX7_find_27 rfl (lv_at hl 2 rfl) ?_
        obtain ⟨hn6, hf⟩ := ck_of hf
        refine gC_all X hP hn6 dX7_find_28 ?_
        obtain ⟨j7, ej, hj7⟩ : ∃ y : Nat, y = (min (st.2 0 (a2).toNatClampNeg) mo) ∧ VC mo 3 y := ⟨_, rfl, (VC_m mo _)⟩
        refine w_top (v' := .ref (la 3 j7)) (by rw [ej]) ?_
        replace hf := nm_of hf ej
        clear ej
        obtain ⟨rfl, rfl⟩ := sp_2 hf
        refine w_top (mrf_s hj7) ?_
        exact w_aret X hr hlk mrf_or hP hS dX7_find_29
def fX7_find (N mo : Nat) (a1 : Int32) (st : xSt) : Option (Nat × xSt) := fX7_find_b2 N mo N a1 (0 : Int32) st
set_option maxHeartbeats 4000000 in
set_option maxRecDepth 100000 in
theorem TX7_find (l : Launch) {D : va_G} {la : Nat → Nat → Nat} {cyI cyF cyM : ClassId} {t0 mo N : Nat} {a1 : Int32} {st : xSt} {r : Nat} {st' : xSt} (hf : fX7_find N mo a1 st = some (r, st')) : MetC D cyI cyF cyM mo la t0 l yX7_find (Cond.code yX7_find cX7_find 3 (some (.object "MadeCalls$Made")) :: xALL) rm_X7_find [.ref (la 7 0), .int a1] (some (va_rf (mrf la mo r))) st st' := by
  refine MetW.intro (own := RX7) (by decide) (Nat.le_of_ble_eq_true rfl) rfl ?_
  intro p e s m below meth c X hr hlk hP ls hl
  have hx := X.1.1
  have hb := X.1.2.1
  have hS : va_S (xA (VC mo) la) s.heap s.heap [] := va_S.rf
  unfold fX7_find at hf
  replace hl : lv_has ls 3 [(0, .ref (la 7 0)), (1, .int a1)] := hl
  refine lv_iconst (v := 0) hx hb dX7_find_0 (by decide) ?_
  refine lv_istore_n (lv' := [(2, .int (0 : Int32)), (0, .ref (la 7 0)), (1, .int a1)]) hx hb dX7_find_1 rfl hl (by decide) rfl (fun ls hl => ?_)
  exact BX7_find_2 X hr hlk N _ _ _ _ _ _  hf hP hS (lv_sub hl [1, 2, 0] rfl)
theorem KX7_find : xKv yX7_find cX7_find 3 (some (.object "MadeCalls$Made")) RX7 1 := ⟨cd_X7_find, im_X7_find, se_X7_find, in_X7, by decide +kernel⟩
abbrev rm_X7_keepDraft : Room := { frames := 1, cells := 0, slots := 0, locals := 23 }
def fX7_keepDraft_b16 (N mo : Nat) (st : xSt) : Option xSt := if (st.1 7 0 3) < 0 ∨ (mo + 1) ≤ ((st.1 7 0 3)).toNatClampNeg then none else nm ((min (st.2 0 ((st.1 7 0 3)).toNatClampNeg) mo)) (fun j5 => nm (pI st 3 j5 3 (1 : Int32)) (fun st6 => nm (pI st6 7 0 3 ((st6.1 7 0 3) + (1 : Int32))) (fun st7 => nm (pI st7 20 0 0 ((st7.1 20 0 0) + (1 : Int32))) (fun st8 => some st8))))
set_option maxHeartbeats 4000000 in
set_option maxRecDepth 100000 in
theorem BX7_keepDraft_16 {p : Program} {l : Launch} {e : Env} {s : State} {m : MethodId} {args : Array Value} {below : List Frame} {meth : Method} {c : Code} {D : va_G} {la : Nat → Nat → Nat} {cyI cyF cyM : ClassId} {t0 mo N : Nat} {st' : xSt} (X : xCx D (VC mo) la cyI cyF cyM t0 p m c cX7_keepDraft 1 s args RX7) (hr : meth.sig.returnType = none) (hlk : meth.locks = false) : ∀ (st : xSt) (H : Heap) (locs : List Loc) (ls : Array Slot), fX7_keepDraft_b16 N mo st = some st' → HW D (VC mo) la (ECf cyI cyF cyM mo la) st H → va_S (xA (VC mo) la) s.heap H locs → lv_has ls 1 [(0, .ref (la 7 0))] → W p l e rm_X7_keepDraft s m args below meth c H locs 0 0 (MQ below (xQc D (VC mo) la (ECf cyI cyF cyM mo la) none st') args s 0 0 (xA (VC mo) la)) (F0 m 16 ls []) := by
  have hx := X.1.1
  have hb := X.1.2.1
  intro st H locs ls hf hP hS hl
  unfold fX7_keepDraft_b16 at hf
  refine lv_aload_n hx hb dX7_keepDraft_16 rfl (lv_at hl 0 rfl) ?_
  refine gC_Shelf_all X hP fl_X7_21 dX7_keepDraft_17 ?_
  refine lv_aload_n hx hb dX7_keepDraft_20 rfl (lv_at hl 0 rfl) ?_
  refine gC_Shelf_size X hP fl_X7_26 dX7_keepDraft_21 ?_
  obtain ⟨hn4, hf⟩ := ck_of hf
  refine gC_all X hP hn4 dX7_keepDraft_24 ?_
  obtain ⟨j5, ej, hj5⟩ : ∃ y : Nat, y = (min (st.2 0 ((st.1 7 0 3)).toNatClampNeg) mo) ∧ VC mo 3 y := ⟨_, rfl, (VC_m mo _)⟩
  refine w_top (v' := .ref (la 3 j5)) (by rw [ej]) ?_
  replace hf := nm_of hf ej
  clear ej
  refine lv_iconst (v := 1) hx hb dX7_keepDraft_25 (by decide) ?_
  refine pC_Made_isKept X hP hS hj5 (by decide) fl_X7_33 dX7_keepDraft_26 (fun H locs hP hS => ?_)
  obtain ⟨st6, hP, hf⟩ := nm_gen (P := fun z => HW D (VC mo) la (ECf cyI cyF cyM mo la) z H) hP hf
  refine lv_aload_n hx hb dX7_keepDraft_29 rfl (lv_at hl 0 rfl) ?_
  refine lv_dup hx hb dX7_keepDraft_30 rfl ?_
  refine gC_Shelf_size X hP fl_X7_26 dX7_keepDraft_31 ?_
  refine lv_iconst (v := 1) hx hb dX7_keepDraft_34 (by decide) ?_
  refine lv_iadd hx hb dX7_keepDraft_35 ?_
  refine pC_Shelf_size X hP hS fl_X7_26 dX7_keepDraft_36 (fun H locs hP hS => ?_)
  obtain ⟨st7, hP, hf⟩ := nm_gen (P := fun z => HW D (VC mo) la (ECf cyI cyF cyM mo la) z H) hP hf
  refine lv_aload_n hx hb dX7_keepDraft_39 rfl (lv_at hl 0 rfl) ?_
  refine gC_Shelf_counts X hP fl_X7_15 dX7_keepDraft_40 ?_
  refine lv_iconst (v := 0) hx hb dX7_keepDraft_43 (by decide) ?_
  refine lv_dup2_11 hx hb dX7_keepDraft_44 rfl rfl ?_
  refine w_ialdK X hP (c0 := 20) (i0 := 0) (show 0 < 7 by decide) (n := 8) (fun _ => rfl) 0 (by decide) (show ¬ ((0 : Int32) < 0 ∨ 8 ≤ ((0 : Int32)).toNatClampNeg) by decide) dX7_keepDraft_45 ?_
  refine lv_iconst (v := 1) hx hb dX7_keepDraft_46 (by decide) ?_
  refine lv_iadd hx hb dX7_keepDraft_47 ?_
  refine w_iastK X hP hS (c0 := 20) (i0 := 0) (show 0 < 7 by decide) (n := 8) (fun _ => rfl) 0 (by decide) (show ¬ ((0 : Int32) < 0 ∨ 8 ≤ ((0 : Int32)).toNatClampNeg) by decide) dX7_keepDraft_48 (fun H locs hP hS => ?_)
  obtain ⟨st8, hP, hf⟩ := nm_gen (P := fun z => HW D (VC mo) la (ECf cyI cyF cyM mo la) z H) hP hf
  obtain rfl := Option.some.inj hf
  exact w_vret X hr hlk hP hS dX7_keepDraft_49
def fX7_keepDraft (N mo : Nat) (st : xSt) : Option xSt := if (st.1 7 0 3) = (st.1 7 0 0) then Option.bind (fX7_dropAt N mo (0 : Int32) st) (fun st2 => fX7_keepDraft_b16 N mo st2) else fX7_keepDraft_b16 N mo st
set_option maxHeartbeats 4000000 in
set_option maxRecDepth 100000 in
theorem TX7_keepDraft (l : Launch) {D : va_G} {la : Nat → Nat → Nat} {cyI cyF cyM : ClassId} {t0 mo N : Nat} {st : xSt} {st' : xSt} (hf : fX7_keepDraft N mo st = some st') : MetC D cyI cyF cyM mo la t0 l yX7_keepDraft (Cond.code yX7_keepDraft cX7_keepDraft 1 none :: xALL) rm_X7_keepDraft [.ref (la 7 0)] none st st' := by
  refine MetW.intro (own := RX7) (by decide) (Nat.le_of_ble_eq_true rfl) rfl ?_
  intro p e s m below meth c X hr hlk hP ls hl
  have hx := X.1.1
  have hb := X.1.2.1
  have hS : va_S (xA (VC mo) la) s.heap s.heap [] := va_S.rf
  unfold fX7_keepDraft at hf
  replace hl : lv_has ls 1 [(0, .ref (la 7 0))] := hl
  refine lv_aload_n hx hb dX7_keepDraft_0 rfl (lv_at hl 0 rfl) ?_
  refine gC_Shelf_size X hP fl_X7_26 dX7_keepDraft_1 ?_
  refine lv_aload_n hx hb dX7_keepDraft_4 rfl (lv_at hl 0 rfl) ?_
  refine gC_Shelf_most X hP fl_X7_9 dX7_keepDraft_5 ?_
  refine lv_icmp_ne (tgt := 16) hx hb dX7_keepDraft_8 (by decide) (fun c1 => ?_) (fun c1 => ?_)
  · replace hf := (if_neg c1).symm.trans hf
    exact BX7_keepDraft_16 X hr hlk _ _ _ _  hf hP hS (lv_sub hl [0] rfl)
  · replace hf := (if_pos c1).symm.trans hf
    refine lv_aload_n hx hb dX7_keepDraft_11 rfl (lv_at hl 0 rfl) ?_
    refine lv_iconst (v := 0) hx hb dX7_keepDraft_12 (by decide) ?_
    obtain ⟨st2, hr3, hf⟩ := bd_of hf
    refine w_V0 X (TX7_dropAt l hr3) hP hS rfl KX7_dropAt ml_X7_29 ⟨rfl, rfl⟩ ⟨by decide, by decide⟩ (x_recv (E := fun c i => (ECf cyI cyF cyM mo la) (st.1 c i) st.2 c i) (c0 := 7) (i0 := 0) X.2.2.1 hP rfl (ci := 7) rfl rfl) rfl hl.1 (Nat.le_of_ble_eq_true rfl) dX7_keepDraft_13 (fun H locs hP hS => ?_)
    exact BX7_keepDraft_16 X hr hlk _ _ _ _  hf hP hS (lv_sub hl [0] rfl)
theorem KX7_keepDraft : xKv yX7_keepDraft cX7_keepDraft 1 none RX7 0 := ⟨cd_X7_keepDraft, im_X7_keepDraft, se_X7_keepDraft, in_X7, by decide +kernel⟩
abbrev rm_X8_make : Room := { frames := 4, cells := 0, slots := 0, locals := 95 }
def fX8_make (N mo : Nat) (a1 : Int32) (st : xSt) : Option (Int32 × xSt) := nm (pI st 8 0 6 (-1 : Int32)) (fun st1 => bd (fX8_isAddress N mo a1 st1) (fun v4 st2 => if v4 = (0 : Int32) then some ((-2 : Int32), st2) else bd (fX3_hasRoutine N mo a1 st2) (fun v8 st6 => if v8 = (0 : Int32) then some ((-2 : Int32), st6) else bd (fX7_draft N mo st6) (fun v12 st10 => if v12 = 0 then none else bd (fX2_readAhead N mo (min (v12 - 1) mo) a1 st10) (fun v16 st14 => nm (pI st14 8 0 6 v16) (fun st17 => if (st17.1 8 0 6) = (-1 : Int32) then bd (fX7_find N mo a1 st17) (fun v21 st19 => if v21 = 0 then if (st19.1 7 0 0) = (0 : Int32) then some ((-3 : Int32), st19) else Option.bind (fX7_keepDraft N mo st19) (fun st24 => some ((st24.1 3 (min (v12 - 1) mo) 1), st24)) else some ((-4 : Int32), st19)) else some ((-2 : Int32), st17)))))))
set_option maxHeartbeats 4000000 in
set_option maxRecDepth 100000 in
theorem TX8_make (l : Launch) {D : va_G} {la : Nat → Nat → Nat} {cyI cyF cyM : ClassId} {t0 mo N : Nat} {a1 : Int32} {st : xSt} {r : Int32} {st' : xSt} (hf : fX8_make N mo a1 st = some (r, st')) : MetC D cyI cyF cyM mo la t0 l yX8_make (Cond.code yX8_make cX8_make 3 (some .int) :: xALL) rm_X8_make [.ref (la 8 0), .int a1] (some (.int r)) st st' := by
  refine MetW.intro (own := RX8) (by decide) (Nat.le_of_ble_eq_true rfl) rfl ?_
  intro p e s m below meth c X hr hlk hP ls hl
  have hx := X.1.1
  have hb := X.1.2.1
  have hS : va_S (xA (VC mo) la) s.heap s.heap [] := va_S.rf
  unfold fX8_make at hf
  replace hl : lv_has ls 3 [(0, .ref (la 8 0)), (1, .int a1)] := hl
  refine lv_aload_n hx hb dX8_make_0 rfl (lv_at hl 0 rfl) ?_
  refine lv_iconst (v := -1) hx hb dX8_make_1 (by decide) ?_
  refine pC_MadeCalls_unmakable X hP hS fl_X8_55 dX8_make_2 (fun H locs hP hS => ?_)
  obtain ⟨st1, hP, hf⟩ := nm_gen (P := fun z => HW D (VC mo) la (ECf cyI cyF cyM mo la) z H) hP hf
  refine lv_iload_n hx hb dX8_make_5 rfl (lv_at hl 1 rfl) ?_
  obtain ⟨v4, st2, hr3, hf⟩ := bd_2 hf
  refine w_S1 X (TX8_isAddress l hr3) hP hS rfl KX8_isAddress ml_X8_78 ⟨rfl, rfl⟩ ⟨by decide, by decide⟩ rfl hl.1 (Nat.le_of_ble_eq_true rfl) dX8_make_6 (fun H locs hP hS => ?_)
  refine lv_if_eq (tgt := 23) hx hb dX8_make_9 (by decide) (fun c5 => ?_) (fun c5 => ?_)
  · replace hf := (if_pos c5).symm.trans hf
    refine lv_bipush (v := -2) hx hb dX8_make_23 (by decide) ?_
    obtain ⟨rfl, rfl⟩ := sp_2 hf
    exact w_iret X hr hlk hP hS dX8_make_25
  · replace hf := (if_neg c5).symm.trans hf
    refine lv_aload_n hx hb dX8_make_12 rfl (lv_at hl 0 rfl) ?_
    refine gC_MadeCalls_memory X hP fl_X8_42 dX8_make_13 ?_
    refine lv_iload_n hx hb dX8_make_16 rfl (lv_at hl 1 rfl) ?_
    obtain ⟨v8, st6, hr7, hf⟩ := bd_2 hf
    refine w_V1 X (TX3_hasRoutine l hr7) hP hS rfl KX3_hasRoutine ml_X8_81 ⟨rfl, rfl⟩ ⟨by decide, by decide⟩ (x_recv (E := fun c i => (ECf cyI cyF cyM mo la) (st2.1 c i) st2.2 c i) (c0 := 4) (i0 := 0) X.2.2.1 hP rfl (ci := 4) rfl rfl) rfl hl.1 (Nat.le_of_ble_eq_true rfl) dX8_make_17 (fun H locs hP hS => ?_)
    refine lv_if_ne (tgt := 26) hx hb dX8_make_20 (by decide) (fun c9 => ?_) (fun c9 => ?_)
    · replace hf := (if_neg c9).symm.trans hf
      refine lv_aload_n hx hb dX8_make_26 rfl (lv_at hl 0 rfl) ?_
      refine gC_MadeCalls_shelf X hP fl_X8_33 dX8_make_27 ?_
      obtain ⟨v12, st10, hr11, hf⟩ := bd_2 hf
      refine w_V1 X (TX7_draft l hr11) hP hS rfl KX7_draft ml_X8_84 ⟨rfl, rfl⟩ ⟨by decide, by decide⟩ (x_recv (E := fun c i => (ECf cyI cyF cyM mo la) (st6.1 c i) st6.2 c i) (c0 := 7) (i0 := 0) X.2.2.1 hP rfl (ci := 7) rfl rfl) rfl hl.1 (Nat.le_of_ble_eq_true rfl) dX8_make_30 (fun H locs hP hS => ?_)
      obtain ⟨hz13, hf⟩ := ck_of hf
      refine w_top (mrf_p hz13) ?_
      refine lv_astore_n (lv' := [(2, .ref (la 3 (min (v12 - 1) mo))), (0, .ref (la 8 0)), (1, .int a1)]) hx hb dX8_make_33 rfl hl (by decide) rfl (fun ls hl => ?_)
      refine lv_aload_n hx hb dX8_make_34 rfl (lv_at hl 1 rfl) ?_
      refine lv_aload_n hx hb dX8_make_35 rfl (lv_at hl 0 rfl) ?_
      refine lv_aload_n hx hb dX8_make_36 rfl (lv_at hl 1 rfl) ?_
      refine gC_MadeCalls_memory X hP fl_X8_42 dX8_make_37 ?_
      refine lv_iload_n hx hb dX8_make_40 rfl (lv_at hl 2 rfl) ?_
      obtain ⟨v16, st14, hr15, hf⟩ := bd_2 hf
      refine w_V1 X (TX2_readAhead l (VC_m mo _) hr15) hP hS rfl KX2_readAhead ml_X8_88 ⟨rfl, rfl⟩ ⟨by decide, by decide⟩ (x_recv (E := fun c i => (ECf cyI cyF cyM mo la) (st10.1 c i) st10.2 c i) (c0 := 3) (i0 := (min (v12 - 1) mo)) X.2.2.1 hP (VC_m mo _) (ci := 3) rfl rfl) rfl hl.1 (Nat.le_of_ble_eq_true rfl) dX8_make_41 (fun H locs hP hS => ?_)
      refine pC_MadeCalls_unmakable X hP hS fl_X8_55 dX8_make_44 (fun H locs hP hS => ?_)
      obtain ⟨st17, hP, hf⟩ := nm_gen (P := fun z => HW D (VC mo) la (ECf cyI cyF cyM mo la) z H) hP hf
      refine lv_aload_n hx hb dX8_make_47 rfl (lv_at hl 1 rfl) ?_
      refine gC_MadeCalls_unmakable X hP fl_X8_55 dX8_make_48 ?_
      refine lv_iconst (v := -1) hx hb dX8_make_51 (by decide) ?_
      refine lv_icmp_eq (tgt := 58) hx hb dX8_make_52 (by decide) (fun c18 => ?_) (fun c18 => ?_)
      · replace hf := (if_pos c18).symm.trans hf
        refine lv_aload_n hx hb dX8_make_58 rfl (lv_at hl 1 rfl) ?_
        refine gC_MadeCalls_shelf X hP fl_X8_33 dX8_make_59 ?_
        refine lv_iload_n hx hb dX8_make_62 rfl (lv_at hl 2 rfl) ?_
        obtain ⟨v21, st19, hr20, hf⟩ := bd_2 hf
        refine w_V1 X (TX7_find l hr20) hP hS rfl KX7_find ml_X8_94 ⟨rfl, rfl⟩ ⟨by decide, by decide⟩ (x_recv (E := fun c i => (ECf cyI cyF cyM mo la) (st17.1 c i) st17.2 c i) (c0 := 7) (i0 := 0) X.2.2.1 hP rfl (ci := 7) rfl rfl) rfl hl.1 (Nat.le_of_ble_eq_true rfl) dX8_make_63 (fun H locs hP hS => ?_)
        refine w_ifnull hx hb dX8_make_66 (tgt := 72) (by decide) (fun c22 => ?_) (fun c22 => ?_)
        · replace hf := (if_pos c22).symm.trans hf
          refine lv_aload_n hx hb dX8_make_72 rfl (lv_at hl 1 rfl) ?_
          refine gC_MadeCalls_shelf X hP fl_X8_33 dX8_make_73 ?_
          refine gC_Shelf_most X hP fl_X8_98 dX8_make_76 ?_
          refine lv_if_ne (tgt := 85) hx hb dX8_make_79 (by decide) (fun c23 => ?_) (fun c23 => ?_)
          · replace hf := (if_neg c23).symm.trans hf
            refine lv_aload_n hx hb dX8_make_85 rfl (lv_at hl 1 rfl) ?_
            refine gC_MadeCalls_shelf X hP fl_X8_33 dX8_make_86 ?_
            obtain ⟨st24, hr25, hf⟩ := bd_of hf
            refine w_V0 X (TX7_keepDraft l hr25) hP hS rfl KX7_keepDraft ml_X8_101 ⟨rfl, rfl⟩ ⟨by decide, by decide⟩ (x_recv (E := fun c i => (ECf cyI cyF cyM mo la) (st19.1 c i) st19.2 c i) (c0 := 7) (i0 := 0) X.2.2.1 hP rfl (ci := 7) rfl rfl) rfl hl.1 (Nat.le_of_ble_eq_true rfl) dX8_make_89 (fun H locs hP hS => ?_)
            refine lv_aload_n hx hb dX8_make_92 rfl (lv_at hl 0 rfl) ?_
            refine gC_Made_size X hP (VC_m mo _) fl_X8_104 dX8_make_93 ?_
            obtain ⟨rfl, rfl⟩ := sp_2 hf
            exact w_iret X hr hlk hP hS dX8_make_96
          · replace hf := (if_pos c23).symm.trans hf
            refine lv_bipush (v := -3) hx hb dX8_make_82 (by decide) ?_
            obtain ⟨rfl, rfl⟩ := sp_2 hf
            exact w_iret X hr hlk hP hS dX8_make_84
        · replace hf := (if_neg c22).symm.trans hf
          refine lv_bipush (v := -4) hx hb dX8_make_69 (by decide) ?_
          obtain ⟨rfl, rfl⟩ := sp_2 hf
          exact w_iret X hr hlk hP hS dX8_make_71
      · replace hf := (if_neg c18).symm.trans hf
        refine lv_bipush (v := -2) hx hb dX8_make_55 (by decide) ?_
        obtain ⟨rfl, rfl⟩ := sp_2 hf
        exact w_iret X hr hlk hP hS dX8_make_57
    · replace hf := (if_pos c9).symm.trans hf
      refine lv_bipush (v := -2) hx hb dX8_make_23 (by decide) ?_
      obtain ⟨rfl, rfl⟩ := sp_2 hf
      exact w_iret X hr hlk hP hS dX8_make_25
theorem KX8_make : xKv yX8_make cX8_make 3 (some .int) RX8 1 := ⟨cd_X8_make, im_X8_make, se_X8_make, in_X8, by decide +kernel⟩
abbrev rm_X8_place : Room := { frames := 0, cells := 0, slots := 0, locals := 0 }
def fX8_place (N mo : Nat) (st : xSt) : Option (Int32 × xSt) := some ((st.1 8 0 6), st)
set_option maxHeartbeats 4000000 in
set_option maxRecDepth 100000 in
theorem TX8_place (l : Launch) {D : va_G} {la : Nat → Nat → Nat} {cyI cyF cyM : ClassId} {t0 mo N : Nat} {st : xSt} {r : Int32} {st' : xSt} (hf : fX8_place N mo st = some (r, st')) : MetC D cyI cyF cyM mo la t0 l yX8_place (Cond.code yX8_place cX8_place 1 (some .int) :: xALL) rm_X8_place [.ref (la 8 0)] (some (.int r)) st st' := by
  refine MetW.intro (own := RX8) (by decide) (Nat.le_of_ble_eq_true rfl) rfl ?_
  intro p e s m below meth c X hr hlk hP ls hl
  have hx := X.1.1
  have hb := X.1.2.1
  have hS : va_S (xA (VC mo) la) s.heap s.heap [] := va_S.rf
  unfold fX8_place at hf
  replace hl : lv_has ls 1 [(0, .ref (la 8 0))] := hl
  refine lv_aload_n hx hb dX8_place_0 rfl (lv_at hl 0 rfl) ?_
  refine gC_MadeCalls_unmakable X hP fl_X8_55 dX8_place_1 ?_
  obtain ⟨rfl, rfl⟩ := sp_2 hf
  exact w_iret X hr hlk hP hS dX8_place_4
theorem KX8_place : xKv yX8_place cX8_place 1 (some .int) RX8 0 := ⟨cd_X8_place, im_X8_place, se_X8_place, in_X8, by decide +kernel⟩
abbrev rm_X8_argument : Room := { frames := 0, cells := 0, slots := 0, locals := 0 }
def fX8_argument (N mo : Nat) (a1 : Int32) (a2 : Int32) (st : xSt) : Option (Int32 × xSt) := if a1 < (0 : Int32) then some ((-2 : Int32), st) else if a1 < (4 : Int32) then if a1 < 0 ∨ 4 ≤ (a1).toNatClampNeg then none else nm (pI st 20 2 (a1).toNatClampNeg a2) (fun st4 => some ((1 : Int32), st4)) else some ((-2 : Int32), st)
set_option maxHeartbeats 4000000 in
set_option maxRecDepth 100000 in
theorem TX8_argument (l : Launch) {D : va_G} {la : Nat → Nat → Nat} {cyI cyF cyM : ClassId} {t0 mo N : Nat} {a1 : Int32} {a2 : Int32} {st : xSt} {r : Int32} {st' : xSt} (hf : fX8_argument N mo a1 a2 st = some (r, st')) : MetC D cyI cyF cyM mo la t0 l yX8_argument (Cond.code yX8_argument cX8_argument 3 (some .int) :: xALL) rm_X8_argument [.ref (la 8 0), .int a1, .int a2] (some (.int r)) st st' := by
  refine MetW.intro (own := RX8) (by decide) (Nat.le_of_ble_eq_true rfl) rfl ?_
  intro p e s m below meth c X hr hlk hP ls hl
  have hx := X.1.1
  have hb := X.1.2.1
  have hS : va_S (xA (VC mo) la) s.heap s.heap [] := va_S.rf
  unfold fX8_argument at hf
  replace hl : lv_has ls 3 [(0, .ref (la 8 0)), (1, .int a1), (2, .int a2)] := hl
  refine lv_iload_n hx hb dX8_argument_0 rfl (lv_at hl 1 rfl) ?_
  refine lv_if_lt (tgt := 9) hx hb dX8_argument_1 (by decide) (fun c1 => ?_) (fun c1 => ?_)
  · replace hf := (if_pos c1).symm.trans hf
    refine lv_bipush (v := -2) hx hb dX8_argument_9 (by decide) ?_
    obtain ⟨rfl, rfl⟩ := sp_2 hf
    exact w_iret X hr hlk hP hS dX8_argument_11
  · replace hf := (if_neg c1).symm.trans hf
    refine lv_iload_n hx hb dX8_argument_4 rfl (lv_at hl 1 rfl) ?_
    refine lv_iconst (v := 4) hx hb dX8_argument_5 (by decide) ?_
    refine lv_icmp_lt (tgt := 12) hx hb dX8_argument_6 (by decide) (fun c2 => ?_) (fun c2 => ?_)
    · replace hf := (if_pos c2).symm.trans hf
      refine lv_aload_n hx hb dX8_argument_12 rfl (lv_at hl 0 rfl) ?_
      refine gC_MadeCalls_arguments X hP fl_X8_16 dX8_argument_13 ?_
      refine lv_iload_n hx hb dX8_argument_16 rfl (lv_at hl 1 rfl) ?_
      refine lv_iload_n hx hb dX8_argument_17 rfl (lv_at hl 2 rfl) ?_
      obtain ⟨hn3, hf⟩ := ck_of hf
      refine w_iast X hP hS (c0 := 20) (i0 := 2) (show 2 < 7 by decide) (n := 4) (fun _ => rfl) hn3 dX8_argument_18 (fun H locs hP hS => ?_)
      obtain ⟨st4, hP, hf⟩ := nm_gen (P := fun z => HW D (VC mo) la (ECf cyI cyF cyM mo la) z H) hP hf
      refine lv_iconst (v := 1) hx hb dX8_argument_19 (by decide) ?_
      obtain ⟨rfl, rfl⟩ := sp_2 hf
      exact w_iret X hr hlk hP hS dX8_argument_20
    · replace hf := (if_neg c2).symm.trans hf
      refine lv_bipush (v := -2) hx hb dX8_argument_9 (by decide) ?_
      obtain ⟨rfl, rfl⟩ := sp_2 hf
      exact w_iret X hr hlk hP hS dX8_argument_11
theorem KX8_argument : xKv yX8_argument cX8_argument 3 (some .int) RX8 2 := ⟨cd_X8_argument, im_X8_argument, se_X8_argument, in_X8, by decide +kernel⟩
abbrev rm_X8_refusalOf : Room := { frames := 1, cells := 0, slots := 0, locals := 20 }
def fX8_refusalOf (N mo : Nat) (a1 : Int32) (a2 : Int32) (st : xSt) : Option (Int32 × xSt) := if a2 < (0 : Int32) then some ((-2 : Int32), st) else if (4 : Int32) < a2 then some ((-2 : Int32), st) else bd (fX8_isAddress N mo a1 st) (fun v5 st3 => if v5 = (0 : Int32) then some ((-2 : Int32), st3) else if (st3.1 20 0 6) < (500 : Int32) then some ((0 : Int32), st3) else some ((-3 : Int32), st3))
set_option maxHeartbeats 4000000 in
set_option maxRecDepth 100000 in
theorem TX8_refusalOf (l : Launch) {D : va_G} {la : Nat → Nat → Nat} {cyI cyF cyM : ClassId} {t0 mo N : Nat} {a1 : Int32} {a2 : Int32} {st : xSt} {r : Int32} {st' : xSt} (hf : fX8_refusalOf N mo a1 a2 st = some (r, st')) : MetC D cyI cyF cyM mo la t0 l yX8_refusalOf (Cond.code yX8_refusalOf cX8_refusalOf 3 (some .int) :: xALL) rm_X8_refusalOf [.ref (la 8 0), .int a1, .int a2] (some (.int r)) st st' := by
  refine MetW.intro (own := RX8) (by decide) (Nat.le_of_ble_eq_true rfl) rfl ?_
  intro p e s m below meth c X hr hlk hP ls hl
  have hx := X.1.1
  have hb := X.1.2.1
  have hS : va_S (xA (VC mo) la) s.heap s.heap [] := va_S.rf
  unfold fX8_refusalOf at hf
  replace hl : lv_has ls 3 [(0, .ref (la 8 0)), (1, .int a1), (2, .int a2)] := hl
  refine lv_iload_n hx hb dX8_refusalOf_0 rfl (lv_at hl 2 rfl) ?_
  refine lv_if_lt (tgt := 16) hx hb dX8_refusalOf_1 (by decide) (fun c1 => ?_) (fun c1 => ?_)
  · replace hf := (if_pos c1).symm.trans hf
    refine lv_bipush (v := -2) hx hb dX8_refusalOf_16 (by decide) ?_
    obtain ⟨rfl, rfl⟩ := sp_2 hf
    exact w_iret X hr hlk hP hS dX8_refusalOf_18
  · replace hf := (if_neg c1).symm.trans hf
    refine lv_iload_n hx hb dX8_refusalOf_4 rfl (lv_at hl 2 rfl) ?_
    refine lv_iconst (v := 4) hx hb dX8_refusalOf_5 (by decide) ?_
    refine lv_icmp_gt (tgt := 16) hx hb dX8_refusalOf_6 (by decide) (fun c2 => ?_) (fun c2 => ?_)
    · replace hf := (if_pos c2).symm.trans hf
      refine lv_bipush (v := -2) hx hb dX8_refusalOf_16 (by decide) ?_
      obtain ⟨rfl, rfl⟩ := sp_2 hf
      exact w_iret X hr hlk hP hS dX8_refusalOf_18
    · replace hf := (if_neg c2).symm.trans hf
      refine lv_iload_n hx hb dX8_refusalOf_9 rfl (lv_at hl 1 rfl) ?_
      obtain ⟨v5, st3, hr4, hf⟩ := bd_2 hf
      refine w_S1 X (TX8_isAddress l hr4) hP hS rfl KX8_isAddress ml_X8_78 ⟨rfl, rfl⟩ ⟨by decide, by decide⟩ rfl hl.1 (Nat.le_of_ble_eq_true rfl) dX8_refusalOf_10 (fun H locs hP hS => ?_)
      refine lv_if_ne (tgt := 19) hx hb dX8_refusalOf_13 (by decide) (fun c6 => ?_) (fun c6 => ?_)
      · replace hf := (if_neg c6).symm.trans hf
        refine lv_aload_n hx hb dX8_refusalOf_19 rfl (lv_at hl 0 rfl) ?_
        refine gC_MadeCalls_counts X hP fl_X8_9 dX8_refusalOf_20 ?_
        refine lv_bipush (v := 6) hx hb dX8_refusalOf_23 (by decide) ?_
        refine w_ialdK X hP (c0 := 20) (i0 := 0) (show 0 < 7 by decide) (n := 8) (fun _ => rfl) 6 (by decide) (show ¬ ((6 : Int32) < 0 ∨ 8 ≤ ((6 : Int32)).toNatClampNeg) by decide) dX8_refusalOf_25 ?_
        refine lv_sipush (v := 500) hx hb dX8_refusalOf_26 (by decide) ?_
        refine lv_icmp_lt (tgt := 37) hx hb dX8_refusalOf_29 (by decide) (fun c7 => ?_) (fun c7 => ?_)
        · replace hf := (if_pos c7).symm.trans hf
          refine lv_iconst (v := 0) hx hb dX8_refusalOf_37 (by decide) ?_
          obtain ⟨rfl, rfl⟩ := sp_2 hf
          exact w_iret X hr hlk hP hS dX8_refusalOf_38
        · replace hf := (if_neg c7).symm.trans hf
          refine lv_bipush (v := -3) hx hb dX8_refusalOf_32 (by decide) ?_
          refine lv_goto (tgt := 38) hx hb dX8_refusalOf_34 (by decide) ?_
          obtain ⟨rfl, rfl⟩ := sp_2 hf
          exact w_iret X hr hlk hP hS dX8_refusalOf_38
      · replace hf := (if_pos c6).symm.trans hf
        refine lv_bipush (v := -2) hx hb dX8_refusalOf_16 (by decide) ?_
        obtain ⟨rfl, rfl⟩ := sp_2 hf
        exact w_iret X hr hlk hP hS dX8_refusalOf_18
theorem KX8_refusalOf : xKv yX8_refusalOf cX8_refusalOf 3 (some .int) RX8 2 := ⟨cd_X8_refusalOf, im_X8_refusalOf, se_X8_refusalOf, in_X8, by decide +kernel⟩
abbrev rm_X4_clear : Room := { frames := 0, cells := 0, slots := 0, locals := 0 }
def fX4_clear (N mo : Nat) (st : xSt) : Option xSt := nm (pI st 5 0 0 (0 : Int32)) (fun st1 => nm (pI st1 5 0 1 (0 : Int32)) (fun st2 => nm (pI st2 5 0 2 (-1 : Int32)) (fun st3 => nm (pI st3 5 0 3 (-1 : Int32)) (fun st4 => nm (pI st4 5 0 4 (0 : Int32)) (fun st5 => some st5)))))
set_option maxHeartbeats 4000000 in
set_option maxRecDepth 100000 in
theorem TX4_clear (l : Launch) {D : va_G} {la : Nat → Nat → Nat} {cyI cyF cyM : ClassId} {t0 mo N : Nat} {st : xSt} {st' : xSt} (hf : fX4_clear N mo st = some st') : MetC D cyI cyF cyM mo la t0 l yX4_clear (Cond.code yX4_clear cX4_clear 1 none :: xALL) rm_X4_clear [.ref (la 5 0)] none st st' := by
  refine MetW.intro (own := RX4) (by decide) (Nat.le_of_ble_eq_true rfl) rfl ?_
  intro p e s m below meth c X hr hlk hP ls hl
  have hx := X.1.1
  have hb := X.1.2.1
  have hS : va_S (xA (VC mo) la) s.heap s.heap [] := va_S.rf
  unfold fX4_clear at hf
  replace hl : lv_has ls 1 [(0, .ref (la 5 0))] := hl
  refine lv_aload_n hx hb dX4_clear_0 rfl (lv_at hl 0 rfl) ?_
  refine lv_iconst (v := 0) hx hb dX4_clear_1 (by decide) ?_
  refine pC_Outcome_value X hP hS fl_X4_18 dX4_clear_2 (fun H locs hP hS => ?_)
  obtain ⟨st1, hP, hf⟩ := nm_gen (P := fun z => HW D (VC mo) la (ECf cyI cyF cyM mo la) z H) hP hf
  refine lv_aload_n hx hb dX4_clear_5 rfl (lv_at hl 0 rfl) ?_
  refine lv_iconst (v := 0) hx hb dX4_clear_6 (by decide) ?_
  refine pC_Outcome_fault X hP hS fl_X4_21 dX4_clear_7 (fun H locs hP hS => ?_)
  obtain ⟨st2, hP, hf⟩ := nm_gen (P := fun z => HW D (VC mo) la (ECf cyI cyF cyM mo la) z H) hP hf
  refine lv_aload_n hx hb dX4_clear_10 rfl (lv_at hl 0 rfl) ?_
  refine lv_iconst (v := -1) hx hb dX4_clear_11 (by decide) ?_
  refine pC_Outcome_address X hP hS fl_X4_9 dX4_clear_12 (fun H locs hP hS => ?_)
  obtain ⟨st3, hP, hf⟩ := nm_gen (P := fun z => HW D (VC mo) la (ECf cyI cyF cyM mo la) z H) hP hf
  refine lv_aload_n hx hb dX4_clear_15 rfl (lv_at hl 0 rfl) ?_
  refine lv_iconst (v := -1) hx hb dX4_clear_16 (by decide) ?_
  refine pC_Outcome_offset X hP hS fl_X4_15 dX4_clear_17 (fun H locs hP hS => ?_)
  obtain ⟨st4, hP, hf⟩ := nm_gen (P := fun z => HW D (VC mo) la (ECf cyI cyF cyM mo la) z H) hP hf
  refine lv_aload_n hx hb dX4_clear_20 rfl (lv_at hl 0 rfl) ?_
  refine lv_iconst (v := 0) hx hb dX4_clear_21 (by decide) ?_
  refine pC_Outcome_thrown X hP hS fl_X4_24 dX4_clear_22 (fun H locs hP hS => ?_)
  obtain ⟨st5, hP, hf⟩ := nm_gen (P := fun z => HW D (VC mo) la (ECf cyI cyF cyM mo la) z H) hP hf
  obtain rfl := Option.some.inj hf
  exact w_vret X hr hlk hP hS dX4_clear_25
theorem KX4_clear : xKv yX4_clear cX4_clear 1 none RX4 0 := ⟨cd_X4_clear, im_X4_clear, se_X4_clear, in_X4, by decide +kernel⟩
abbrev rm_X6_fail : Room := { frames := 0, cells := 0, slots := 0, locals := 0 }
def fX6_fail (N mo : Nat) (a1 : Int32) (st : xSt) : Option xSt := nm (pI st 5 0 1 a1) (fun st1 => nm (pI st1 5 0 2 (st1.1 6 0 14)) (fun st2 => nm (pI st2 5 0 3 (st2.1 6 0 15)) (fun st3 => nm (pI st3 20 0 6 ((st3.1 20 0 6) + (1 : Int32))) (fun st4 => nm (pI st4 6 0 10 (0 : Int32)) (fun st5 => some st5)))))
set_option maxHeartbeats 4000000 in
set_option maxRecDepth 100000 in
theorem TX6_fail (l : Launch) {D : va_G} {la : Nat → Nat → Nat} {cyI cyF cyM : ClassId} {t0 mo N : Nat} {a1 : Int32} {st : xSt} {st' : xSt} (hf : fX6_fail N mo a1 st = some st') : MetC D cyI cyF cyM mo la t0 l yX6_fail (Cond.code yX6_fail cX6_fail 2 none :: xALL) rm_X6_fail [.ref (la 6 0), .int a1] none st st' := by
  refine MetW.intro (own := RX6) (by decide) (Nat.le_of_ble_eq_true rfl) rfl ?_
  intro p e s m below meth c X hr hlk hP ls hl
  have hx := X.1.1
  have hb := X.1.2.1
  have hS : va_S (xA (VC mo) la) s.heap s.heap [] := va_S.rf
  unfold fX6_fail at hf
  replace hl : lv_has ls 2 [(0, .ref (la 6 0)), (1, .int a1)] := hl
  refine lv_aload_n hx hb dX6_fail_0 rfl (lv_at hl 0 rfl) ?_
  refine gC_Runner_outcome X hP fl_X6_12 dX6_fail_1 ?_
  refine lv_iload_n hx hb dX6_fail_4 rfl (lv_at hl 1 rfl) ?_
  refine pC_Outcome_fault X hP hS fl_X6_86 dX6_fail_5 (fun H locs hP hS => ?_)
  obtain ⟨st1, hP, hf⟩ := nm_gen (P := fun z => HW D (VC mo) la (ECf cyI cyF cyM mo la) z H) hP hf
  refine lv_aload_n hx hb dX6_fail_8 rfl (lv_at hl 0 rfl) ?_
  refine gC_Runner_outcome X hP fl_X6_12 dX6_fail_9 ?_
  refine lv_aload_n hx hb dX6_fail_12 rfl (lv_at hl 0 rfl) ?_
  refine gC_Runner_atAddress X hP fl_X6_68 dX6_fail_13 ?_
  refine pC_Outcome_address X hP hS fl_X6_226 dX6_fail_16 (fun H locs hP hS => ?_)
  obtain ⟨st2, hP, hf⟩ := nm_gen (P := fun z => HW D (VC mo) la (ECf cyI cyF cyM mo la) z H) hP hf
  refine lv_aload_n hx hb dX6_fail_19 rfl (lv_at hl 0 rfl) ?_
  refine gC_Runner_outcome X hP fl_X6_12 dX6_fail_20 ?_
  refine lv_aload_n hx hb dX6_fail_23 rfl (lv_at hl 0 rfl) ?_
  refine gC_Runner_atOffset X hP fl_X6_71 dX6_fail_24 ?_
  refine pC_Outcome_offset X hP hS fl_X6_227 dX6_fail_27 (fun H locs hP hS => ?_)
  obtain ⟨st3, hP, hf⟩ := nm_gen (P := fun z => HW D (VC mo) la (ECf cyI cyF cyM mo la) z H) hP hf
  refine lv_aload_n hx hb dX6_fail_30 rfl (lv_at hl 0 rfl) ?_
  refine gC_Runner_counts X hP fl_X6_50 dX6_fail_31 ?_
  refine lv_bipush (v := 6) hx hb dX6_fail_34 (by decide) ?_
  refine lv_dup2_11 hx hb dX6_fail_36 rfl rfl ?_
  refine w_ialdK X hP (c0 := 20) (i0 := 0) (show 0 < 7 by decide) (n := 8) (fun _ => rfl) 6 (by decide) (show ¬ ((6 : Int32) < 0 ∨ 8 ≤ ((6 : Int32)).toNatClampNeg) by decide) dX6_fail_37 ?_
  refine lv_iconst (v := 1) hx hb dX6_fail_38 (by decide) ?_
  refine lv_iadd hx hb dX6_fail_39 ?_
  refine w_iastK X hP hS (c0 := 20) (i0 := 0) (show 0 < 7 by decide) (n := 8) (fun _ => rfl) 6 (by decide) (show ¬ ((6 : Int32) < 0 ∨ 8 ≤ ((6 : Int32)).toNatClampNeg) by decide) dX6_fail_40 (fun H locs hP hS => ?_)
  obtain ⟨st4, hP, hf⟩ := nm_gen (P := fun z => HW D (VC mo) la (ECf cyI cyF cyM mo la) z H) hP hf
  refine lv_aload_n hx hb dX6_fail_41 rfl (lv_at hl 0 rfl) ?_
  refine lv_iconst (v := 0) hx hb dX6_fail_42 (by decide) ?_
  refine pC_Runner_depth X hP hS fl_X6_61 dX6_fail_43 (fun H locs hP hS => ?_)
  obtain ⟨st5, hP, hf⟩ := nm_gen (P := fun z => HW D (VC mo) la (ECf cyI cyF cyM mo la) z H) hP hf
  obtain rfl := Option.some.inj hf
  exact w_vret X hr hlk hP hS dX6_fail_46
theorem KX6_fail : xKv yX6_fail cX6_fail 2 none RX6 1 := ⟨cd_X6_fail, im_X6_fail, se_X6_fail, in_X6, by decide +kernel⟩
abbrev rm_X6_spendStep : Room := { frames := 1, cells := 0, slots := 0, locals := 21 }
def fX6_spendStep (N mo : Nat) (st : xSt) : Option (Int32 × xSt) := if (st.1 6 0 11) < (400 : Int32) then nm (pI st 6 0 11 ((st.1 6 0 11) + (1 : Int32))) (fun st2 => nm (pI st2 20 0 2 ((st2.1 20 0 2) + (1 : Int32))) (fun st3 => some ((1 : Int32), st3))) else Option.bind (fX6_fail N mo (5 : Int32) st) (fun st4 => some ((0 : Int32), st4))
set_option maxHeartbeats 4000000 in
set_option maxRecDepth 100000 in
theorem TX6_spendStep (l : Launch) {D : va_G} {la : Nat → Nat → Nat} {cyI cyF cyM : ClassId} {t0 mo N : Nat} {st : xSt} {r : Int32} {st' : xSt} (hf : fX6_spendStep N mo st = some (r, st')) : MetC D cyI cyF cyM mo la t0 l yX6_spendStep (Cond.code yX6_spendStep cX6_spendStep 1 (some .boolean) :: xALL) rm_X6_spendStep [.ref (la 6 0)] (some (.int r)) st st' := by
  refine MetW.intro (own := RX6) (by decide) (Nat.le_of_ble_eq_true rfl) rfl ?_
  intro p e s m below meth c X hr hlk hP ls hl
  have hx := X.1.1
  have hb := X.1.2.1
  have hS : va_S (xA (VC mo) la) s.heap s.heap [] := va_S.rf
  unfold fX6_spendStep at hf
  replace hl : lv_has ls 1 [(0, .ref (la 6 0))] := hl
  refine lv_aload_n hx hb dX6_spendStep_0 rfl (lv_at hl 0 rfl) ?_
  refine gC_Runner_steps X hP fl_X6_65 dX6_spendStep_1 ?_
  refine lv_sipush (v := 400) hx hb dX6_spendStep_4 (by decide) ?_
  refine lv_icmp_lt (tgt := 17) hx hb dX6_spendStep_7 (by decide) (fun c1 => ?_) (fun c1 => ?_)
  · replace hf := (if_pos c1).symm.trans hf
    refine lv_aload_n hx hb dX6_spendStep_17 rfl (lv_at hl 0 rfl) ?_
    refine lv_dup hx hb dX6_spendStep_18 rfl ?_
    refine gC_Runner_steps X hP fl_X6_65 dX6_spendStep_19 ?_
    refine lv_iconst (v := 1) hx hb dX6_spendStep_22 (by decide) ?_
    refine lv_iadd hx hb dX6_spendStep_23 ?_
    refine pC_Runner_steps X hP hS fl_X6_65 dX6_spendStep_24 (fun H locs hP hS => ?_)
    obtain ⟨st2, hP, hf⟩ := nm_gen (P := fun z => HW D (VC mo) la (ECf cyI cyF cyM mo la) z H) hP hf
    refine lv_aload_n hx hb dX6_spendStep_27 rfl (lv_at hl 0 rfl) ?_
    refine gC_Runner_counts X hP fl_X6_50 dX6_spendStep_28 ?_
    refine lv_iconst (v := 2) hx hb dX6_spendStep_31 (by decide) ?_
    refine lv_dup2_11 hx hb dX6_spendStep_32 rfl rfl ?_
    refine w_ialdK X hP (c0 := 20) (i0 := 0) (show 0 < 7 by decide) (n := 8) (fun _ => rfl) 2 (by decide) (show ¬ ((2 : Int32) < 0 ∨ 8 ≤ ((2 : Int32)).toNatClampNeg) by decide) dX6_spendStep_33 ?_
    refine lv_iconst (v := 1) hx hb dX6_spendStep_34 (by decide) ?_
    refine lv_iadd hx hb dX6_spendStep_35 ?_
    refine w_iastK X hP hS (c0 := 20) (i0 := 0) (show 0 < 7 by decide) (n := 8) (fun _ => rfl) 2 (by decide) (show ¬ ((2 : Int32) < 0 ∨ 8 ≤ ((2 : Int32)).toNatClampNeg) by decide) dX6_spendStep_36 (fun H locs hP hS => ?_)
    obtain ⟨st3, hP, hf⟩ := nm_gen (P := fun z => HW D (VC mo) la (ECf cyI cyF cyM mo la) z H) hP hf
    refine lv_iconst (v := 1) hx hb dX6_spendStep_37 (by decide) ?_
    obtain ⟨rfl, rfl⟩ := sp_2 hf
    exact w_zret X hr hlk (by decide) hP hS dX6_spendStep_38
  · replace hf := (if_neg c1).symm.trans hf
    refine lv_aload_n hx hb dX6_spendStep_10 rfl (lv_at hl 0 rfl) ?_
    refine lv_iconst (v := 5) hx hb dX6_spendStep_11 (by decide) ?_
    obtain ⟨st4, hr5, hf⟩ := bd_of hf
    refine w_V0 X (TX6_fail l hr5) hP hS rfl KX6_fail ml_X6_97 ⟨rfl, rfl⟩ ⟨by decide, by decide⟩ (x_recv (E := fun c i => (ECf cyI cyF cyM mo la) (st.1 c i) st.2 c i) (c0 := 6) (i0 := 0) X.2.2.1 hP rfl (ci := 6) rfl rfl) rfl hl.1 (Nat.le_of_ble_eq_true rfl) dX6_spendStep_12 (fun H locs hP hS => ?_)
    refine lv_iconst (v := 0) hx hb dX6_spendStep_15 (by decide) ?_
    obtain ⟨rfl, rfl⟩ := sp_2 hf
    exact w_zret X hr hlk (by decide) hP hS dX6_spendStep_16
theorem KX6_spendStep : xKv yX6_spendStep cX6_spendStep 1 (some .boolean) RX6 0 := ⟨cd_X6_spendStep, im_X6_spendStep, se_X6_spendStep, in_X6, by decide +kernel⟩
abbrev rm_X6_sumOfHanded : Room := { frames := 0, cells := 0, slots := 0, locals := 0 }
def fX6_sumOfHanded_b4 (N mo : Nat) : Nat → Int32 → Int32 → Int32 → xSt → Option (Int32 × xSt)
  | 0, _, _, _, _ => none
  | n + 1, a1, a2, a3, st => if a1 ≤ a3 then some (a2, st) else if a3 < 0 ∨ 4 ≤ (a3).toNatClampNeg then none else nm (a2 + (st.1 20 5 (a3).toNatClampNeg)) (fun x3 => nm (a3 + (1 : Int32)) (fun x4 => fX6_sumOfHanded_b4 N mo n a1 x3 x4 st))
set_option maxHeartbeats 4000000 in
set_option maxRecDepth 100000 in
theorem BX6_sumOfHanded_4 {p : Program} {l : Launch} {e : Env} {s : State} {m : MethodId} {args : Array Value} {below : List Frame} {meth : Method} {c : Code} {D : va_G} {la : Nat → Nat → Nat} {cyI cyF cyM : ClassId} {t0 mo N : Nat} {r : Int32} {st' : xSt} (X : xCx D (VC mo) la cyI cyF cyM t0 p m c cX6_sumOfHanded 4 s args RX6) (hr : meth.sig.returnType = (some .int)) (hlk : meth.locks = false) : ∀ n : Nat, ∀ (a1 : Int32) (a2 : Int32) (a3 : Int32) (st : xSt) (H : Heap) (locs : List Loc) (ls : Array Slot), fX6_sumOfHanded_b4 N mo n a1 a2 a3 st = some (r, st') → HW D (VC mo) la (ECf cyI cyF cyM mo la) st H → va_S (xA (VC mo) la) s.heap H locs → lv_has ls 4 [(0, .ref (la 6 0)), (1, .int a1), (2, .int a2), (3, .int a3)] → W p l e rm_X6_sumOfHanded s m args below meth c H locs 0 0 (MQ below (xQc D (VC mo) la (ECf cyI cyF cyM mo la) (some (.int r)) st') args s 0 0 (xA (VC mo) la)) (F0 m 4 ls []) := by
  have hx := X.1.1
  have hb := X.1.2.1
  intro n
  induction n with
  | zero =>
    intro a1 a2 a3 st H locs ls hf hP hS hl
    rw [fX6_sumOfHanded_b4] at hf
    cases hf
  | succ n ih =>
    intro a1 a2 a3 st H locs ls hf hP hS hl
    rw [fX6_sumOfHanded_b4] at hf
    refine lv_iload_n hx hb dX6_sumOfHanded_4 rfl (lv_at hl 3 rfl) ?_
    refine lv_iload_n hx hb dX6_sumOfHanded_5 rfl (lv_at hl 1 rfl) ?_
    refine lv_icmp_ge (tgt := 24) hx hb dX6_sumOfHanded_6 (by decide) (fun c1 => ?_) (fun c1 => ?_)
    · replace hf := (if_pos c1).symm.trans hf
      refine lv_iload_n hx hb dX6_sumOfHanded_24 rfl (lv_at hl 2 rfl) ?_
      obtain ⟨rfl, rfl⟩ := sp_2 hf
      exact w_iret X hr hlk hP hS dX6_sumOfHanded_25
    · replace hf := (if_neg c1).symm.trans hf
      refine lv_iload_n hx hb dX6_sumOfHanded_9 rfl (lv_at hl 2 rfl) ?_
      refine lv_aload_n hx hb dX6_sumOfHanded_10 rfl (lv_at hl 0 rfl) ?_
      refine gC_Runner_handed X hP fl_X6_28 dX6_sumOfHanded_11 ?_
      refine lv_iload_n hx hb dX6_sumOfHanded_14 rfl (lv_at hl 3 rfl) ?_
      obtain ⟨hn2, hf⟩ := ck_of hf
      refine w_iald X hP (c0 := 20) (i0 := 5) (show 5 < 7 by decide) (n := 4) rfl hn2 dX6_sumOfHanded_15 ?_
      refine lv_iadd hx hb dX6_sumOfHanded_16 ?_
      refine lv_topi (fun x3 ex => ?_)
      replace hf := nm_of hf ex
      clear ex
      refine lv_istore_n (lv' := [(2, .int x3), (0, .ref (la 6 0)), (1, .int a1), (3, .int a3)]) hx hb dX6_sumOfHanded_17 rfl hl (by decide) rfl (fun ls hl => ?_)
      obtain ⟨x4, ex⟩ : ∃ y : Int32, y = (a3 + (1 : Int32)) := ⟨_, rfl⟩
      replace hf := nm_of hf ex
      refine lv_iinc (v := x4) (lv' := [(3, .int x4), (2, .int x3), (0, .ref (la 6 0)), (1, .int a1)]) hx hb dX6_sumOfHanded_18 hl (k := 3) rfl (by rw [ex]; rfl) (by decide) rfl (fun ls hl => ?_)
      clear ex
      refine lv_goto (tgt := 4) hx hb dX6_sumOfHanded_21 (by decide) ?_
      exact ih _ _ _ _ _ _ _  hf hP hS (lv_sub hl [2, 3, 1, 0] rfl)
def fX6_sumOfHanded (N mo : Nat) (a1 : Int32) (st : xSt) : Option (Int32 × xSt) := fX6_sumOfHanded_b4 N mo N a1 (0 : Int32) (0 : Int32) st
set_option maxHeartbeats 4000000 in
set_option maxRecDepth 100000 in
theorem TX6_sumOfHanded (l : Launch) {D : va_G} {la : Nat → Nat → Nat} {cyI cyF cyM : ClassId} {t0 mo N : Nat} {a1 : Int32} {st : xSt} {r : Int32} {st' : xSt} (hf : fX6_sumOfHanded N mo a1 st = some (r, st')) : MetC D cyI cyF cyM mo la t0 l yX6_sumOfHanded (Cond.code yX6_sumOfHanded cX6_sumOfHanded 4 (some .int) :: xALL) rm_X6_sumOfHanded [.ref (la 6 0), .int a1] (some (.int r)) st st' := by
  refine MetW.intro (own := RX6) (by decide) (Nat.le_of_ble_eq_true rfl) rfl ?_
  intro p e s m below meth c X hr hlk hP ls hl
  have hx := X.1.1
  have hb := X.1.2.1
  have hS : va_S (xA (VC mo) la) s.heap s.heap [] := va_S.rf
  unfold fX6_sumOfHanded at hf
  replace hl : lv_has ls 4 [(0, .ref (la 6 0)), (1, .int a1)] := hl
  refine lv_iconst (v := 0) hx hb dX6_sumOfHanded_0 (by decide) ?_
  refine lv_istore_n (lv' := [(2, .int (0 : Int32)), (0, .ref (la 6 0)), (1, .int a1)]) hx hb dX6_sumOfHanded_1 rfl hl (by decide) rfl (fun ls hl => ?_)
  refine lv_iconst (v := 0) hx hb dX6_sumOfHanded_2 (by decide) ?_
  refine lv_istore_n (lv' := [(3, .int (0 : Int32)), (2, .int (0 : Int32)), (0, .ref (la 6 0)), (1, .int a1)]) hx hb dX6_sumOfHanded_3 rfl hl (by decide) rfl (fun ls hl => ?_)
  exact BX6_sumOfHanded_4 X hr hlk N _ _ _ _ _ _ _  hf hP hS (lv_sub hl [2, 3, 1, 0] rfl)
theorem KX6_sumOfHanded : xKv yX6_sumOfHanded cX6_sumOfHanded 4 (some .int) RX6 1 := ⟨cd_X6_sumOfHanded, im_X6_sumOfHanded, se_X6_sumOfHanded, in_X6, by decide +kernel⟩
abbrev rm_X6_greatestOfHanded : Room := { frames := 1, cells := 0, slots := 0, locals := 21 }
def fX6_greatestOfHanded_b17 (N mo : Nat) : Nat → Int32 → Int32 → Int32 → xSt → Option (Int32 × xSt)
  | 0, _, _, _, _ => none
  | n + 1, a1, a2, a3, st => if a1 ≤ a3 then some (a2, st) else if a3 < 0 ∨ 4 ≤ (a3).toNatClampNeg then none else nm (if a2 < (st.1 20 5 (a3).toNatClampNeg) then (st.1 20 5 (a3).toNatClampNeg) else a2) (fun x4 => nm (a3 + (1 : Int32)) (fun x5 => fX6_greatestOfHanded_b17 N mo n a1 x4 x5 st))
set_option maxHeartbeats 4000000 in
set_option maxRecDepth 100000 in
theorem BX6_greatestOfHanded_17 {p : Program} {l : Launch} {e : Env} {s : State} {m : MethodId} {args : Array Value} {below : List Frame} {meth : Method} {c : Code} {D : va_G} {la : Nat → Nat → Nat} {cyI cyF cyM : ClassId} {t0 mo N : Nat} {r : Int32} {st' : xSt} (X : xCx D (VC mo) la cyI cyF cyM t0 p m c cX6_greatestOfHanded 4 s args RX6) (hr : meth.sig.returnType = (some .int)) (hlk : meth.locks = false) : ∀ n : Nat, ∀ (a1 : Int32) (a2 : Int32) (a3 : Int32) (st : xSt) (H : Heap) (locs : List Loc) (ls : Array Slot), fX6_greatestOfHanded_b17 N mo n a1 a2 a3 st = some (r, st') → HW D (VC mo) la (ECf cyI cyF cyM mo la) st H → va_S (xA (VC mo) la) s.heap H locs → lv_has ls 4 [(0, .ref (la 6 0)), (1, .int a1), (2, .int a2), (3, .int a3)] → W p l e rm_X6_greatestOfHanded s m args below meth c H locs 0 0 (MQ below (xQc D (VC mo) la (ECf cyI cyF cyM mo la) (some (.int r)) st') args s 0 0 (xA (VC mo) la)) (F0 m 17 ls []) := by
  have hx := X.1.1
  have hb := X.1.2.1
  intro n
  induction n with
  | zero =>
    intro a1 a2 a3 st H locs ls hf hP hS hl
    rw [fX6_greatestOfHanded_b17] at hf
    cases hf
  | succ n ih =>
    intro a1 a2 a3 st H locs ls hf hP hS hl
    rw [fX6_greatestOfHanded_b17] at hf
    refine lv_iload_n hx hb dX6_greatestOfHanded_17 rfl (lv_at hl 3 rfl) ?_
    refine lv_iload_n hx hb dX6_greatestOfHanded_18 rfl (lv_at hl 1 rfl) ?_
    refine lv_icmp_ge (tgt := 39) hx hb dX6_greatestOfHanded_19 (by decide) (fun c2 => ?_) (fun c2 => ?_)
    · replace hf := (if_pos c2).symm.trans hf
      refine lv_iload_n hx hb dX6_greatestOfHanded_39 rfl (lv_at hl 2 rfl) ?_
      obtain ⟨rfl, rfl⟩ := sp_2 hf
      exact w_iret X hr hlk hP hS dX6_greatestOfHanded_40
    · replace hf := (if_neg c2).symm.trans hf
      refine lv_iload_n hx hb dX6_greatestOfHanded_22 rfl (lv_at hl 2 rfl) ?_
      refine lv_aload_n hx hb dX6_greatestOfHanded_23 rfl (lv_at hl 0 rfl) ?_
      refine gC_Runner_handed X hP fl_X6_28 dX6_greatestOfHanded_24 ?_
      refine lv_iload_n hx hb dX6_greatestOfHanded_27 rfl (lv_at hl 3 rfl) ?_
      obtain ⟨hn3, hf⟩ := ck_of hf
      refine w_iald X hP (c0 := 20) (i0 := 5) (show 5 < 7 by decide) (n := 4) rfl hn3 dX6_greatestOfHanded_28 ?_
      refine w_max X ml_X6_140 hl.1 (by decide) (by decide) (Nat.le_of_ble_eq_true rfl) dX6_greatestOfHanded_29 ?_
      refine lv_topi (fun x4 ex => ?_)
      replace hf := nm_of hf ex
      clear ex
      refine lv_istore_n (lv' := [(2, .int x4), (0, .ref (la 6 0)), (1, .int a1), (3, .int a3)]) hx hb dX6_greatestOfHanded_32 rfl hl (by decide) rfl (fun ls hl => ?_)
      obtain ⟨x5, ex⟩ : ∃ y : Int32, y = (a3 + (1 : Int32)) := ⟨_, rfl⟩
      replace hf := nm_of hf ex
      refine lv_iinc (v := x5) (lv' := [(3, .int x5), (2, .int x4), (0, .ref (la 6 0)), (1, .int a1)]) hx hb dX6_greatestOfHanded_33 hl (k := 3) rfl (by rw [ex]; rfl) (by decide) rfl (fun ls hl => ?_)
      clear ex
      refine lv_goto (tgt := 17) hx hb dX6_greatestOfHanded_36 (by decide) ?_
      exact ih _ _ _ _ _ _ _  hf hP hS (lv_sub hl [2, 3, 1, 0] rfl)
def fX6_greatestOfHanded_b14 (N mo : Nat) (a1 : Int32) (as0 : Int32) (st : xSt) : Option (Int32 × xSt) := fX6_greatestOfHanded_b17 N mo N a1 as0 (1 : Int32) st
set_option maxHeartbeats 4000000 in
set_option maxRecDepth 100000 in
theorem BX6_greatestOfHanded_14 {p : Program} {l : Launch} {e : Env} {s : State} {m : MethodId} {args : Array Value} {below : List Frame} {meth : Method} {c : Code} {D : va_G} {la : Nat → Nat → Nat} {cyI cyF cyM : ClassId} {t0 mo N : Nat} {r : Int32} {st' : xSt} (X : xCx D (VC mo) la cyI cyF cyM t0 p m c cX6_greatestOfHanded 4 s args RX6) (hr : meth.sig.returnType = (some .int)) (hlk : meth.locks = false) : ∀ (a1 : Int32) (as0 : Int32) (st : xSt) (H : Heap) (locs : List Loc) (ls : Array Slot), fX6_greatestOfHanded_b14 N mo a1 as0 st = some (r, st') → HW D (VC mo) la (ECf cyI cyF cyM mo la) st H → va_S (xA (VC mo) la) s.heap H locs → lv_has ls 4 [(0, .ref (la 6 0)), (1, .int a1)] → W p l e rm_X6_greatestOfHanded s m args below meth c H locs 0 0 (MQ below (xQc D (VC mo) la (ECf cyI cyF cyM mo la) (some (.int r)) st') args s 0 0 (xA (VC mo) la)) (F0 m 14 ls [.int as0]) := by
  have hx := X.1.1
  have hb := X.1.2.1
  intro a1 as0 st H locs ls hf hP hS hl
  unfold fX6_greatestOfHanded_b14 at hf
  refine lv_istore_n (lv' := [(2, .int as0), (0, .ref (la 6 0)), (1, .int a1)]) hx hb dX6_greatestOfHanded_14 rfl hl (by decide) rfl (fun ls hl => ?_)
  refine lv_iconst (v := 1) hx hb dX6_greatestOfHanded_15 (by decide) ?_
  refine lv_istore_n (lv' := [(3, .int (1 : Int32)), (2, .int as0), (0, .ref (la 6 0)), (1, .int a1)]) hx hb dX6_greatestOfHanded_16 rfl hl (by decide) rfl (fun ls hl => ?_)
  exact BX6_greatestOfHanded_17 X hr hlk N _ _ _ _ _ _ _  hf hP hS (lv_sub hl [2, 3, 1, 0] rfl)
def fX6_greatestOfHanded (N mo : Nat) (a1 : Int32) (st : xSt) : Option (Int32 × xSt) := if a1 = (0 : Int32) then fX6_greatestOfHanded_b14 N mo a1 (0 : Int32) st else fX6_greatestOfHanded_b14 N mo a1 (st.1 20 5 0) st
set_option maxHeartbeats 4000000 in
set_option maxRecDepth 100000 in
theorem TX6_greatestOfHanded (l : Launch) {D : va_G} {la : Nat → Nat → Nat} {cyI cyF cyM : ClassId} {t0 mo N : Nat} {a1 : Int32} {st : xSt} {r : Int32} {st' : xSt} (hf : fX6_greatestOfHanded N mo a1 st = some (r, st')) : MetC D cyI cyF cyM mo la t0 l yX6_greatestOfHanded (Cond.code yX6_greatestOfHanded cX6_greatestOfHanded 4 (some .int) :: xALL) rm_X6_greatestOfHanded [.ref (la 6 0), .int a1] (some (.int r)) st st' := by
  refine MetW.intro (own := RX6) (by decide) (Nat.le_of_ble_eq_true rfl) rfl ?_
  intro p e s m below meth c X hr hlk hP ls hl
  have hx := X.1.1
  have hb := X.1.2.1
  have hS : va_S (xA (VC mo) la) s.heap s.heap [] := va_S.rf
  unfold fX6_greatestOfHanded at hf
  replace hl : lv_has ls 4 [(0, .ref (la 6 0)), (1, .int a1)] := hl
  refine lv_iload_n hx hb dX6_greatestOfHanded_0 rfl (lv_at hl 1 rfl) ?_
  refine lv_if_ne (tgt := 8) hx hb dX6_greatestOfHanded_1 (by decide) (fun c1 => ?_) (fun c1 => ?_)
  · replace hf := (if_neg c1).symm.trans hf
    refine lv_aload_n hx hb dX6_greatestOfHanded_8 rfl (lv_at hl 0 rfl) ?_
    refine gC_Runner_handed X hP fl_X6_28 dX6_greatestOfHanded_9 ?_
    refine lv_iconst (v := 0) hx hb dX6_greatestOfHanded_12 (by decide) ?_
    refine w_ialdK X hP (c0 := 20) (i0 := 5) (show 5 < 7 by decide) (n := 4) (fun _ => rfl) 0 (by decide) (show ¬ ((0 : Int32) < 0 ∨ 4 ≤ ((0 : Int32)).toNatClampNeg) by decide) dX6_greatestOfHanded_13 ?_
    exact BX6_greatestOfHanded_14 X hr hlk _ _ _ _ _ _  hf hP hS (lv_sub hl [0, 1] rfl)
  · replace hf := (if_pos c1).symm.trans hf
    refine lv_iconst (v := 0) hx hb dX6_greatestOfHanded_4 (by decide) ?_
    refine lv_goto (tgt := 14) hx hb dX6_greatestOfHanded_5 (by decide) ?_
    exact BX6_greatestOfHanded_14 X hr hlk _ _ _ _ _ _  hf hP hS (lv_sub hl [0, 1] rfl)
theorem KX6_greatestOfHanded : xKv yX6_greatestOfHanded cX6_greatestOfHanded 4 (some .int) RX6 1 := ⟨cd_X6_greatestOfHanded, im_X6_greatestOfHanded, se_X6_greatestOfHanded, in_X6, by decide +kernel⟩
abbrev rm_X6_handedNotZero : Room := { frames := 0, cells := 0, slots := 0, locals := 0 }
def fX6_handedNotZero_b21 (N mo : Nat) (k4 : Int32 → Int32 → Int32 → xSt → Option (Int32 × xSt)) (a1 : Int32) (a2 : Int32) (a3 : Int32) (st : xSt) : Option (Int32 × xSt) := nm (a3 + (1 : Int32)) (fun x5 => k4 a1 a2 x5 st)
set_option maxHeartbeats 4000000 in
set_option maxRecDepth 100000 in
theorem BX6_handedNotZero_21 {p : Program} {l : Launch} {e : Env} {s : State} {m : MethodId} {args : Array Value} {below : List Frame} {meth : Method} {c : Code} {D : va_G} {la : Nat → Nat → Nat} {cyI cyF cyM : ClassId} {t0 mo N : Nat} {k4 : Int32 → Int32 → Int32 → xSt → Option (Int32 × xSt)} {r : Int32} {st' : xSt} (X : xCx D (VC mo) la cyI cyF cyM t0 p m c cX6_handedNotZero 4 s args RX6) (hr : meth.sig.returnType = (some .int)) (hlk : meth.locks = false) (hk4 : ∀ (a1 : Int32) (a2 : Int32) (a3 : Int32) (st : xSt) (H : Heap) (locs : List Loc) (ls : Array Slot), k4 a1 a2 a3 st = some (r, st') → HW D (VC mo) la (ECf cyI cyF cyM mo la) st H → va_S (xA (VC mo) la) s.heap H locs → lv_has ls 4 [(0, .ref (la 6 0)), (1, .int a1), (2, .int a2), (3, .int a3)] → W p l e rm_X6_handedNotZero s m args below meth c H locs 0 0 (MQ below (xQc D (VC mo) la (ECf cyI cyF cyM mo la) (some (.int r)) st') args s 0 0 (xA (VC mo) la)) (F0 m 4 ls [])) : ∀ (a1 : Int32) (a2 : Int32) (a3 : Int32) (st : xSt) (H : Heap) (locs : List Loc) (ls : Array Slot), fX6_handedNotZero_b21 N mo k4 a1 a2 a3 st = some (r, st') → HW D (VC mo) la (ECf cyI cyF cyM mo la) st H → va_S (xA (VC mo) la) s.heap H locs → lv_has ls 4 [(0, .ref (la 6 0)), (1, .int a1), (2, .int a2), (3, .int a3)] → W p l e rm_X6_handedNotZero s m args below meth c H locs 0 0 (MQ below (xQc D (VC mo) la (ECf cyI cyF cyM mo la) (some (.int r)) st') args s 0 0 (xA (VC mo) la)) (F0 m 21 ls []) := by
  have hx := X.1.1
  have hb := X.1.2.1
  intro a1 a2 a3 st H locs ls hf hP hS hl
  unfold fX6_handedNotZero_b21 at hf
  obtain ⟨x5, ex⟩ : ∃ y : Int32, y = (a3 + (1 : Int32)) := ⟨_, rfl⟩
  replace hf := nm_of hf ex
  refine lv_iinc (v := x5) (lv' := [(3, .int x5), (0, .ref (la 6 0)), (1, .int a1), (2, .int a2)]) hx hb dX6_handedNotZero_21 hl (k := 3) rfl (by rw [ex]; rfl) (by decide) rfl (fun ls hl => ?_)
  clear ex
  refine lv_goto (tgt := 4) hx hb dX6_handedNotZero_24 (by decide) ?_
  exact hk4 _ _ _ _ _ _ _  hf hP hS (lv_sub hl [1, 2, 3, 0] rfl)
def fX6_handedNotZero_b4 (N mo : Nat) : Nat → Int32 → Int32 → Int32 → xSt → Option (Int32 × xSt)
  | 0, _, _, _, _ => none
  | n + 1, a1, a2, a3, st => if a1 ≤ a3 then some (a2, st) else if a3 < 0 ∨ 4 ≤ (a3).toNatClampNeg then none else if (st.1 20 5 (a3).toNatClampNeg) = (0 : Int32) then fX6_handedNotZero_b21 N mo (fX6_handedNotZero_b4 N mo n) a1 a2 a3 st else nm (a2 + (1 : Int32)) (fun x4 => fX6_handedNotZero_b21 N mo (fX6_handedNotZero_b4 N mo n) a1 x4 a3 st)
set_option maxHeartbeats 4000000 in
set_option maxRecDepth 100000 in
theorem BX6_handedNotZero_4 {p : Program} {l : Launch} {e : Env} {s : State} {m : MethodId} {args : Array Value} {below : List Frame} {meth : Method} {c : Code} {D : va_G} {la : Nat → Nat → Nat} {cyI cyF cyM : ClassId} {t0 mo N : Nat} {r : Int32} {st' : xSt} (X : xCx D (VC mo) la cyI cyF cyM t0 p m c cX6_handedNotZero 4 s args RX6) (hr : meth.sig.returnType = (some .int)) (hlk : meth.locks = false) : ∀ n : Nat, ∀ (a1 : Int32) (a2 : Int32) (a3 : Int32) (st : xSt) (H : Heap) (locs : List Loc) (ls : Array Slot), fX6_handedNotZero_b4 N mo n a1 a2 a3 st = some (r, st') → HW D (VC mo) la (ECf cyI cyF cyM mo la) st H → va_S (xA (VC mo) la) s.heap H locs → lv_has ls 4 [(0, .ref (la 6 0)), (1, .int a1), (2, .int a2), (3, .int a3)] → W p l e rm_X6_handedNotZero s m args below meth c H locs 0 0 (MQ below (xQc D (VC mo) la (ECf cyI cyF cyM mo la) (some (.int r)) st') args s 0 0 (xA (VC mo) la)) (F0 m 4 ls []) := by
  have hx := X.1.1
  have hb := X.1.2.1
  intro n
  induction n with
  | zero =>
    intro a1 a2 a3 st H locs ls hf hP hS hl
    rw [fX6_handedNotZero_b4] at hf
    cases hf
  | succ n ih =>
    intro a1 a2 a3 st H locs ls hf hP hS hl
    rw [fX6_handedNotZero_b4] at hf
    refine lv_iload_n hx hb dX6_handedNotZero_4 rfl (lv_at hl 3 rfl) ?_
    refine lv_iload_n hx hb dX6_handedNotZero_5 rfl (lv_at hl 1 rfl) ?_
    refine lv_icmp_ge (tgt := 27) hx hb dX6_handedNotZero_6 (by decide) (fun c1 => ?_) (fun c1 => ?_)
    · replace hf := (if_pos c1).symm.trans hf
      refine lv_iload_n hx hb dX6_handedNotZero_27 rfl (lv_at hl 2 rfl) ?_
      obtain ⟨rfl, rfl⟩ := sp_2 hf
      exact w_iret X hr hlk hP hS dX6_handedNotZero_28
    · replace hf := (if_neg c1).symm.trans hf
      refine lv_aload_n hx hb dX6_handedNotZero_9 rfl (lv_at hl 0 rfl) ?_
      refine gC_Runner_handed X hP fl_X6_28 dX6_handedNotZero_10 ?_
      refine lv_iload_n hx hb dX6_handedNotZero_13 rfl (lv_at hl 3 rfl) ?_
      obtain ⟨hn2, hf⟩ := ck_of hf
      refine w_iald X hP (c0 := 20) (i0 := 5) (show 5 < 7 by decide) (n := 4) rfl hn2 dX6_handedNotZero_14 ?_
      refine lv_if_eq (tgt := 21) hx hb dX6_handedNotZero_15 (by decide) (fun c3 => ?_) (fun c3 => ?_)
      · replace hf := (if_pos c3).symm.trans hf
        exact BX6_handedNotZero_21 X hr hlk ih _ _ _ _ _ _ _  hf hP hS (lv_sub hl [0, 1, 2, 3] rfl)
      · replace hf := (if_neg c3).symm.trans hf
        obtain ⟨x4, ex⟩ : ∃ y : Int32, y = (a2 + (1 : Int32)) := ⟨_, rfl⟩
        replace hf := nm_of hf ex
        refine lv_iinc (v := x4) (lv' := [(2, .int x4), (0, .ref (la 6 0)), (1, .int a1), (3, .int a3)]) hx hb dX6_handedNotZero_18 hl (k := 2) rfl (by rw [ex]; rfl) (by decide) rfl (fun ls hl => ?_)
        clear ex
        exact BX6_handedNotZero_21 X hr hlk ih _ _ _ _ _ _ _  hf hP hS (lv_sub hl [1, 2, 0, 3] rfl)
def fX6_handedNotZero (N mo : Nat) (a1 : Int32) (st : xSt) : Option (Int32 × xSt) := fX6_handedNotZero_b4 N mo N a1 (0 : Int32) (0 : Int32) st
set_option maxHeartbeats 4000000 in
set_option maxRecDepth 100000 in
theorem TX6_handedNotZero (l : Launch) {D : va_G} {la : Nat → Nat → Nat} {cyI cyF cyM : ClassId} {t0 mo N : Nat} {a1 : Int32} {st : xSt} {r : Int32} {st' : xSt} (hf : fX6_handedNotZero N mo a1 st = some (r, st')) : MetC D cyI cyF cyM mo la t0 l yX6_handedNotZero (Cond.code yX6_handedNotZero cX6_handedNotZero 4 (some .int) :: xALL) rm_X6_handedNotZero [.ref (la 6 0), .int a1] (some (.int r)) st st' := by
  refine MetW.intro (own := RX6) (by decide) (Nat.le_of_ble_eq_true rfl) rfl ?_
  intro p e s m below meth c X hr hlk hP ls hl
  have hx := X.1.1
  have hb := X.1.2.1
  have hS : va_S (xA (VC mo) la) s.heap s.heap [] := va_S.rf
  unfold fX6_handedNotZero at hf
  replace hl : lv_has ls 4 [(0, .ref (la 6 0)), (1, .int a1)] := hl
  refine lv_iconst (v := 0) hx hb dX6_handedNotZero_0 (by decide) ?_
  refine lv_istore_n (lv' := [(2, .int (0 : Int32)), (0, .ref (la 6 0)), (1, .int a1)]) hx hb dX6_handedNotZero_1 rfl hl (by decide) rfl (fun ls hl => ?_)
  refine lv_iconst (v := 0) hx hb dX6_handedNotZero_2 (by decide) ?_
  refine lv_istore_n (lv' := [(3, .int (0 : Int32)), (2, .int (0 : Int32)), (0, .ref (la 6 0)), (1, .int a1)]) hx hb dX6_handedNotZero_3 rfl hl (by decide) rfl (fun ls hl => ?_)
  exact BX6_handedNotZero_4 X hr hlk N _ _ _ _ _ _ _  hf hP hS (lv_sub hl [2, 3, 1, 0] rfl)
theorem KX6_handedNotZero : xKv yX6_handedNotZero cX6_handedNotZero 4 (some .int) RX6 1 := ⟨cd_X6_handedNotZero, im_X6_handedNotZero, se_X6_handedNotZero, in_X6, by decide +kernel⟩
