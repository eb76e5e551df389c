abbrev rm_X6_reckon : Room := { frames := 2, cells := 0, slots := 0, locals := 43 }
def fX6_reckon_b52 (N mo : Nat) (st : xSt) : Option xSt := Option.bind (fX6_fail N mo (2 : Int32) st) (fun st28 => some st28)
set_option maxHeartbeats 4000000 in
set_option maxRecDepth 100000 in
theorem BX6_reckon_52 {p : Program} {l : Launch} {e : Env} {s : State} {m : MethodId} {args : Array Value} {below : List Frame} {meth : Method} {c : Code} {D : va_G} {la : Nat → Nat → Nat} {cyI cyF cyM : ClassId} {t0 mo N : Nat} {st' : xSt} (X : xCx D (VC mo) la cyI cyF cyM t0 p m c cX6_reckon 6 s args RX6) (hr : meth.sig.returnType = none) (hlk : meth.locks = false) : ∀ (st : xSt) (H : Heap) (locs : List Loc) (ls : Array Slot), fX6_reckon_b52 N mo st = some st' → HW D (VC mo) la (ECf cyI cyF cyM mo la) st H → va_S (xA (VC mo) la) s.heap H locs → lv_has ls 6 [(0, .ref (la 6 0))] → W p l e rm_X6_reckon s m args below meth c H locs 0 0 (MQ below (xQc D (VC mo) la (ECf cyI cyF cyM mo la) none st') args s 0 0 (xA (VC mo) la)) (F0 m 52 ls []) := by
  have hx := X.1.1
  have hb := X.1.2.1
  intro st H locs ls hf hP hS hl
  unfold fX6_reckon_b52 at hf
  refine lv_aload_n hx hb dX6_reckon_52 rfl (lv_at hl 0 rfl) ?_
  refine lv_iconst (v := 2) hx hb dX6_reckon_53 (by decide) ?_
  obtain ⟨st28, hr29, hf⟩ := bd_of hf
  refine w_V0 X (TX6_fail l hr29) hP hS rfl KX6_fail ml_X6_97 ⟨rfl, rfl⟩ ⟨by decide, by decide⟩ (x_recv (E := fun c i => (ECf cyI cyF cyM mo la) (st.1 c i) st.2 c i) (c0 := 6) (i0 := 0) X.2.2.1 hP rfl (ci := 6) rfl rfl) rfl hl.1 (Nat.le_of_ble_eq_true rfl) dX6_reckon_54 (fun H locs hP hS => ?_)
  obtain rfl := Option.some.inj hf
  exact w_vret X hr hlk hP hS dX6_reckon_57
def fX6_reckon_b150 (N mo : Nat) (as0 : Int32) (as1 : Int32) (js2 : Nat) (st : xSt) : Option xSt := Option.bind (fX6_set N mo js2 as1 as0 st) (fun st30 => some st30)
set_option maxHeartbeats 4000000 in
set_option maxRecDepth 100000 in
theorem BX6_reckon_150 {p : Program} {l : Launch} {e : Env} {s : State} {m : MethodId} {args : Array Value} {below : List Frame} {meth : Method} {c : Code} {D : va_G} {la : Nat → Nat → Nat} {cyI cyF cyM : ClassId} {t0 mo N : Nat} {st' : xSt} (X : xCx D (VC mo) la cyI cyF cyM t0 p m c cX6_reckon 6 s args RX6) (hr : meth.sig.returnType = none) (hlk : meth.locks = false) : ∀ (as0 : Int32) (as1 : Int32) (js2 : Nat) (st : xSt) (H : Heap) (locs : List Loc) (ls : Array Slot), VC mo 2 js2 → fX6_reckon_b150 N mo as0 as1 js2 st = some st' → HW D (VC mo) la (ECf cyI cyF cyM mo la) st H → va_S (xA (VC mo) la) s.heap H locs → lv_has ls 6 [] → W p l e rm_X6_reckon s m args below meth c H locs 0 0 (MQ below (xQc D (VC mo) la (ECf cyI cyF cyM mo la) none st') args s 0 0 (xA (VC mo) la)) (F0 m 150 ls [.int as0, .int as1, .ref (la 2 js2), .ref (la 6 0)]) := by
  have hx := X.1.1
  have hb := X.1.2.1
  intro as0 as1 js2 st H locs ls hjs2 hf hP hS hl
  unfold fX6_reckon_b150 at hf
  obtain ⟨st30, hr31, hf⟩ := bd_of hf
  refine w_V0 X (TX6_set l hjs2 hr31) hP hS rfl KX6_set ml_X6_180 ⟨rfl, rfl⟩ ⟨by decide, by decide⟩ (x_recv (E := fun c i => (ECf cyI cyF cyM mo la) (st.1 c i) st.2 c i) (c0 := 6) (i0 := 0) X.2.2.1 hP rfl (ci := 6) rfl rfl) rfl hl.1 (Nat.le_of_ble_eq_true rfl) dX6_reckon_150 (fun H locs hP hS => ?_)
  refine lv_goto (tgt := 177) hx hb dX6_reckon_153 (by decide) ?_
  obtain rfl := Option.some.inj hf
  exact w_vret X hr hlk hP hS dX6_reckon_177
def fX6_reckon_b174 (N mo : Nat) (as0 : Int32) (as1 : Int32) (js2 : Nat) (st : xSt) : Option xSt := Option.bind (fX6_set N mo js2 as1 as0 st) (fun st32 => some st32)
set_option maxHeartbeats 4000000 in
set_option maxRecDepth 100000 in
theorem BX6_reckon_174 {p : Program} {l : Launch} {e : Env} {s : State} {m : MethodId} {args : Array Value} {below : List Frame} {meth : Method} {c : Code} {D : va_G} {la : Nat → Nat → Nat} {cyI cyF cyM : ClassId} {t0 mo N : Nat} {st' : xSt} (X : xCx D (VC mo) la cyI cyF cyM t0 p m c cX6_reckon 6 s args RX6) (hr : meth.sig.returnType = none) (hlk : meth.locks = false) : ∀ (as0 : Int32) (as1 : Int32) (js2 : Nat) (st : xSt) (H : Heap) (locs : List Loc) (ls : Array Slot), VC mo 2 js2 → fX6_reckon_b174 N mo as0 as1 js2 st = some st' → HW D (VC mo) la (ECf cyI cyF cyM mo la) st H → va_S (xA (VC mo) la) s.heap H locs → lv_has ls 6 [] → W p l e rm_X6_reckon s m args below meth c H locs 0 0 (MQ below (xQc D (VC mo) la (ECf cyI cyF cyM mo la) none st') args s 0 0 (xA (VC mo) la)) (F0 m 174 ls [.int as0, .int as1, .ref (la 2 js2), .ref (la 6 0)]) := by
  have hx := X.1.1
  have hb := X.1.2.1
  intro as0 as1 js2 st H locs ls hjs2 hf hP hS hl
  unfold fX6_reckon_b174 at hf
  obtain ⟨st32, hr33, hf⟩ := bd_of hf
  refine w_V0 X (TX6_set l hjs2 hr33) hP hS rfl KX6_set ml_X6_180 ⟨rfl, rfl⟩ ⟨by decide, by decide⟩ (x_recv (E := fun c i => (ECf cyI cyF cyM mo la) (st.1 c i) st.2 c i) (c0 := 6) (i0 := 0) X.2.2.1 hP rfl (ci := 6) rfl rfl) rfl hl.1 (Nat.le_of_ble_eq_true rfl) dX6_reckon_174 (fun H locs hP hS => ?_)
  obtain rfl := Option.some.inj hf
  exact w_vret X hr hlk hP hS dX6_reckon_177
def fX6_reckon_b58 (N mo : Nat) (j1 : Nat) (a2 : Int32) (a3 : Int32) (a4 : Int32) (a5 : Int32) (st : xSt) : Option xSt := if a2 = (2 : Int32) then Option.bind (fX6_set N mo j1 a3 (a4 + a5) st) (fun st15 => some st15) else if a2 = (3 : Int32) then Option.bind (fX6_set N mo j1 a3 (a4 - a5) st) (fun st18 => some st18) else if a2 = (4 : Int32) then Option.bind (fX6_set N mo j1 a3 (a4 * a5) st) (fun st21 => some st21) else if a2 = (5 : Int32) then if a5 = (-1 : Int32) then fX6_reckon_b150 N mo (-a4) a3 j1 st else if a5 = 0 then none else fX6_reckon_b150 N mo (a4 / a5) a3 j1 st else if a5 = (-1 : Int32) then fX6_reckon_b174 N mo (0 : Int32) a3 j1 st else if a5 = 0 then none else fX6_reckon_b174 N mo (a4 - a4 / a5 * a5) a3 j1 st
set_option maxHeartbeats 4000000 in
set_option maxRecDepth 100000 in
theorem BX6_reckon_58 {p : Program} {l : Launch} {e : Env} {s : State} {m : MethodId} {args : Array Value} {below : List Frame} {meth : Method} {c : Code} {D : va_G} {la : Nat → Nat → Nat} {cyI cyF cyM : ClassId} {t0 mo N : Nat} {st' : xSt} (X : xCx D (VC mo) la cyI cyF cyM t0 p m c cX6_reckon 6 s args RX6) (hr : meth.sig.returnType = none) (hlk : meth.locks = false) : ∀ (j1 : Nat) (a2 : Int32) (a3 : Int32) (a4 : Int32) (a5 : Int32) (st : xSt) (H : Heap) (locs : List Loc) (ls : Array Slot), VC mo 2 j1 → fX6_reckon_b58 N mo j1 a2 a3 a4 a5 st = some st' → HW D (VC mo) la (ECf cyI cyF cyM mo la) st H → va_S (xA (VC mo) la) s.heap H locs → lv_has ls 6 [(0, .ref (la 6 0)), (1, .ref (la 2 j1)), (2, .int a2), (3, .int a3), (4, .int a4), (5, .int a5)] → W p l e rm_X6_reckon s m args below meth c H locs 0 0 (MQ below (xQc D (VC mo) la (ECf cyI cyF cyM mo la) none st') args s 0 0 (xA (VC mo) la)) (F0 m 58 ls []) := by
  have hx := X.1.1
  have hb := X.1.2.1
  intro j1 a2 a3 a4 a5 st H locs ls hj1 hf hP hS hl
  unfold fX6_reckon_b58 at hf
  refine lv_iload_n hx hb dX6_reckon_58 rfl (lv_at hl 2 rfl) ?_
  by_cases c14 : a2 = (2 : Int32)
  · replace hf := (if_pos c14).symm.trans hf
    refine w_stk (st1 := .int (2 : Int32) :: _) (by rw [c14]) ?_
    refine lv_tableIn (off := 29) (tgt := 88) hx hb dX6_reckon_59 (by decide) (by decide) (by decide) (by decide) ?_
    refine lv_aload_n hx hb dX6_reckon_88 rfl (lv_at hl 0 rfl) ?_
    refine lv_aload_n hx hb dX6_reckon_89 rfl (lv_at hl 1 rfl) ?_
    refine lv_iload_n hx hb dX6_reckon_90 rfl (lv_at hl 3 rfl) ?_
    refine lv_iload hx hb dX6_reckon_91 (lv_at hl 4 rfl) ?_
    refine lv_iload hx hb dX6_reckon_93 (lv_at hl 5 rfl) ?_
    refine lv_iadd hx hb dX6_reckon_95 ?_
    obtain ⟨st15, hr16, hf⟩ := bd_of hf
    refine w_V0 X (TX6_set l hj1 hr16) hP hS rfl KX6_set ml_X6_180 ⟨rfl, rfl⟩ ⟨by decide, by decide⟩ (x_recv (E := fun c i => (ECf cyI cyF cyM mo la) (st.1 c i) st.2 c i) (c0 := 6) (i0 := 0) X.2.2.1 hP rfl (ci := 6) rfl rfl) rfl hl.1 (Nat.le_of_ble_eq_true rfl) dX6_reckon_96 (fun H locs hP hS => ?_)
    refine lv_goto (tgt := 177) hx hb dX6_reckon_99 (by decide) ?_
    obtain rfl := Option.some.inj hf
    exact w_vret X hr hlk hP hS dX6_reckon_177
  replace hf := (if_neg c14).symm.trans hf
  by_cases c17 : a2 = (3 : Int32)
  · replace hf := (if_pos c17).symm.trans hf
    refine w_stk (st1 := .int (3 : Int32) :: _) (by rw [c17]) ?_
    refine lv_tableIn (off := 43) (tgt := 102) hx hb dX6_reckon_59 (by decide) (by decide) (by decide) (by decide) ?_
    refine lv_aload_n hx hb dX6_reckon_102 rfl (lv_at hl 0 rfl) ?_
    refine lv_aload_n hx hb dX6_reckon_103 rfl (lv_at hl 1 rfl) ?_
    refine lv_iload_n hx hb dX6_reckon_104 rfl (lv_at hl 3 rfl) ?_
    refine lv_iload hx hb dX6_reckon_105 (lv_at hl 4 rfl) ?_
    refine lv_iload hx hb dX6_reckon_107 (lv_at hl 5 rfl) ?_
    refine lv_isub hx hb dX6_reckon_109 ?_
    obtain ⟨st18, hr19, hf⟩ := bd_of hf
    refine w_V0 X (TX6_set l hj1 hr19) hP hS rfl KX6_set ml_X6_180 ⟨rfl, rfl⟩ ⟨by decide, by decide⟩ (x_recv (E := fun c i => (ECf cyI cyF cyM mo la) (st.1 c i) st.2 c i) (c0 := 6) (i0 := 0) X.2.2.1 hP rfl (ci := 6) rfl rfl) rfl hl.1 (Nat.le_of_ble_eq_true rfl) dX6_reckon_110 (fun H locs hP hS => ?_)
    refine lv_goto (tgt := 177) hx hb dX6_reckon_113 (by decide) ?_
    obtain rfl := Option.some.inj hf
    exact w_vret X hr hlk hP hS dX6_reckon_177
  replace hf := (if_neg c17).symm.trans hf
  by_cases c20 : a2 = (4 : Int32)
  · replace hf := (if_pos c20).symm.trans hf
    refine w_stk (st1 := .int (4 : Int32) :: _) (by rw [c20]) ?_
    refine lv_tableIn (off := 57) (tgt := 116) hx hb dX6_reckon_59 (by decide) (by decide) (by decide) (by decide) ?_
    refine lv_aload_n hx hb dX6_reckon_116 rfl (lv_at hl 0 rfl) ?_
    refine lv_aload_n hx hb dX6_reckon_117 rfl (lv_at hl 1 rfl) ?_
    refine lv_iload_n hx hb dX6_reckon_118 rfl (lv_at hl 3 rfl) ?_
    refine lv_iload hx hb dX6_reckon_119 (lv_at hl 4 rfl) ?_
    refine lv_iload hx hb dX6_reckon_121 (lv_at hl 5 rfl) ?_
    refine lv_imul hx hb dX6_reckon_123 ?_
    obtain ⟨st21, hr22, hf⟩ := bd_of hf
    refine w_V0 X (TX6_set l hj1 hr22) hP hS rfl KX6_set ml_X6_180 ⟨rfl, rfl⟩ ⟨by decide, by decide⟩ (x_recv (E := fun c i => (ECf cyI cyF cyM mo la) (st.1 c i) st.2 c i) (c0 := 6) (i0 := 0) X.2.2.1 hP rfl (ci := 6) rfl rfl) rfl hl.1 (Nat.le_of_ble_eq_true rfl) dX6_reckon_124 (fun H locs hP hS => ?_)
    refine lv_goto (tgt := 177) hx hb dX6_reckon_127 (by decide) ?_
    obtain rfl := Option.some.inj hf
    exact w_vret X hr hlk hP hS dX6_reckon_177
  replace hf := (if_neg c20).symm.trans hf
  by_cases c23 : a2 = (5 : Int32)
  · replace hf := (if_pos c23).symm.trans hf
    refine w_stk (st1 := .int (5 : Int32) :: _) (by rw [c23]) ?_
    refine lv_tableIn (off := 71) (tgt := 130) hx hb dX6_reckon_59 (by decide) (by decide) (by decide) (by decide) ?_
    refine lv_aload_n hx hb dX6_reckon_130 rfl (lv_at hl 0 rfl) ?_
    refine lv_aload_n hx hb dX6_reckon_131 rfl (lv_at hl 1 rfl) ?_
    refine lv_iload_n hx hb dX6_reckon_132 rfl (lv_at hl 3 rfl) ?_
    refine lv_iload hx hb dX6_reckon_133 (lv_at hl 5 rfl) ?_
    refine lv_iconst (v := -1) hx hb dX6_reckon_135 (by decide) ?_
    refine lv_icmp_ne (tgt := 145) hx hb dX6_reckon_136 (by decide) (fun c24 => ?_) (fun c24 => ?_)
    · replace hf := (if_neg c24).symm.trans hf
      refine lv_iload hx hb dX6_reckon_145 (lv_at hl 4 rfl) ?_
      refine lv_iload hx hb dX6_reckon_147 (lv_at hl 5 rfl) ?_
      obtain ⟨hz25, hf⟩ := ck_of hf
      refine lv_idiv hx hb dX6_reckon_149 hz25 ?_
      exact BX6_reckon_150 X hr hlk _ _ _ _ _ _ _ hj1 hf hP hS (lv_sub hl [] rfl)
    · replace hf := (if_pos c24).symm.trans hf
      refine lv_iload hx hb dX6_reckon_139 (lv_at hl 4 rfl) ?_
      refine lv_ineg hx hb dX6_reckon_141 ?_
      refine lv_goto (tgt := 150) hx hb dX6_reckon_142 (by decide) ?_
      exact BX6_reckon_150 X hr hlk _ _ _ _ _ _ _ hj1 hf hP hS (lv_sub hl [] rfl)
  replace hf := (if_neg c23).symm.trans hf
  have gc14 := lv_neT c14 (show ((2 : Int32)).toInt = 2 by decide)
  have gc17 := lv_neT c17 (show ((3 : Int32)).toInt = 3 by decide)
  have gc20 := lv_neT c20 (show ((4 : Int32)).toInt = 4 by decide)
  have gc23 := lv_neT c23 (show ((5 : Int32)).toInt = 5 by decide)
  refine lv_tableOut (tgt := 156) hx hb dX6_reckon_59 (by omega) (by decide) ?_
  clear gc14 gc17 gc20 gc23
  refine lv_aload_n hx hb dX6_reckon_156 rfl (lv_at hl 0 rfl) ?_
  refine lv_aload_n hx hb dX6_reckon_157 rfl (lv_at hl 1 rfl) ?_
  refine lv_iload_n hx hb dX6_reckon_158 rfl (lv_at hl 3 rfl) ?_
  refine lv_iload hx hb dX6_reckon_159 (lv_at hl 5 rfl) ?_
  refine lv_iconst (v := -1) hx hb dX6_reckon_161 (by decide) ?_
  refine lv_icmp_ne (tgt := 169) hx hb dX6_reckon_162 (by decide) (fun c26 => ?_) (fun c26 => ?_)
  · replace hf := (if_neg c26).symm.trans hf
    refine lv_iload hx hb dX6_reckon_169 (lv_at hl 4 rfl) ?_
    refine lv_iload hx hb dX6_reckon_171 (lv_at hl 5 rfl) ?_
    obtain ⟨hz27, hf⟩ := ck_of hf
    refine lv_irem hx hb dX6_reckon_173 hz27 ?_
    exact BX6_reckon_174 X hr hlk _ _ _ _ _ _ _ hj1 hf hP hS (lv_sub hl [] rfl)
  · replace hf := (if_pos c26).symm.trans hf
    refine lv_iconst (v := 0) hx hb dX6_reckon_165 (by decide) ?_
    refine lv_goto (tgt := 174) hx hb dX6_reckon_166 (by decide) ?_
    exact BX6_reckon_174 X hr hlk _ _ _ _ _ _ _ hj1 hf hP hS (lv_sub hl [] rfl)
def fX6_reckon (N mo : Nat) (j1 : Nat) (a2 : Int32) (a3 : Int32) (st : xSt) : Option xSt := if ((st.1 6 0 13) + (2 : Int32)) < 0 ∨ (rwN (st.2 2 0)) ≤ (((st.1 6 0 13) + (2 : Int32))).toNatClampNeg then none else nm (st.1 (rwC (st.2 2 0)) (rwI mo (st.2 2 0)) (((st.1 6 0 13) + (2 : Int32))).toNatClampNeg) (fun x2 => bd (fX6_valueOf N mo j1 x2 st) (fun v5 st3 => if ((st3.1 6 0 13) + (3 : Int32)) < 0 ∨ (rwN (st3.2 2 0)) ≤ (((st3.1 6 0 13) + (3 : Int32))).toNatClampNeg then none else nm (st3.1 (rwC (st3.2 2 0)) (rwI mo (st3.2 2 0)) (((st3.1 6 0 13) + (3 : Int32))).toNatClampNeg) (fun x7 => bd (fX6_valueOf N mo j1 x7 st3) (fun v10 st8 => if v10 = (0 : Int32) then if a2 = (5 : Int32) then fX6_reckon_b52 N mo st8 else if a2 = (6 : Int32) then fX6_reckon_b52 N mo st8 else fX6_reckon_b58 N mo j1 a2 a3 v5 v10 st8 else fX6_reckon_b58 N mo j1 a2 a3 v5 v10 st8))))
set_option maxHeartbeats 4000000 in
set_option maxRecDepth 100000 in
theorem TX6_reckon (l : Launch) {D : va_G} {la : Nat → Nat → Nat} {cyI cyF cyM : ClassId} {t0 mo N : Nat} {j1 : Nat} {a2 : Int32} {a3 : Int32} (hj1 : VC mo 2 j1) {st : xSt} {st' : xSt} (hf : fX6_reckon N mo j1 a2 a3 st = some st') : MetC D cyI cyF cyM mo la t0 l yX6_reckon (Cond.code yX6_reckon cX6_reckon 6 none :: xALL) rm_X6_reckon [.ref (la 6 0), .ref (la 2 j1), .int a2, .int a3] none st st' := by
  refine MetW.intro (own := RX6) (by decide) (Nat.le_of_ble_eq_true rfl) rfl ?_
  intro p e s m below meth c X hr hlk hP ls hl
  have hx := X.1.1
  have hb := X.1.2.1
  have hS : va_S (xA (VC mo) la) s.heap s.heap [] := va_S.rf
  unfold fX6_reckon at hf
  replace hl : lv_has ls 6 [(0, .ref (la 6 0)), (1, .ref (la 2 j1)), (2, .int a2), (3, .int a3)] := hl
  refine lv_aload_n hx hb dX6_reckon_0 rfl (lv_at hl 0 rfl) ?_
  refine lv_aload_n hx hb dX6_reckon_1 rfl (lv_at hl 1 rfl) ?_
  refine lv_aload_n hx hb dX6_reckon_2 rfl (lv_at hl 0 rfl) ?_
  refine gC_Runner_rows X hP fl_X6_36 dX6_reckon_3 ?_
  refine lv_aload_n hx hb dX6_reckon_6 rfl (lv_at hl 0 rfl) ?_
  refine gC_Runner_base X hP fl_X6_163 dX6_reckon_7 ?_
  refine lv_iconst (v := 2) hx hb dX6_reckon_10 (by decide) ?_
  refine lv_iadd hx hb dX6_reckon_11 ?_
  obtain ⟨hn1, hf⟩ := ck_of hf
  refine w_iald X hP (c0 := (rwC (st.2 2 0))) (i0 := (rwI mo (st.2 2 0))) (VC_rw mo _) (n := (rwN (st.2 2 0))) (ECf_rw _ _ _) hn1 dX6_reckon_12 ?_
  refine lv_topi (fun x2 ex => ?_)
  replace hf := nm_of hf ex
  clear ex
  obtain ⟨v5, st3, hr4, hf⟩ := bd_2 hf
  refine w_V1 X (TX6_valueOf l hj1 hr4) hP hS rfl KX6_valueOf ml_X6_173 ⟨rfl, rfl⟩ ⟨by decide, by decide⟩ (x_recv (E := fun c i => (ECf cyI cyF cyM mo la) (st.1 c i) st.2 c i) (c0 := 6) (i0 := 0) X.2.2.1 hP rfl (ci := 6) rfl rfl) rfl hl.1 (Nat.le_of_ble_eq_true rfl) dX6_reckon_13 (fun H locs hP hS => ?_)
  refine lv_istore (lv' := [(4, .int v5), (0, .ref (la 6 0)), (1, .ref (la 2 j1)), (2, .int a2), (3, .int a3)]) hx hb dX6_reckon_16 hl (by decide) rfl (fun ls hl => ?_)
  refine lv_aload_n hx hb dX6_reckon_18 rfl (lv_at hl 1 rfl) ?_
  refine lv_aload_n hx hb dX6_reckon_19 rfl (lv_at hl 2 rfl) ?_
  refine lv_aload_n hx hb dX6_reckon_20 rfl (lv_at hl 1 rfl) ?_
  refine gC_Runner_rows X hP fl_X6_36 dX6_reckon_21 ?_
  refine lv_aload_n hx hb dX6_reckon_24 rfl (lv_at hl 1 rfl) ?_
  refine gC_Runner_base X hP fl_X6_163 dX6_reckon_25 ?_
  refine lv_iconst (v := 3) hx hb dX6_reckon_28 (by decide) ?_
  refine lv_iadd hx hb dX6_reckon_29 ?_
  obtain ⟨hn6, hf⟩ := ck_of hf
  refine w_iald X hP (c0 := (rwC (st3.2 2 0))) (i0 := (rwI mo (st3.2 2 0))) (VC_rw mo _) (n := (rwN (st3.2 2 0))) (ECf_rw _ _ _) hn6 dX6_reckon_30 ?_
  refine lv_topi (fun x7 ex => ?_)
  replace hf := nm_of hf ex
  clear ex
  obtain ⟨v10, st8, hr9, hf⟩ := bd_2 hf
  refine w_V1 X (TX6_valueOf l hj1 hr9) hP hS rfl KX6_valueOf ml_X6_173 ⟨rfl, rfl⟩ ⟨by decide, by decide⟩ (x_recv (E := fun c i => (ECf cyI cyF cyM mo la) (st3.1 c i) st3.2 c i) (c0 := 6) (i0 := 0) X.2.2.1 hP rfl (ci := 6) rfl rfl) rfl hl.1 (Nat.le_of_ble_eq_true rfl) dX6_reckon_31 (fun H locs hP hS => ?_)
  refine lv_istore (lv' := [(5, .int v10), (4, .int v5), (0, .ref (la 6 0)), (1, .ref (la 2 j1)), (2, .int a2), (3, .int a3)]) hx hb dX6_reckon_34 hl (by decide) rfl (fun ls hl => ?_)
  refine lv_iload hx hb dX6_reckon_36 (lv_at hl 0 rfl) ?_
  refine lv_if_ne (tgt := 58) hx hb dX6_reckon_38 (by decide) (fun c11 => ?_) (fun c11 => ?_)
  · replace hf := (if_neg c11).symm.trans hf
    exact BX6_reckon_58 X hr hlk _ _ _ _ _ _ _ _ _ hj1 hf hP hS (lv_sub hl [2, 3, 4, 5, 1, 0] rfl)
  · replace hf := (if_pos c11).symm.trans hf
    refine lv_iload_n hx hb dX6_reckon_41 rfl (lv_at hl 4 rfl) ?_
    refine lv_iconst (v := 5) hx hb dX6_reckon_42 (by decide) ?_
    refine lv_icmp_eq (tgt := 52) hx hb dX6_reckon_43 (by decide) (fun c12 => ?_) (fun c12 => ?_)
    · replace hf := (if_pos c12).symm.trans hf
      exact BX6_reckon_52 X hr hlk _ _ _ _  hf hP hS (lv_sub hl [2] rfl)
    · replace hf := (if_neg c12).symm.trans hf
      refine lv_iload_n hx hb dX6_reckon_46 rfl (lv_at hl 4 rfl) ?_
      refine lv_bipush (v := 6) hx hb dX6_reckon_47 (by decide) ?_
      refine lv_icmp_ne (tgt := 58) hx hb dX6_reckon_49 (by decide) (fun c13 => ?_) (fun c13 => ?_)
      · replace hf := (if_neg c13).symm.trans hf
        exact BX6_reckon_58 X hr hlk _ _ _ _ _ _ _ _ _ hj1 hf hP hS (lv_sub hl [2, 3, 4, 5, 1, 0] rfl)
      · replace hf := (if_pos c13).symm.trans hf
        exact BX6_reckon_52 X hr hlk _ _ _ _  hf hP hS (lv_sub hl [2] rfl)
theorem KX6_reckon : xKv yX6_reckon cX6_reckon 6 none RX6 3 := ⟨cd_X6_reckon, im_X6_reckon, se_X6_reckon, in_X6, by decide +kernel⟩
abbrev rm_X6_carryOut : Room := { frames := 4, cells := 0, slots := 0, locals := 91 }
def fX6_carryOut_b338 (N mo : Nat) (j1 : Nat) (a2 : Int32) (a3 : Int32) (st : xSt) : Option xSt := Option.bind (fX6_reckon N mo j1 a2 a3 st) (fun st93 => some st93)
set_option maxHeartbeats 4000000 in
set_option maxRecDepth 100000 in
theorem BX6_carryOut_338 {p : Program} {l : Launch} {e : Env} {s : State} {m : MethodId} {args : Array Value} {below : List Frame} {meth : Method} {c : Code} {D : va_G} {la : Nat → Nat → Nat} {cyI cyF cyM : ClassId} {t0 mo N : Nat} {st' : xSt} (X : xCx D (VC mo) la cyI cyF cyM t0 p m c cX6_carryOut 5 s args RX6) (hr : meth.sig.returnType = none) (hlk : meth.locks = false) : ∀ (j1 : Nat) (a2 : Int32) (a3 : Int32) (st : xSt) (H : Heap) (locs : List Loc) (ls : Array Slot), VC mo 2 j1 → fX6_carryOut_b338 N mo j1 a2 a3 st = some st' → HW D (VC mo) la (ECf cyI cyF cyM mo la) st H → va_S (xA (VC mo) la) s.heap H locs → lv_has ls 5 [(0, .ref (la 6 0)), (1, .ref (la 2 j1)), (2, .int a2), (3, .int a3)] → W p l e rm_X6_carryOut s m args below meth c H locs 0 0 (MQ below (xQc D (VC mo) la (ECf cyI cyF cyM mo la) none st') args s 0 0 (xA (VC mo) la)) (F0 m 338 ls []) := by
  have hx := X.1.1
  have hb := X.1.2.1
  intro j1 a2 a3 st H locs ls hj1 hf hP hS hl
  unfold fX6_carryOut_b338 at hf
  refine lv_aload_n hx hb dX6_carryOut_338 rfl (lv_at hl 0 rfl) ?_
  refine lv_aload_n hx hb dX6_carryOut_339 rfl (lv_at hl 1 rfl) ?_
  refine lv_iload_n hx hb dX6_carryOut_340 rfl (lv_at hl 2 rfl) ?_
  refine lv_iload_n hx hb dX6_carryOut_341 rfl (lv_at hl 3 rfl) ?_
  obtain ⟨st93, hr94, hf⟩ := bd_of hf
  refine w_V0 X (TX6_reckon l hj1 hr94) hP hS rfl KX6_reckon ml_X6_209 ⟨rfl, rfl⟩ ⟨by decide, by decide⟩ (x_recv (E := fun c i => (ECf cyI cyF cyM mo la) (st.1 c i) st.2 c i) (c0 := 6) (i0 := 0) X.2.2.1 hP rfl (ci := 6) rfl rfl) rfl hl.1 (Nat.le_of_ble_eq_true rfl) dX6_carryOut_342 (fun H locs hP hS => ?_)
  obtain rfl := Option.some.inj hf
  exact w_vret X hr hlk hP hS dX6_carryOut_345
def fX6_carryOut (N mo : Nat) (j1 : Nat) (st : xSt) : Option xSt := if (st.1 6 0 13) < 0 ∨ (rwN (st.2 2 0)) ≤ ((st.1 6 0 13)).toNatClampNeg then none else nm (st.1 (rwC (st.2 2 0)) (rwI mo (st.2 2 0)) ((st.1 6 0 13)).toNatClampNeg) (fun x2 => if ((st.1 6 0 13) + (1 : Int32)) < 0 ∨ (rwN (st.2 2 0)) ≤ (((st.1 6 0 13) + (1 : Int32))).toNatClampNeg then none else nm (st.1 (rwC (st.2 2 0)) (rwI mo (st.2 2 0)) (((st.1 6 0 13) + (1 : Int32))).toNatClampNeg) (fun x4 => if ((st.1 6 0 13) + (2 : Int32)) < 0 ∨ (rwN (st.2 2 0)) ≤ (((st.1 6 0 13) + (2 : Int32))).toNatClampNeg then none else nm (st.1 (rwC (st.2 2 0)) (rwI mo (st.2 2 0)) (((st.1 6 0 13) + (2 : Int32))).toNatClampNeg) (fun x6 => if x2 = (0 : Int32) then bd (fX6_valueOf N mo j1 x4 st) (fun v10 st8 => Option.bind (fX6_leave N mo v10 st8) (fun st11 => some st11)) else if x2 = (1 : Int32) then bd (fX6_valueOf N mo j1 x6 st) (fun v16 st14 => Option.bind (fX6_set N mo j1 x4 v16 st14) (fun st17 => some st17)) else if x2 = (2 : Int32) then fX6_carryOut_b338 N mo j1 x2 x4 st else if x2 = (3 : Int32) then fX6_carryOut_b338 N mo j1 x2 x4 st else if x2 = (4 : Int32) then fX6_carryOut_b338 N mo j1 x2 x4 st else if x2 = (5 : Int32) then fX6_carryOut_b338 N mo j1 x2 x4 st else if x2 = (6 : Int32) then fX6_carryOut_b338 N mo j1 x2 x4 st else if x2 = (7 : Int32) then bd (fX6_valueOf N mo j1 x6 st) (fun v27 st25 => Option.bind (fX6_load N mo j1 x4 v27 st25) (fun st28 => some st28)) else if x2 = (8 : Int32) then bd (fX6_valueOf N mo j1 x4 st) (fun v33 st31 => bd (fX6_valueOf N mo j1 x6 st31) (fun v36 st34 => Option.bind (fX6_store N mo v33 v36 st34) (fun st37 => some st37))) else if x2 = (9 : Int32) then Option.bind (fX6_jump N mo j1 x4 st) (fun st40 => some st40) else if x2 = (10 : Int32) then bd (fX6_valueOf N mo j1 x4 st) (fun v45 st43 => bd (fX6_valueOf N mo j1 x6 st43) (fun v48 st46 => if v48 ≤ v45 then some st46 else if ((st46.1 6 0 13) + (3 : Int32)) < 0 ∨ (rwN (st46.2 2 0)) ≤ (((st46.1 6 0 13) + (3 : Int32))).toNatClampNeg then none else nm (st46.1 (rwC (st46.2 2 0)) (rwI mo (st46.2 2 0)) (((st46.1 6 0 13) + (3 : Int32))).toNatClampNeg) (fun x51 => Option.bind (fX6_jump N mo j1 x51 st46) (fun st52 => some st52)))) else if x2 = (11 : Int32) then bd (fX6_valueOf N mo j1 x4 st) (fun v57 st55 => bd (fX6_valueOf N mo j1 x6 st55) (fun v60 st58 => if v57 = v60 then if ((st58.1 6 0 13) + (3 : Int32)) < 0 ∨ (rwN (st58.2 2 0)) ≤ (((st58.1 6 0 13) + (3 : Int32))).toNatClampNeg then none else nm (st58.1 (rwC (st58.2 2 0)) (rwI mo (st58.2 2 0)) (((st58.1 6 0 13) + (3 : Int32))).toNatClampNeg) (fun x63 => Option.bind (fX6_jump N mo j1 x63 st58) (fun st64 => some st64)) else some st58)) else if x2 = (12 : Int32) then Option.bind (fX6_handOver N mo j1 st) (fun st67 => bd (fX6_valueOf N mo j1 x6 st67) (fun v71 st69 => bd (fX6_addressFor N mo v71 st69) (fun v74 st72 => if ((st72.1 6 0 13) + (3 : Int32)) < 0 ∨ (rwN (st72.2 2 0)) ≤ (((st72.1 6 0 13) + (3 : Int32))).toNatClampNeg then none else nm (st72.1 (rwC (st72.2 2 0)) (rwI mo (st72.2 2 0)) (((st72.1 6 0 13) + (3 : Int32))).toNatClampNeg) (fun x76 => Option.bind (fX6_enter N mo v74 x76 st72) (fun st77 => some st77))))) else if x2 = (13 : Int32) then bd (fX6_valueOf N mo j1 x4 st) (fun v82 st80 => Option.bind (fX6_throwOut N mo v82 st80) (fun st83 => some st83)) else if x2 = (14 : Int32) then nm (pI st 2 j1 6 x4) (fun st86 => if ((st86.1 6 0 13) + (10 : Int32)) < 0 ∨ (rwN (st86.2 2 0)) ≤ (((st86.1 6 0 13) + (10 : Int32))).toNatClampNeg then none else nm (st86.1 (rwC (st86.2 2 0)) (rwI mo (st86.2 2 0)) (((st86.1 6 0 13) + (10 : Int32))).toNatClampNeg) (fun x88 => nm (pI st86 2 j1 7 x88) (fun st89 => some st89))) else if x2 = (15 : Int32) then Option.bind (fX6_leave N mo (0 : Int32) st) (fun st91 => some st91) else fX6_carryOut_b338 N mo j1 x2 x4 st)))
set_option maxHeartbeats 4000000 in
set_option maxRecDepth 100000 in
theorem TX6_carryOut (l : Launch) {D : va_G} {la : Nat → Nat → Nat} {cyI cyF cyM : ClassId} {t0 mo N : Nat} {j1 : Nat} (hj1 : VC mo 2 j1) {st : xSt} {st' : xSt} (hf : fX6_carryOut N mo j1 st = some st') : MetC D cyI cyF cyM mo la t0 l yX6_carryOut (Cond.code yX6_carryOut cX6_carryOut 5 none :: xALL) rm_X6_carryOut [.ref (la 6 0), .ref (la 2 j1)] none st st' := by
  refine MetW.intro (own := RX6) (by decide) (Nat.le_of_ble_eq_true rfl) rfl ?_
  intro p e s m below meth c X hr hlk hP ls hl
  have hx := X.1.1
  have hb := X.1.2.1
  have hS : va_S (xA (VC mo) la) s.heap s.heap [] := va_S.rf
  unfold fX6_carryOut at hf
  replace hl : lv_has ls 5 [(0, .ref (la 6 0)), (1, .ref (la 2 j1))] := hl
  refine lv_aload_n hx hb dX6_carryOut_0 rfl (lv_at hl 0 rfl) ?_
  refine gC_Runner_rows X hP fl_X6_36 dX6_carryOut_1 ?_
  refine lv_aload_n hx hb dX6_carryOut_4 rfl (lv_at hl 0 rfl) ?_
  refine gC_Runner_base X hP fl_X6_163 dX6_carryOut_5 ?_
  obtain ⟨hn1, hf⟩ := ck_of hf
  refine w_iald X hP (c0 := (rwC (st.2 2 0))) (i0 := (rwI mo (st.2 2 0))) (VC_rw mo _) (n := (rwN (st.2 2 0))) (ECf_rw _ _ _) hn1 dX6_carryOut_8 ?_
  refine lv_topi (fun x2 ex => ?_)
  replace hf := nm_of hf ex
  clear ex
  refine lv_istore_n (lv' := [(2, .int x2), (0, .ref (la 6 0)), (1, .ref (la 2 j1))]) hx hb dX6_carryOut_9 rfl hl (by decide) rfl (fun ls hl => ?_)
  refine lv_aload_n hx hb dX6_carryOut_10 rfl (lv_at hl 1 rfl) ?_
  refine gC_Runner_rows X hP fl_X6_36 dX6_carryOut_11 ?_
  refine lv_aload_n hx hb dX6_carryOut_14 rfl (lv_at hl 1 rfl) ?_
  refine gC_Runner_base X hP fl_X6_163 dX6_carryOut_15 ?_
  refine lv_iconst (v := 1) hx hb dX6_carryOut_18 (by decide) ?_
  refine lv_iadd hx hb dX6_carryOut_19 ?_
  obtain ⟨hn3, hf⟩ := ck_of hf
  refine w_iald X hP (c0 := (rwC (st.2 2 0))) (i0 := (rwI mo (st.2 2 0))) (VC_rw mo _) (n := (rwN (st.2 2 0))) (ECf_rw _ _ _) hn3 dX6_carryOut_20 ?_
  refine lv_topi (fun x4 ex => ?_)
  replace hf := nm_of hf ex
  clear ex
  refine lv_istore_n (lv' := [(3, .int x4), (2, .int x2), (0, .ref (la 6 0)), (1, .ref (la 2 j1))]) hx hb dX6_carryOut_21 rfl hl (by decide) rfl (fun ls hl => ?_)
  refine lv_aload_n hx hb dX6_carryOut_22 rfl (lv_at hl 2 rfl) ?_
  refine gC_Runner_rows X hP fl_X6_36 dX6_carryOut_23 ?_
  refine lv_aload_n hx hb dX6_carryOut_26 rfl (lv_at hl 2 rfl) ?_
  refine gC_Runner_base X hP fl_X6_163 dX6_carryOut_27 ?_
  refine lv_iconst (v := 2) hx hb dX6_carryOut_30 (by decide) ?_
  refine lv_iadd hx hb dX6_carryOut_31 ?_
  obtain ⟨hn5, hf⟩ := ck_of hf
  refine w_iald X hP (c0 := (rwC (st.2 2 0))) (i0 := (rwI mo (st.2 2 0))) (VC_rw mo _) (n := (rwN (st.2 2 0))) (ECf_rw _ _ _) hn5 dX6_carryOut_32 ?_
  refine lv_topi (fun x6 ex => ?_)
  replace hf := nm_of hf ex
  clear ex
  refine lv_istore (lv' := [(4, .int x6), (3, .int x4), (2, .int x2), (0, .ref (la 6 0)), (1, .ref (la 2 j1))]) hx hb dX6_carryOut_33 hl (by decide) rfl (fun ls hl => ?_)
  refine lv_iload_n hx hb dX6_carryOut_35 rfl (lv_at hl 2 rfl) ?_
  by_cases c7 : x2 = (0 : Int32)
  · replace hf := (if_pos c7).symm.trans hf
    refine w_stk (st1 := .int (0 : Int32) :: _) (by rw [c7]) ?_
    refine lv_tableIn (off := 80) (tgt := 116) hx hb dX6_carryOut_36 (by decide) (by decide) (by decide) (by decide) ?_
    refine lv_aload_n hx hb dX6_carryOut_116 rfl (lv_at hl 3 rfl) ?_
    refine lv_aload_n hx hb dX6_carryOut_117 rfl (lv_at hl 3 rfl) ?_
    refine lv_aload_n hx hb dX6_carryOut_118 rfl (lv_at hl 4 rfl) ?_
    refine lv_iload_n hx hb dX6_carryOut_119 rfl (lv_at hl 1 rfl) ?_
    obtain ⟨v10, st8, hr9, hf⟩ := bd_2 hf
    refine w_V1 X (TX6_valueOf l hj1 hr9) hP hS rfl KX6_valueOf ml_X6_173 ⟨rfl, rfl⟩ ⟨by decide, by decide⟩ (x_recv (E := fun c i => (ECf cyI cyF cyM mo la) (st.1 c i) st.2 c i) (c0 := 6) (i0 := 0) X.2.2.1 hP rfl (ci := 6) rfl rfl) rfl hl.1 (Nat.le_of_ble_eq_true rfl) dX6_carryOut_120 (fun H locs hP hS => ?_)
    obtain ⟨st11, hr12, hf⟩ := bd_of hf
    refine w_V0 X (TX6_leave l hr12) hP hS rfl KX6_leave ml_X6_177 ⟨rfl, rfl⟩ ⟨by decide, by decide⟩ (x_recv (E := fun c i => (ECf cyI cyF cyM mo la) (st8.1 c i) st8.2 c i) (c0 := 6) (i0 := 0) X.2.2.1 hP rfl (ci := 6) rfl rfl) rfl hl.1 (Nat.le_of_ble_eq_true rfl) dX6_carryOut_123 (fun H locs hP hS => ?_)
    refine lv_goto (tgt := 345) hx hb dX6_carryOut_126 (by decide) ?_
    obtain rfl := Option.some.inj hf
    exact w_vret X hr hlk hP hS dX6_carryOut_345
  replace hf := (if_neg c7).symm.trans hf
  by_cases c13 : x2 = (1 : Int32)
  · replace hf := (if_pos c13).symm.trans hf
    refine w_stk (st1 := .int (1 : Int32) :: _) (by rw [c13]) ?_
    refine lv_tableIn (off := 93) (tgt := 129) hx hb dX6_carryOut_36 (by decide) (by decide) (by decide) (by decide) ?_
    refine lv_aload_n hx hb dX6_carryOut_129 rfl (lv_at hl 3 rfl) ?_
    refine lv_aload_n hx hb dX6_carryOut_130 rfl (lv_at hl 4 rfl) ?_
    refine lv_iload_n hx hb dX6_carryOut_131 rfl (lv_at hl 1 rfl) ?_
    refine lv_aload_n hx hb dX6_carryOut_132 rfl (lv_at hl 3 rfl) ?_
    refine lv_aload_n hx hb dX6_carryOut_133 rfl (lv_at hl 4 rfl) ?_
    refine lv_iload hx hb dX6_carryOut_134 (lv_at hl 0 rfl) ?_
    obtain ⟨v16, st14, hr15, hf⟩ := bd_2 hf
    refine w_V1 X (TX6_valueOf l hj1 hr15) hP hS rfl KX6_valueOf ml_X6_173 ⟨rfl, rfl⟩ ⟨by decide, by decide⟩ (x_recv (E := fun c i => (ECf cyI cyF cyM mo la) (st.1 c i) st.2 c i) (c0 := 6) (i0 := 0) X.2.2.1 hP rfl (ci := 6) rfl rfl) rfl hl.1 (Nat.le_of_ble_eq_true rfl) dX6_carryOut_136 (fun H locs hP hS => ?_)
    obtain ⟨st17, hr18, hf⟩ := bd_of hf
    refine w_V0 X (TX6_set l hj1 hr18) hP hS rfl KX6_set ml_X6_180 ⟨rfl, rfl⟩ ⟨by decide, by decide⟩ (x_recv (E := fun c i => (ECf cyI cyF cyM mo la) (st14.1 c i) st14.2 c i) (c0 := 6) (i0 := 0) X.2.2.1 hP rfl (ci := 6) rfl rfl) rfl hl.1 (Nat.le_of_ble_eq_true rfl) dX6_carryOut_139 (fun H locs hP hS => ?_)
    refine lv_goto (tgt := 345) hx hb dX6_carryOut_142 (by decide) ?_
    obtain rfl := Option.some.inj hf
    exact w_vret X hr hlk hP hS dX6_carryOut_345
  replace hf := (if_neg c13).symm.trans hf
  by_cases c19 : x2 = (2 : Int32)
  · replace hf := (if_pos c19).symm.trans hf
    refine w_stk (st1 := .int (2 : Int32) :: _) (by rw [c19]) ?_
    refine lv_tableIn (off := 302) (tgt := 338) hx hb dX6_carryOut_36 (by decide) (by decide) (by decide) (by decide) ?_
    exact BX6_carryOut_338 X hr hlk _ _ _ _ _ _ _ hj1 hf hP hS (lv_sub hl [3, 4, 2, 1] rfl)
  replace hf := (if_neg c19).symm.trans hf
  by_cases c20 : x2 = (3 : Int32)
  · replace hf := (if_pos c20).symm.trans hf
    refine w_stk (st1 := .int (3 : Int32) :: _) (by rw [c20]) ?_
    refine lv_tableIn (off := 302) (tgt := 338) hx hb dX6_carryOut_36 (by decide) (by decide) (by decide) (by decide) ?_
    exact BX6_carryOut_338 X hr hlk _ _ _ _ _ _ _ hj1 hf hP hS (lv_sub hl [3, 4, 2, 1] rfl)
  replace hf := (if_neg c20).symm.trans hf
  by_cases c21 : x2 = (4 : Int32)
  · replace hf := (if_pos c21).symm.trans hf
    refine w_stk (st1 := .int (4 : Int32) :: _) (by rw [c21]) ?_
    refine lv_tableIn (off := 302) (tgt := 338) hx hb dX6_carryOut_36 (by decide) (by decide) (by decide) (by decide) ?_
    exact BX6_carryOut_338 X hr hlk _ _ _ _ _ _ _ hj1 hf hP hS (lv_sub hl [3, 4, 2, 1] rfl)
  replace hf := (if_neg c21).symm.trans hf
  by_cases c22 : x2 = (5 : Int32)
  · replace hf := (if_pos c22).symm.trans hf
    refine w_stk (st1 := .int (5 : Int32) :: _) (by rw [c22]) ?_
    refine lv_tableIn (off := 302) (tgt := 338) hx hb dX6_carryOut_36 (by decide) (by decide) (by decide) (by decide) ?_
    exact BX6_carryOut_338 X hr hlk _ _ _ _ _ _ _ hj1 hf hP hS (lv_sub hl [3, 4, 2, 1] rfl)
  replace hf := (if_neg c22).symm.trans hf
  by_cases c23 : x2 = (6 : Int32)
  · replace hf := (if_pos c23).symm.trans hf
    refine w_stk (st1 := .int (6 : Int32) :: _) (by rw [c23]) ?_
    refine lv_tableIn (off := 302) (tgt := 338) hx hb dX6_carryOut_36 (by decide) (by decide) (by decide) (by decide) ?_
    exact BX6_carryOut_338 X hr hlk _ _ _ _ _ _ _ hj1 hf hP hS (lv_sub hl [3, 4, 2, 1] rfl)
  replace hf := (if_neg c23).symm.trans hf
  by_cases c24 : x2 = (7 : Int32)
  · replace hf := (if_pos c24).symm.trans hf
    refine w_stk (st1 := .int (7 : Int32) :: _) (by rw [c24]) ?_
    refine lv_tableIn (off := 109) (tgt := 145) hx hb dX6_carryOut_36 (by decide) (by decide) (by decide) (by decide) ?_
    refine lv_aload_n hx hb dX6_carryOut_145 rfl (lv_at hl 3 rfl) ?_
    refine lv_aload_n hx hb dX6_carryOut_146 rfl (lv_at hl 4 rfl) ?_
    refine lv_iload_n hx hb dX6_carryOut_147 rfl (lv_at hl 1 rfl) ?_
    refine lv_aload_n hx hb dX6_carryOut_148 rfl (lv_at hl 3 rfl) ?_
    refine lv_aload_n hx hb dX6_carryOut_149 rfl (lv_at hl 4 rfl) ?_
    refine lv_iload hx hb dX6_carryOut_150 (lv_at hl 0 rfl) ?_
    obtain ⟨v27, st25, hr26, hf⟩ := bd_2 hf
    refine w_V1 X (TX6_valueOf l hj1 hr26) hP hS rfl KX6_valueOf ml_X6_173 ⟨rfl, rfl⟩ ⟨by decide, by decide⟩ (x_recv (E := fun c i => (ECf cyI cyF cyM mo la) (st.1 c i) st.2 c i) (c0 := 6) (i0 := 0) X.2.2.1 hP rfl (ci := 6) rfl rfl) rfl hl.1 (Nat.le_of_ble_eq_true rfl) dX6_carryOut_152 (fun H locs hP hS => ?_)
    obtain ⟨st28, hr29, hf⟩ := bd_of hf
    refine w_V0 X (TX6_load l hj1 hr29) hP hS rfl KX6_load ml_X6_184 ⟨rfl, rfl⟩ ⟨by decide, by decide⟩ (x_recv (E := fun c i => (ECf cyI cyF cyM mo la) (st25.1 c i) st25.2 c i) (c0 := 6) (i0 := 0) X.2.2.1 hP rfl (ci := 6) rfl rfl) rfl hl.1 (Nat.le_of_ble_eq_true rfl) dX6_carryOut_155 (fun H locs hP hS => ?_)
    refine lv_goto (tgt := 345) hx hb dX6_carryOut_158 (by decide) ?_
    obtain rfl := Option.some.inj hf
    exact w_vret X hr hlk hP hS dX6_carryOut_345
  replace hf := (if_neg c24).symm.trans hf
  by_cases c30 : x2 = (8 : Int32)
  · replace hf := (if_pos c30).symm.trans hf
    refine w_stk (st1 := .int (8 : Int32) :: _) (by rw [c30]) ?_
    refine lv_tableIn (off := 125) (tgt := 161) hx hb dX6_carryOut_36 (by decide) (by decide) (by decide) (by decide) ?_
    refine lv_aload_n hx hb dX6_carryOut_161 rfl (lv_at hl 3 rfl) ?_
    refine lv_aload_n hx hb dX6_carryOut_162 rfl (lv_at hl 3 rfl) ?_
    refine lv_aload_n hx hb dX6_carryOut_163 rfl (lv_at hl 4 rfl) ?_
    refine lv_iload_n hx hb dX6_carryOut_164 rfl (lv_at hl 1 rfl) ?_
    obtain ⟨v33, st31, hr32, hf⟩ := bd_2 hf
    refine w_V1 X (TX6_valueOf l hj1 hr32) hP hS rfl KX6_valueOf ml_X6_173 ⟨rfl, rfl⟩ ⟨by decide, by decide⟩ (x_recv (E := fun c i => (ECf cyI cyF cyM mo la) (st.1 c i) st.2 c i) (c0 := 6) (i0 := 0) X.2.2.1 hP rfl (ci := 6) rfl rfl) rfl hl.1 (Nat.le_of_ble_eq_true rfl) dX6_carryOut_165 (fun H locs hP hS => ?_)
    refine lv_aload_n hx hb dX6_carryOut_168 rfl (lv_at hl 3 rfl) ?_
    refine lv_aload_n hx hb dX6_carryOut_169 rfl (lv_at hl 4 rfl) ?_
    refine lv_iload hx hb dX6_carryOut_170 (lv_at hl 0 rfl) ?_
    obtain ⟨v36, st34, hr35, hf⟩ := bd_2 hf
    refine w_V1 X (TX6_valueOf l hj1 hr35) hP hS rfl KX6_valueOf ml_X6_173 ⟨rfl, rfl⟩ ⟨by decide, by decide⟩ (x_recv (E := fun c i => (ECf cyI cyF cyM mo la) (st31.1 c i) st31.2 c i) (c0 := 6) (i0 := 0) X.2.2.1 hP rfl (ci := 6) rfl rfl) rfl hl.1 (Nat.le_of_ble_eq_true rfl) dX6_carryOut_172 (fun H locs hP hS => ?_)
    obtain ⟨st37, hr38, hf⟩ := bd_of hf
    refine w_V0 X (TX6_store l hr38) hP hS rfl KX6_store ml_X6_187 ⟨rfl, rfl⟩ ⟨by decide, by decide⟩ (x_recv (E := fun c i => (ECf cyI cyF cyM mo la) (st34.1 c i) st34.2 c i) (c0 := 6) (i0 := 0) X.2.2.1 hP rfl (ci := 6) rfl rfl) rfl hl.1 (Nat.le_of_ble_eq_true rfl) dX6_carryOut_175 (fun H locs hP hS => ?_)
    refine lv_goto (tgt := 345) hx hb dX6_carryOut_178 (by decide) ?_
    obtain rfl := Option.some.inj hf
    exact w_vret X hr hlk hP hS dX6_carryOut_345
  replace hf := (if_neg c30).symm.trans hf
  by_cases c39 : x2 = (9 : Int32)
  · replace hf := (if_pos c39).symm.trans hf
    refine w_stk (st1 := .int (9 : Int32) :: _) (by rw [c39]) ?_
    refine lv_tableIn (off := 145) (tgt := 181) hx hb dX6_carryOut_36 (by decide) (by decide) (by decide) (by decide) ?_
    refine lv_aload_n hx hb dX6_carryOut_181 rfl (lv_at hl 3 rfl) ?_
    refine lv_aload_n hx hb dX6_carryOut_182 rfl (lv_at hl 4 rfl) ?_
    refine lv_iload_n hx hb dX6_carryOut_183 rfl (lv_at hl 1 rfl) ?_
    obtain ⟨st40, hr41, hf⟩ := bd_of hf
    refine w_V0 X (TX6_jump l hj1 hr41) hP hS rfl KX6_jump ml_X6_190 ⟨rfl, rfl⟩ ⟨by decide, by decide⟩ (x_recv (E := fun c i => (ECf cyI cyF cyM mo la) (st.1 c i) st.2 c i) (c0 := 6) (i0 := 0) X.2.2.1 hP rfl (ci := 6) rfl rfl) rfl hl.1 (Nat.le_of_ble_eq_true rfl) dX6_carryOut_184 (fun H locs hP hS => ?_)
    refine lv_goto (tgt := 345) hx hb dX6_carryOut_187 (by decide) ?_
    obtain rfl := Option.some.inj hf
    exact w_vret X hr hlk hP hS dX6_carryOut_345
  replace hf := (if_neg c39).symm.trans hf
  by_cases c42 : x2 = (10 : Int32)
  · replace hf := (if_pos c42).symm.trans hf
    refine w_stk (st1 := .int (10 : Int32) :: _) (by rw [c42]) ?_
    refine lv_tableIn (off := 154) (tgt := 190) hx hb dX6_carryOut_36 (by decide) (by decide) (by decide) (by decide) ?_
    refine lv_aload_n hx hb dX6_carryOut_190 rfl (lv_at hl 3 rfl) ?_
    refine lv_aload_n hx hb dX6_carryOut_191 rfl (lv_at hl 4 rfl) ?_
    refine lv_iload_n hx hb dX6_carryOut_192 rfl (lv_at hl 1 rfl) ?_
    obtain ⟨v45, st43, hr44, hf⟩ := bd_2 hf
    refine w_V1 X (TX6_valueOf l hj1 hr44) hP hS rfl KX6_valueOf ml_X6_173 ⟨rfl, rfl⟩ ⟨by decide, by decide⟩ (x_recv (E := fun c i => (ECf cyI cyF cyM mo la) (st.1 c i) st.2 c i) (c0 := 6) (i0 := 0) X.2.2.1 hP rfl (ci := 6) rfl rfl) rfl hl.1 (Nat.le_of_ble_eq_true rfl) dX6_carryOut_193 (fun H locs hP hS => ?_)
    refine lv_aload_n hx hb dX6_carryOut_196 rfl (lv_at hl 3 rfl) ?_
    refine lv_aload_n hx hb dX6_carryOut_197 rfl (lv_at hl 4 rfl) ?_
    refine lv_iload hx hb dX6_carryOut_198 (lv_at hl 0 rfl) ?_
    obtain ⟨v48, st46, hr47, hf⟩ := bd_2 hf
    refine w_V1 X (TX6_valueOf l hj1 hr47) hP hS rfl KX6_valueOf ml_X6_173 ⟨rfl, rfl⟩ ⟨by decide, by decide⟩ (x_recv (E := fun c i => (ECf cyI cyF cyM mo la) (st43.1 c i) st43.2 c i) (c0 := 6) (i0 := 0) X.2.2.1 hP rfl (ci := 6) rfl rfl) rfl hl.1 (Nat.le_of_ble_eq_true rfl) dX6_carryOut_200 (fun H locs hP hS => ?_)
    refine lv_icmp_ge (tgt := 345) hx hb dX6_carryOut_203 (by decide) (fun c49 => ?_) (fun c49 => ?_)
    · replace hf := (if_pos c49).symm.trans hf
      obtain rfl := Option.some.inj hf
      exact w_vret X hr hlk hP hS dX6_carryOut_345
    · replace hf := (if_neg c49).symm.trans hf
      refine lv_aload_n hx hb dX6_carryOut_206 rfl (lv_at hl 3 rfl) ?_
      refine lv_aload_n hx hb dX6_carryOut_207 rfl (lv_at hl 4 rfl) ?_
      refine lv_aload_n hx hb dX6_carryOut_208 rfl (lv_at hl 3 rfl) ?_
      refine gC_Runner_rows X hP fl_X6_36 dX6_carryOut_209 ?_
      refine lv_aload_n hx hb dX6_carryOut_212 rfl (lv_at hl 3 rfl) ?_
      refine gC_Runner_base X hP fl_X6_163 dX6_carryOut_213 ?_
      refine lv_iconst (v := 3) hx hb dX6_carryOut_216 (by decide) ?_
      refine lv_iadd hx hb dX6_carryOut_217 ?_
      obtain ⟨hn50, hf⟩ := ck_of hf
      refine w_iald X hP (c0 := (rwC (st46.2 2 0))) (i0 := (rwI mo (st46.2 2 0))) (VC_rw mo _) (n := (rwN (st46.2 2 0))) (ECf_rw _ _ _) hn50 dX6_carryOut_218 ?_
      refine lv_topi (fun x51 ex => ?_)
      replace hf := nm_of hf ex
      clear ex
      obtain ⟨st52, hr53, hf⟩ := bd_of hf
      refine w_V0 X (TX6_jump l hj1 hr53) hP hS rfl KX6_jump ml_X6_190 ⟨rfl, rfl⟩ ⟨by decide, by decide⟩ (x_recv (E := fun c i => (ECf cyI cyF cyM mo la) (st46.1 c i) st46.2 c i) (c0 := 6) (i0 := 0) X.2.2.1 hP rfl (ci := 6) rfl rfl) rfl hl.1 (Nat.le_of_ble_eq_true rfl) dX6_carryOut_219 (fun H locs hP hS => ?_)
      refine lv_goto (tgt := 345) hx hb dX6_carryOut_222 (by decide) ?_
      obtain rfl := Option.some.inj hf
      exact w_vret X hr hlk hP hS dX6_carryOut_345
  replace hf := (if_neg c42).symm.trans hf
  by_cases c54 : x2 = (11 : Int32)
  · replace hf := (if_pos c54).symm.trans hf
    refine w_stk (st1 := .int (11 : Int32) :: _) (by rw [c54]) ?_
    refine lv_tableIn (off := 189) (tgt := 225) hx hb dX6_carryOut_36 (by decide) (by decide) (by decide) (by decide) ?_
    refine lv_aload_n hx hb dX6_carryOut_225 rfl (lv_at hl 3 rfl) ?_
    refine lv_aload_n hx hb dX6_carryOut_226 rfl (lv_at hl 4 rfl) ?_
    refine lv_iload_n hx hb dX6_carryOut_227 rfl (lv_at hl 1 rfl) ?_
    obtain ⟨v57, st55, hr56, hf⟩ := bd_2 hf
    refine w_V1 X (TX6_valueOf l hj1 hr56) hP hS rfl KX6_valueOf ml_X6_173 ⟨rfl, rfl⟩ ⟨by decide, by decide⟩ (x_recv (E := fun c i => (ECf cyI cyF cyM mo la) (st.1 c i) st.2 c i) (c0 := 6) (i0 := 0) X.2.2.1 hP rfl (ci := 6) rfl rfl) rfl hl.1 (Nat.le_of_ble_eq_true rfl) dX6_carryOut_228 (fun H locs hP hS => ?_)
    refine lv_aload_n hx hb dX6_carryOut_231 rfl (lv_at hl 3 rfl) ?_
    refine lv_aload_n hx hb dX6_carryOut_232 rfl (lv_at hl 4 rfl) ?_
    refine lv_iload hx hb dX6_carryOut_233 (lv_at hl 0 rfl) ?_
    obtain ⟨v60, st58, hr59, hf⟩ := bd_2 hf
    refine w_V1 X (TX6_valueOf l hj1 hr59) hP hS rfl KX6_valueOf ml_X6_173 ⟨rfl, rfl⟩ ⟨by decide, by decide⟩ (x_recv (E := fun c i => (ECf cyI cyF cyM mo la) (st55.1 c i) st55.2 c i) (c0 := 6) (i0 := 0) X.2.2.1 hP rfl (ci := 6) rfl rfl) rfl hl.1 (Nat.le_of_ble_eq_true rfl) dX6_carryOut_235 (fun H locs hP hS => ?_)
    refine lv_icmp_ne (tgt := 345) hx hb dX6_carryOut_238 (by decide) (fun c61 => ?_) (fun c61 => ?_)
    · replace hf := (if_neg c61).symm.trans hf
      obtain rfl := Option.some.inj hf
      exact w_vret X hr hlk hP hS dX6_carryOut_345
    · replace hf := (if_pos c61).symm.trans hf
      refine lv_aload_n hx hb dX6_carryOut_241 rfl (lv_at hl 3 rfl) ?_
      refine lv_aload_n hx hb dX6_carryOut_242 rfl (lv_at hl 4 rfl) ?_
      refine lv_aload_n hx hb dX6_carryOut_243 rfl (lv_at hl 3 rfl) ?_
      refine gC_Runner_rows X hP fl_X6_36 dX6_carryOut_244 ?_
      refine lv_aload_n hx hb dX6_carryOut_247 rfl (lv_at hl 3 rfl) ?_
      refine gC_Runner_base X hP fl_X6_163 dX6_carryOut_248 ?_
      refine lv_iconst (v := 3) hx hb dX6_carryOut_251 (by decide) ?_
      refine lv_iadd hx hb dX6_carryOut_252 ?_
      obtain ⟨hn62, hf⟩ := ck_of hf
      refine w_iald X hP (c0 := (rwC (st58.2 2 0))) (i0 := (rwI mo (st58.2 2 0))) (VC_rw mo _) (n := (rwN (st58.2 2 0))) (ECf_rw _ _ _) hn62 dX6_carryOut_253 ?_
      refine lv_topi (fun x63 ex => ?_)
      replace hf := nm_of hf ex
      clear ex
      obtain ⟨st64, hr65, hf⟩ := bd_of hf
      refine w_V0 X (TX6_jump l hj1 hr65) hP hS rfl KX6_jump ml_X6_190 ⟨rfl, rfl⟩ ⟨by decide, by decide⟩ (x_recv (E := fun c i => (ECf cyI cyF cyM mo la) (st58.1 c i) st58.2 c i) (c0 := 6) (i0 := 0) X.2.2.1 hP rfl (ci := 6) rfl rfl) rfl hl.1 (Nat.le_of_ble_eq_true rfl) dX6_carryOut_254 (fun H locs hP hS => ?_)
      refine lv_goto (tgt := 345) hx hb dX6_carryOut_257 (by decide) ?_
      obtain rfl := Option.some.inj hf
      exact w_vret X hr hlk hP hS dX6_carryOut_345
  replace hf := (if_neg c54).symm.trans hf
  by_cases c66 : x2 = (12 : Int32)
  · replace hf := (if_pos c66).symm.trans hf
    refine w_stk (st1 := .int (12 : Int32) :: _) (by rw [c66]) ?_
    refine lv_tableIn (off := 224) (tgt := 260) hx hb dX6_carryOut_36 (by decide) (by decide) (by decide) (by decide) ?_
    refine lv_aload_n hx hb dX6_carryOut_260 rfl (lv_at hl 3 rfl) ?_
    refine lv_aload_n hx hb dX6_carryOut_261 rfl (lv_at hl 4 rfl) ?_
    obtain ⟨st67, hr68, hf⟩ := bd_of hf
    refine w_V0 X (TX6_handOver l hj1 hr68) hP hS rfl KX6_handOver ml_X6_194 ⟨rfl, rfl⟩ ⟨by decide, by decide⟩ (x_recv (E := fun c i => (ECf cyI cyF cyM mo la) (st.1 c i) st.2 c i) (c0 := 6) (i0 := 0) X.2.2.1 hP rfl (ci := 6) rfl rfl) rfl hl.1 (Nat.le_of_ble_eq_true rfl) dX6_carryOut_262 (fun H locs hP hS => ?_)
    refine lv_aload_n hx hb dX6_carryOut_265 rfl (lv_at hl 3 rfl) ?_
    refine lv_aload_n hx hb dX6_carryOut_266 rfl (lv_at hl 3 rfl) ?_
    refine lv_aload_n hx hb dX6_carryOut_267 rfl (lv_at hl 4 rfl) ?_
    refine lv_iload hx hb dX6_carryOut_268 (lv_at hl 0 rfl) ?_
    obtain ⟨v71, st69, hr70, hf⟩ := bd_2 hf
    refine w_V1 X (TX6_valueOf l hj1 hr70) hP hS rfl KX6_valueOf ml_X6_173 ⟨rfl, rfl⟩ ⟨by decide, by decide⟩ (x_recv (E := fun c i => (ECf cyI cyF cyM mo la) (st67.1 c i) st67.2 c i) (c0 := 6) (i0 := 0) X.2.2.1 hP rfl (ci := 6) rfl rfl) rfl hl.1 (Nat.le_of_ble_eq_true rfl) dX6_carryOut_270 (fun H locs hP hS => ?_)
    obtain ⟨v74, st72, hr73, hf⟩ := bd_2 hf
    refine w_S1 X (TX6_addressFor l hr73) hP hS rfl KX6_addressFor ml_X6_197 ⟨rfl, rfl⟩ ⟨by decide, by decide⟩ rfl hl.1 (Nat.le_of_ble_eq_true rfl) dX6_carryOut_273 (fun H locs hP hS => ?_)
    refine lv_aload_n hx hb dX6_carryOut_276 rfl (lv_at hl 3 rfl) ?_
    refine gC_Runner_rows X hP fl_X6_36 dX6_carryOut_277 ?_
    refine lv_aload_n hx hb dX6_carryOut_280 rfl (lv_at hl 3 rfl) ?_
    refine gC_Runner_base X hP fl_X6_163 dX6_carryOut_281 ?_
    refine lv_iconst (v := 3) hx hb dX6_carryOut_284 (by decide) ?_
    refine lv_iadd hx hb dX6_carryOut_285 ?_
    obtain ⟨hn75, hf⟩ := ck_of hf
    refine w_iald X hP (c0 := (rwC (st72.2 2 0))) (i0 := (rwI mo (st72.2 2 0))) (VC_rw mo _) (n := (rwN (st72.2 2 0))) (ECf_rw _ _ _) hn75 dX6_carryOut_286 ?_
    refine lv_topi (fun x76 ex => ?_)
    replace hf := nm_of hf ex
    clear ex
    obtain ⟨st77, hr78, hf⟩ := bd_of hf
    refine w_V0 X (TX6_enter l hr78) hP hS rfl KX6_enter ml_X6_74 ⟨rfl, rfl⟩ ⟨by decide, by decide⟩ (x_recv (E := fun c i => (ECf cyI cyF cyM mo la) (st72.1 c i) st72.2 c i) (c0 := 6) (i0 := 0) X.2.2.1 hP rfl (ci := 6) rfl rfl) rfl hl.1 (Nat.le_of_ble_eq_true rfl) dX6_carryOut_287 (fun H locs hP hS => ?_)
    refine lv_goto (tgt := 345) hx hb dX6_carryOut_290 (by decide) ?_
    obtain rfl := Option.some.inj hf
    exact w_vret X hr hlk hP hS dX6_carryOut_345
  replace hf := (if_neg c66).symm.trans hf
  by_cases c79 : x2 = (13 : Int32)
  · replace hf := (if_pos c79).symm.trans hf
    refine w_stk (st1 := .int (13 : Int32) :: _) (by rw [c79]) ?_
    refine lv_tableIn (off := 257) (tgt := 293) hx hb dX6_carryOut_36 (by decide) (by decide) (by decide) (by decide) ?_
    refine lv_aload_n hx hb dX6_carryOut_293 rfl (lv_at hl 3 rfl) ?_
    refine lv_aload_n hx hb dX6_carryOut_294 rfl (lv_at hl 3 rfl) ?_
    refine lv_aload_n hx hb dX6_carryOut_295 rfl (lv_at hl 4 rfl) ?_
    refine lv_iload_n hx hb dX6_carryOut_296 rfl (lv_at hl 1 rfl) ?_
    obtain ⟨v82, st80, hr81, hf⟩ := bd_2 hf
    refine w_V1 X (TX6_valueOf l hj1 hr81) hP hS rfl KX6_valueOf ml_X6_173 ⟨rfl, rfl⟩ ⟨by decide, by decide⟩ (x_recv (E := fun c i => (ECf cyI cyF cyM mo la) (st.1 c i) st.2 c i) (c0 := 6) (i0 := 0) X.2.2.1 hP rfl (ci := 6) rfl rfl) rfl hl.1 (Nat.le_of_ble_eq_true rfl) dX6_carryOut_297 (fun H locs hP hS => ?_)
    obtain ⟨st83, hr84, hf⟩ := bd_of hf
    refine w_V0 X (TX6_throwOut l hr84) hP hS rfl KX6_throwOut ml_X6_200 ⟨rfl, rfl⟩ ⟨by decide, by decide⟩ (x_recv (E := fun c i => (ECf cyI cyF cyM mo la) (st80.1 c i) st80.2 c i) (c0 := 6) (i0 := 0) X.2.2.1 hP rfl (ci := 6) rfl rfl) rfl hl.1 (Nat.le_of_ble_eq_true rfl) dX6_carryOut_300 (fun H locs hP hS => ?_)
    refine lv_goto (tgt := 345) hx hb dX6_carryOut_303 (by decide) ?_
    obtain rfl := Option.some.inj hf
    exact w_vret X hr hlk hP hS dX6_carryOut_345
  replace hf := (if_neg c79).symm.trans hf
  by_cases c85 : x2 = (14 : Int32)
  · replace hf := (if_pos c85).symm.trans hf
    refine w_stk (st1 := .int (14 : Int32) :: _) (by rw [c85]) ?_
    refine lv_tableIn (off := 270) (tgt := 306) hx hb dX6_carryOut_36 (by decide) (by decide) (by decide) (by decide) ?_
    refine lv_aload_n hx hb dX6_carryOut_306 rfl (lv_at hl 4 rfl) ?_
    refine lv_iload_n hx hb dX6_carryOut_307 rfl (lv_at hl 1 rfl) ?_
    refine pC_Frame_catchAt X hP hS hj1 fl_X6_203 dX6_carryOut_308 (fun H locs hP hS => ?_)
    obtain ⟨st86, hP, hf⟩ := nm_gen (P := fun z => HW D (VC mo) la (ECf cyI cyF cyM mo la) z H) hP hf
    refine lv_aload_n hx hb dX6_carryOut_311 rfl (lv_at hl 4 rfl) ?_
    refine lv_aload_n hx hb dX6_carryOut_312 rfl (lv_at hl 3 rfl) ?_
    refine gC_Runner_rows X hP fl_X6_36 dX6_carryOut_313 ?_
    refine lv_aload_n hx hb dX6_carryOut_316 rfl (lv_at hl 3 rfl) ?_
    refine gC_Runner_base X hP fl_X6_163 dX6_carryOut_317 ?_
    refine lv_bipush (v := 10) hx hb dX6_carryOut_320 (by decide) ?_
    refine lv_iadd hx hb dX6_carryOut_322 ?_
    obtain ⟨hn87, hf⟩ := ck_of hf
    refine w_iald X hP (c0 := (rwC (st86.2 2 0))) (i0 := (rwI mo (st86.2 2 0))) (VC_rw mo _) (n := (rwN (st86.2 2 0))) (ECf_rw _ _ _) hn87 dX6_carryOut_323 ?_
    refine lv_topi (fun x88 ex => ?_)
    replace hf := nm_of hf ex
    clear ex
    refine pC_Frame_catchRow X hP hS hj1 fl_X6_206 dX6_carryOut_324 (fun H locs hP hS => ?_)
    obtain ⟨st89, hP, hf⟩ := nm_gen (P := fun z => HW D (VC mo) la (ECf cyI cyF cyM mo la) z H) hP hf
    refine lv_goto (tgt := 345) hx hb dX6_carryOut_327 (by decide) ?_
    obtain rfl := Option.some.inj hf
    exact w_vret X hr hlk hP hS dX6_carryOut_345
  replace hf := (if_neg c85).symm.trans hf
  by_cases c90 : x2 = (15 : Int32)
  · replace hf := (if_pos c90).symm.trans hf
    refine w_stk (st1 := .int (15 : Int32) :: _) (by rw [c90]) ?_
    refine lv_tableIn (off := 294) (tgt := 330) hx hb dX6_carryOut_36 (by decide) (by decide) (by decide) (by decide) ?_
    refine lv_aload_n hx hb dX6_carryOut_330 rfl (lv_at hl 3 rfl) ?_
    refine lv_iconst (v := 0) hx hb dX6_carryOut_331 (by decide) ?_
    obtain ⟨st91, hr92, hf⟩ := bd_of hf
    refine w_V0 X (TX6_leave l hr92) hP hS rfl KX6_leave ml_X6_177 ⟨rfl, rfl⟩ ⟨by decide, by decide⟩ (x_recv (E := fun c i => (ECf cyI cyF cyM mo la) (st.1 c i) st.2 c i) (c0 := 6) (i0 := 0) X.2.2.1 hP rfl (ci := 6) rfl rfl) rfl hl.1 (Nat.le_of_ble_eq_true rfl) dX6_carryOut_332 (fun H locs hP hS => ?_)
    refine lv_goto (tgt := 345) hx hb dX6_carryOut_335 (by decide) ?_
    obtain rfl := Option.some.inj hf
    exact w_vret X hr hlk hP hS dX6_carryOut_345
  replace hf := (if_neg c90).symm.trans hf
  have gc7 := lv_neT c7 (show ((0 : Int32)).toInt = 0 by decide)
  have gc13 := lv_neT c13 (show ((1 : Int32)).toInt = 1 by decide)
  have gc19 := lv_neT c19 (show ((2 : Int32)).toInt = 2 by decide)
  have gc20 := lv_neT c20 (show ((3 : Int32)).toInt = 3 by decide)
  have gc21 := lv_neT c21 (show ((4 : Int32)).toInt = 4 by decide)
  have gc22 := lv_neT c22 (show ((5 : Int32)).toInt = 5 by decide)
  have gc23 := lv_neT c23 (show ((6 : Int32)).toInt = 6 by decide)
  have gc24 := lv_neT c24 (show ((7 : Int32)).toInt = 7 by decide)
  have gc30 := lv_neT c30 (show ((8 : Int32)).toInt = 8 by decide)
  have gc39 := lv_neT c39 (show ((9 : Int32)).toInt = 9 by decide)
  have gc42 := lv_neT c42 (show ((10 : Int32)).toInt = 10 by decide)
  have gc54 := lv_neT c54 (show ((11 : Int32)).toInt = 11 by decide)
  have gc66 := lv_neT c66 (show ((12 : Int32)).toInt = 12 by decide)
  have gc79 := lv_neT c79 (show ((13 : Int32)).toInt = 13 by decide)
  have gc85 := lv_neT c85 (show ((14 : Int32)).toInt = 14 by decide)
  have gc90 := lv_neT c90 (show ((15 : Int32)).toInt = 15 by decide)
  refine lv_tableOut (tgt := 338) hx hb dX6_carryOut_36 (by omega) (by decide) ?_
  clear gc7 gc13 gc19 gc20 gc21 gc22 gc23 gc24 gc30 gc39 gc42 gc54 gc66 gc79 gc85 gc90
  exact BX6_carryOut_338 X hr hlk _ _ _ _ _ _ _ hj1 hf hP hS (lv_sub hl [3, 4, 2, 1] rfl)
theorem KX6_carryOut : xKv yX6_carryOut cX6_carryOut 5 none RX6 1 := ⟨cd_X6_carryOut, im_X6_carryOut, se_X6_carryOut, in_X6, by decide +kernel⟩
