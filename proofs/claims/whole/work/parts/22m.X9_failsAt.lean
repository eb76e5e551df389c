abbrev rm_X9_failsAt : Room := { frames := 3, cells := 0, slots := 0, locals := 69 }
def fX9_failsAt_b163 (N : Nat) (k11 : Int32 → Int32 → Int32 → xSt → Option (Int32 × xSt)) (a1 : Int32) (as0 : Int32) (st : xSt) : Option (Int32 × xSt) := nm (st.1 9 0 21) (fun x34 => k11 a1 x34 as0 st)
set_option maxHeartbeats 4000000 in
set_option maxRecDepth 100000 in
theorem BX9_failsAt_163 {p : Program} {l : Launch} {e : Env} {s : State} {m : MethodId} {args : Array Value} {below : List Frame} {meth : Method} {c : Code} {D : va_G} {la : Nat → Nat → Nat} {cyI cyF cyM : ClassId} {t0 N : Nat} {k11 : Int32 → Int32 → Int32 → xSt → Option (Int32 × xSt)} {r : Int32} {st' : xSt} (X : xCx D VM la cyI cyF cyM t0 p m c cX9_failsAt 7 s args RX9) (hr : meth.sig.returnType = (some .int)) (hlk : meth.locks = false) (hk11 : ∀ (a1 : Int32) (a2 : Int32) (a3 : Int32) (st : xSt) (H : Heap) (locs : List Loc) (ls : Array Slot), k11 a1 a2 a3 st = some (r, st') → HW D VM la (EMf cyI la) st H → va_S (xA VM la) s.heap H locs → lv_has ls 7 [(0, .ref (la 9 0)), (1, .int a1), (2, .int a2), (3, .int a3)] → W p l e rm_X9_failsAt s m args below meth c H locs 0 0 (MQ below (xQc D VM la (EMf cyI la) (some (.int r)) st') args s 0 0 (xA VM la)) (F0 m 11 ls [])) : ∀ (a1 : Int32) (as0 : Int32) (st : xSt) (H : Heap) (locs : List Loc) (ls : Array Slot), fX9_failsAt_b163 N k11 a1 as0 st = some (r, st') → HW D VM la (EMf cyI la) st H → va_S (xA VM la) s.heap H locs → lv_has ls 7 [(0, .ref (la 9 0)), (1, .int a1)] → W p l e rm_X9_failsAt s m args below meth c H locs 0 0 (MQ below (xQc D VM la (EMf cyI la) (some (.int r)) st') args s 0 0 (xA VM la)) (F0 m 163 ls [.int as0]) := by
  have hx := X.1.1
  have hb := X.1.2.1
  intro a1 as0 st H locs ls hf hP hS hl
  unfold fX9_failsAt_b163 at hf
  refine lv_istore_n (lv' := [(3, .int as0), (0, .ref (la 9 0)), (1, .int a1)]) hx hb dX9_failsAt_163 rfl hl (by decide) rfl (fun ls hl => ?_)
  refine lv_aload_n hx hb dX9_failsAt_164 rfl (lv_at hl 1 rfl) ?_
  refine gM_behind X hP fl_X9_104 dX9_failsAt_165 ?_
  refine lv_topi (fun x34 ex => ?_)
  replace hf := nm_of hf ex
  clear ex
  refine lv_istore_n (lv' := [(2, .int x34), (3, .int as0), (0, .ref (la 9 0)), (1, .int a1)]) hx hb dX9_failsAt_168 rfl hl (by decide) rfl (fun ls hl => ?_)
  refine lv_goto (tgt := 11) hx hb dX9_failsAt_169 (by decide) ?_
  exact hk11 _ _ _ _ _ _ _  hf hP hS (lv_sub hl [2, 3, 0, 1] rfl)
def fX9_failsAt_b138 (N : Nat) (k11 : Int32 → Int32 → Int32 → xSt → Option (Int32 × xSt)) (a1 : Int32) (as0 : Int32) (as1 : Int32) (st : xSt) : Option (Int32 × xSt) := if as1 < 0 ∨ 61 ≤ (as1).toNatClampNeg then none else nm (pI st 30 26 (as1).toNatClampNeg as0) (fun st30 => nm (pI st30 9 0 27 ((st30.1 9 0 27) + (1 : Int32))) (fun st31 => if (st31.1 9 0 19) = (15 : Int32) then fX9_failsAt_b163 N k11 a1 (1 : Int32) st31 else fX9_failsAt_b163 N k11 a1 (0 : Int32) st31))
set_option maxHeartbeats 4000000 in
set_option maxRecDepth 100000 in
theorem BX9_failsAt_138 {p : Program} {l : Launch} {e : Env} {s : State} {m : MethodId} {args : Array Value} {below : List Frame} {meth : Method} {c : Code} {D : va_G} {la : Nat → Nat → Nat} {cyI cyF cyM : ClassId} {t0 N : Nat} {k11 : Int32 → Int32 → Int32 → xSt → Option (Int32 × xSt)} {r : Int32} {st' : xSt} (X : xCx D VM la cyI cyF cyM t0 p m c cX9_failsAt 7 s args RX9) (hr : meth.sig.returnType = (some .int)) (hlk : meth.locks = false) (hk11 : ∀ (a1 : Int32) (a2 : Int32) (a3 : Int32) (st : xSt) (H : Heap) (locs : List Loc) (ls : Array Slot), k11 a1 a2 a3 st = some (r, st') → HW D VM la (EMf cyI la) st H → va_S (xA VM la) s.heap H locs → lv_has ls 7 [(0, .ref (la 9 0)), (1, .int a1), (2, .int a2), (3, .int a3)] → W p l e rm_X9_failsAt s m args below meth c H locs 0 0 (MQ below (xQc D VM la (EMf cyI la) (some (.int r)) st') args s 0 0 (xA VM la)) (F0 m 11 ls [])) : ∀ (a1 : Int32) (as0 : Int32) (as1 : Int32) (st : xSt) (H : Heap) (locs : List Loc) (ls : Array Slot), fX9_failsAt_b138 N k11 a1 as0 as1 st = some (r, st') → HW D VM la (EMf cyI la) st H → va_S (xA VM la) s.heap H locs → lv_has ls 7 [(0, .ref (la 9 0)), (1, .int a1)] → W p l e rm_X9_failsAt s m args below meth c H locs 0 0 (MQ below (xQc D VM la (EMf cyI la) (some (.int r)) st') args s 0 0 (xA VM la)) (F0 m 138 ls [.int as0, .int as1, .ref (la 30 26)]) := by
  have hx := X.1.1
  have hb := X.1.2.1
  intro a1 as0 as1 st H locs ls hf hP hS hl
  unfold fX9_failsAt_b138 at hf
  obtain ⟨hn29, hf⟩ := ck_of hf
  refine w_iast X hP hS (c0 := 30) (i0 := 26) (show 0 < lenM 26 by decide) (n := 61) (fun _ => rfl) hn29 dX9_failsAt_138 (fun H locs hP hS => ?_)
  obtain ⟨st30, hP, hf⟩ := nm_gen (P := fun z => HW D VM la (EMf cyI la) z H) hP hf
  refine lv_aload_n hx hb dX9_failsAt_139 rfl (lv_at hl 0 rfl) ?_
  refine lv_dup hx hb dX9_failsAt_140 rfl ?_
  refine gM_many X hP fl_X9_133 dX9_failsAt_141 ?_
  refine lv_iconst (v := 1) hx hb dX9_failsAt_144 (by decide) ?_
  refine lv_iadd hx hb dX9_failsAt_145 ?_
  refine pM_many X hP hS fl_X9_133 dX9_failsAt_146 (fun H locs hP hS => ?_)
  obtain ⟨st31, hP, hf⟩ := nm_gen (P := fun z => HW D VM la (EMf cyI la) z H) hP hf
  refine lv_aload_n hx hb dX9_failsAt_149 rfl (lv_at hl 0 rfl) ?_
  refine gM_code X hP fl_X9_127 dX9_failsAt_150 ?_
  refine lv_bipush (v := 15) hx hb dX9_failsAt_153 (by decide) ?_
  refine lv_icmp_ne (tgt := 162) hx hb dX9_failsAt_155 (by decide) (fun c32 => ?_) (fun c32 => ?_)
  · replace hf := (if_neg c32).symm.trans hf
    refine lv_iconst (v := 0) hx hb dX9_failsAt_162 (by decide) ?_
    exact BX9_failsAt_163 X hr hlk hk11 _ _ _ _ _ _  hf hP hS (lv_sub hl [0, 1] rfl)
  · replace hf := (if_pos c32).symm.trans hf
    refine lv_iconst (v := 1) hx hb dX9_failsAt_158 (by decide) ?_
    refine lv_goto (tgt := 163) hx hb dX9_failsAt_159 (by decide) ?_
    exact BX9_failsAt_163 X hr hlk hk11 _ _ _ _ _ _  hf hP hS (lv_sub hl [0, 1] rfl)
def fX9_failsAt_b108 (N : Nat) (k11 : Int32 → Int32 → Int32 → xSt → Option (Int32 × xSt)) (a1 : Int32) (as0 : Int32) (st : xSt) : Option (Int32 × xSt) := if as0 = (0 : Int32) then fX9_failsAt_b138 N k11 a1 (-1 : Int32) (st.1 9 0 27) st else if ((st.1 9 0 23) - (1 : Int32)) < 0 ∨ 8 ≤ (((st.1 9 0 23) - (1 : Int32))).toNatClampNeg then none else fX9_failsAt_b138 N k11 a1 (st.1 30 22 (((st.1 9 0 23) - (1 : Int32))).toNatClampNeg) (st.1 9 0 27) st
set_option maxHeartbeats 4000000 in
set_option maxRecDepth 100000 in
theorem BX9_failsAt_108 {p : Program} {l : Launch} {e : Env} {s : State} {m : MethodId} {args : Array Value} {below : List Frame} {meth : Method} {c : Code} {D : va_G} {la : Nat → Nat → Nat} {cyI cyF cyM : ClassId} {t0 N : Nat} {k11 : Int32 → Int32 → Int32 → xSt → Option (Int32 × xSt)} {r : Int32} {st' : xSt} (X : xCx D VM la cyI cyF cyM t0 p m c cX9_failsAt 7 s args RX9) (hr : meth.sig.returnType = (some .int)) (hlk : meth.locks = false) (hk11 : ∀ (a1 : Int32) (a2 : Int32) (a3 : Int32) (st : xSt) (H : Heap) (locs : List Loc) (ls : Array Slot), k11 a1 a2 a3 st = some (r, st') → HW D VM la (EMf cyI la) st H → va_S (xA VM la) s.heap H locs → lv_has ls 7 [(0, .ref (la 9 0)), (1, .int a1), (2, .int a2), (3, .int a3)] → W p l e rm_X9_failsAt s m args below meth c H locs 0 0 (MQ below (xQc D VM la (EMf cyI la) (some (.int r)) st') args s 0 0 (xA VM la)) (F0 m 11 ls [])) : ∀ (a1 : Int32) (as0 : Int32) (st : xSt) (H : Heap) (locs : List Loc) (ls : Array Slot), fX9_failsAt_b108 N k11 a1 as0 st = some (r, st') → HW D VM la (EMf cyI la) st H → va_S (xA VM la) s.heap H locs → lv_has ls 7 [(0, .ref (la 9 0)), (1, .int a1)] → W p l e rm_X9_failsAt s m args below meth c H locs 0 0 (MQ below (xQc D VM la (EMf cyI la) (some (.int r)) st') args s 0 0 (xA VM la)) (F0 m 108 ls [.int as0]) := by
  have hx := X.1.1
  have hb := X.1.2.1
  intro a1 as0 st H locs ls hf hP hS hl
  unfold fX9_failsAt_b108 at hf
  refine lv_istore (lv' := [(4, .int as0), (0, .ref (la 9 0)), (1, .int a1)]) hx hb dX9_failsAt_108 hl (by decide) rfl (fun ls hl => ?_)
  refine lv_aload_n hx hb dX9_failsAt_110 rfl (lv_at hl 1 rfl) ?_
  refine gM_targets X hP fl_X9_41 dX9_failsAt_111 ?_
  refine lv_aload_n hx hb dX9_failsAt_114 rfl (lv_at hl 1 rfl) ?_
  refine gM_many X hP fl_X9_133 dX9_failsAt_115 ?_
  refine lv_iload hx hb dX9_failsAt_118 (lv_at hl 0 rfl) ?_
  refine lv_if_eq (tgt := 137) hx hb dX9_failsAt_120 (by decide) (fun c19 => ?_) (fun c19 => ?_)
  · replace hf := (if_pos c19).symm.trans hf
    refine lv_iconst (v := -1) hx hb dX9_failsAt_137 (by decide) ?_
    exact BX9_failsAt_138 X hr hlk hk11 _ _ _ _ _ _ _  hf hP hS (lv_sub hl [1, 2] rfl)
  · replace hf := (if_neg c19).symm.trans hf
    refine lv_aload_n hx hb dX9_failsAt_123 rfl (lv_at hl 1 rfl) ?_
    refine gM_operand X hP fl_X9_35 dX9_failsAt_124 ?_
    refine lv_aload_n hx hb dX9_failsAt_127 rfl (lv_at hl 1 rfl) ?_
    refine gM_operands X hP fl_X9_124 dX9_failsAt_128 ?_
    refine lv_iconst (v := 1) hx hb dX9_failsAt_131 (by decide) ?_
    refine lv_isub hx hb dX9_failsAt_132 ?_
    obtain ⟨hn20, hf⟩ := ck_of hf
    refine w_iald X hP (c0 := 30) (i0 := 22) (show 0 < lenM 22 by decide) (n := 8) rfl hn20 dX9_failsAt_133 ?_
    refine lv_goto (tgt := 138) hx hb dX9_failsAt_134 (by decide) ?_
    exact BX9_failsAt_138 X hr hlk hk11 _ _ _ _ _ _ _  hf hP hS (lv_sub hl [1, 2] rfl)
def fX9_failsAt_b103 (N : Nat) (k11 : Int32 → Int32 → Int32 → xSt → Option (Int32 × xSt)) (a1 : Int32) (st : xSt) : Option (Int32 × xSt) := fX9_failsAt_b108 N k11 a1 (1 : Int32) st
set_option maxHeartbeats 4000000 in
set_option maxRecDepth 100000 in
theorem BX9_failsAt_103 {p : Program} {l : Launch} {e : Env} {s : State} {m : MethodId} {args : Array Value} {below : List Frame} {meth : Method} {c : Code} {D : va_G} {la : Nat → Nat → Nat} {cyI cyF cyM : ClassId} {t0 N : Nat} {k11 : Int32 → Int32 → Int32 → xSt → Option (Int32 × xSt)} {r : Int32} {st' : xSt} (X : xCx D VM la cyI cyF cyM t0 p m c cX9_failsAt 7 s args RX9) (hr : meth.sig.returnType = (some .int)) (hlk : meth.locks = false) (hk11 : ∀ (a1 : Int32) (a2 : Int32) (a3 : Int32) (st : xSt) (H : Heap) (locs : List Loc) (ls : Array Slot), k11 a1 a2 a3 st = some (r, st') → HW D VM la (EMf cyI la) st H → va_S (xA VM la) s.heap H locs → lv_has ls 7 [(0, .ref (la 9 0)), (1, .int a1), (2, .int a2), (3, .int a3)] → W p l e rm_X9_failsAt s m args below meth c H locs 0 0 (MQ below (xQc D VM la (EMf cyI la) (some (.int r)) st') args s 0 0 (xA VM la)) (F0 m 11 ls [])) : ∀ (a1 : Int32) (st : xSt) (H : Heap) (locs : List Loc) (ls : Array Slot), fX9_failsAt_b103 N k11 a1 st = some (r, st') → HW D VM la (EMf cyI la) st H → va_S (xA VM la) s.heap H locs → lv_has ls 7 [(0, .ref (la 9 0)), (1, .int a1)] → W p l e rm_X9_failsAt s m args below meth c H locs 0 0 (MQ below (xQc D VM la (EMf cyI la) (some (.int r)) st') args s 0 0 (xA VM la)) (F0 m 103 ls []) := by
  have hx := X.1.1
  have hb := X.1.2.1
  intro a1 st H locs ls hf hP hS hl
  unfold fX9_failsAt_b103 at hf
  refine lv_iconst (v := 1) hx hb dX9_failsAt_103 (by decide) ?_
  refine lv_goto (tgt := 108) hx hb dX9_failsAt_104 (by decide) ?_
  exact BX9_failsAt_108 X hr hlk hk11 _ _ _ _ _ _  hf hP hS (lv_sub hl [0, 1] rfl)
def fX9_failsAt_b107 (N : Nat) (k11 : Int32 → Int32 → Int32 → xSt → Option (Int32 × xSt)) (a1 : Int32) (st : xSt) : Option (Int32 × xSt) := fX9_failsAt_b108 N k11 a1 (0 : Int32) st
set_option maxHeartbeats 4000000 in
set_option maxRecDepth 100000 in
theorem BX9_failsAt_107 {p : Program} {l : Launch} {e : Env} {s : State} {m : MethodId} {args : Array Value} {below : List Frame} {meth : Method} {c : Code} {D : va_G} {la : Nat → Nat → Nat} {cyI cyF cyM : ClassId} {t0 N : Nat} {k11 : Int32 → Int32 → Int32 → xSt → Option (Int32 × xSt)} {r : Int32} {st' : xSt} (X : xCx D VM la cyI cyF cyM t0 p m c cX9_failsAt 7 s args RX9) (hr : meth.sig.returnType = (some .int)) (hlk : meth.locks = false) (hk11 : ∀ (a1 : Int32) (a2 : Int32) (a3 : Int32) (st : xSt) (H : Heap) (locs : List Loc) (ls : Array Slot), k11 a1 a2 a3 st = some (r, st') → HW D VM la (EMf cyI la) st H → va_S (xA VM la) s.heap H locs → lv_has ls 7 [(0, .ref (la 9 0)), (1, .int a1), (2, .int a2), (3, .int a3)] → W p l e rm_X9_failsAt s m args below meth c H locs 0 0 (MQ below (xQc D VM la (EMf cyI la) (some (.int r)) st') args s 0 0 (xA VM la)) (F0 m 11 ls [])) : ∀ (a1 : Int32) (st : xSt) (H : Heap) (locs : List Loc) (ls : Array Slot), fX9_failsAt_b107 N k11 a1 st = some (r, st') → HW D VM la (EMf cyI la) st H → va_S (xA VM la) s.heap H locs → lv_has ls 7 [(0, .ref (la 9 0)), (1, .int a1)] → W p l e rm_X9_failsAt s m args below meth c H locs 0 0 (MQ below (xQc D VM la (EMf cyI la) (some (.int r)) st') args s 0 0 (xA VM la)) (F0 m 107 ls []) := by
  have hx := X.1.1
  have hb := X.1.2.1
  intro a1 st H locs ls hf hP hS hl
  unfold fX9_failsAt_b107 at hf
  refine lv_iconst (v := 0) hx hb dX9_failsAt_107 (by decide) ?_
  exact BX9_failsAt_108 X hr hlk hk11 _ _ _ _ _ _  hf hP hS (lv_sub hl [0, 1] rfl)
def fX9_failsAt_b241 (N : Nat) (k175 : Int32 → xSt → Option (Int32 × xSt)) (k205 : Int32 → Int32 → Int32 → xSt → Option (Int32 × xSt)) (a4 : Int32) (a6 : Int32) (as0 : Int32) (st : xSt) : Option (Int32 × xSt) := nm (a6 + (1 : Int32)) (fun x33 => k205 a4 as0 x33 st)
set_option maxHeartbeats 4000000 in
set_option maxRecDepth 100000 in
theorem BX9_failsAt_241 {p : Program} {l : Launch} {e : Env} {s : State} {m : MethodId} {args : Array Value} {below : List Frame} {meth : Method} {c : Code} {D : va_G} {la : Nat → Nat → Nat} {cyI cyF cyM : ClassId} {t0 N : Nat} {k175 : Int32 → xSt → Option (Int32 × xSt)} {k205 : Int32 → Int32 → Int32 → xSt → Option (Int32 × xSt)} {r : Int32} {st' : xSt} (X : xCx D VM la cyI cyF cyM t0 p m c cX9_failsAt 7 s args RX9) (hr : meth.sig.returnType = (some .int)) (hlk : meth.locks = false) (hk175 : ∀ (a4 : Int32) (st : xSt) (H : Heap) (locs : List Loc) (ls : Array Slot), k175 a4 st = some (r, st') → HW D VM la (EMf cyI la) st H → va_S (xA VM la) s.heap H locs → lv_has ls 7 [(0, .ref (la 9 0)), (4, .int a4)] → W p l e rm_X9_failsAt s m args below meth c H locs 0 0 (MQ below (xQc D VM la (EMf cyI la) (some (.int r)) st') args s 0 0 (xA VM la)) (F0 m 175 ls [])) (hk205 : ∀ (a4 : Int32) (a5 : Int32) (a6 : Int32) (st : xSt) (H : Heap) (locs : List Loc) (ls : Array Slot), k205 a4 a5 a6 st = some (r, st') → HW D VM la (EMf cyI la) st H → va_S (xA VM la) s.heap H locs → lv_has ls 7 [(0, .ref (la 9 0)), (4, .int a4), (5, .int a5), (6, .int a6)] → W p l e rm_X9_failsAt s m args below meth c H locs 0 0 (MQ below (xQc D VM la (EMf cyI la) (some (.int r)) st') args s 0 0 (xA VM la)) (F0 m 205 ls [])) : ∀ (a4 : Int32) (a6 : Int32) (as0 : Int32) (st : xSt) (H : Heap) (locs : List Loc) (ls : Array Slot), fX9_failsAt_b241 N k175 k205 a4 a6 as0 st = some (r, st') → HW D VM la (EMf cyI la) st H → va_S (xA VM la) s.heap H locs → lv_has ls 7 [(0, .ref (la 9 0)), (4, .int a4), (6, .int a6)] → W p l e rm_X9_failsAt s m args below meth c H locs 0 0 (MQ below (xQc D VM la (EMf cyI la) (some (.int r)) st') args s 0 0 (xA VM la)) (F0 m 241 ls [.int as0]) := by
  have hx := X.1.1
  have hb := X.1.2.1
  intro a4 a6 as0 st H locs ls hf hP hS hl
  unfold fX9_failsAt_b241 at hf
  refine lv_istore (lv' := [(5, .int as0), (0, .ref (la 9 0)), (4, .int a4), (6, .int a6)]) hx hb dX9_failsAt_241 hl (by decide) rfl (fun ls hl => ?_)
  obtain ⟨x33, ex⟩ : ∃ y : Int32, y = (a6 + (1 : Int32)) := ⟨_, rfl⟩
  replace hf := nm_of hf ex
  refine lv_iinc (v := x33) (lv' := [(6, .int x33), (5, .int as0), (0, .ref (la 9 0)), (4, .int a4)]) hx hb dX9_failsAt_243 hl (k := 3) rfl (by rw [ex]; rfl) (by decide) rfl (fun ls hl => ?_)
  clear ex
  refine lv_goto (tgt := 205) hx hb dX9_failsAt_246 (by decide) ?_
  exact hk205 _ _ _ _ _ _ _  hf hP hS (lv_sub hl [2, 3, 1, 0] rfl)
def fX9_failsAt_b236 (N : Nat) (k175 : Int32 → xSt → Option (Int32 × xSt)) (k205 : Int32 → Int32 → Int32 → xSt → Option (Int32 × xSt)) (a4 : Int32) (a6 : Int32) (st : xSt) : Option (Int32 × xSt) := fX9_failsAt_b241 N k175 k205 a4 a6 (1 : Int32) st
set_option maxHeartbeats 4000000 in
set_option maxRecDepth 100000 in
theorem BX9_failsAt_236 {p : Program} {l : Launch} {e : Env} {s : State} {m : MethodId} {args : Array Value} {below : List Frame} {meth : Method} {c : Code} {D : va_G} {la : Nat → Nat → Nat} {cyI cyF cyM : ClassId} {t0 N : Nat} {k175 : Int32 → xSt → Option (Int32 × xSt)} {k205 : Int32 → Int32 → Int32 → xSt → Option (Int32 × xSt)} {r : Int32} {st' : xSt} (X : xCx D VM la cyI cyF cyM t0 p m c cX9_failsAt 7 s args RX9) (hr : meth.sig.returnType = (some .int)) (hlk : meth.locks = false) (hk175 : ∀ (a4 : Int32) (st : xSt) (H : Heap) (locs : List Loc) (ls : Array Slot), k175 a4 st = some (r, st') → HW D VM la (EMf cyI la) st H → va_S (xA VM la) s.heap H locs → lv_has ls 7 [(0, .ref (la 9 0)), (4, .int a4)] → W p l e rm_X9_failsAt s m args below meth c H locs 0 0 (MQ below (xQc D VM la (EMf cyI la) (some (.int r)) st') args s 0 0 (xA VM la)) (F0 m 175 ls [])) (hk205 : ∀ (a4 : Int32) (a5 : Int32) (a6 : Int32) (st : xSt) (H : Heap) (locs : List Loc) (ls : Array Slot), k205 a4 a5 a6 st = some (r, st') → HW D VM la (EMf cyI la) st H → va_S (xA VM la) s.heap H locs → lv_has ls 7 [(0, .ref (la 9 0)), (4, .int a4), (5, .int a5), (6, .int a6)] → W p l e rm_X9_failsAt s m args below meth c H locs 0 0 (MQ below (xQc D VM la (EMf cyI la) (some (.int r)) st') args s 0 0 (xA VM la)) (F0 m 205 ls [])) : ∀ (a4 : Int32) (a6 : Int32) (st : xSt) (H : Heap) (locs : List Loc) (ls : Array Slot), fX9_failsAt_b236 N k175 k205 a4 a6 st = some (r, st') → HW D VM la (EMf cyI la) st H → va_S (xA VM la) s.heap H locs → lv_has ls 7 [(0, .ref (la 9 0)), (4, .int a4), (6, .int a6)] → W p l e rm_X9_failsAt s m args below meth c H locs 0 0 (MQ below (xQc D VM la (EMf cyI la) (some (.int r)) st') args s 0 0 (xA VM la)) (F0 m 236 ls []) := by
  have hx := X.1.1
  have hb := X.1.2.1
  intro a4 a6 st H locs ls hf hP hS hl
  unfold fX9_failsAt_b236 at hf
  refine lv_iconst (v := 1) hx hb dX9_failsAt_236 (by decide) ?_
  refine lv_goto (tgt := 241) hx hb dX9_failsAt_237 (by decide) ?_
  exact BX9_failsAt_241 X hr hlk hk175 hk205 _ _ _ _ _ _ _  hf hP hS (lv_sub hl [0, 1, 2] rfl)
def fX9_failsAt_b205 (N : Nat) (k175 : Int32 → xSt → Option (Int32 × xSt)) : Nat → Int32 → Int32 → Int32 → xSt → Option (Int32 × xSt)
  | 0, _, _, _, _ => none
  | n + 1, a4, a5, a6, st => if (st.1 9 0 27) ≤ a6 then if a5 = (0 : Int32) then if a4 < 0 ∨ 61 ≤ (a4).toNatClampNeg then none else some ((st.1 30 25 (a4).toNatClampNeg), st) else nm (a4 + (1 : Int32)) (fun x23 => k175 x23 st) else if a5 = (0 : Int32) then if a6 < 0 ∨ 61 ≤ (a6).toNatClampNeg then none else if a4 < 0 ∨ 61 ≤ (a4).toNatClampNeg then none else if (st.1 30 25 (a6).toNatClampNeg) = (st.1 30 26 (a4).toNatClampNeg) then fX9_failsAt_b236 N k175 (fX9_failsAt_b205 N k175 n) a4 a6 st else fX9_failsAt_b241 N k175 (fX9_failsAt_b205 N k175 n) a4 a6 (0 : Int32) st else fX9_failsAt_b236 N k175 (fX9_failsAt_b205 N k175 n) a4 a6 st
set_option maxHeartbeats 4000000 in
set_option maxRecDepth 100000 in
theorem BX9_failsAt_205 {p : Program} {l : Launch} {e : Env} {s : State} {m : MethodId} {args : Array Value} {below : List Frame} {meth : Method} {c : Code} {D : va_G} {la : Nat → Nat → Nat} {cyI cyF cyM : ClassId} {t0 N : Nat} {k175 : Int32 → xSt → Option (Int32 × xSt)} {r : Int32} {st' : xSt} (X : xCx D VM la cyI cyF cyM t0 p m c cX9_failsAt 7 s args RX9) (hr : meth.sig.returnType = (some .int)) (hlk : meth.locks = false) (hk175 : ∀ (a4 : Int32) (st : xSt) (H : Heap) (locs : List Loc) (ls : Array Slot), k175 a4 st = some (r, st') → HW D VM la (EMf cyI la) st H → va_S (xA VM la) s.heap H locs → lv_has ls 7 [(0, .ref (la 9 0)), (4, .int a4)] → W p l e rm_X9_failsAt s m args below meth c H locs 0 0 (MQ below (xQc D VM la (EMf cyI la) (some (.int r)) st') args s 0 0 (xA VM la)) (F0 m 175 ls [])) : ∀ n : Nat, ∀ (a4 : Int32) (a5 : Int32) (a6 : Int32) (st : xSt) (H : Heap) (locs : List Loc) (ls : Array Slot), fX9_failsAt_b205 N k175 n a4 a5 a6 st = some (r, st') → HW D VM la (EMf cyI la) st H → va_S (xA VM la) s.heap H locs → lv_has ls 7 [(0, .ref (la 9 0)), (4, .int a4), (5, .int a5), (6, .int a6)] → W p l e rm_X9_failsAt s m args below meth c H locs 0 0 (MQ below (xQc D VM la (EMf cyI la) (some (.int r)) st') args s 0 0 (xA VM la)) (F0 m 205 ls []) := by
  have hx := X.1.1
  have hb := X.1.2.1
  intro n
  induction n with
  | zero =>
    intro a4 a5 a6 st H locs ls hf hP hS hl
    rw [fX9_failsAt_b205] at hf
    cases hf
  | succ n ih =>
    intro a4 a5 a6 st H locs ls hf hP hS hl
    rw [fX9_failsAt_b205] at hf
    refine lv_iload hx hb dX9_failsAt_205 (lv_at hl 3 rfl) ?_
    refine lv_aload_n hx hb dX9_failsAt_207 rfl (lv_at hl 0 rfl) ?_
    refine gM_many X hP fl_X9_133 dX9_failsAt_208 ?_
    refine lv_icmp_ge (tgt := 249) hx hb dX9_failsAt_211 (by decide) (fun c21 => ?_) (fun c21 => ?_)
    · replace hf := (if_pos c21).symm.trans hf
      refine lv_iload hx hb dX9_failsAt_249 (lv_at hl 2 rfl) ?_
      refine lv_if_ne (tgt := 262) hx hb dX9_failsAt_251 (by decide) (fun c22 => ?_) (fun c22 => ?_)
      · replace hf := (if_neg c22).symm.trans hf
        obtain ⟨x23, ex⟩ : ∃ y : Int32, y = (a4 + (1 : Int32)) := ⟨_, rfl⟩
        replace hf := nm_of hf ex
        refine lv_iinc (v := x23) (lv' := [(4, .int x23), (0, .ref (la 9 0)), (5, .int a5), (6, .int a6)]) hx hb dX9_failsAt_262 hl (k := 1) rfl (by rw [ex]; rfl) (by decide) rfl (fun ls hl => ?_)
        clear ex
        refine lv_goto (tgt := 175) hx hb dX9_failsAt_265 (by decide) ?_
        exact hk175 _ _ _ _ _  hf hP hS (lv_sub hl [1, 0] rfl)
      · replace hf := (if_pos c22).symm.trans hf
        refine lv_aload_n hx hb dX9_failsAt_254 rfl (lv_at hl 0 rfl) ?_
        refine gM_offsets X hP fl_X9_38 dX9_failsAt_255 ?_
        refine lv_iload hx hb dX9_failsAt_258 (lv_at hl 1 rfl) ?_
        obtain ⟨hn24, hf⟩ := ck_of hf
        refine w_iald X hP (c0 := 30) (i0 := 25) (show 0 < lenM 25 by decide) (n := 61) rfl hn24 dX9_failsAt_260 ?_
        obtain ⟨rfl, rfl⟩ := sp_2 hf
        exact w_iret X hr hlk hP hS dX9_failsAt_261
    · replace hf := (if_neg c21).symm.trans hf
      refine lv_iload hx hb dX9_failsAt_214 (lv_at hl 2 rfl) ?_
      refine lv_if_ne (tgt := 236) hx hb dX9_failsAt_216 (by decide) (fun c25 => ?_) (fun c25 => ?_)
      · replace hf := (if_neg c25).symm.trans hf
        exact BX9_failsAt_236 X hr hlk hk175 ih _ _ _ _ _ _  hf hP hS (lv_sub hl [0, 1, 3] rfl)
      · replace hf := (if_pos c25).symm.trans hf
        refine lv_aload_n hx hb dX9_failsAt_219 rfl (lv_at hl 0 rfl) ?_
        refine gM_offsets X hP fl_X9_38 dX9_failsAt_220 ?_
        refine lv_iload hx hb dX9_failsAt_223 (lv_at hl 3 rfl) ?_
        obtain ⟨hn26, hf⟩ := ck_of hf
        refine w_iald X hP (c0 := 30) (i0 := 25) (show 0 < lenM 25 by decide) (n := 61) rfl hn26 dX9_failsAt_225 ?_
        refine lv_aload_n hx hb dX9_failsAt_226 rfl (lv_at hl 0 rfl) ?_
        refine gM_targets X hP fl_X9_41 dX9_failsAt_227 ?_
        refine lv_iload hx hb dX9_failsAt_230 (lv_at hl 1 rfl) ?_
        obtain ⟨hn27, hf⟩ := ck_of hf
        refine w_iald X hP (c0 := 30) (i0 := 26) (show 0 < lenM 26 by decide) (n := 61) rfl hn27 dX9_failsAt_232 ?_
        refine lv_icmp_ne (tgt := 240) hx hb dX9_failsAt_233 (by decide) (fun c28 => ?_) (fun c28 => ?_)
        · replace hf := (if_neg c28).symm.trans hf
          refine lv_iconst (v := 0) hx hb dX9_failsAt_240 (by decide) ?_
          exact BX9_failsAt_241 X hr hlk hk175 ih _ _ _ _ _ _ _  hf hP hS (lv_sub hl [0, 1, 3] rfl)
        · replace hf := (if_pos c28).symm.trans hf
          exact BX9_failsAt_236 X hr hlk hk175 ih _ _ _ _ _ _  hf hP hS (lv_sub hl [0, 1, 3] rfl)
def fX9_failsAt_b200 (N : Nat) (k175 : Int32 → xSt → Option (Int32 × xSt)) (a4 : Int32) (as0 : Int32) (st : xSt) : Option (Int32 × xSt) := fX9_failsAt_b205 N k175 N a4 as0 (0 : Int32) st
set_option maxHeartbeats 4000000 in
set_option maxRecDepth 100000 in
theorem BX9_failsAt_200 {p : Program} {l : Launch} {e : Env} {s : State} {m : MethodId} {args : Array Value} {below : List Frame} {meth : Method} {c : Code} {D : va_G} {la : Nat → Nat → Nat} {cyI cyF cyM : ClassId} {t0 N : Nat} {k175 : Int32 → xSt → Option (Int32 × xSt)} {r : Int32} {st' : xSt} (X : xCx D VM la cyI cyF cyM t0 p m c cX9_failsAt 7 s args RX9) (hr : meth.sig.returnType = (some .int)) (hlk : meth.locks = false) (hk175 : ∀ (a4 : Int32) (st : xSt) (H : Heap) (locs : List Loc) (ls : Array Slot), k175 a4 st = some (r, st') → HW D VM la (EMf cyI la) st H → va_S (xA VM la) s.heap H locs → lv_has ls 7 [(0, .ref (la 9 0)), (4, .int a4)] → W p l e rm_X9_failsAt s m args below meth c H locs 0 0 (MQ below (xQc D VM la (EMf cyI la) (some (.int r)) st') args s 0 0 (xA VM la)) (F0 m 175 ls [])) : ∀ (a4 : Int32) (as0 : Int32) (st : xSt) (H : Heap) (locs : List Loc) (ls : Array Slot), fX9_failsAt_b200 N k175 a4 as0 st = some (r, st') → HW D VM la (EMf cyI la) st H → va_S (xA VM la) s.heap H locs → lv_has ls 7 [(0, .ref (la 9 0)), (4, .int a4)] → W p l e rm_X9_failsAt s m args below meth c H locs 0 0 (MQ below (xQc D VM la (EMf cyI la) (some (.int r)) st') args s 0 0 (xA VM la)) (F0 m 200 ls [.int as0]) := by
  have hx := X.1.1
  have hb := X.1.2.1
  intro a4 as0 st H locs ls hf hP hS hl
  unfold fX9_failsAt_b200 at hf
  refine lv_istore (lv' := [(5, .int as0), (0, .ref (la 9 0)), (4, .int a4)]) hx hb dX9_failsAt_200 hl (by decide) rfl (fun ls hl => ?_)
  refine lv_iconst (v := 0) hx hb dX9_failsAt_202 (by decide) ?_
  refine lv_istore (lv' := [(6, .int (0 : Int32)), (5, .int as0), (0, .ref (la 9 0)), (4, .int a4)]) hx hb dX9_failsAt_203 hl (by decide) rfl (fun ls hl => ?_)
  exact BX9_failsAt_205 X hr hlk hk175 N _ _ _ _ _ _ _  hf hP hS (lv_sub hl [2, 3, 1, 0] rfl)
def fX9_failsAt_b175 (N : Nat) : Nat → Int32 → xSt → Option (Int32 × xSt)
  | 0, _, _ => none
  | n + 1, a4, st => if (st.1 9 0 27) ≤ a4 then some ((-1 : Int32), st) else if a4 < 0 ∨ 61 ≤ (a4).toNatClampNeg then none else if (st.1 30 26 (a4).toNatClampNeg) = (-1 : Int32) then fX9_failsAt_b200 N (fX9_failsAt_b175 N n) a4 (1 : Int32) st else fX9_failsAt_b200 N (fX9_failsAt_b175 N n) a4 (0 : Int32) st
set_option maxHeartbeats 4000000 in
set_option maxRecDepth 100000 in
theorem BX9_failsAt_175 {p : Program} {l : Launch} {e : Env} {s : State} {m : MethodId} {args : Array Value} {below : List Frame} {meth : Method} {c : Code} {D : va_G} {la : Nat → Nat → Nat} {cyI cyF cyM : ClassId} {t0 N : Nat} {r : Int32} {st' : xSt} (X : xCx D VM la cyI cyF cyM t0 p m c cX9_failsAt 7 s args RX9) (hr : meth.sig.returnType = (some .int)) (hlk : meth.locks = false) : ∀ n : Nat, ∀ (a4 : Int32) (st : xSt) (H : Heap) (locs : List Loc) (ls : Array Slot), fX9_failsAt_b175 N n a4 st = some (r, st') → HW D VM la (EMf cyI la) st H → va_S (xA VM la) s.heap H locs → lv_has ls 7 [(0, .ref (la 9 0)), (4, .int a4)] → W p l e rm_X9_failsAt s m args below meth c H locs 0 0 (MQ below (xQc D VM la (EMf cyI la) (some (.int r)) st') args s 0 0 (xA VM la)) (F0 m 175 ls []) := by
  have hx := X.1.1
  have hb := X.1.2.1
  intro n
  induction n with
  | zero =>
    intro a4 st H locs ls hf hP hS hl
    rw [fX9_failsAt_b175] at hf
    cases hf
  | succ n ih =>
    intro a4 st H locs ls hf hP hS hl
    rw [fX9_failsAt_b175] at hf
    refine lv_iload hx hb dX9_failsAt_175 (lv_at hl 1 rfl) ?_
    refine lv_aload_n hx hb dX9_failsAt_177 rfl (lv_at hl 0 rfl) ?_
    refine gM_many X hP fl_X9_133 dX9_failsAt_178 ?_
    refine lv_icmp_ge (tgt := 268) hx hb dX9_failsAt_181 (by decide) (fun c16 => ?_) (fun c16 => ?_)
    · replace hf := (if_pos c16).symm.trans hf
      refine lv_iconst (v := -1) hx hb dX9_failsAt_268 (by decide) ?_
      obtain ⟨rfl, rfl⟩ := sp_2 hf
      exact w_iret X hr hlk hP hS dX9_failsAt_269
    · replace hf := (if_neg c16).symm.trans hf
      refine lv_aload_n hx hb dX9_failsAt_184 rfl (lv_at hl 0 rfl) ?_
      refine gM_targets X hP fl_X9_41 dX9_failsAt_185 ?_
      refine lv_iload hx hb dX9_failsAt_188 (lv_at hl 1 rfl) ?_
      obtain ⟨hn17, hf⟩ := ck_of hf
      refine w_iald X hP (c0 := 30) (i0 := 26) (show 0 < lenM 26 by decide) (n := 61) rfl hn17 dX9_failsAt_190 ?_
      refine lv_iconst (v := -1) hx hb dX9_failsAt_191 (by decide) ?_
      refine lv_icmp_ne (tgt := 199) hx hb dX9_failsAt_192 (by decide) (fun c18 => ?_) (fun c18 => ?_)
      · replace hf := (if_neg c18).symm.trans hf
        refine lv_iconst (v := 0) hx hb dX9_failsAt_199 (by decide) ?_
        exact BX9_failsAt_200 X hr hlk ih _ _ _ _ _ _  hf hP hS (lv_sub hl [0, 1] rfl)
      · replace hf := (if_pos c18).symm.trans hf
        refine lv_iconst (v := 1) hx hb dX9_failsAt_195 (by decide) ?_
        refine lv_goto (tgt := 200) hx hb dX9_failsAt_196 (by decide) ?_
        exact BX9_failsAt_200 X hr hlk ih _ _ _ _ _ _  hf hP hS (lv_sub hl [0, 1] rfl)
def fX9_failsAt_b11 (N : Nat) : Nat → Int32 → Int32 → Int32 → xSt → Option (Int32 × xSt)
  | 0, _, _, _, _ => none
  | n + 1, a1, a2, a3, st => if a3 = (0 : Int32) then if a1 < 0 ∨ 1024 ≤ (a1).toNatClampNeg then none else Option.bind (fX9_readAt N a2 (st.1 30 1 (a1).toNatClampNeg) st) (fun st5 => if (st5.1 9 0 20) = (0 : Int32) then if (st5.1 9 0 27) = (60 : Int32) then some ((a2 - a1), st5) else if (st5.1 9 0 27) < 0 ∨ 61 ≤ ((st5.1 9 0 27)).toNatClampNeg then none else nm (pI st5 30 25 ((st5.1 9 0 27)).toNatClampNeg (a2 - a1)) (fun st10 => if (st10.1 9 0 19) = (9 : Int32) then fX9_failsAt_b103 N (fX9_failsAt_b11 N n) a1 st10 else if (st10.1 9 0 19) = (10 : Int32) then fX9_failsAt_b103 N (fX9_failsAt_b11 N n) a1 st10 else if (st10.1 9 0 19) = (11 : Int32) then fX9_failsAt_b103 N (fX9_failsAt_b11 N n) a1 st10 else if (st10.1 9 0 19) = (14 : Int32) then if (st10.1 30 22 0) = (0 : Int32) then fX9_failsAt_b107 N (fX9_failsAt_b11 N n) a1 st10 else fX9_failsAt_b103 N (fX9_failsAt_b11 N n) a1 st10 else fX9_failsAt_b107 N (fX9_failsAt_b11 N n) a1 st10) else some ((a2 - a1), st5)) else fX9_failsAt_b175 N N (0 : Int32) st
set_option maxHeartbeats 4000000 in
set_option maxRecDepth 100000 in
theorem BX9_failsAt_11 {p : Program} {l : Launch} {e : Env} {s : State} {m : MethodId} {args : Array Value} {below : List Frame} {meth : Method} {c : Code} {D : va_G} {la : Nat → Nat → Nat} {cyI cyF cyM : ClassId} {t0 N : Nat} {r : Int32} {st' : xSt} (X : xCx D VM la cyI cyF cyM t0 p m c cX9_failsAt 7 s args RX9) (hr : meth.sig.returnType = (some .int)) (hlk : meth.locks = false) : ∀ n : Nat, ∀ (a1 : Int32) (a2 : Int32) (a3 : Int32) (st : xSt) (H : Heap) (locs : List Loc) (ls : Array Slot), fX9_failsAt_b11 N n a1 a2 a3 st = some (r, st') → HW D VM la (EMf cyI la) st H → va_S (xA VM la) s.heap H locs → lv_has ls 7 [(0, .ref (la 9 0)), (1, .int a1), (2, .int a2), (3, .int a3)] → W p l e rm_X9_failsAt s m args below meth c H locs 0 0 (MQ below (xQc D VM la (EMf cyI la) (some (.int r)) st') args s 0 0 (xA VM la)) (F0 m 11 ls []) := by
  have hx := X.1.1
  have hb := X.1.2.1
  intro n
  induction n with
  | zero =>
    intro a1 a2 a3 st H locs ls hf hP hS hl
    rw [fX9_failsAt_b11] at hf
    cases hf
  | succ n ih =>
    intro a1 a2 a3 st H locs ls hf hP hS hl
    rw [fX9_failsAt_b11] at hf
    refine lv_iload_n hx hb dX9_failsAt_11 rfl (lv_at hl 3 rfl) ?_
    refine lv_if_ne (tgt := 172) hx hb dX9_failsAt_12 (by decide) (fun c3 => ?_) (fun c3 => ?_)
    · replace hf := (if_neg c3).symm.trans hf
      refine lv_iconst (v := 0) hx hb dX9_failsAt_172 (by decide) ?_
      refine lv_istore (lv' := [(4, .int (0 : Int32)), (0, .ref (la 9 0)), (1, .int a1), (2, .int a2), (3, .int a3)]) hx hb dX9_failsAt_173 hl (by decide) rfl (fun ls hl => ?_)
      exact BX9_failsAt_175 X hr hlk N _ _ _ _ _  hf hP hS (lv_sub hl [1, 0] rfl)
    · replace hf := (if_pos c3).symm.trans hf
      refine lv_aload_n hx hb dX9_failsAt_15 rfl (lv_at hl 0 rfl) ?_
      refine lv_iload_n hx hb dX9_failsAt_16 rfl (lv_at hl 2 rfl) ?_
      refine lv_aload_n hx hb dX9_failsAt_17 rfl (lv_at hl 0 rfl) ?_
      refine gM_memory X hP fl_X9_7 dX9_failsAt_18 ?_
      refine lv_iload_n hx hb dX9_failsAt_21 rfl (lv_at hl 1 rfl) ?_
      obtain ⟨hn4, hf⟩ := ck_of hf
      refine w_iald X hP (c0 := 30) (i0 := 1) (show 0 < lenM 1 by decide) (n := 1024) rfl hn4 dX9_failsAt_22 ?_
      obtain ⟨st5, hr6, hf⟩ := bd_of hf
      refine w_V0 X (TX9_readAt l hr6) hP hS rfl KX9_readAt ml_X9_136 ⟨rfl, rfl⟩ ⟨by decide, by decide⟩ (x_recv (E := fun c i => (EMf cyI la) (st.1 c i) st.2 c i) (c0 := 9) (i0 := 0) X.2.2.1 hP rfl (ci := 9) rfl rfl) rfl hl.1 (Nat.le_of_ble_eq_true rfl) dX9_failsAt_23 (fun H locs hP hS => ?_)
      refine lv_aload_n hx hb dX9_failsAt_26 rfl (lv_at hl 0 rfl) ?_
      refine gM_codeFault X hP fl_X9_107 dX9_failsAt_27 ?_
      refine lv_if_ne (tgt := 42) hx hb dX9_failsAt_30 (by decide) (fun c7 => ?_) (fun c7 => ?_)
      · replace hf := (if_neg c7).symm.trans hf
        refine lv_iload_n hx hb dX9_failsAt_42 rfl (lv_at hl 2 rfl) ?_
        refine lv_iload_n hx hb dX9_failsAt_43 rfl (lv_at hl 1 rfl) ?_
        refine lv_isub hx hb dX9_failsAt_44 ?_
        obtain ⟨rfl, rfl⟩ := sp_2 hf
        exact w_iret X hr hlk hP hS dX9_failsAt_45
      · replace hf := (if_pos c7).symm.trans hf
        refine lv_aload_n hx hb dX9_failsAt_33 rfl (lv_at hl 0 rfl) ?_
        refine gM_many X hP fl_X9_133 dX9_failsAt_34 ?_
        refine lv_bipush (v := 60) hx hb dX9_failsAt_37 (by decide) ?_
        refine lv_icmp_ne (tgt := 46) hx hb dX9_failsAt_39 (by decide) (fun c8 => ?_) (fun c8 => ?_)
        · replace hf := (if_neg c8).symm.trans hf
          refine lv_aload_n hx hb dX9_failsAt_46 rfl (lv_at hl 0 rfl) ?_
          refine gM_offsets X hP fl_X9_38 dX9_failsAt_47 ?_
          refine lv_aload_n hx hb dX9_failsAt_50 rfl (lv_at hl 0 rfl) ?_
          refine gM_many X hP fl_X9_133 dX9_failsAt_51 ?_
          refine lv_iload_n hx hb dX9_failsAt_54 rfl (lv_at hl 2 rfl) ?_
          refine lv_iload_n hx hb dX9_failsAt_55 rfl (lv_at hl 1 rfl) ?_
          refine lv_isub hx hb dX9_failsAt_56 ?_
          obtain ⟨hn9, hf⟩ := ck_of hf
          refine w_iast X hP hS (c0 := 30) (i0 := 25) (show 0 < lenM 25 by decide) (n := 61) (fun _ => rfl) hn9 dX9_failsAt_57 (fun H locs hP hS => ?_)
          obtain ⟨st10, hP, hf⟩ := nm_gen (P := fun z => HW D VM la (EMf cyI la) z H) hP hf
          refine lv_aload_n hx hb dX9_failsAt_58 rfl (lv_at hl 0 rfl) ?_
          refine gM_code X hP fl_X9_127 dX9_failsAt_59 ?_
          refine lv_bipush (v := 9) hx hb dX9_failsAt_62 (by decide) ?_
          refine lv_icmp_eq (tgt := 103) hx hb dX9_failsAt_64 (by decide) (fun c11 => ?_) (fun c11 => ?_)
          · replace hf := (if_pos c11).symm.trans hf
            exact BX9_failsAt_103 X hr hlk ih _ _ _ _ _  hf hP hS (lv_sub hl [0, 1] rfl)
          · replace hf := (if_neg c11).symm.trans hf
            refine lv_aload_n hx hb dX9_failsAt_67 rfl (lv_at hl 0 rfl) ?_
            refine gM_code X hP fl_X9_127 dX9_failsAt_68 ?_
            refine lv_bipush (v := 10) hx hb dX9_failsAt_71 (by decide) ?_
            refine lv_icmp_eq (tgt := 103) hx hb dX9_failsAt_73 (by decide) (fun c12 => ?_) (fun c12 => ?_)
            · replace hf := (if_pos c12).symm.trans hf
              exact BX9_failsAt_103 X hr hlk ih _ _ _ _ _  hf hP hS (lv_sub hl [0, 1] rfl)
            · replace hf := (if_neg c12).symm.trans hf
              refine lv_aload_n hx hb dX9_failsAt_76 rfl (lv_at hl 0 rfl) ?_
              refine gM_code X hP fl_X9_127 dX9_failsAt_77 ?_
              refine lv_bipush (v := 11) hx hb dX9_failsAt_80 (by decide) ?_
              refine lv_icmp_eq (tgt := 103) hx hb dX9_failsAt_82 (by decide) (fun c13 => ?_) (fun c13 => ?_)
              · replace hf := (if_pos c13).symm.trans hf
                exact BX9_failsAt_103 X hr hlk ih _ _ _ _ _  hf hP hS (lv_sub hl [0, 1] rfl)
              · replace hf := (if_neg c13).symm.trans hf
                refine lv_aload_n hx hb dX9_failsAt_85 rfl (lv_at hl 0 rfl) ?_
                refine gM_code X hP fl_X9_127 dX9_failsAt_86 ?_
                refine lv_bipush (v := 14) hx hb dX9_failsAt_89 (by decide) ?_
                refine lv_icmp_ne (tgt := 107) hx hb dX9_failsAt_91 (by decide) (fun c14 => ?_) (fun c14 => ?_)
                · replace hf := (if_neg c14).symm.trans hf
                  exact BX9_failsAt_107 X hr hlk ih _ _ _ _ _  hf hP hS (lv_sub hl [0, 1] rfl)
                · replace hf := (if_pos c14).symm.trans hf
                  refine lv_aload_n hx hb dX9_failsAt_94 rfl (lv_at hl 0 rfl) ?_
                  refine gM_operand X hP fl_X9_35 dX9_failsAt_95 ?_
                  refine lv_iconst (v := 0) hx hb dX9_failsAt_98 (by decide) ?_
                  refine w_ialdK X hP (c0 := 30) (i0 := 22) (show 0 < lenM 22 by decide) (n := 8) (fun _ => rfl) 0 (by decide) (show ¬ ((0 : Int32) < 0 ∨ 8 ≤ ((0 : Int32)).toNatClampNeg) by decide) dX9_failsAt_99 ?_
                  refine lv_if_eq (tgt := 107) hx hb dX9_failsAt_100 (by decide) (fun c15 => ?_) (fun c15 => ?_)
                  · replace hf := (if_pos c15).symm.trans hf
                    exact BX9_failsAt_107 X hr hlk ih _ _ _ _ _  hf hP hS (lv_sub hl [0, 1] rfl)
                  · replace hf := (if_neg c15).symm.trans hf
                    exact BX9_failsAt_103 X hr hlk ih _ _ _ _ _  hf hP hS (lv_sub hl [0, 1] rfl)
        · replace hf := (if_pos c8).symm.trans hf
          refine lv_iload_n hx hb dX9_failsAt_42 rfl (lv_at hl 2 rfl) ?_
          refine lv_iload_n hx hb dX9_failsAt_43 rfl (lv_at hl 1 rfl) ?_
          refine lv_isub hx hb dX9_failsAt_44 ?_
          obtain ⟨rfl, rfl⟩ := sp_2 hf
          exact w_iret X hr hlk hP hS dX9_failsAt_45
def fX9_failsAt (N : Nat) (a1 : Int32) (st : xSt) : Option (Int32 × xSt) := nm (pI st 9 0 27 (0 : Int32)) (fun st1 => nm (a1 + (1 : Int32)) (fun x2 => fX9_failsAt_b11 N N a1 x2 (0 : Int32) st1))
set_option maxHeartbeats 4000000 in
set_option maxRecDepth 100000 in
theorem TX9_failsAt (l : Launch) {D : va_G} {la : Nat → Nat → Nat} {cyI cyF cyM : ClassId} {t0 N : Nat} {a1 : Int32} {st : xSt} {r : Int32} {st' : xSt} (hf : fX9_failsAt N a1 st = some (r, st')) : MetM D cyI cyF cyM la t0 l yX9_failsAt (Cond.code yX9_failsAt cX9_failsAt 7 (some .int) :: xALL) rm_X9_failsAt [.ref (la 9 0), .int a1] (some (.int r)) st st' := by
  refine MetW.intro (own := RX9) (by decide) (Nat.le_of_ble_eq_true rfl) rfl ?_
  intro p e s m below meth c X hr hlk hP ls hl
  have hx := X.1.1
  have hb := X.1.2.1
  have hS : va_S (xA VM la) s.heap s.heap [] := va_S.rf
  unfold fX9_failsAt at hf
  replace hl : lv_has ls 7 [(0, .ref (la 9 0)), (1, .int a1)] := hl
  refine lv_aload_n hx hb dX9_failsAt_0 rfl (lv_at hl 0 rfl) ?_
  refine lv_iconst (v := 0) hx hb dX9_failsAt_1 (by decide) ?_
  refine pM_many X hP hS fl_X9_133 dX9_failsAt_2 (fun H locs hP hS => ?_)
  obtain ⟨st1, hP, hf⟩ := nm_gen (P := fun z => HW D VM la (EMf cyI la) z H) hP hf
  refine lv_iload_n hx hb dX9_failsAt_5 rfl (lv_at hl 1 rfl) ?_
  refine lv_iconst (v := 1) hx hb dX9_failsAt_6 (by decide) ?_
  refine lv_iadd hx hb dX9_failsAt_7 ?_
  refine lv_topi (fun x2 ex => ?_)
  replace hf := nm_of hf ex
  clear ex
  refine lv_istore_n (lv' := [(2, .int x2), (0, .ref (la 9 0)), (1, .int a1)]) hx hb dX9_failsAt_8 rfl hl (by decide) rfl (fun ls hl => ?_)
  refine lv_iconst (v := 0) hx hb dX9_failsAt_9 (by decide) ?_
  refine lv_istore_n (lv' := [(3, .int (0 : Int32)), (2, .int x2), (0, .ref (la 9 0)), (1, .int a1)]) hx hb dX9_failsAt_10 rfl hl (by decide) rfl (fun ls hl => ?_)
  exact BX9_failsAt_11 X hr hlk N _ _ _ _ _ _ _  hf hP hS (lv_sub hl [2, 3, 1, 0] rfl)
theorem KX9_failsAt : xKv yX9_failsAt cX9_failsAt 7 (some .int) RX9 1 := ⟨cd_X9_failsAt, im_X9_failsAt, se_X9_failsAt, in_X9, by decide +kernel⟩
abbrev rm_X9_isAddress : Room := { frames := 0, cells := 0, slots := 0, locals := 0 }
def fX9_isAddress (N : Nat) (a0 : Int32) (st : xSt) : Option (Int32 × xSt) := if a0 < (0 : Int32) then some ((0 : Int32), st) else if (1024 : Int32) ≤ a0 then some ((0 : Int32), st) else if (a0 - a0 / (4 : Int32) * (4 : Int32)) = (0 : Int32) then some ((1 : Int32), st) else some ((0 : Int32), st)
set_option maxHeartbeats 4000000 in
set_option maxRecDepth 100000 in
theorem TX9_isAddress (l : Launch) {D : va_G} {la : Nat → Nat → Nat} {cyI cyF cyM : ClassId} {t0 N : Nat} {a0 : Int32} {st : xSt} {r : Int32} {st' : xSt} (hf : fX9_isAddress N a0 st = some (r, st')) : MetM D cyI cyF cyM la t0 l yX9_isAddress (Cond.code yX9_isAddress cX9_isAddress 1 (some .boolean) :: xALL) rm_X9_isAddress [.int a0] (some (.int r)) st st' := by
  refine MetW.intro (own := RX9) (by decide) (Nat.le_of_ble_eq_true rfl) rfl ?_
  intro p e s m below meth c X hr hlk hP ls hl
  have hx := X.1.1
  have hb := X.1.2.1
  have hS : va_S (xA VM la) s.heap s.heap [] := va_S.rf
  unfold fX9_isAddress at hf
  replace hl : lv_has ls 1 [(0, .int a0)] := hl
  refine lv_iload_n hx hb dX9_isAddress_0 rfl (lv_at hl 0 rfl) ?_
  refine lv_if_lt (tgt := 21) hx hb dX9_isAddress_1 (by decide) (fun c1 => ?_) (fun c1 => ?_)
  · replace hf := (if_pos c1).symm.trans hf
    refine lv_iconst (v := 0) hx hb dX9_isAddress_21 (by decide) ?_
    obtain ⟨rfl, rfl⟩ := sp_2 hf
    exact w_zret X hr hlk (by decide) hP hS dX9_isAddress_22
  · replace hf := (if_neg c1).symm.trans hf
    refine lv_iload_n hx hb dX9_isAddress_4 rfl (lv_at hl 0 rfl) ?_
    refine lv_sipush (v := 1024) hx hb dX9_isAddress_5 (by decide) ?_
    refine lv_icmp_ge (tgt := 21) hx hb dX9_isAddress_8 (by decide) (fun c2 => ?_) (fun c2 => ?_)
    · replace hf := (if_pos c2).symm.trans hf
      refine lv_iconst (v := 0) hx hb dX9_isAddress_21 (by decide) ?_
      obtain ⟨rfl, rfl⟩ := sp_2 hf
      exact w_zret X hr hlk (by decide) hP hS dX9_isAddress_22
    · replace hf := (if_neg c2).symm.trans hf
      refine lv_iload_n hx hb dX9_isAddress_11 rfl (lv_at hl 0 rfl) ?_
      refine lv_iconst (v := 4) hx hb dX9_isAddress_12 (by decide) ?_
      refine lv_irem hx hb dX9_isAddress_13 (by decide) ?_
      refine lv_if_ne (tgt := 21) hx hb dX9_isAddress_14 (by decide) (fun c3 => ?_) (fun c3 => ?_)
      · replace hf := (if_neg c3).symm.trans hf
        refine lv_iconst (v := 0) hx hb dX9_isAddress_21 (by decide) ?_
        obtain ⟨rfl, rfl⟩ := sp_2 hf
        exact w_zret X hr hlk (by decide) hP hS dX9_isAddress_22
      · replace hf := (if_pos c3).symm.trans hf
        refine lv_iconst (v := 1) hx hb dX9_isAddress_17 (by decide) ?_
        refine lv_goto (tgt := 22) hx hb dX9_isAddress_18 (by decide) ?_
        obtain ⟨rfl, rfl⟩ := sp_2 hf
        exact w_zret X hr hlk (by decide) hP hS dX9_isAddress_22
theorem KX9_isAddress : xKs yX9_isAddress cX9_isAddress 1 (some .boolean) RX9 1 := ⟨cd_X9_isAddress, ss_X9_isAddress, in_X9, by decide +kernel⟩
abbrev rm_X9_keptOf : Room := { frames := 0, cells := 0, slots := 0, locals := 0 }
def fX9_keptOf_b2 (N : Nat) : Nat → Int32 → Int32 → xSt → Option (Int32 × xSt)
  | 0, _, _, _ => none
  | n + 1, a1, a2, st => if (st.1 9 0 6) ≤ a2 then some ((-1 : Int32), st) else if a2 < 0 ∨ 21 ≤ (a2).toNatClampNeg then none else if (st.1 30 7 (a2).toNatClampNeg) = a1 then some (a2, st) else nm (a2 + (1 : Int32)) (fun x4 => fX9_keptOf_b2 N n a1 x4 st)
set_option maxHeartbeats 4000000 in
set_option maxRecDepth 100000 in
theorem BX9_keptOf_2 {p : Program} {l : Launch} {e : Env} {s : State} {m : MethodId} {args : Array Value} {below : List Frame} {meth : Method} {c : Code} {D : va_G} {la : Nat → Nat → Nat} {cyI cyF cyM : ClassId} {t0 N : Nat} {r : Int32} {st' : xSt} (X : xCx D VM la cyI cyF cyM t0 p m c cX9_keptOf 3 s args RX9) (hr : meth.sig.returnType = (some .int)) (hlk : meth.locks = false) : ∀ n : Nat, ∀ (a1 : Int32) (a2 : Int32) (st : xSt) (H : Heap) (locs : List Loc) (ls : Array Slot), fX9_keptOf_b2 N n a1 a2 st = some (r, st') → HW D VM la (EMf cyI la) st H → va_S (xA VM la) s.heap H locs → lv_has ls 3 [(0, .ref (la 9 0)), (1, .int a1), (2, .int a2)] → W p l e rm_X9_keptOf s m args below meth c H locs 0 0 (MQ below (xQc D VM la (EMf cyI la) (some (.int r)) st') args s 0 0 (xA VM la)) (F0 m 2 ls []) := by
  have hx := X.1.1
  have hb := X.1.2.1
  intro n
  induction n with
  | zero =>
    intro a1 a2 st H locs ls hf hP hS hl
    rw [fX9_keptOf_b2] at hf
    cases hf
  | succ n ih =>
    intro a1 a2 st H locs ls hf hP hS hl
    rw [fX9_keptOf_b2] at hf
    refine lv_iload_n hx hb dX9_keptOf_2 rfl (lv_at hl 2 rfl) ?_
    refine lv_aload_n hx hb dX9_keptOf_3 rfl (lv_at hl 0 rfl) ?_
    refine gM_kept X hP fl_X9_80 dX9_keptOf_4 ?_
    refine lv_icmp_ge (tgt := 28) hx hb dX9_keptOf_7 (by decide) (fun c1 => ?_) (fun c1 => ?_)
    · replace hf := (if_pos c1).symm.trans hf
      refine lv_iconst (v := -1) hx hb dX9_keptOf_28 (by decide) ?_
      obtain ⟨rfl, rfl⟩ := sp_2 hf
      exact w_iret X hr hlk hP hS dX9_keptOf_29
    · replace hf := (if_neg c1).symm.trans hf
      refine lv_aload_n hx hb dX9_keptOf_10 rfl (lv_at hl 0 rfl) ?_
      refine gM_keptAddress X hP fl_X9_22 dX9_keptOf_11 ?_
      refine lv_iload_n hx hb dX9_keptOf_14 rfl (lv_at hl 2 rfl) ?_
      obtain ⟨hn2, hf⟩ := ck_of hf
      refine w_iald X hP (c0 := 30) (i0 := 7) (show 0 < lenM 7 by decide) (n := 21) rfl hn2 dX9_keptOf_15 ?_
      refine lv_iload_n hx hb dX9_keptOf_16 rfl (lv_at hl 1 rfl) ?_
      refine lv_icmp_ne (tgt := 22) hx hb dX9_keptOf_17 (by decide) (fun c3 => ?_) (fun c3 => ?_)
      · replace hf := (if_neg c3).symm.trans hf
        obtain ⟨x4, ex⟩ : ∃ y : Int32, y = (a2 + (1 : Int32)) := ⟨_, rfl⟩
        replace hf := nm_of hf ex
        refine lv_iinc (v := x4) (lv' := [(2, .int x4), (0, .ref (la 9 0)), (1, .int a1)]) hx hb dX9_keptOf_22 hl (k := 2) rfl (by rw [ex]; rfl) (by decide) rfl (fun ls hl => ?_)
        clear ex
        refine lv_goto (tgt := 2) hx hb dX9_keptOf_25 (by decide) ?_
        exact ih _ _ _ _ _ _  hf hP hS (lv_sub hl [1, 2, 0] rfl)
      · replace hf := (if_pos c3).symm.trans hf
        refine lv_iload_n hx hb dX9_keptOf_20 rfl (lv_at hl 2 rfl) ?_
        obtain ⟨rfl, rfl⟩ := sp_2 hf
        exact w_iret X hr hlk hP hS dX9_keptOf_21
def fX9_keptOf (N : Nat) (a1 : Int32) (st : xSt) : Option (Int32 × xSt) := fX9_keptOf_b2 N N a1 (0 : Int32) st
set_option maxHeartbeats 4000000 in
set_option maxRecDepth 100000 in
theorem TX9_keptOf (l : Launch) {D : va_G} {la : Nat → Nat → Nat} {cyI cyF cyM : ClassId} {t0 N : Nat} {a1 : Int32} {st : xSt} {r : Int32} {st' : xSt} (hf : fX9_keptOf N a1 st = some (r, st')) : MetM D cyI cyF cyM la t0 l yX9_keptOf (Cond.code yX9_keptOf cX9_keptOf 3 (some .int) :: xALL) rm_X9_keptOf [.ref (la 9 0), .int a1] (some (.int r)) st st' := by
  refine MetW.intro (own := RX9) (by decide) (Nat.le_of_ble_eq_true rfl) rfl ?_
  intro p e s m below meth c X hr hlk hP ls hl
  have hx := X.1.1
  have hb := X.1.2.1
  have hS : va_S (xA VM la) s.heap s.heap [] := va_S.rf
  unfold fX9_keptOf at hf
  replace hl : lv_has ls 3 [(0, .ref (la 9 0)), (1, .int a1)] := hl
  refine lv_iconst (v := 0) hx hb dX9_keptOf_0 (by decide) ?_
  refine lv_istore_n (lv' := [(2, .int (0 : Int32)), (0, .ref (la 9 0)), (1, .int a1)]) hx hb dX9_keptOf_1 rfl hl (by decide) rfl (fun ls hl => ?_)
  exact BX9_keptOf_2 X hr hlk N _ _ _ _ _ _  hf hP hS (lv_sub hl [1, 2, 0] rfl)
theorem KX9_keptOf : xKv yX9_keptOf cX9_keptOf 3 (some .int) RX9 1 := ⟨cd_X9_keptOf, im_X9_keptOf, se_X9_keptOf, in_X9, by decide +kernel⟩
abbrev rm_X9_make : Room := { frames := 4, cells := 0, slots := 0, locals := 95 }
def fX9_make_b88 (N : Nat) (a1 : Int32) (st : xSt) : Option (Int32 × xSt) := if (st.1 9 0 6) < 0 ∨ 21 ≤ ((st.1 9 0 6)).toNatClampNeg then none else nm (pI st 30 7 ((st.1 9 0 6)).toNatClampNeg a1) (fun st23 => if ((st23.1 9 0 27) - (1 : Int32)) < 0 ∨ 61 ≤ (((st23.1 9 0 27) - (1 : Int32))).toNatClampNeg then none else if (st23.1 9 0 6) < 0 ∨ 21 ≤ ((st23.1 9 0 6)).toNatClampNeg then none else nm (pI st23 30 8 ((st23.1 9 0 6)).toNatClampNeg (a1 + (st23.1 30 25 (((st23.1 9 0 27) - (1 : Int32))).toNatClampNeg))) (fun st26 => if (st26.1 9 0 6) < 0 ∨ 21 ≤ ((st26.1 9 0 6)).toNatClampNeg then none else nm (pI st26 30 9 ((st26.1 9 0 6)).toNatClampNeg (st26.1 9 0 11)) (fun st28 => nm (pI st28 9 0 6 ((st28.1 9 0 6) + (1 : Int32))) (fun st29 => nm (pI st29 9 0 11 ((st29.1 9 0 11) + (1 : Int32))) (fun st30 => some ((st30.1 9 0 27), st30))))))
set_option maxHeartbeats 4000000 in
set_option maxRecDepth 100000 in
theorem BX9_make_88 {p : Program} {l : Launch} {e : Env} {s : State} {m : MethodId} {args : Array Value} {below : List Frame} {meth : Method} {c : Code} {D : va_G} {la : Nat → Nat → Nat} {cyI cyF cyM : ClassId} {t0 N : Nat} {r : Int32} {st' : xSt} (X : xCx D VM la cyI cyF cyM t0 p m c cX9_make 3 s args RX9) (hr : meth.sig.returnType = (some .int)) (hlk : meth.locks = false) : ∀ (a1 : Int32) (st : xSt) (H : Heap) (locs : List Loc) (ls : Array Slot), fX9_make_b88 N a1 st = some (r, st') → HW D VM la (EMf cyI la) st H → va_S (xA VM la) s.heap H locs → lv_has ls 3 [(0, .ref (la 9 0)), (1, .int a1)] → W p l e rm_X9_make s m args below meth c H locs 0 0 (MQ below (xQc D VM la (EMf cyI la) (some (.int r)) st') args s 0 0 (xA VM la)) (F0 m 88 ls []) := by
  have hx := X.1.1
  have hb := X.1.2.1
  intro a1 st H locs ls hf hP hS hl
  unfold fX9_make_b88 at hf
  refine lv_aload_n hx hb dX9_make_88 rfl (lv_at hl 0 rfl) ?_
  refine gM_keptAddress X hP fl_X9_22 dX9_make_89 ?_
  refine lv_aload_n hx hb dX9_make_92 rfl (lv_at hl 0 rfl) ?_
  refine gM_kept X hP fl_X9_80 dX9_make_93 ?_
  refine lv_iload_n hx hb dX9_make_96 rfl (lv_at hl 1 rfl) ?_
  obtain ⟨hn22, hf⟩ := ck_of hf
  refine w_iast X hP hS (c0 := 30) (i0 := 7) (show 0 < lenM 7 by decide) (n := 21) (fun _ => rfl) hn22 dX9_make_97 (fun H locs hP hS => ?_)
  obtain ⟨st23, hP, hf⟩ := nm_gen (P := fun z => HW D VM la (EMf cyI la) z H) hP hf
  refine lv_aload_n hx hb dX9_make_98 rfl (lv_at hl 0 rfl) ?_
  refine gM_keptEnd X hP fl_X9_25 dX9_make_99 ?_
  refine lv_aload_n hx hb dX9_make_102 rfl (lv_at hl 0 rfl) ?_
  refine gM_kept X hP fl_X9_80 dX9_make_103 ?_
  refine lv_iload_n hx hb dX9_make_106 rfl (lv_at hl 1 rfl) ?_
  refine lv_aload_n hx hb dX9_make_107 rfl (lv_at hl 0 rfl) ?_
  refine gM_offsets X hP fl_X9_38 dX9_make_108 ?_
  refine lv_aload_n hx hb dX9_make_111 rfl (lv_at hl 0 rfl) ?_
  refine gM_many X hP fl_X9_133 dX9_make_112 ?_
  refine lv_iconst (v := 1) hx hb dX9_make_115 (by decide) ?_
  refine lv_isub hx hb dX9_make_116 ?_
  obtain ⟨hn24, hf⟩ := ck_of hf
  refine w_iald X hP (c0 := 30) (i0 := 25) (show 0 < lenM 25 by decide) (n := 61) rfl hn24 dX9_make_117 ?_
  refine lv_iadd hx hb dX9_make_118 ?_
  obtain ⟨hn25, hf⟩ := ck_of hf
  refine w_iast X hP hS (c0 := 30) (i0 := 8) (show 0 < lenM 8 by decide) (n := 21) (fun _ => rfl) hn25 dX9_make_119 (fun H locs hP hS => ?_)
  obtain ⟨st26, hP, hf⟩ := nm_gen (P := fun z => HW D VM la (EMf cyI la) z H) hP hf
  refine lv_aload_n hx hb dX9_make_120 rfl (lv_at hl 0 rfl) ?_
  refine gM_keptNumber X hP fl_X9_28 dX9_make_121 ?_
  refine lv_aload_n hx hb dX9_make_124 rfl (lv_at hl 0 rfl) ?_
  refine gM_kept X hP fl_X9_80 dX9_make_125 ?_
  refine lv_aload_n hx hb dX9_make_128 rfl (lv_at hl 0 rfl) ?_
  refine gM_made X hP fl_X9_149 dX9_make_129 ?_
  obtain ⟨hn27, hf⟩ := ck_of hf
  refine w_iast X hP hS (c0 := 30) (i0 := 9) (show 0 < lenM 9 by decide) (n := 21) (fun _ => rfl) hn27 dX9_make_132 (fun H locs hP hS => ?_)
  obtain ⟨st28, hP, hf⟩ := nm_gen (P := fun z => HW D VM la (EMf cyI la) z H) hP hf
  refine lv_aload_n hx hb dX9_make_133 rfl (lv_at hl 0 rfl) ?_
  refine lv_dup hx hb dX9_make_134 rfl ?_
  refine gM_kept X hP fl_X9_80 dX9_make_135 ?_
  refine lv_iconst (v := 1) hx hb dX9_make_138 (by decide) ?_
  refine lv_iadd hx hb dX9_make_139 ?_
  refine pM_kept X hP hS fl_X9_80 dX9_make_140 (fun H locs hP hS => ?_)
  obtain ⟨st29, hP, hf⟩ := nm_gen (P := fun z => HW D VM la (EMf cyI la) z H) hP hf
  refine lv_aload_n hx hb dX9_make_143 rfl (lv_at hl 0 rfl) ?_
  refine lv_dup hx hb dX9_make_144 rfl ?_
  refine gM_made X hP fl_X9_149 dX9_make_145 ?_
  refine lv_iconst (v := 1) hx hb dX9_make_148 (by decide) ?_
  refine lv_iadd hx hb dX9_make_149 ?_
  refine pM_made X hP hS fl_X9_149 dX9_make_150 (fun H locs hP hS => ?_)
  obtain ⟨st30, hP, hf⟩ := nm_gen (P := fun z => HW D VM la (EMf cyI la) z H) hP hf
  refine lv_aload_n hx hb dX9_make_153 rfl (lv_at hl 0 rfl) ?_
  refine gM_many X hP fl_X9_133 dX9_make_154 ?_
  obtain ⟨rfl, rfl⟩ := sp_2 hf
  exact w_iret X hr hlk hP hS dX9_make_157
def fX9_make (N : Nat) (a1 : Int32) (st : xSt) : Option (Int32 × xSt) := nm (pI st 9 0 0 (0 : Int32)) (fun st1 => nm (pI st1 9 0 10 (-1 : Int32)) (fun st2 => bd (fX9_isAddress N a1 st2) (fun v5 st3 => if v5 = (0 : Int32) then some ((-2 : Int32), st3) else if a1 < 0 ∨ 1024 ≤ (a1).toNatClampNeg then none else if (st3.1 30 1 (a1).toNatClampNeg) ≤ (8 : Int32) then bd (fX9_failsAt N a1 st3) (fun v11 st9 => if v11 = (-1 : Int32) then bd (fX9_keptOf N a1 st9) (fun v15 st13 => if v15 = (-1 : Int32) then if (st13.1 9 0 5) = (0 : Int32) then some ((-3 : Int32), st13) else if (st13.1 9 0 6) = (st13.1 9 0 5) then Option.bind (fX9_away N (0 : Int32) st13) (fun st19 => fX9_make_b88 N a1 st19) else fX9_make_b88 N a1 st13 else some ((-4 : Int32), st13)) else nm (pI st9 9 0 10 v11) (fun st21 => some ((-2 : Int32), st21))) else some ((-2 : Int32), st3))))
set_option maxHeartbeats 4000000 in
set_option maxRecDepth 100000 in
theorem TX9_make (l : Launch) {D : va_G} {la : Nat → Nat → Nat} {cyI cyF cyM : ClassId} {t0 N : Nat} {a1 : Int32} {st : xSt} {r : Int32} {st' : xSt} (hf : fX9_make N a1 st = some (r, st')) : MetM D cyI cyF cyM la t0 l yX9_make (Cond.code yX9_make cX9_make 3 (some .int) :: xALL) rm_X9_make [.ref (la 9 0), .int a1] (some (.int r)) st st' := by
  refine MetW.intro (own := RX9) (by decide) (Nat.le_of_ble_eq_true rfl) rfl ?_
  intro p e s m below meth c X hr hlk hP ls hl
  have hx := X.1.1
  have hb := X.1.2.1
  have hS : va_S (xA VM la) s.heap s.heap [] := va_S.rf
  unfold fX9_make at hf
  replace hl : lv_has ls 3 [(0, .ref (la 9 0)), (1, .int a1)] := hl
  refine lv_aload_n hx hb dX9_make_0 rfl (lv_at hl 0 rfl) ?_
  refine lv_iconst (v := 0) hx hb dX9_make_1 (by decide) ?_
  refine pM_thrown X hP hS fl_X9_77 dX9_make_2 (fun H locs hP hS => ?_)
  obtain ⟨st1, hP, hf⟩ := nm_gen (P := fun z => HW D VM la (EMf cyI la) z H) hP hf
  refine lv_aload_n hx hb dX9_make_5 rfl (lv_at hl 0 rfl) ?_
  refine lv_iconst (v := -1) hx hb dX9_make_6 (by decide) ?_
  refine pM_placeTold X hP hS fl_X9_31 dX9_make_7 (fun H locs hP hS => ?_)
  obtain ⟨st2, hP, hf⟩ := nm_gen (P := fun z => HW D VM la (EMf cyI la) z H) hP hf
  refine lv_iload_n hx hb dX9_make_10 rfl (lv_at hl 1 rfl) ?_
  obtain ⟨v5, st3, hr4, hf⟩ := bd_2 hf
  refine w_S1 X (TX9_isAddress l hr4) hP hS rfl KX9_isAddress ml_X9_140 ⟨rfl, rfl⟩ ⟨by decide, by decide⟩ rfl hl.1 (Nat.le_of_ble_eq_true rfl) dX9_make_11 (fun H locs hP hS => ?_)
  refine lv_if_eq (tgt := 28) hx hb dX9_make_14 (by decide) (fun c6 => ?_) (fun c6 => ?_)
  · replace hf := (if_pos c6).symm.trans hf
    refine lv_bipush (v := -2) hx hb dX9_make_28 (by decide) ?_
    obtain ⟨rfl, rfl⟩ := sp_2 hf
    exact w_iret X hr hlk hP hS dX9_make_30
  · replace hf := (if_neg c6).symm.trans hf
    refine lv_aload_n hx hb dX9_make_17 rfl (lv_at hl 0 rfl) ?_
    refine gM_memory X hP fl_X9_7 dX9_make_18 ?_
    refine lv_iload_n hx hb dX9_make_21 rfl (lv_at hl 1 rfl) ?_
    obtain ⟨hn7, hf⟩ := ck_of hf
    refine w_iald X hP (c0 := 30) (i0 := 1) (show 0 < lenM 1 by decide) (n := 1024) rfl hn7 dX9_make_22 ?_
    refine lv_bipush (v := 8) hx hb dX9_make_23 (by decide) ?_
    refine lv_icmp_le (tgt := 31) hx hb dX9_make_25 (by decide) (fun c8 => ?_) (fun c8 => ?_)
    · replace hf := (if_pos c8).symm.trans hf
      refine lv_aload_n hx hb dX9_make_31 rfl (lv_at hl 0 rfl) ?_
      refine lv_iload_n hx hb dX9_make_32 rfl (lv_at hl 1 rfl) ?_
      obtain ⟨v11, st9, hr10, hf⟩ := bd_2 hf
      refine w_V1 X (TX9_failsAt l hr10) hP hS rfl KX9_failsAt ml_X9_143 ⟨rfl, rfl⟩ ⟨by decide, by decide⟩ (x_recv (E := fun c i => (EMf cyI la) (st3.1 c i) st3.2 c i) (c0 := 9) (i0 := 0) X.2.2.1 hP rfl (ci := 9) rfl rfl) rfl hl.1 (Nat.le_of_ble_eq_true rfl) dX9_make_33 (fun H locs hP hS => ?_)
      refine lv_istore_n (lv' := [(2, .int v11), (0, .ref (la 9 0)), (1, .int a1)]) hx hb dX9_make_36 rfl hl (by decide) rfl (fun ls hl => ?_)
      refine lv_iload_n hx hb dX9_make_37 rfl (lv_at hl 0 rfl) ?_
      refine lv_iconst (v := -1) hx hb dX9_make_38 (by decide) ?_
      refine lv_icmp_eq (tgt := 50) hx hb dX9_make_39 (by decide) (fun c12 => ?_) (fun c12 => ?_)
      · replace hf := (if_pos c12).symm.trans hf
        refine lv_aload_n hx hb dX9_make_50 rfl (lv_at hl 1 rfl) ?_
        refine lv_iload_n hx hb dX9_make_51 rfl (lv_at hl 2 rfl) ?_
        obtain ⟨v15, st13, hr14, hf⟩ := bd_2 hf
        refine w_V1 X (TX9_keptOf l hr14) hP hS rfl KX9_keptOf ml_X9_146 ⟨rfl, rfl⟩ ⟨by decide, by decide⟩ (x_recv (E := fun c i => (EMf cyI la) (st9.1 c i) st9.2 c i) (c0 := 9) (i0 := 0) X.2.2.1 hP rfl (ci := 9) rfl rfl) rfl hl.1 (Nat.le_of_ble_eq_true rfl) dX9_make_52 (fun H locs hP hS => ?_)
        refine lv_iconst (v := -1) hx hb dX9_make_55 (by decide) ?_
        refine lv_icmp_eq (tgt := 62) hx hb dX9_make_56 (by decide) (fun c16 => ?_) (fun c16 => ?_)
        · replace hf := (if_pos c16).symm.trans hf
          refine lv_aload_n hx hb dX9_make_62 rfl (lv_at hl 1 rfl) ?_
          refine gM_most X hP fl_X9_74 dX9_make_63 ?_
          refine lv_if_ne (tgt := 72) hx hb dX9_make_66 (by decide) (fun c17 => ?_) (fun c17 => ?_)
          · replace hf := (if_neg c17).symm.trans hf
            refine lv_aload_n hx hb dX9_make_72 rfl (lv_at hl 1 rfl) ?_
            refine gM_kept X hP fl_X9_80 dX9_make_73 ?_
            refine lv_aload_n hx hb dX9_make_76 rfl (lv_at hl 1 rfl) ?_
            refine gM_most X hP fl_X9_74 dX9_make_77 ?_
            refine lv_icmp_ne (tgt := 88) hx hb dX9_make_80 (by decide) (fun c18 => ?_) (fun c18 => ?_)
            · replace hf := (if_neg c18).symm.trans hf
              exact BX9_make_88 X hr hlk _ _ _ _ _  hf hP hS (lv_sub hl [1, 2] rfl)
            · replace hf := (if_pos c18).symm.trans hf
              refine lv_aload_n hx hb dX9_make_83 rfl (lv_at hl 1 rfl) ?_
              refine lv_iconst (v := 0) hx hb dX9_make_84 (by decide) ?_
              obtain ⟨st19, hr20, hf⟩ := bd_of hf
              refine w_V0 X (TX9_away l hr20) hP hS rfl KX9_away ml_X9_86 ⟨rfl, rfl⟩ ⟨by decide, by decide⟩ (x_recv (E := fun c i => (EMf cyI la) (st13.1 c i) st13.2 c i) (c0 := 9) (i0 := 0) X.2.2.1 hP rfl (ci := 9) rfl rfl) rfl hl.1 (Nat.le_of_ble_eq_true rfl) dX9_make_85 (fun H locs hP hS => ?_)
              exact BX9_make_88 X hr hlk _ _ _ _ _  hf hP hS (lv_sub hl [1, 2] rfl)
          · replace hf := (if_pos c17).symm.trans hf
            refine lv_bipush (v := -3) hx hb dX9_make_69 (by decide) ?_
            obtain ⟨rfl, rfl⟩ := sp_2 hf
            exact w_iret X hr hlk hP hS dX9_make_71
        · replace hf := (if_neg c16).symm.trans hf
          refine lv_bipush (v := -4) hx hb dX9_make_59 (by decide) ?_
          obtain ⟨rfl, rfl⟩ := sp_2 hf
          exact w_iret X hr hlk hP hS dX9_make_61
      · replace hf := (if_neg c12).symm.trans hf
        refine lv_aload_n hx hb dX9_make_42 rfl (lv_at hl 1 rfl) ?_
        refine lv_iload_n hx hb dX9_make_43 rfl (lv_at hl 0 rfl) ?_
        refine pM_placeTold X hP hS fl_X9_31 dX9_make_44 (fun H locs hP hS => ?_)
        obtain ⟨st21, hP, hf⟩ := nm_gen (P := fun z => HW D VM la (EMf cyI la) z H) hP hf
        refine lv_bipush (v := -2) hx hb dX9_make_47 (by decide) ?_
        obtain ⟨rfl, rfl⟩ := sp_2 hf
        exact w_iret X hr hlk hP hS dX9_make_49
    · replace hf := (if_neg c8).symm.trans hf
      refine lv_bipush (v := -2) hx hb dX9_make_28 (by decide) ?_
      obtain ⟨rfl, rfl⟩ := sp_2 hf
      exact w_iret X hr hlk hP hS dX9_make_30
theorem KX9_make : xKv yX9_make cX9_make 3 (some .int) RX9 1 := ⟨cd_X9_make, im_X9_make, se_X9_make, in_X9, by decide +kernel⟩
